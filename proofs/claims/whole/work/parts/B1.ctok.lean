/-! the text as the class reads it -/
def CTp (X : MI) (tb : Nat → Nat) (n : Nat) : Prop := X 1 1 = nI n ∧ n ≤ 1600 ∧ (∀ j, j < n → tb j < 256 ∧ X 2 j &&& 255 = nI (tb j)) ∧ gByte X ∧ X 19 1 = 0 ∧ X 19 2 = -1
/-- what stands next -/
def TK (X : MI) (tb : Nat → Nat) (n e : Nat) (b : Bool) : Prop := X 19 6 = nI (kd tb n e b) ∧ X 19 7 = nI (sk tb n e) ∧ X 19 8 = nI (tke tb n e) ∧ (kd tb n e b = 256 → X 19 9 = w_no (lets tb n e))
theorem CTp_c {X I : MI} {tb : Nat → Nat} {n : Nat} (h : CTp I tb n) (e1 : X 1 1 = I 1 1) (e2 : X 2 = I 2) (e3 : X 19 1 = I 19 1) (e4 : X 19 2 = I 19 2) : CTp X tb n := by
  unfold CTp gByte
  rw [e1, e2, e3, e4]; exact h
theorem run_loop {b : MI → Option (MI ⊕ MI)} {P : Nat → Bool} {tb : Nat → Nat} {n k j : Nat} {X : MI} (hs : ∀ pos, pos ≤ n → b (m_up X k j (nI pos)) = if pos < n ∧ P (tb pos) = true then some (.inl (m_up X k j (nI (pos + 1)))) else some (.inr (m_up X k j (nI pos)))) : ∀ d e, n - e = d → e ≤ n → wl b (m_up X k j (nI e)) = some (m_up X k j (nI (t_e P tb n e))) := by
  intro d
  induction d with
  | zero =>
    intro e h he
    have s := hs e he
    rw [if_neg (by omega)] at s
    rw [wl_in s, te_n (by omega)]
  | succ d ih =>
    intro e h he
    have s := hs e he
    cases hp : P (tb e) with
    | true =>
      rw [if_pos ⟨by omega, hp⟩] at s
      rw [wl_st s, ih (e + 1) (by omega) (by omega), te_s (by omega) hp]
    | false =>
      rw [if_neg (fun z => by rw [hp] at z; cases z.2)] at s
      rw [wl_in s, te_0 hp]
section LB1
variable {I X Y : MI} {sd n : Nat} {tb : Nat → Nat}
theorem byte_k (h : CTp X tb n) {j : Nat} (hj : j < 2 ^ 31) : F_Tape_byteAt X (nI j) = some (if j < n then nI (tb j) else -1) := by
  obtain ⟨h1, h2, h3, -⟩ := h
  unfold F_Tape_byteAt
  rw [if_neg (nI_pos hj), h1]
  by_cases q : j < n
  · rw [if_neg (nI_ge q (by omega)), gd_n (by omega) (by decide), nI_clamp (by omega), (h3 j q).2, if_pos q]
  · rw [if_pos (nI_le (by omega) (by omega)), if_neg q]
theorem n_eq {c d : Nat} (hc : c < 2 ^ 31) (hd : d < 2 ^ 31) {x : Int32} (hx : x = nI d) : nI c = x ↔ c = d := by rw [hx]; exact nI_inj hc hd
theorem blank_c {c : Nat} (hc : c < 256) : F_Reader_isBlank sd (nI c) = some (bI (cB c)) := by
  unfold F_Reader_isBlank cB
  by_cases q : c = 10
  · rw [if_pos ((n_eq (by omega) (by decide) (show (10 : Int32) = nI 10 from rfl)).mpr q)]; simp [q, bI]
  · rw [if_neg (fun z => q ((n_eq (by omega) (by decide) (show (10 : Int32) = nI 10 from rfl)).mp z))]
    by_cases q2 : c = 32
    · rw [if_pos ((n_eq (by omega) (by decide) (show (32 : Int32) = nI 32 from rfl)).mpr q2)]; simp [q2, bI]
    · rw [if_neg (fun z => q2 ((n_eq (by omega) (by decide) (show (32 : Int32) = nI 32 from rfl)).mp z))]; simp [q, q2, bI]
theorem rng_c {c a b : Nat} (hc : c < 256) (ha : a < 256) (hb : b < 256) : (if nI c < nI a then some (0 : Int32) else if nI b < nI c then some 0 else some 1) = some (bI (decide (a ≤ c) && decide (c ≤ b))) := by
  by_cases q : a ≤ c
  · rw [if_neg (nI_nlt q (by omega))]
    by_cases q2 : c ≤ b
    · rw [if_neg (nI_nlt q2 (by omega))]; simp [q, q2, bI]
    · rw [if_pos (nI_lt (by omega) (by omega))]; simp [q2, bI]
  · rw [if_pos (nI_lt (by omega) (by omega))]; simp [q, bI]
theorem letter_c {c : Nat} (hc : c < 256) : F_Reader_isLetter sd (nI c) = some (bI (cL c)) := rng_c (a := 97) (b := 122) hc (by decide) (by decide)
theorem digit_c {c : Nat} (hc : c < 256) : F_Reader_isDigit sd (nI c) = some (bI (cD c)) := rng_c (a := 48) (b := 57) hc (by decide) (by decide)
theorem letter_m {c : Nat} (hc : c < 256) : F_MD_isLetter (nI c) = some (bI (cL c)) := rng_c (a := 97) (b := 122) hc (by decide) (by decide)
theorem digit_m {c : Nat} (hc : c < 256) : F_MD_isDigit (nI c) = some (bI (cD c)) := rng_c (a := 48) (b := 57) hc (by decide) (by decide)
/-- a byte of the tape against a letter -/
theorem by_hi (x : Int32) {i : Nat} (h : 8 ≤ i) (h2 : i < 32) : bt x.toInt8.toInt32 i = bt x 7 := by
  unfold bt
  show ((x.toBitVec.signExtend 8).signExtend 32).getLsbD i = _
  rw [BitVec.getLsbD_signExtend]
  simp [h2, show ¬ i < 8 by omega, BitVec.msb_eq_getLsbD_last, BitVec.getLsbD_signExtend, BitVec.getElem_signExtend]
theorem bt_nI (c i : Nat) (h : c < 2 ^ 31) (hi : i < 32) : bt (nI c) i = c.testBit i := by
  unfold bt nI
  show (BitVec.ofNat 32 c).getLsbD i = _
  rw [BitVec.getLsbD_ofNat]
  simp [hi]
theorem byte_eq (h : CTp X tb n) {j c : Nat} (hj : j < n) (hc : c < 128) : X 2 j = nI c ↔ tb j = c := by
  obtain ⟨h1, h2, h3, h4⟩ := h
  obtain ⟨g1, g2⟩ := h3 j hj
  constructor
  · intro e
    rw [e, n255 (by omega)] at g2
    exact ((nI_inj (by omega) (by omega)).mp g2).symm
  · intro e
    rw [e] at g2
    have lo : ∀ i, i < 8 → bt (X 2 j) i = bt (nI c) i := fun i hi => by
      have := congrArg (fun z => bt z i) g2
      have this : bt (X 2 j &&& 255) i = bt (nI c) i := this
      rw [b_and, b_255, decide_eq_true hi, Bool.and_true] at this
      exact this
    refine b_ext fun i hi => ?_
    by_cases q : i < 8
    · exact lo i q
    · rw [← h4.1 j, by_hi _ (by omega) hi, lo 7 (by omega), bt_nI c 7 (by omega) (by omega), bt_nI c i (by omega) hi]
      rw [Nat.testBit_lt_two_pow (show c < 2 ^ 7 by omega), Nat.testBit_lt_two_pow (Nat.lt_of_lt_of_le (show c < 2 ^ 7 by omega) (Nat.pow_le_pow_right (by decide) (by omega)))]
/-- a word of the list against the text -/
def w_at (tb : Nat → Nat) (st en : Nat) (w : List Nat) (k : Nat) : Int32 := if st + k ≤ en ∧ ∀ i, i < k → tb (st + i) = w.getD i 0 then nI (st + k) else -1
theorem word_1 (h : CTp X tb n) {st en : Nat} (h7 : X 19 7 = nI st) (h8 : X 19 8 = nI en) (hen : en ≤ n) (hse : st ≤ en) {w : List Nat} (hw : ∀ c, c ∈ w → 97 ≤ c ∧ c < 128) {o : Nat} (ho : o + w.length < 147) (hc : ∀ i, i < w.length → wch (nI (o + i)) = nI (w.getD i 0)) (hs : wch (nI (o + w.length)) = 32) {i : Nat} (hi : i < 1000) :
    wl (fun s : Int32 × Int32 × Int32 => F_Reader_wordNumber_9 sd X s.1 s.2.1 s.2.2) (nI i, nI st, nI o) = if w = o_bs (fun i => tb (st + i)) (en - st) then some (.inr (nI i)) else wl (fun s : Int32 × Int32 × Int32 => F_Reader_wordNumber_9 sd X s.1 s.2.1 s.2.2) (nI (i + 1), nI st, nI (o + w.length + 1)) := by
  have n16 := h.2.1
  have up : wl (fun s : Int32 × Int32 × Int32 => F_Reader_wordNumber_9 sd X s.1 s.2.1 s.2.2) (nI i, nI st, nI o) = wl (fun s : Int32 × Int32 × Int32 => F_Reader_wordNumber_9 sd X s.1 s.2.1 s.2.2) (nI i, w_at tb st en w w.length, nI (o + w.length)) := by
    have := wl_up (b := fun s : Int32 × Int32 × Int32 => F_Reader_wordNumber_9 sd X s.1 s.2.1 s.2.2) w.length (fun k => (nI i, w_at tb st en w k, nI (o + k))) (fun k hk => ?_)
    · have e0 : w_at tb st en w 0 = nI st := by
        unfold w_at
        rw [if_pos ⟨by omega, fun i hi => by omega⟩]; rfl
      have this : wl (fun s : Int32 × Int32 × Int32 => F_Reader_wordNumber_9 sd X s.1 s.2.1 s.2.2) (nI i, w_at tb st en w 0, nI (o + 0)) = _ := this
      rw [e0] at this
      exact this
    · show F_Reader_wordNumber_9 sd X (nI i) (w_at tb st en w k) (nI (o + k)) = some (.inl (nI i, w_at tb st en w (k + 1), nI (o + (k + 1))))
      have wk := hw _ (getD_mem' hk)
      unfold F_Reader_wordNumber_9
      rw [if_neg (show ¬ (147 : Int32) ≤ nI (o + k) from nI_ge (b := 147) (by omega) (by decide)), gd_n (by omega) (by decide), hc k hk, if_neg (fun z => by have := (n_eq (by omega) (by decide) (show (32 : Int32) = nI 32 from rfl)).mp z; omega), nI_s, h8]
      have tail : ∀ u v : Int32, u = v → some (Sum.inl (nI i, u, nI (o + k + 1))) = (some (Sum.inl (nI i, v, nI (o + (k + 1)))) : Option ((Int32 × Int32 × Int32) ⊕ (Unit ⊕ Int32))) := fun u v e => by rw [e]; rfl
      by_cases q : st + k ≤ en ∧ ∀ i, i < k → tb (st + i) = w.getD i 0
      · have ek : w_at tb st en w k = nI (st + k) := by unfold w_at; rw [if_pos q]
        rw [ek, if_neg (nI_pos (by omega))]
        by_cases q2 : st + k < en
        · rw [if_neg (nI_ge q2 (by omega)), gd_n (by omega) (by decide), nI_clamp (by omega)]
          by_cases q3 : tb (st + k) = w.getD k 0
          · rw [if_pos ((byte_eq h (by omega) wk.2).mpr q3), nI_s]
            refine tail _ _ ?_
            have z : st + (k + 1) ≤ en ∧ ∀ i, i < k + 1 → tb (st + i) = w.getD i 0 := ⟨by omega, fun i hi => by
              by_cases z : i = k
              · subst z; exact q3
              · exact q.2 i (by omega)⟩
            unfold w_at
            rw [if_pos z]
            rfl
          · rw [if_neg (fun z => q3 ((byte_eq h (by omega) wk.2).mp z))]
            refine tail _ _ ?_
            unfold w_at
            rw [if_neg (fun z => q3 (z.2 k (by omega)))]
        · rw [if_pos (nI_le (by omega) (by omega))]
          refine tail _ _ ?_
          unfold w_at
          rw [if_neg (fun z => by omega)]
      · have ek : w_at tb st en w k = -1 := by unfold w_at; rw [if_neg q]
        rw [ek, if_pos (by decide)]
        refine tail _ _ ?_
        unfold w_at
        rw [if_neg (fun z => q ⟨by omega, fun i hi => z.2 i (by omega)⟩)]
  rw [up]
  have st9 : F_Reader_wordNumber_9 sd X (nI i) (w_at tb st en w w.length) (nI (o + w.length)) = if w_at tb st en w w.length = nI en then some (.inr (.inr (nI i))) else some (.inl (nI (i + 1), nI st, nI (o + w.length + 1))) := by
    unfold F_Reader_wordNumber_9
    rw [if_neg (show ¬ (147 : Int32) ≤ nI (o + w.length) from nI_ge (b := 147) (by omega) (by decide)), gd_n (by omega) (by decide), hs, if_pos rfl, h8, h7, nI_s, nI_s]
  have key : w_at tb st en w w.length = nI en ↔ w = o_bs (fun i => tb (st + i)) (en - st) := by
    constructor
    · intro e
      unfold w_at at e
      split at e
      · rename_i z
        have e2 : st + w.length = en := (nI_inj (by omega) (by omega)).mp e
        refine List.ext_getElem? fun k => ?_
        by_cases hk : k < w.length
        · have a := z.2 k hk
          rw [List.getD_eq_getElem?_getD, List.getElem?_eq_getElem hk] at a
          have a : tb (st + k) = w[k] := a
          unfold o_bs
          rw [List.getElem?_eq_getElem hk, List.getElem?_map, List.getElem?_range (by omega)]
          simp [a]
        · rw [List.getElem?_eq_none (by omega), List.getElem?_eq_none (by rw [bs_len]; omega)]
      · exfalso
        have := nI_pos' (n := en) (by omega)
        rw [← e] at this
        exact absurd this (by decide)
    · intro e
      have hl : w.length = en - st := by rw [e, bs_len]
      have z : st + w.length ≤ en ∧ ∀ i, i < w.length → tb (st + i) = w.getD i 0 := ⟨by omega, fun i hi => by
        rw [e, bs_get _ (by omega)]⟩
      unfold w_at
      rw [if_pos z, show st + w.length = en by omega]
  by_cases q : w = o_bs (fun i => tb (st + i)) (en - st)
  · rw [if_pos (key.mpr q)] at st9
    rw [if_pos q, wl_in st9]
  · rw [if_neg (fun z => q (key.mp z))] at st9
    rw [if_neg q]
    exact wl_st st9
theorem word_a (h : CTp X tb n) {st en : Nat} (h7 : X 19 7 = nI st) (h8 : X 19 8 = nI en) (hen : en ≤ n) (hse : st ≤ en) : ∀ (ws : List (List Nat)) (o i : Nat), (∀ w, w ∈ ws → ∀ c, c ∈ w → 97 ≤ c ∧ c < 128) → o + (w_fl ws).length = 147 → (∀ k, k < (w_fl ws).length → wch (nI (o + k)) = nI ((w_fl ws).getD k 0)) → i + ws.length < 1000 →
    (wl (fun s : Int32 × Int32 × Int32 => F_Reader_wordNumber_9 sd X s.1 s.2.1 s.2.2) (nI i, nI st, nI o)).bind (sel (fun q => some q) fun _ => some (-1)) = some (w_fi ws (o_bs (fun i => tb (st + i)) (en - st)) i) := by
  intro ws
  induction ws with
  | nil =>
    intro o i _ ho _ _
    have ho : o = 147 := by have : (w_fl []).length = 0 := rfl; omega
    subst ho
    have st9 : F_Reader_wordNumber_9 sd X (nI i) (nI st) (nI 147) = some (.inr (.inl ())) := by
      unfold F_Reader_wordNumber_9
      rw [if_pos (by decide)]
    have : wl (fun s : Int32 × Int32 × Int32 => F_Reader_wordNumber_9 sd X s.1 s.2.1 s.2.2) (nI i, nI st, nI 147) = some (.inl ()) := wl_in st9
    rw [this]; rfl
  | cons w ws ih =>
    intro o i hw ho hc hi
    have fl : w_fl (w :: ws) = w ++ 32 :: w_fl ws := rfl
    rw [fl] at ho hc
    rw [List.length_append, List.length_cons] at ho hc
    have gl : ∀ k, k < w.length → (w ++ 32 :: w_fl ws).getD k 0 = w.getD k 0 := fun k hk => by
      rw [List.getD_eq_getElem?_getD, List.getD_eq_getElem?_getD, List.getElem?_append_left hk]
    have gm : (w ++ 32 :: w_fl ws).getD w.length 0 = 32 := by
      rw [List.getD_eq_getElem?_getD, List.getElem?_append_right (Nat.le_refl _), Nat.sub_self]; rfl
    have gr : ∀ k, (w ++ 32 :: w_fl ws).getD (w.length + 1 + k) 0 = (w_fl ws).getD k 0 := fun k => by
      rw [List.getD_eq_getElem?_getD, List.getD_eq_getElem?_getD, List.getElem?_append_right (by omega), show w.length + 1 + k - w.length = k + 1 by omega]; rfl
    simp only [List.length_cons] at hi
    rw [word_1 h h7 h8 hen hse (hw w (List.mem_cons_self ..)) (o := o) (by omega) (fun k hk => by rw [hc k (by omega), gl k hk]) (by rw [hc w.length (by omega), gm]; rfl) (by omega)]
    simp only [w_fi]
    by_cases q : w = o_bs (fun i => tb (st + i)) (en - st)
    · rw [if_pos q, if_pos q]; rfl
    · rw [if_neg q, if_neg q]
      exact ih (o + w.length + 1) (i + 1) (fun w hw2 => hw w (List.mem_cons_of_mem _ hw2)) (by omega) (fun k hk => by
        have := hc (w.length + 1 + k) (by omega)
        rw [gr, show o + (w.length + 1 + k) = o + w.length + 1 + k by omega] at this
        exact this) (by omega)
theorem word_n (h : CTp X tb n) {st en : Nat} (h7 : X 19 7 = nI st) (h8 : X 19 8 = nI en) (hen : en ≤ n) (hse : st ≤ en) : F_Reader_wordNumber sd X = some (w_no (o_bs (fun i => tb (st + i)) (en - st))) := by
  unfold F_Reader_wordNumber
  rw [h7]
  have := word_a (sd := sd) h h7 h8 hen hse w_ds 0 0 (by decide +kernel) (by rw [Nat.zero_add]; exact w_fl_len) (fun k hk => by
    rw [w_fl_len] at hk
    rw [Nat.zero_add]; exact w_str k hk) (by decide +kernel)
  unfold w_no
  exact this
end LB1
