/-! what is kept, and how a stake walks: the reference -/
abbrev NT : Type := Int32 × Int32 × Int32
/-- the last forty -/
def k_add (kl : List NT) (x : NT) : List NT := if kl.length = 40 then kl.tail ++ [x] else kl ++ [x]
def KM (I : MI) (kl : List NT) : Prop := I 213 55 = nI kl.length ∧ kl.length ≤ 40 ∧ ∀ i, i < kl.length → (I 213 (56 + 3 * i), I 213 (57 + 3 * i), I 213 (58 + 3 * i)) = kl.getD i (0, 0, 0)
def k_shf (I : MI) : Nat → MI
  | 0 => I
  | n + 1 => m_up (k_shf I n) 213 (56 + n) (k_shf I n 213 (59 + n))
theorem k_shf_e (I : MI) : ∀ n, (∀ k, k ≠ 213 → k_shf I n k = I k) ∧ ∀ j, k_shf I n 213 j = if 56 ≤ j ∧ j < 56 + n then I 213 (j + 3) else I 213 j := by
  intro n
  induction n with
  | zero => exact ⟨fun _ _ => rfl, fun j => by rw [if_neg (by omega)]; rfl⟩
  | succ n ih =>
    refine ⟨fun k hk => by simp only [k_shf]; rw [up_k _ _ _ hk]; exact ih.1 k hk, fun j => ?_⟩
    simp only [k_shf]
    by_cases q : j = 56 + n
    · rw [q, up_e, if_pos (by omega), ih.2, if_neg (by omega), show 56 + n + 3 = 59 + n by omega]
    · rw [up_j _ _ _ q, ih.2]
      by_cases q2 : 56 ≤ j ∧ j < 56 + n
      · rw [if_pos q2, if_pos (by omega)]
      · rw [if_neg q2, if_neg (by omega)]
theorem k_len {kl : List NT} {x : NT} (h : kl.length ≤ 40) : (k_add kl x).length ≤ 40 := by
  unfold k_add
  split
  · simp only [List.length_append, List.length_tail, List.length_cons, List.length_nil]; omega
  · simp only [List.length_append, List.length_cons, List.length_nil]; omega
theorem ad_k (n : Nat) (h : 1 ≤ n) : ((56 : Int32) + ((3 : Int32) * nI n)) - (3 : Int32) = nI (53 + 3 * n) := by
  have e : (56 : Int32) + ((3 : Int32) * nI n) = nI (56 + 3 * n) := by
    simp only [nI, ← Int32.ofNat_mul, ← Int32.ofNat_add, show (56 : Int32) = Int32.ofNat 56 from rfl, show (3 : Int32) = Int32.ofNat 3 from rfl]
  rw [e]
  have := nI_subN (a := 56 + 3 * n) (b := 3) (by omega)
  rw [show 53 + 3 * n = 56 + 3 * n - 3 by omega]
  exact this
theorem getD_app {α : Type} (l : List α) (x d : α) (i : Nat) : (l ++ [x]).getD i d = if i < l.length then l.getD i d else if i = l.length then x else d := by
  rw [List.getD_eq_getElem?_getD, List.getD_eq_getElem?_getD]
  by_cases h : i < l.length
  · rw [if_pos h, List.getElem?_append_left h]
  · rw [if_neg h, List.getElem?_append_right (by omega)]
    by_cases q : i = l.length
    · rw [if_pos q, q]; simp
    · rw [if_neg q]
      have : i - l.length ≠ 0 := by omega
      simp [List.getElem?_cons, this]
theorem getD_tl {α : Type} (l : List α) (d : α) (i : Nat) : l.tail.getD i d = l.getD (i + 1) d := by
  cases l with
  | nil => rfl
  | cons a l => rfl
/-- the last note's place is n - 1 -/
theorem kept_64 {I : MI} {kl : List NT} {n : Nat} (hn : I 213 55 = nI (n + 1)) (h40 : n < 40) (hl : kl.length = n) (hk : ∀ i, i < n → (I 213 (56 + 3 * i), I 213 (57 + 3 * i), I 213 (58 + 3 * i)) = kl.getD i (0, 0, 0)) (f c : Int32) :
    ok (F_MD_isKept_64 I f c) (fun X => KM X (kl ++ [(I 213 0, f, c)]) ∧ (∀ j, j < 55 → X 213 j = I 213 j) ∧ ∀ k, k ≠ 213 → X k = I k) := by
  unfold F_MD_isKept_64
  rw [hn, ad_k _ (by omega)]
  have a1 : nI (53 + 3 * (n + 1)) + 1 = nI (53 + 3 * (n + 1) + 1) := nI_s _
  have a2 : nI (53 + 3 * (n + 1)) + 2 = nI (53 + 3 * (n + 1) + 2) := nI_add _ 2
  rw [a1, a2, gd_n (by omega) (by decide), gd_n (by omega) (by decide), gd_n (by omega) (by decide), nI_clamp (by omega), nI_clamp (by omega), nI_clamp (by omega)]
  refine ok_bnd (ok_s ⟨⟨?_, ?_, ?_⟩, ?_, ?_⟩)
  · rw [up_j _ _ _ (by omega), up_j _ _ _ (by omega), up_j _ _ _ (by omega), hn]
    simp [hl]
  · simp [hl]; omega
  · intro i hi
    simp only [List.length_append, List.length_cons, List.length_nil] at hi
    rw [getD_app]
    by_cases q : i < kl.length
    · rw [if_pos q, ← hk i (by omega)]
      simp only [m_up, if_true]
      rw [if_neg (by omega), if_neg (by omega), if_neg (by omega), if_neg (by omega), if_neg (by omega), if_neg (by omega), if_neg (by omega), if_neg (by omega), if_neg (by omega)]
    · have e : i = n := by omega
      rw [if_neg q, if_pos (by omega), e]
      simp only [m_up, if_true]
      rw [if_neg (by omega), if_neg (by omega), if_pos (by omega), if_neg (by omega), if_pos (by omega), if_pos (by omega)]
  · intro j hj
    rw [up_j _ _ _ (by omega), up_j _ _ _ (by omega), up_j _ _ _ (by omega)]
  · intro k hk
    rw [up_k _ _ _ hk, up_k _ _ _ hk, up_k _ _ _ hk]
theorem kept_n {I : MI} {kl : List NT} (h : KM I kl) (ht : I 177 55 = 0) (f c : Int32) : ok (F_MD_isKept I f c) (fun X => KM X (k_add kl (I 213 0, f, c)) ∧ (∀ j, j < 55 → X 213 j = I 213 j) ∧ ∀ k, k ≠ 213 → X k = I k) := by
  obtain ⟨h1, h2, h3⟩ := h
  unfold F_MD_isKept
  refine ok_t ht ?_
  by_cases q : kl.length = 40
  · refine ok_t (by rw [h1, q]; rfl) ?_
    have e : wl (fun s : Int32 × MI => F_MD_isKept_23 s.2 f c s.1) ((56 : Int32), I) = some (k_shf I 117) := by
      refine wl_f 117 (fun n => (nI (56 + n), k_shf I n)) rfl ?_ ?_
      · intro n hn
        simp only [F_MD_isKept_23]
        have a3 : nI (56 + n) + 3 = nI (59 + n) := by
          have := nI_add (56 + n) 3
          rw [show 59 + n = 56 + n + 3 by omega]
          exact this
        rw [if_neg (show ¬ (173 : Int32) ≤ nI (56 + n) from nI_ge (b := 173) (by omega) (by decide)), a3, gd_n (by omega) (by decide), gd_n (by omega) (by decide), nI_clamp (by omega), nI_clamp (by omega), nI_s]
        rfl
      · simp only [F_MD_isKept_23]
        rw [if_pos (show (173 : Int32) ≤ nI (56 + 117) by decide)]
    refine ok_be e ?_
    have hs := k_shf_e I 117
    have h55 : k_shf I 117 213 55 = nI (39 + 1) := by rw [hs.2, if_neg (by omega), h1, q]
    have r0 : k_shf I 117 213 0 = I 213 0 := by rw [hs.2, if_neg (by omega)]
    refine ok_m (kept_64 (kl := kl.tail) h55 (by decide) (by rw [List.length_tail, q]) ?_ f c) ?_
    · intro i hi
      rw [getD_tl, ← h3 (i + 1) (by omega)]
      simp only [hs.2]
      rw [if_pos (by omega), if_pos (by omega), if_pos (by omega)]
      rw [show 56 + 3 * (i + 1) = 56 + 3 * i + 3 by omega, show 57 + 3 * (i + 1) = 57 + 3 * i + 3 by omega, show 58 + 3 * (i + 1) = 58 + 3 * i + 3 by omega]
    · rintro X ⟨g1, g2, g3⟩
      refine ⟨?_, fun j hj => ?_, fun k hk => (g3 k hk).trans (hs.1 k hk)⟩
      · unfold k_add
        rw [if_pos q, ← r0]; exact g1
      · rw [g2 j hj, hs.2, if_neg (by omega)]
  · refine ok_f (fun z => q ?_) ?_
    · rw [h1] at z
      exact (nI_eq (b := 40) (by omega) (by decide)).mp z
    · have h55 : m_up I 213 55 ((I 213 55) + (1 : Int32)) 213 55 = nI (kl.length + 1) := by rw [up_e, h1, nI_s]
      refine ok_m (kept_64 (kl := kl) h55 (by omega) rfl ?_ f c) ?_
      · intro i hi
        rw [← h3 i hi, up_j _ _ _ (by omega), up_j _ _ _ (by omega), up_j _ _ _ (by omega)]
      · rintro X ⟨g1, g2, g3⟩
        rw [up_j _ _ _ (by omega)] at g1
        refine ⟨?_, fun j hj => ?_, fun k hk => ?_⟩
        · unfold k_add
          rw [if_neg q]; exact g1
        · rw [g2 j hj, up_j _ _ _ (by omega)]
        · rw [g3 k hk, up_k _ _ _ hk]
theorem kept_t {I : MI} (ht : ¬ I 177 55 = 0) (f c : Int32) : F_MD_isKept I f c = some I := by
  unfold F_MD_isKept
  rw [if_neg ht]
/-- with or without a thought -/
def kl_add (th : Bool) (kl : List NT) (x : NT) : List NT := if th then kl else k_add kl x
theorem kept_e {I : MI} {kl : List NT} {th : Bool} (h : KM I kl) (ht : I 177 55 = bI th) (f c : Int32) : ok (F_MD_isKept I f c) (fun X => KM X (kl_add th kl (I 213 0, f, c)) ∧ (∀ j, j < 55 → X 213 j = I 213 j) ∧ ∀ k, k ≠ 213 → X k = I k) := by
  cases th with
  | true => exact ok_e (kept_t (by rw [ht]; decide) f c) ⟨h, fun _ _ => rfl, fun _ _ => rfl⟩
  | false => exact kept_n h ht f c
def n_o (o : Option Nat) : Int32 := match o with
  | none => 1
  | some _ => 0
def kl_o (th : Bool) (kl : List NT) (x : NT) (o : Option Nat) : List NT := match o with
  | none => kl_add th kl x
  | some _ => kl
/-- what has become of all when a stake came to o -/
def WKq (I : MI) (kl : List NT) (th : Bool) (f c : Nat) (o : Option Nat) (X : MI) : Prop := X 213 (9 + 8 * f + c) = oI o ∧ (∀ j, j < 55 → j ≠ 9 + 8 * f + c → X 213 j = I 213 j) ∧ (∀ k, k ≠ 213 → k ≠ 177 → X k = I k) ∧ (∀ j, j ≠ 56 → X 177 j = I 177 j) ∧ X 177 56 = I 177 56 + n_o o ∧ KM X (kl_o th kl (I 213 0, nI f, nI c) o)
/-- a stake walks -/
theorem walks_e {I : MI} {kl : List NT} {th : Bool} {p R r n f c : Nat} (hf : f < 6) (hc : c < 6) (hp : p < 2 ^ 30) (hR : R ≤ 30) (hr : r < R) (hn : n ≤ 9) (hk : KM I kl) (ht : I 177 55 = bI th) (h3 : I 204 3 = nI R) (hP : I 213 (1 + c) = nI p) (hrow : I 213 (9 + 8 * f + c) = nI r) :
    ok (F_MD_stakeWalks I (nI f) (nI c) (nI n)) (WKq I kl th f c (w_n p R n r)) := by
  unfold F_MD_stakeWalks
  have key : ∀ m r m0 (X : MI), m + m0 = n → r < R → (∀ k j, ¬ (k = 213 ∧ j = 9 + 8 * f + c) → X k j = I k j) → X 213 (9 + 8 * f + c) = nI r →
      ok (wl (fun s : Int32 × MI => F_MD_stakeWalks_3 s.2 (nI f) (nI c) (nI n) s.1) (nI m0, X)) (fun q => WKq I kl th f c (w_n p R m r) (Sum.elim id id q)) := by
    intro m
    induction m with
    | zero =>
      intro r m0 X h1 h2 h4 h5
      refine ok_e (x := Sum.inl X) (wl_in ?_) ?_
      · simp only [F_MD_stakeWalks_3]
        rw [if_pos (nI_le (by omega) (by omega))]
      · show WKq I kl th f c (some r) X
        refine ⟨h5, fun j _ hj => h4 213 j (fun z => hj z.2), fun k hk _ => funext fun j => h4 k j (fun z => hk z.1), fun j _ => h4 177 j (by omega), ?_, ?_⟩
        · show _ = _ + (0 : Int32)
          rw [Int32.add_zero]
          exact h4 177 56 (by omega)
        · obtain ⟨g1, g2, g3⟩ := hk
          exact ⟨by rw [h4 213 55 (by omega)]; exact g1, g2, fun i hi => by rw [h4 213 _ (by omega), h4 213 _ (by omega), h4 213 _ (by omega)]; exact g3 i hi⟩
    | succ m ih =>
      intro r m0 X h1 h2 h4 h5
      have hro : F_MD_rowOf X (nI f) (nI c) = some (nI r) := by
        unfold F_MD_rowOf
        rw [ad_row, gd_n (by omega) (by decide), nI_clamp (by omega), h5]
      have hpo : F_MD_isPost X (nI c) (nI r) = some (if p / 2 ^ r % 2 = 1 then 1 else 0) := by
        unfold F_MD_isPost
        rw [ad_1, gd_n (by omega) (by decide), nI_clamp (by omega), h4 213 _ (by omega), hP]
        by_cases z : p / 2 ^ r % 2 = 1
        · rw [if_pos z, if_pos ((bit_1 (by omega) (by omega)).mpr z)]
        · rw [if_neg z, if_neg (fun y => z ((bit_1 (by omega) (by omega)).mp y))]
      have bdy : F_MD_stakeWalks_3 X (nI f) (nI c) (nI n) (nI m0) = if p / 2 ^ r % 2 = 1 then some (.inr (.inr X)) else if r + 1 = R then ((F_MD_isGone X (nI f) (nI c)).bind fun r7 => some (.inr (.inr r7))) else some (.inl (nI (m0 + 1), m_up X 213 (9 + 8 * f + c) (nI (r + 1)))) := by
        simp only [F_MD_stakeWalks_3]
        rw [if_neg (nI_ge (by omega) (by omega)), hro]
        simp only [Option.bind_some]
        rw [hpo]
        simp only [Option.bind_some]
        by_cases z : p / 2 ^ r % 2 = 1
        · rw [if_pos z, if_pos z, if_neg (by decide)]
        · rw [if_neg z, if_neg z, if_pos rfl, nI_s, h4 204 3 (by omega), h3]
          by_cases z2 : r + 1 = R
          · rw [if_pos z2, if_pos (by rw [z2])]
          · rw [if_neg z2, if_neg (fun y => z2 ((nI_eq (by omega) (by omega)).mp y))]
            unfold F_MD_rowIs
            rw [ad_row, gd_n (by omega) (by decide), nI_clamp (by omega), nI_s]
            rfl
      by_cases z : p / 2 ^ r % 2 = 1
      · rw [if_pos z] at bdy
        refine ok_e (x := Sum.inr X) (wl_in bdy) ?_
        have ew : w_n p R (m + 1) r = some r := by simp only [w_n]; rw [if_pos z]
        rw [ew]
        show WKq I kl th f c (some r) X
        refine ⟨h5, fun j _ hj => h4 213 j (fun z => hj z.2), fun k hk _ => funext fun j => h4 k j (fun z => hk z.1), fun j _ => h4 177 j (by omega), ?_, ?_⟩
        · show _ = _ + (0 : Int32)
          rw [Int32.add_zero]
          exact h4 177 56 (by omega)
        · obtain ⟨g1, g2, g3⟩ := hk
          exact ⟨by rw [h4 213 55 (by omega)]; exact g1, g2, fun i hi => by rw [h4 213 _ (by omega), h4 213 _ (by omega), h4 213 _ (by omega)]; exact g3 i hi⟩
      · rw [if_neg z] at bdy
        by_cases z2 : r + 1 = R
        · rw [if_pos z2] at bdy
          have hg : F_MD_isGone X (nI f) (nI c) = (F_MD_isKept (m_up (m_up X 213 (9 + 8 * f + c) (-1)) 177 56 (X 177 56 + 1)) (nI f) (nI c)) := by
            unfold F_MD_isGone F_MD_rowIs
            rw [ad_row, gd_n (by omega) (by decide), nI_clamp (by omega)]
            simp only [Option.bind_some]
            rw [up_k _ _ _ (by decide)]
            cases F_MD_isKept (m_up (m_up X 213 (9 + 8 * f + c) (-1)) 177 56 (X 177 56 + 1)) (nI f) (nI c) <;> rfl
          have hK : KM (m_up (m_up X 213 (9 + 8 * f + c) (-1)) 177 56 (X 177 56 + 1)) kl := by
            obtain ⟨g1, g2, g3⟩ := hk
            refine ⟨?_, g2, fun i hi => ?_⟩
            · rw [up_k _ _ _ (by decide), up_j _ _ _ (by omega), h4 213 55 (by omega)]; exact g1
            · rw [up_k _ _ _ (by decide), up_j _ _ _ (by omega), up_j _ _ _ (by omega), up_j _ _ _ (by omega), h4 213 _ (by omega), h4 213 _ (by omega), h4 213 _ (by omega)]; exact g3 i hi
          obtain ⟨Y, e, g1, g2, g3⟩ := kept_e hK (th := th) (by rw [up_j _ _ _ (by decide), up_k _ _ _ (by decide), h4 177 55 (by omega)]; exact ht) (nI f) (nI c)
          rw [hg, e] at bdy
          refine ok_e (x := Sum.inr Y) (wl_in bdy) ?_
          have ew : w_n p R (m + 1) r = none := by simp only [w_n]; rw [if_neg z, if_pos z2]
          rw [ew]
          show WKq I kl th f c none Y
          have r0 : m_up (m_up X 213 (9 + 8 * f + c) (-1)) 177 56 (X 177 56 + 1) 213 0 = I 213 0 := by rw [up_k _ _ _ (by decide), up_j _ _ _ (by omega), h4 213 0 (by omega)]
          rw [r0] at g1
          refine ⟨?_, fun j hj hj2 => ?_, fun k hk1 hk2 => ?_, fun j hj => ?_, ?_, ?_⟩
          · show Y 213 (9 + 8 * f + c) = -1
            rw [g2 _ (by omega), up_k _ _ _ (by decide), up_e]
          · show Y 213 j = _
            rw [g2 _ hj, up_k _ _ _ (by decide), up_j _ _ _ hj2, h4 213 j (fun z => hj2 z.2)]
          · show Y k = _
            rw [g3 k hk1, up_k _ _ _ hk2, up_k _ _ _ hk1]
            exact funext fun j => h4 k j (fun z => hk1 z.1)
          · show Y 177 j = _
            rw [g3 177 (by decide), up_j _ _ _ hj, up_k _ _ _ (by decide), h4 177 j (by omega)]
          · show Y 177 56 = _ + (1 : Int32)
            rw [g3 177 (by decide), up_e, h4 177 56 (by omega)]
          · exact g1
        · rw [if_neg z2] at bdy
          rw [wl_st bdy]
          have ew : w_n p R (m + 1) r = w_n p R m (r + 1) := by simp only [w_n]; rw [if_neg z, if_neg z2]
          rw [ew]
          refine ih (r + 1) (m0 + 1) _ (by omega) (by omega) (fun k j hkj => ?_) (up_e _ _ _ _)
          rw [← h4 k j hkj]
          simp only [m_up]
          by_cases y1 : k = 213
          · rw [if_pos y1, if_neg (fun y => hkj ⟨y1, y⟩)]
          · rw [if_neg y1]
  have h := key n r 0 I (by omega) hr (fun _ _ _ => rfl) hrow
  rw [nI_0] at h
  refine ok_b h ?_
  rintro (q | q) hq
  · exact ok_s hq
  · exact ok_s hq
