/-! the class: signs, words, numbers, names -/
/-- is it the word numbered i -/
def isw (tb : Nat → Nat) (n e : Nat) (b : Bool) (i : Nat) : Bool := decide (kd tb n e b = 256 ∧ w_no (lets tb n e) = nI i)
def d_val (tb : Nat → Nat) (s : Nat) : Nat → Nat
  | 0 => 0
  | k + 1 => 10 * d_val tb s k + (tb (s + k) - 48)
/-- the number that stands next -/
def n_val (tb : Nat → Nat) (n e : Nat) : Nat := d_val tb (sk tb n e) (tke tb n e - sk tb n e)
/-- its fault, if it has one -/
def nf (tb : Nat → Nat) (n e : Nat) (b : Bool) (a m : Nat) : Option (Nat × Nat) := if kd tb n e b = 257 then (if tke tb n e - sk tb n e ≤ 4 then (if a ≤ n_val tb n e ∧ n_val tb n e ≤ m then none else some (2, sk tb n e)) else some (1, sk tb n e + 4)) else some (1, sk tb n e)
/-- a name's fault -/
def mf (tb : Nat → Nat) (n e : Nat) (b : Bool) : Option (Nat × Nat) := if kd tb n e b = 256 ∧ (w_no (lets tb n e) < 0 ∨ 24 ≤ w_no (lets tb n e)) then (if tke tb n e - sk tb n e ≤ 6 then none else some (1, sk tb n e + 6)) else some (1, sk tb n e)
section LB3
variable {I X Y Z : MI} {sd n e : Nat} {b : Bool} {tb : Nat → Nat}
theorem kd_lt (h : CTp X tb n) : kd tb n e b < 260 := by
  unfold kd
  split
  · rename_i q
    have := (h.2.2.1 _ q).1
    split
    · split <;> omega
    · split
      · split <;> omega
      · omega
  · omega
theorem adv_n (h : RS X tb n e b) (q : sk tb n e < n) : ok (F_Reader_advance sd X) (fun Y => RS Y tb n (tke tb n e) (sol (kd tb n e b)) ∧ fsL LR Y X) := by
  obtain ⟨h1, h2, h3⟩ := h
  have kl := kd_lt (e := e) (b := b) h1
  refine adv_c h1 (tke_le h3) h2.2.2.1 ?_
  rw [h2.1, n_eq (by omega) (by decide) (show (256 : Int32) = nI 256 from rfl), n_eq (by omega) (by decide) (show (257 : Int32) = nI 257 from rfl)]
  unfold sol
  simp
theorem RS_lt (h : RS X tb n e b) (hk : ¬ kd tb n e b = 258) : sk tb n e < n := by
  rcases kd_end b h.2.2 with q | q
  · exact q
  · exact absurd q.2 hk
theorem kd_is (h : RS X tb n e b) {c : Nat} (hc : c < 2 ^ 31) {x : Int32} (hx : x = nI c) : X 19 6 = x ↔ kd tb n e b = c := by
  have kl := kd_lt (e := e) (b := b) h.1
  rw [h.2.1.1]
  exact n_eq (by omega) hc hx
theorem wrong_e (X : MI) (k at' : Nat) : F_Reader_wrong sd X (nI k) (nI at') = some (0, wrm X k at') := rfl
theorem isw_c (h : RS X tb n e b) (i : Nat) : F_Reader_isWord sd X (nI i) = some (bI (isw tb n e b i)) := by
  unfold F_Reader_isWord isw
  by_cases q : kd tb n e b = 256
  · rw [if_pos ((kd_is h (by decide) (show (256 : Int32) = nI 256 from rfl)).mpr q), h.2.1.2.2.2 q]
    by_cases q2 : w_no (lets tb n e) = nI i
    · rw [if_pos q2, decide_eq_true ⟨q, q2⟩]; rfl
    · rw [if_neg q2, decide_eq_false (fun z => q2 z.2)]; rfl
  · rw [if_neg (fun z => q ((kd_is h (by decide) (show (256 : Int32) = nI 256 from rfl)).mp z)), decide_eq_false (fun z => q z.1)]; rfl
theorem isw_i {i : Nat} (h : isw tb n e b i = true) : kd tb n e b = 256 ∧ w_no (lets tb n e) = nI i := of_decide_eq_true h
/-- a sign -/
theorem sign_n (h : RS X tb n e b) {c : Nat} (hc : c < 256) (hk : kd tb n e b = c) : ok (F_Reader_advance sd X) (fun Y => RS Y tb n (sk tb n e + 1) false ∧ fsL LR Y X) := by
  obtain ⟨q, -, -, -, q2⟩ := kd_sign (e := e) (b := b) (show kd tb n e b < 256 by omega)
  have := adv_n (sd := sd) h q
  rw [q2, hk] at this
  have e1 : sol c = false := by unfold sol; simp; omega
  rw [e1] at this
  exact this
/-- a word -/
theorem word_x (h : RS X tb n e b) (hk : kd tb n e b = 256) : ok (F_Reader_advance sd X) (fun Y => RS Y tb n (tke tb n e) true ∧ fsL LR Y X) := by
  have := adv_n (sd := sd) h (RS_lt h (by omega))
  rw [hk] at this
  exact this
theorem need_c (h : RS X tb n e b) {c : Nat} (hc : c < 256) : ok (F_Reader_need sd X (nI c)) (fun r => (kd tb n e b = c ∧ r.1 = 1 ∧ RS r.2 tb n (sk tb n e + 1) false ∧ fsL LR r.2 X) ∨ (¬ kd tb n e b = c ∧ r = (0, wrm X 1 (sk tb n e)))) := by
  unfold F_Reader_need
  by_cases q : kd tb n e b = c
  · refine ok_t ((kd_is h (by omega) rfl).mpr q) (ok_b (sign_n h hc q) ?_)
    rintro Y ⟨y1, y2⟩
    exact ok_s (Or.inl ⟨q, rfl, y1, y2⟩)
  · refine ok_f (fun z => q ((kd_is h (by omega) rfl).mp z)) ?_
    rw [h.2.1.2.1, show (1 : Int32) = nI 1 from rfl, wrong_e]
    exact ok_gq (Or.inl rfl) (ok_s (Or.inr ⟨q, rfl⟩))
theorem needW_c (h : RS X tb n e b) (i : Nat) : ok (F_Reader_needWord sd X (nI i)) (fun r => (isw tb n e b i = true ∧ r.1 = 1 ∧ RS r.2 tb n (tke tb n e) true ∧ fsL LR r.2 X) ∨ (isw tb n e b i = false ∧ r = (0, wrm X 1 (sk tb n e)))) := by
  unfold F_Reader_needWord
  rw [isw_c h]
  simp only [Option.bind_some]
  cases q : isw tb n e b i with
  | true =>
    refine ok_f (by decide) (ok_b (word_x h (isw_i q).1) ?_)
    rintro Y ⟨y1, y2⟩
    exact ok_s (Or.inl ⟨rfl, rfl, y1, y2⟩)
  | false =>
    refine ok_t rfl ?_
    rw [h.2.1.2.1, show (1 : Int32) = nI 1 from rfl, wrong_e]
    exact ok_gq (Or.inl rfl) (ok_s (Or.inr ⟨rfl, rfl⟩))
abbrev LN : List (Nat × Option Nat) := (19, some 1) :: (19, some 2) :: (19, some 10) :: LR
theorem wrm_f (k at' : Nat) {L : List (Nat × Option Nat)} (hL : subL LN L = true) : fsL L (wrm X k at') X := fs_sub hL (fs_up (LX := LN) (by decide) (by decide) (fs_up (LX := LN) (by decide) (by decide) (fs_r X)))
theorem wrm_t (X : MI) (k at' : Nat) : FTt (wrm X k at') k at' := ⟨by unfold wrm; rw [up_j _ _ _ (by decide), up_e], up_e _ _ _ _⟩
theorem dig_b {c : Nat} (h : cD c = true) : 48 ≤ c ∧ c ≤ 57 := by unfold cD at h; simpa using h
theorem d_val_lt {s : Nat} : ∀ k, (∀ j, j < k → cD (tb (s + j)) = true) → d_val tb s k < 10 ^ k := by
  intro k
  induction k with
  | zero => intro _; show 0 < 1; decide
  | succ k ih =>
    intro h
    have := dig_b (h k (by omega))
    have := ih (fun j hj => h j (by omega))
    simp only [d_val]
    rw [Nat.pow_succ]; omega
theorem digs (hb : ∀ j, j < n → tb j < 256) (he : e ≤ n) (hk : kd tb n e b = 257) : sk tb n e < tke tb n e ∧ tke tb n e ≤ n ∧ ∀ j, j < tke tb n e - sk tb n e → cD (tb (sk tb n e + j)) = true := by
  obtain ⟨q, q2, -⟩ := (kd_257 hb).mp hk
  have hn : cL (tb (sk tb n e)) = false := by
    have := dig_b q2
    unfold cL; simp; omega
  have e1 : tke tb n e = t_e cD tb n (sk tb n e) := by unfold tke; rw [if_pos q, hn, if_neg (by decide), if_pos q2]
  refine ⟨tke_gt q, tke_le he, fun j hj => ?_⟩
  rw [e1] at hj
  exact te_in (n := n) (e := sk tb n e) (by omega) (by omega)
theorem num_c (h : RS X tb n e b) {a m : Nat} (ha : a < 20000) (hm : m < 20000) : ok (F_Reader_number sd X (nI a) (nI m)) (fun r => fsL LN r.2 X ∧ ((nf tb n e b a m = none ∧ r.1 = 1 ∧ RS r.2 tb n (tke tb n e) true ∧ r.2 19 10 = nI (n_val tb n e) ∧ kd tb n e b = 257) ∨ (∃ k at', nf tb n e b a m = some (k, at') ∧ r.1 = 0 ∧ FTt r.2 k at'))) := by
  have hb : ∀ j, j < n → tb j < 256 := fun j hj => (h.1.2.2.1 j hj).1
  have n16 := h.1.2.1
  have h1 := sk_le (tb := tb) h.2.2
  unfold F_Reader_number
  by_cases q : kd tb n e b = 257
  · obtain ⟨d1, d2, d3⟩ := digs hb h.2.2 q
    refine ok_t ((kd_is h (by decide) (show (257 : Int32) = nI 257 from rfl)).mpr q) ?_
    rw [h.2.1.2.1, h.2.1.2.2.1, nI_subN (by omega)]
    by_cases q2 : tke tb n e - sk tb n e ≤ 4
    · refine ok_t (show nI (tke tb n e - sk tb n e) ≤ 4 from nI_le (b := 4) q2 (by decide)) ?_
      have vb : ∀ k, k ≤ tke tb n e - sk tb n e → d_val tb (sk tb n e) k < 10000 := fun k hk => by
        have a := d_val_lt (tb := tb) (s := sk tb n e) k (fun j hj => d3 j (by omega))
        have : 10 ^ k ≤ 10 ^ 4 := Nat.pow_le_pow_right (by decide) (by omega)
        omega
      have lp : wl (fun s : Int32 × MI => F_Reader_number_55 sd s.2 (nI a) (nI m) s.1) (nI (sk tb n e), m_up X 19 10 (0 : Int32)) = some (m_up X 19 10 (nI (n_val tb n e))) := by
        refine wl_f (tke tb n e - sk tb n e) (fun k => (nI (sk tb n e + k), m_up X 19 10 (nI (d_val tb (sk tb n e) k)))) rfl (fun k hk => ?_) ?_
        · show F_Reader_number_55 sd (m_up X 19 10 (nI (d_val tb (sk tb n e) k))) (nI a) (nI m) (nI (sk tb n e + k)) = _
          have hY := CTp_19 (j := 10) (v := nI (d_val tb (sk tb n e) k)) h.1
          have y8 : m_up X 19 10 (nI (d_val tb (sk tb n e) k)) 19 8 = nI (tke tb n e) := by rw [up_j _ _ _ (by decide)]; exact h.2.1.2.2.1
          have db := dig_b (d3 k hk)
          have vk := vb k (by omega)
          unfold F_Reader_number_55
          rw [y8, if_neg (nI_ge (by omega) (by omega)), byte_k hY (by omega), if_pos (by omega)]
          simp only [Option.bind_some]
          rw [up_e, nI_s, up_up]
          have e1 : nI (d_val tb (sk tb n e) k) * (10 : Int32) = nI (d_val tb (sk tb n e) k * 10) := nI_m3 _ 10
          have e2 : nI (d_val tb (sk tb n e) k * 10) + nI (tb (sk tb n e + k)) - (48 : Int32) = nI (d_val tb (sk tb n e) (k + 1)) := by
            rw [nI_add]
            have := nI_subN (a := d_val tb (sk tb n e) k * 10 + tb (sk tb n e + k)) (b := 48) (by omega)
            simp only [d_val]
            rw [show 10 * d_val tb (sk tb n e) k + (tb (sk tb n e + k) - 48) = d_val tb (sk tb n e) k * 10 + tb (sk tb n e + k) - 48 by omega]
            exact this
          rw [e1, e2]; rfl
        · show F_Reader_number_55 sd (m_up X 19 10 (nI (d_val tb (sk tb n e) (tke tb n e - sk tb n e)))) (nI a) (nI m) (nI (sk tb n e + (tke tb n e - sk tb n e))) = _
          have y8 : m_up X 19 10 (nI (d_val tb (sk tb n e) (tke tb n e - sk tb n e))) 19 8 = nI (tke tb n e) := by rw [up_j _ _ _ (by decide)]; exact h.2.1.2.2.1
          unfold F_Reader_number_55
          rw [y8, show sk tb n e + (tke tb n e - sk tb n e) = tke tb n e by omega, if_pos (Int32.le_refl _)]; rfl
      rw [lp]
      simp only [Option.bind_some]
      have vv : n_val tb n e < 10000 := vb _ (Nat.le_refl _)
      have hY : RS (m_up X 19 10 (nI (n_val tb n e))) tb n e b := ⟨CTp_19 h.1, by
        obtain ⟨t1, t2, t3, t4⟩ := h.2.1
        exact ⟨by rw [up_j _ _ _ (by decide)]; exact t1, by rw [up_j _ _ _ (by decide)]; exact t2, by rw [up_j _ _ _ (by decide)]; exact t3, fun z => by rw [up_j _ _ _ (by decide)]; exact t4 z⟩, h.2.2⟩
      have v10 : m_up X 19 10 (nI (n_val tb n e)) 19 10 = nI (n_val tb n e) := up_e _ _ _ _
      have fY : fsL LN (m_up X 19 10 (nI (n_val tb n e))) X := fs_up (LX := LN) (by decide) (by decide) (fs_r X)
      generalize m_up X 19 10 (nI (n_val tb n e)) = Y at *
      rw [v10, hY.2.1.2.1, show (2 : Int32) = nI 2 from rfl, wrong_e]
      simp only [Option.bind_some]
      by_cases q3 : a ≤ n_val tb n e
      · refine ok_f (nI_nlt (by omega) (by omega)) ?_
        by_cases q4 : n_val tb n e ≤ m
        · have hN : nf tb n e b a m = none := by unfold nf; rw [if_pos q, if_pos q2, if_pos ⟨q3, q4⟩]
          refine ok_t (nI_le q4 (by omega)) ?_
          have av := adv_n (sd := sd) hY (RS_lt hY (by omega))
          rw [q] at av
          refine ok_b av ?_
          rintro W ⟨w1, w2⟩
          exact ok_s ⟨fs_tr (fs_sub (by decide) w2) fY, Or.inl ⟨hN, rfl, w1, (w2 19 10 (by decide)).trans v10, q⟩⟩
        · have hN : nf tb n e b a m = some (2, sk tb n e) := by unfold nf; rw [if_pos q, if_pos q2, if_neg (fun z => q4 z.2)]
          exact ok_f (nI_ge (by omega) (by omega)) (ok_gq (Or.inl trivial) (ok_s ⟨fs_tr (wrm_f 2 _ (by decide)) fY, Or.inr ⟨2, _, hN, rfl, wrm_t Y 2 _⟩⟩))
      · have hN : nf tb n e b a m = some (2, sk tb n e) := by unfold nf; rw [if_pos q, if_pos q2, if_neg (fun z => q3 z.1)]
        exact ok_t (nI_lt (by omega) (by omega)) (ok_gq (Or.inl trivial) (ok_s ⟨fs_tr (wrm_f 2 _ (by decide)) fY, Or.inr ⟨2, _, hN, rfl, wrm_t Y 2 _⟩⟩))
    · have hN : nf tb n e b a m = some (1, sk tb n e + 4) := by unfold nf; rw [if_pos q, if_neg q2]
      refine ok_f (show ¬ nI (tke tb n e - sk tb n e) ≤ 4 from nI_ge (a := 4) (by omega) (by omega)) ?_
      have e4 : nI (sk tb n e) + (4 : Int32) = nI (sk tb n e + 4) := nI_add _ 4
      rw [e4, show (1 : Int32) = nI 1 from rfl, wrong_e]
      exact ok_gq (Or.inl rfl) (ok_s ⟨wrm_f 1 _ (by decide), Or.inr ⟨1, _, hN, rfl, wrm_t X 1 _⟩⟩)
  · have hN : nf tb n e b a m = some (1, sk tb n e) := by unfold nf; rw [if_neg q]
    refine ok_f (fun z => q ((kd_is h (by decide) (show (257 : Int32) = nI 257 from rfl)).mp z)) ?_
    rw [h.2.1.2.1, show (1 : Int32) = nI 1 from rfl, wrong_e]
    exact ok_gq (Or.inl rfl) (ok_s ⟨wrm_f 1 _ (by decide), Or.inr ⟨1, _, hN, rfl, wrm_t X 1 _⟩⟩)
theorem name_c (h : RS X tb n e b) : ok (F_Reader_name sd X) (fun r => (mf tb n e b = none ∧ r = (1, X) ∧ kd tb n e b = 256) ∨ (∃ k at', mf tb n e b = some (k, at') ∧ r = (0, wrm X k at'))) := by
  have n16 := h.1.2.1
  have h1 := sk_le (tb := tb) h.2.2
  unfold F_Reader_name
  by_cases q : kd tb n e b = 256
  · have ql := RS_lt h (by omega)
    have tg := tke_gt ql
    have tl := tke_le (tb := tb) h.2.2
    have w9 := h.2.1.2.2.2 q
    refine ok_t ((kd_is h (by decide) (show (256 : Int32) = nI 256 from rfl)).mpr q) ?_
    rw [w9]
    have m36 : (w_no (lets tb n e) < 0 ∨ 24 ≤ w_no (lets tb n e)) → ok (F_Reader_name_36 sd X) (fun r => (mf tb n e b = none ∧ r = (1, X) ∧ kd tb n e b = 256) ∨ (∃ k at', mf tb n e b = some (k, at') ∧ r = (0, wrm X k at'))) := by
      intro c
      unfold F_Reader_name_36
      rw [h.2.1.2.1, h.2.1.2.2.1, nI_subN (by omega)]
      by_cases q2 : tke tb n e - sk tb n e ≤ 6
      · have hN : mf tb n e b = none := by unfold mf; rw [if_pos ⟨q, c⟩, if_pos q2]
        exact ok_t (show nI (tke tb n e - sk tb n e) ≤ 6 from nI_le (b := 6) q2 (by decide)) (ok_s (Or.inl ⟨hN, rfl, q⟩))
      · have hN : mf tb n e b = some (1, sk tb n e + 6) := by unfold mf; rw [if_pos ⟨q, c⟩, if_neg q2]
        refine ok_f (show ¬ nI (tke tb n e - sk tb n e) ≤ 6 from nI_ge (a := 6) (by omega) (by omega)) ?_
        have e4 : nI (sk tb n e) + (6 : Int32) = nI (sk tb n e + 6) := nI_add _ 6
        rw [e4, show (1 : Int32) = nI 1 from rfl, wrong_e]
        exact ok_be rfl (ok_t rfl (ok_s (Or.inr ⟨1, _, hN, rfl⟩)))
    by_cases c1 : w_no (lets tb n e) < 0
    · exact ok_t c1 (m36 (Or.inl c1))
    · refine ok_f c1 ?_
      by_cases c2 : 24 ≤ w_no (lets tb n e)
      · exact ok_t c2 (m36 (Or.inr c2))
      · have hN : mf tb n e b = some (1, sk tb n e) := by unfold mf; rw [if_neg (fun z => z.2.elim c1 c2)]
        refine ok_f c2 ?_
        rw [h.2.1.2.1, show (1 : Int32) = nI 1 from rfl, wrong_e]
        exact ok_gq (Or.inl rfl) (ok_s (Or.inr ⟨1, _, hN, rfl⟩))
  · have hN : mf tb n e b = some (1, sk tb n e) := by unfold mf; rw [if_neg (fun z => q z.1)]
    refine ok_f (fun z => q ((kd_is h (by decide) (show (256 : Int32) = nI 256 from rfl)).mp z)) ?_
    rw [h.2.1.2.1, show (1 : Int32) = nI 1 from rfl, wrong_e]
    exact ok_gq (Or.inl rfl) (ok_s (Or.inr ⟨1, _, hN, rfl⟩))
theorem emit_c (hq : sd = 3 ∨ sd = 11) {s : Nat} (hs : s < 1600) (h5 : X 19 5 = nI s) (v : Int32) : F_Reader_emit sd X v = some (1, m_up (m_up X (sd + 7) s v) 19 5 (nI (s + 1))) := by
  unfold F_Reader_emit
  rw [h5, if_neg (show ¬ Int32.ofNat 1600 ≤ nI s from nI_ge (b := 1600) hs (by decide)), gd_n hs (by decide), nI_clamp (by omega)]
  simp only [bnd]
  rw [up_k _ _ _ (by omega), h5, nI_s]
end LB3
