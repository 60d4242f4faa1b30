/-! rest: the class; the call -/
/-- how it lies now, with the stakes of set t behind n years -/
def r_w (p : CF) (w : WD) (n t : Nat) : WD := (wY w, wK w, wA w, wP w, wR (a_it p (a_cs p w t) n))
/-- the class's lays while it looks for the set at rest -/
def RQ (X : MI) (p : CF) (w : WD) (n : Nat) : Prop := (X 31 0 = wY w ∧ X 31 1 = a_msk (wK w) 6 ∧ (∀ f, f < 6 → X 32 f = wA w f) ∧ ∀ c, c < 6 → X 33 c = wP w c) ∧ (∀ f c, cF p ≤ f → f < 6 → c < 6 → X 34 (6 * f + c) = -1) ∧ (∀ f c, f < 6 → c < 6 → X 38 (6 * f + c) = wR (a_it p (a_cs p w 0) n) f c) ∧ ∀ f c, f < 6 → c < 6 → X 42 (6 * f + c) = wR (a_it p (a_cs p w (2 ^ cF p - 1)) n) f c
theorem tb_dm (x i : Nat) : x / 2 ^ i % 2 = (x.testBit i).toNat := by
  rw [Nat.testBit_eq_decide_div_mod_eq]
  rcases Nat.mod_two_eq_zero_or_one (x / 2 ^ i) with h | h <;> rw [h] <;> rfl
theorem full_bit {F m : Nat} (h : m < F) : (2 ^ F - 1) / 2 ^ m % 2 = 1 := by
  rw [tb_dm, Nat.testBit_two_pow_sub_one, decide_eq_true h]; rfl
theorem xor_ne {t m g : Nat} (h : g ≠ m) : (t ^^^ 2 ^ m) / 2 ^ g % 2 = t / 2 ^ g % 2 := by
  rw [tb_dm, tb_dm, Nat.testBit_xor, Nat.testBit_two_pow_of_ne (Ne.symm h), Bool.xor_false]
theorem xor_eq {t m : Nat} : (t ^^^ 2 ^ m) / 2 ^ m % 2 = 1 - t / 2 ^ m % 2 := by
  rw [tb_dm, tb_dm, Nat.testBit_xor, Nat.testBit_two_pow_self]
  cases t.testBit m <;> rfl
section L99
variable {I X Y Z : MI} {J JX JY : MJ} {k o sl sd : Nat} {p : CF} {w v : WD} {kl : List NT} {un : List (WD × List NT)} {n : Nat}
theorem ts_e {f : Nat} (hf : f < 6) : (∀ q, q ≠ 34 → gI_Lay_takeStakes X 31 o (nI f) q = X q) ∧ ∀ g c, c < 6 → gI_Lay_takeStakes X 31 o (nI f) 34 (6 * g + c) = if g = f then X (o + 3) (6 * f + c) else X 34 (6 * g + c) := by
  unfold gI_Lay_takeStakes
  rw [if_neg (nI_pos (by omega)), if_neg (show ¬ (6 : Int32) ≤ nI f from nI_ge (b := 6) hf (by decide)), nI_clamp (by omega)]
  refine ⟨fun q hq => cp_k _ hq, fun g c hc => ?_⟩
  unfold m_cpI va_cpy
  simp only [show 31 + 3 = 34 from rfl, if_true]
  by_cases e : g = f
  · subst e
    rw [if_pos (by omega), if_pos rfl]
    congr 1
    omega
  · rw [if_neg (by omega), if_neg e]
theorem r_w_O (ho : CO p) (hR : cF p = 0 ∨ 0 < cR p) (hv : WO p w) {y : Nat} (hy : wY w = nI y) (hn : y + n ≤ 999) (t : Nat) : WO p (r_w p w n t) := by
  have h := it_O ho hR (cs_O hv t) (y := y) hy n (by omega)
  exact ⟨hv.1, hv.2.1, hv.2.2.1, hv.2.2.2.1, h.2.2.2.2.1, h.2.2.2.2.2⟩
theorem first_c (ho : CO p) (hR : cF p = 0 ∨ 0 < cR p) (hv : WO p w) {y : Nat} (hy : wY w = nI y) (hn : y + n ≤ 999) (hs : X sl 3 = nI (cF p)) (hsl : sl < 20) (h : RQ X p w n) {t : Nat} (ht : t < 2 ^ cF p) : ok (wl (fun s : Int32 × MI => F_Foresight_isAtRest_2 sl s.2 (nI t) s.1) ((0 : Int32), X)) (fun Y => WC Y 31 (r_w p w n t) ∧ ∀ q, q ≠ 34 → Y q = X q) := by
  have hF := ho.2.2.1; have hC := ho.1; have h64 := pow_F ho
  obtain ⟨⟨g1, g2, g3, g4⟩, g5, g6, g7⟩ := h
  refine ok_m (ok_cnt (σ := MI) (P := fun Y => (∀ f c, f < cF p → c < 6 → Y 34 (6 * f + c) = wR (a_it p (a_cs p w t) n) f c) ∧ (∀ f c, cF p ≤ f → f < 6 → c < 6 → Y 34 (6 * f + c) = -1) ∧ ∀ q, q ≠ 34 → Y q = X q) (cF p) (fun m Y => (∀ f c, f < m → c < 6 → Y 34 (6 * f + c) = wR (a_it p (a_cs p w t) n) f c) ∧ (∀ f c, cF p ≤ f → f < 6 → c < 6 → Y 34 (6 * f + c) = -1) ∧ ∀ q, q ≠ 34 → Y q = X q) ⟨fun f c hf => by omega, g5, fun _ _ => rfl⟩ ?_ ?_) ?_
  · rintro m hm Y ⟨a1, a2, a3⟩
    simp only [F_Foresight_isAtRest_2]
    rw [a3 sl (by omega), hs, if_neg (nI_ge hm (by omega)), bit_n (by omega) (by omega)]
    have fin : ∀ o u, (o = 35 ∨ o = 39) → (∀ c, c < 6 → X (o + 3) (6 * m + c) = wR (a_it p (a_cs p w u) n) m c) → t / 2 ^ m % 2 = u / 2 ^ m % 2 → ok (some (Sum.inl (nI m + 1, gI_Lay_takeStakes Y 31 o (nI m))) : Option ((Int32 × MI) ⊕ MI)) (Sum.elim (fun q => q.1 = nI (m + 1) ∧ (∀ f c, f < m + 1 → c < 6 → q.2 34 (6 * f + c) = wR (a_it p (a_cs p w t) n) f c) ∧ (∀ f c, cF p ≤ f → f < 6 → c < 6 → q.2 34 (6 * f + c) = -1) ∧ ∀ k, k ≠ 34 → q.2 k = X k) (fun _ => False)) := by
      intro o u ho2 hu hb
      obtain ⟨t1, t2⟩ := ts_e (X := Y) (o := o) (f := m) (by omega)
      refine ok_s ⟨nI_s m, fun f c hf hc => ?_, fun f c hf1 hf2 hc => ?_, fun q hq => (t1 q hq).trans (a3 q hq)⟩
      · show gI_Lay_takeStakes Y 31 o (nI m) 34 (6 * f + c) = _
        rw [t2 f c hc]
        by_cases e : f = m
        · subst e; rw [if_pos rfl, a3 _ (by omega), hu c hc, cs_R n hb]
        · rw [if_neg e]; exact a1 f c (by omega) hc
      · show gI_Lay_takeStakes Y 31 o (nI m) 34 (6 * f + c) = _
        rw [t2 f c hc, if_neg (by omega)]; exact a2 f c hf1 hf2 hc
    rcases Nat.mod_two_eq_zero_or_one (t / 2 ^ m) with e | e
    · rw [e, if_pos (show nI 0 = 0 from rfl)]
      exact fin 35 0 (Or.inl rfl) (fun c hc => g6 m c (by omega) hc) (by rw [e]; simp)
    · rw [e, if_neg (show ¬ nI 1 = 0 by decide)]
      exact fin 39 (2 ^ cF p - 1) (Or.inr rfl) (fun c hc => g7 m c (by omega) hc) (by rw [e, full_bit hm])
  · rintro Y ⟨a1, a2, a3⟩
    simp only [F_Foresight_isAtRest_2]
    rw [a3 sl (by omega), hs, if_pos (Int32.le_refl _)]
    exact ok_s ⟨a1, a2, a3⟩
  · rintro Y ⟨a1, a2, a3⟩
    have hO := r_w_O ho hR hv hy hn t
    refine ⟨⟨?_, ?_, fun f hf => ?_, fun c hc => ?_, fun f c hf hc => ?_⟩, a3⟩
    · rw [a3 31 (by decide)]; exact g1
    · rw [a3 31 (by decide)]; exact g2
    · rw [a3 32 (by decide)]; exact g3 f hf
    · rw [a3 33 (by decide)]; exact g4 c hc
    · show Y 34 _ = _
      by_cases e : f < cF p
      · exact a1 f c e hc
      · rw [a2 f c (by omega) hf hc]; exact (hO.2.2.2.2.2 f c (Or.inl (by omega))).symm
/-- stakes of one fence from the other run -/
theorem flip_c (ho : CO p) {t u m : Nat} (hm : m < cF p) (hw : WC Y 31 (r_w p w n t)) (hu : ∀ c, c < 6 → Y (o + 3) (6 * m + c) = wR (a_it p (a_cs p w u) n) m c) {t' : Nat} (h1 : ∀ g, g ≠ m → t' / 2 ^ g % 2 = t / 2 ^ g % 2) (h2 : t' / 2 ^ m % 2 = u / 2 ^ m % 2) : WC (gI_Lay_takeStakes Y 31 o (nI m)) 31 (r_w p w n t') := by
  have hF := ho.2.2.1
  obtain ⟨t1, t2⟩ := ts_e (X := Y) (o := o) (f := m) (by omega)
  obtain ⟨g1, g2, g3, g4, g5⟩ := hw
  refine ⟨?_, ?_, fun f hf => ?_, fun c hc => ?_, fun f c hf hc => ?_⟩
  · rw [t1 31 (by decide)]; exact g1
  · rw [t1 31 (by decide)]; exact g2
  · rw [t1 _ (by decide)]; exact g3 f hf
  · rw [t1 _ (by decide)]; exact g4 c hc
  · show gI_Lay_takeStakes Y 31 o (nI m) 34 (6 * f + c) = wR (a_it p (a_cs p w t') n) f c
    rw [t2 f c hc]
    by_cases e : f = m
    · subst e; rw [if_pos rfl, hu c hc, cs_R n h2]
    · rw [if_neg e, cs_R n (h1 f e)]; exact g5 f c hf hc
theorem rest1_c (ho : CO p) (hR : cF p = 0 ∨ 0 < cR p) (hv : WO p w) {y : Nat} (hy : wY w = nI y) (hn : y + n ≤ 999) (hs : CC X sl p) (hsl : sl < 20) (h : RQ X p w n) {t m : Nat} (ht : t < 2 ^ cF p) (hm : m < cF p) (hw : WC Y 31 (r_w p w n t)) (hy2 : ∀ q, q ≠ 34 → Y q = X q) : ∃ V, WC V 31 (r_w p w n t) ∧ (∀ q, q ≠ 34 → V q = X q) ∧ F_Foresight_isAtRest_51 sl Y (nI t) (nI m) = if r_fd p w n (t ^^^ 2 ^ m) m ≤ r_fd p w n t m then some (.inl (nI (m + 1), V)) else some (.inr (.inr (0, V))) := by
  have hF := ho.2.2.1; have hC := ho.1; have h64 := pow_F ho
  obtain ⟨-, g5, g6, g7⟩ := h
  have hO := r_w_O ho hR hv hy hn t
  have hO2 := r_w_O ho hR hv hy hn (t ^^^ 2 ^ m)
  have l1 := r_fd_le (w := w) ho n (t ^^^ 2 ^ m) m
  have l2 := r_fd_le (w := w) ho n t m
  have eR : Y sl 2 = nI (cR p) := by rw [hy2 sl (by omega)]; exact hs.2.1
  have eF : Y sl 3 = nI (cF p) := by rw [hy2 sl (by omega)]; exact hs.2.2.1
  have f0 : l_field Y 31 (nI m) (Y sl 2) 6 = nI (r_fd p w n t m) := by rw [eR, field_c hw hO ho (by omega)]; rfl
  have k1 : ∀ o q, q ≠ 34 → gI_Lay_takeStakes Y 31 o (nI m) q = Y q := fun o q hq => (ts_e (X := Y) (o := o) (f := m) (by omega)).1 q hq
  have k2 : ∀ o o' q, q ≠ 34 → gI_Lay_takeStakes (gI_Lay_takeStakes Y 31 o (nI m)) 31 o' (nI m) q = Y q := fun o o' q hq => ((ts_e (X := gI_Lay_takeStakes Y 31 o (nI m)) (o := o') (f := m) (by omega)).1 q hq).trans (k1 o q hq)
  have f1 : ∀ o, WC (gI_Lay_takeStakes Y 31 o (nI m)) 31 (r_w p w n (t ^^^ 2 ^ m)) → l_field (gI_Lay_takeStakes Y 31 o (nI m)) 31 (nI m) (gI_Lay_takeStakes Y 31 o (nI m) sl 2) 6 = nI (r_fd p w n (t ^^^ 2 ^ m) m) := fun o hz => by rw [k1 o sl (by omega), eR, field_c hz hO2 ho (by omega)]; rfl
  unfold F_Foresight_isAtRest_51
  rw [eF, if_neg (nI_ge hm (by omega)), bit_n (by omega) (by omega)]
  have xb := xor_eq (t := t) (m := m)
  rcases Nat.mod_two_eq_zero_or_one (t / 2 ^ m) with e | e
  · rw [e, if_pos (show nI 0 = 0 from rfl)]
    have wU : WC (gI_Lay_takeStakes Y 31 39 (nI m)) 31 (r_w p w n (t ^^^ 2 ^ m)) := flip_c ho hm hw (u := 2 ^ cF p - 1) (fun c hc => by rw [hy2 _ (by decide)]; exact g7 m c (by omega) hc) (fun g hg => xor_ne hg) (by rw [xb, e, full_bit hm])
    refine ⟨gI_Lay_takeStakes (gI_Lay_takeStakes Y 31 39 (nI m)) 31 35 (nI m), flip_c ho hm wU (u := 0) (fun c hc => by rw [k1 39 _ (by decide), hy2 _ (by decide)]; exact g6 m c (by omega) hc) (fun g hg => (xor_ne hg).symm) (by rw [e]; simp), fun q hq => (k2 39 35 q hq).trans (hy2 q hq), ?_⟩
    unfold F_Foresight_isAtRest_78
    rw [if_pos (show (0 : Int32) = 0 from rfl), if_pos (show (0 : Int32) = 0 from rfl), f1 39 wU, f0, nI_s]
    by_cases q : r_fd p w n (t ^^^ 2 ^ m) m ≤ r_fd p w n t m
    · rw [if_pos q, if_pos (nI_le q (by omega))]
    · rw [if_neg q, if_neg (nI_ge (by omega) (by omega))]
  · rw [e, if_neg (show ¬ nI 1 = 0 by decide)]
    have wU : WC (gI_Lay_takeStakes Y 31 35 (nI m)) 31 (r_w p w n (t ^^^ 2 ^ m)) := flip_c ho hm hw (u := 0) (fun c hc => by rw [hy2 _ (by decide)]; exact g6 m c (by omega) hc) (fun g hg => xor_ne hg) (by rw [xb, e]; simp)
    refine ⟨gI_Lay_takeStakes (gI_Lay_takeStakes Y 31 35 (nI m)) 31 39 (nI m), flip_c ho hm wU (u := 2 ^ cF p - 1) (fun c hc => by rw [k1 35 _ (by decide), hy2 _ (by decide)]; exact g7 m c (by omega) hc) (fun g hg => (xor_ne hg).symm) (by rw [e, full_bit hm]), fun q hq => (k2 35 39 q hq).trans (hy2 q hq), ?_⟩
    unfold F_Foresight_isAtRest_78
    rw [if_neg (show ¬ (1 : Int32) = 0 by decide), if_neg (show ¬ (1 : Int32) = 0 by decide), f1 35 wU, f0, nI_s]
    by_cases q : r_fd p w n (t ^^^ 2 ^ m) m ≤ r_fd p w n t m
    · rw [if_pos q, if_pos (nI_le q (by omega))]
    · rw [if_neg q, if_neg (nI_ge (by omega) (by omega))]
theorem isRest_c (ho : CO p) (hR : cF p = 0 ∨ 0 < cR p) (hv : WO p w) {y : Nat} (hy : wY w = nI y) (hn : y + n ≤ 999) (hs : CC X sl p) (hsl : sl < 20) (h : RQ X p w n) {t : Nat} (ht : t < 2 ^ cF p) : ok (F_Foresight_isAtRest sl X (nI t)) (fun r => r.1 = bI (r_ok p w n t (cF p)) ∧ RQ r.2 p w n ∧ ∀ q, q ≠ 34 → r.2 q = X q) := by
  have hF := ho.2.2.1; have hC := ho.1; have h64 := pow_F ho
  have hO := r_w_O ho hR hv hy hn t
  have back : ∀ V : MI, WC V 31 (r_w p w n t) → (∀ q, q ≠ 34 → V q = X q) → RQ V p w n := by
    intro V hV hk
    obtain ⟨⟨g1, g2, g3, g4⟩, g5, g6, g7⟩ := h
    refine ⟨⟨by rw [hk 31 (by decide)]; exact g1, by rw [hk 31 (by decide)]; exact g2, by rw [hk 32 (by decide)]; exact g3, by rw [hk 33 (by decide)]; exact g4⟩, fun f c h1 h2 hc => ?_, by rw [hk 38 (by decide)]; exact g6, by rw [hk 42 (by decide)]; exact g7⟩
    rw [show 34 = 31 + 3 from rfl, hV.2.2.2.2 f c h2 hc]
    exact hO.2.2.2.2.2 f c (Or.inl h1)
  have key : ∀ d m (Y : MI), m + d = cF p → r_ok p w n t m = true → WC Y 31 (r_w p w n t) → (∀ q, q ≠ 34 → Y q = X q) → ∃ V, WC V 31 (r_w p w n t) ∧ (∀ q, q ≠ 34 → V q = X q) ∧ wl (fun s : Int32 × MI => F_Foresight_isAtRest_51 sl s.2 (nI t) s.1) (nI m, Y) = some (if r_ok p w n t (cF p) = true then .inl V else .inr (0, V)) := by
    intro d
    induction d with
    | zero =>
      intro m Y hm hk hw hy2
      have hm : m = cF p := by omega
      subst hm
      refine ⟨Y, hw, hy2, ?_⟩
      rw [if_pos hk]
      refine wl_in ?_
      simp only [F_Foresight_isAtRest_51]
      rw [hy2 sl (by omega), hs.2.2.1, if_pos (Int32.le_refl _)]
    | succ d ih =>
      intro m Y hm hk hw hy2
      obtain ⟨V, v1, v2, v3⟩ := rest1_c ho hR hv hy hn hs hsl h ht (show m < cF p by omega) hw hy2
      by_cases q : r_fd p w n (t ^^^ 2 ^ m) m ≤ r_fd p w n t m
      · rw [if_pos q] at v3
        have e1 : wl (fun s : Int32 × MI => F_Foresight_isAtRest_51 sl s.2 (nI t) s.1) (nI m, Y) = wl (fun s : Int32 × MI => F_Foresight_isAtRest_51 sl s.2 (nI t) s.1) (nI (m + 1), V) := wl_st v3
        rw [e1]
        refine ih (m + 1) V (by omega) ?_ v1 v2
        simp only [r_ok]
        rw [hk, decide_eq_true q]; rfl
      · rw [if_neg q] at v3
        have hno : ∀ j, m + 1 ≤ j → r_ok p w n t j = false := by
          intro j hj
          induction hj with
          | refl => simp only [r_ok]; rw [hk, decide_eq_false q]; rfl
          | step _ ih => simp only [r_ok]; rw [ih]; rfl
        refine ⟨V, v1, v2, ?_⟩
        rw [hno (cF p) (by omega)]
        exact wl_in v3
  unfold F_Foresight_isAtRest
  refine ok_b (first_c ho hR hv hy hn hs.2.2.1 hsl h ht) ?_
  rintro Y ⟨y1, y2⟩
  obtain ⟨V, v1, v2, v3⟩ := key (cF p) 0 Y (by omega) rfl y1 y2
  rw [nI_0] at v3
  rw [v3]
  cases r_ok p w n t (cF p) with
  | true => exact ok_s ⟨rfl, back V v1 v2, v2⟩
  | false => exact ok_s ⟨rfl, back V v1 v2, v2⟩
theorem best_c (ho : CO p) (hR : cF p = 0 ∨ 0 < cR p) (hv : WO p w) {y : Nat} (hy : wY w = nI y) (hn : y + n ≤ 999) (hs : CC X sl p) (hsl : sl + 1 < 20) (h : RQ X p w n) : ok (wl (fun s : Int32 × Int32 × MI => F_Foresight_findRest_87 sl s.2.2 (nI (2 ^ cF p)) s.1 s.2.1) (((-1) : Int32), (0 : Int32), X)) (fun r => r.1 = r_bs p w n (2 ^ cF p) ∧ ∀ q, q ≠ 34 → r.2 q = X q) := by
  have hF := ho.2.2.1; have hC := ho.1; have h64 := pow_F ho
  have loop : ∀ d t (Y : MI), t + d = 2 ^ cF p → RQ Y p w n → (∀ q, q ≠ 34 → Y q = X q) → ok (wl (fun s : Int32 × Int32 × MI => F_Foresight_findRest_87 sl s.2.2 (nI (2 ^ cF p)) s.1 s.2.1) (r_bs p w n t, nI t, Y)) (fun r => r.1 = r_bs p w n (2 ^ cF p) ∧ ∀ q, q ≠ 34 → r.2 q = X q) := by
    intro d
    induction d with
    | zero =>
      intro t Y ht hQ hk
      have ht : t = 2 ^ cF p := by omega
      subst ht
      refine ok_e (x := (r_bs p w n (2 ^ cF p), Y)) (wl_in ?_) ⟨rfl, hk⟩
      simp only [F_Foresight_findRest_87]
      rw [if_pos (Int32.le_refl _)]
    | succ d ih =>
      intro t Y ht hQ hk
      have sY : CC Y sl p := by
        obtain ⟨c1, c2, c3, c4⟩ := hs
        refine ⟨by rw [hk sl (by omega)]; exact c1, by rw [hk sl (by omega)]; exact c2, by rw [hk sl (by omega)]; exact c3, fun c hc => by rw [hk (sl + 1) (by omega)]; exact c4 c hc⟩
      obtain ⟨⟨r1, V⟩, ev, v1, v2, v3⟩ := isRest_c ho hR hv hy hn sY (by omega) hQ (show t < 2 ^ cF p by omega)
      have v1 : r1 = bI (r_ok p w n t (cF p)) := v1
      have v2 : RQ V p w n := v2
      have v3 : ∀ q, q ≠ 34 → V q = Y q := v3
      have st : ∃ Z, RQ Z p w n ∧ (∀ q, q ≠ 34 → Z q = X q) ∧ F_Foresight_findRest_87 sl Y (nI (2 ^ cF p)) (r_bs p w n t) (nI t) = some (.inl (r_bs p w n (t + 1), nI (t + 1), Z)) := by
        have yes : F_Foresight_findRest_110 sl Y (nI (2 ^ cF p)) (r_bs p w n t) (nI t) = some (.inl (if r_ok p w n t (cF p) = true then nI t else r_bs p w n t, nI (t + 1), V)) := by
          unfold F_Foresight_findRest_110 F_Foresight_findRest_115
          rw [if_neg (by decide), ev]
          simp only [Option.bind_some]
          rw [v1, nI_s]
          cases r_ok p w n t (cF p) <;> rfl
        unfold F_Foresight_findRest_87
        rw [if_neg (nI_ge (by omega) (by omega))]
        by_cases q : r_bs p w n t = -1
        · refine ⟨V, v2, fun z hz => (v3 z hz).trans (hk z hz), ?_⟩
          rw [if_pos q, yes]
          simp only [r_bs]
          cases r_ok p w n t (cF p) with
          | true => rw [if_pos rfl, if_pos ⟨Or.inl q, rfl⟩]
          | false => rw [if_neg (by decide), if_neg (fun z => by cases z.2)]
        · rw [if_neg q]
          rcases r_bs_v (p := p) (w := w) (n := n) t with h | ⟨u, h1, h2⟩
          · exact absurd h q
          · have p1 := pop_le 32 t
            have p2 := pop_le 32 u
            have qu : ¬ nI u = -1 := by rw [← h2]; exact q
            by_cases z : pop 32 t < pop 32 u
            · refine ⟨V, v2, fun z hz => (v3 z hz).trans (hk z hz), ?_⟩
              rw [yes]
              simp only [r_bs]
              rw [h2, bitc_n (by omega), bitc_n (by omega), if_neg (nI_ge z (by omega)), nI_clamp (by omega)]
              cases r_ok p w n t (cF p) with
              | true => rw [if_pos rfl, if_pos ⟨Or.inr z, rfl⟩]
              | false => rw [if_neg (by decide), if_neg (fun z => by cases z.2)]
            · refine ⟨Y, hQ, hk, ?_⟩
              simp only [r_bs]
              rw [h2, bitc_n (by omega), bitc_n (by omega), if_pos (nI_le (by omega) (by omega)), nI_clamp (by omega), if_neg (fun y => y.1.elim qu z)]
              unfold F_Foresight_findRest_115
              rw [if_pos rfl, nI_s]
      obtain ⟨Z, z1, z2, z3⟩ := st
      have e1 : wl (fun s : Int32 × Int32 × MI => F_Foresight_findRest_87 sl s.2.2 (nI (2 ^ cF p)) s.1 s.2.1) (r_bs p w n t, nI t, Y) = wl (fun s : Int32 × Int32 × MI => F_Foresight_findRest_87 sl s.2.2 (nI (2 ^ cF p)) s.1 s.2.1) (r_bs p w n (t + 1), nI (t + 1), Z) := wl_st z3
      rw [e1]
      exact ih (t + 1) Z (by omega) z1 z2
  exact loop (2 ^ cF p) 0 X (by omega) h (fun _ _ => rfl)
end L99
