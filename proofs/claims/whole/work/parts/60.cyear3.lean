/-! a year passes in the class: ages, roots, all of it -/
section C60
variable {I X : MI} {k sl : Nat} {p : CF} {w : WD} {kl : List NT} {lg : Option Nat}
theorem WC_age {w' : WD} {f : Nat} {v : Int32} (h : WC X k w) (hf : f < 6) (h1 : wY w' = wY w) (h2 : wK w' = wK w) (h3 : ∀ f', f' < 6 → wA w' f' = if f' = f then v else wA w f') (h4 : wP w' = wP w) (h5 : ∀ f' c', f' < 6 → c' < 6 → wR w' f' c' = wR w f' c') : WC (gI_Lay_putAge X k (nI f) v) k w' := by
  obtain ⟨g1, g2, g3, g4, g5⟩ := h
  unfold gI_Lay_putAge
  rw [if_neg (nI_pos (by omega)), if_neg (show ¬ (6 : Int32) ≤ nI f from nI_ge hf (by decide)), nI_clamp (by omega)]
  refine ⟨?_, ?_, fun f' hf' => ?_, fun c' hc' => ?_, fun f' c' hf' hc' => ?_⟩
  · rw [up_k _ _ _ (by omega), h1]; exact g1
  · rw [up_k _ _ _ (by omega), h2]; exact g2
  · rw [h3 f' hf']
    by_cases e : f' = f
    · rw [if_pos e, e, up_e]
    · rw [if_neg e, up_j _ _ _ e]; exact g3 f' hf'
  · rw [up_k _ _ _ (by omega), h4]; exact g4 c' hc'
  · rw [up_k _ _ _ (by omega), h5 f' c' hf' hc']; exact g5 f' c' hf' hc'
theorem plant_c {w' : WD} {f C : Nat} (h : WC X k w) (hf : f < 6) (hC : C ≤ 6) (h1 : wY w' = wY w) (h2 : wK w' = wK w) (h3 : ∀ f', f' < 6 → wA w' f' = if f' = f then 0 else wA w f') (h4 : wP w' = wP w) (h5 : ∀ f' c', f' < 6 → c' < 6 → wR w' f' c' = if f' = f ∧ c' < C then 0 else wR w f' c') : WC (w_plant X k (nI f) (nI C)) k w' := by
  have key : ∀ n, n ≤ C → WC (l_plant X k (nI f) n) k (wY w, wK w, wA w, wP w, fun f' c' => if f' = f ∧ c' < n then 0 else wR w f' c') := by
    intro n
    induction n with
    | zero =>
      intro _
      obtain ⟨g1, g2, g3, g4, g5⟩ := h
      refine ⟨g1, g2, g3, g4, fun f' c' hf' hc' => ?_⟩
      show X (k + 3) _ = if f' = f ∧ c' < 0 then (0 : Int32) else wR w f' c'
      rw [if_neg (by omega)]; exact g5 f' c' hf' hc'
    | succ n ih =>
      intro hn
      simp only [l_plant]
      refine WC_put (ih (by omega)) hf (by omega) rfl rfl rfl rfl (fun f' c' hf' hc' => ?_)
      show (if f' = f ∧ c' < n + 1 then (0 : Int32) else wR w f' c') = if f' = f ∧ c' = n then 0 else (if f' = f ∧ c' < n then (0 : Int32) else wR w f' c')
      by_cases q1 : f' = f ∧ c' = n
      · rw [if_pos q1, if_pos (by omega)]
      · rw [if_neg q1]
        by_cases q2 : f' = f ∧ c' < n
        · rw [if_pos q2, if_pos (by omega)]
        · rw [if_neg q2, if_neg (by omega)]
  unfold w_plant
  rw [nI_clamp (by omega)]
  exact WC_age (key C (Nat.le_refl _)) hf h1 h2 h3 h4 h5
theorem plant_k (X : MI) (f b : Int32) {q : Nat} (h1 : q ≠ k + 1) (h3 : q ≠ k + 3) : w_plant X k f b q = X q := fr_plant (P := fun q => q = k + 1 ∨ q = k + 3) fr_refl (Or.inl rfl) (Or.inr rfl) q (by omega)
theorem putAge_k (X : MI) (f b : Int32) {q : Nat} (h1 : q ≠ k + 1) : gI_Lay_putAge X k f b q = X q := fr_putAge (P := fun q => q = k + 1) fr_refl rfl q h1
def a_w3 (p : CF) (w : WD) (n : Nat) : WD := (wY w, fun _ => 0, fun f => if f < n then (if a_rt p w f then 0 else a_age w f) else wA w f, wP w, fun f c => if f < n ∧ a_rt p w f = true then (if c < cC p then 0 else -1) else a_row p w f c)
/-- fence n is older, and has not rooted yet -/
def a_w4 (p : CF) (w : WD) (n : Nat) : WD := (wY w, fun _ => 0, fun f => if f = n then a_age w f else if f < n then (if a_rt p w f then 0 else a_age w f) else wA w f, wP w, fun f c => if f < n ∧ a_rt p w f = true then (if c < cC p then 0 else -1) else a_row p w f c)
theorem w4_O (hv : WO p w) (ho : CO p) (hR : cF p = 0 ∨ 0 < cR p) (n : Nat) : WO p (a_w4 p w n) := by
  have h := mid_O hv ho hR n
  refine ⟨hv.1, fun _ => Or.inl rfl, fun f => ?_, hv.2.2.2.1, h.2.2.2.2.1, h.2.2.2.2.2⟩
  show 0 ≤ (if f = n then a_age w f else if f < n then (if a_rt p w f then (0 : Int32) else a_age w f) else wA w f) ∧ (if f = n then a_age w f else if f < n then (if a_rt p w f then (0 : Int32) else a_age w f) else wA w f) ≤ 99
  split
  · exact a_age_b hv f
  · split
    · split
      · decide
      · exact a_age_b hv f
    · exact hv.2.2.1 f
theorem py2_c (ho : CO p) (hq : CQ p) (hR : cF p = 0 ∨ 0 < cR p) (hs : CC X sl p) (hd : CD X sl p) (hv : WO p w) (hsl : sl + 7 < 20) (hk : (20 ≤ k ∧ k ≤ 22) ∨ (28 ≤ k ∧ k ≤ 41)) (hg : ∀ g, lg = some g → 45 ≤ g) (hw : WC X k (a_w3 p w 0)) (hko : KO lg X kl) :
    ∀ n, n ≤ cF p → WC (py_2 lg X k sl n) k (a_w3 p w n) ∧ KO lg (py_2 lg X k sl n) (k_set p w lg.isNone n kl) := by
  have hC := ho.1; have hF := ho.2.2.1
  intro n
  induction n with
  | zero => intro _; exact ⟨hw, hko⟩
  | succ n ih =>
    intro hn
    obtain ⟨h1, h2⟩ := ih (by omega)
    have frn := fr_py2 lg X k sl n
    have frq : ∀ q, sl ≤ q → q ≤ sl + 7 → (py_2 lg X k sl n) q = X q := fun q a b => frn q (FP_sl hsl hk hg (by omega))
    simp only [py_2]
    generalize (py_2 lg X k sl n) = Y at *
    have ea : f_Math_min_II 99 (f_Lay_ageOf Y k (nI n) + 1) = a_age w n := by
      rw [age_c h1 (by omega)]
      show f_Math_min_II 99 ((if n < n then (if a_rt p w n then (0 : Int32) else a_age w n) else wA w n) + 1) = _
      rw [if_neg (by omega)]
      have hb := hv.2.2.1 n
      have b1 := hb.1; have b2 := hb.2
      unfold f_Math_min_II a_age
      split <;> split <;> grind
    have w4 : WC (py_age Y k (nI n)) k (a_w4 p w n) := by
      unfold py_age
      rw [ea]
      refine WC_age (w := a_w3 p w n) h1 (by omega) rfl rfl (fun f' hf' => ?_) rfl (fun _ _ _ _ => rfl)
      show (if f' = n then a_age w f' else if f' < n then (if a_rt p w f' then (0 : Int32) else a_age w f') else wA w f') = if f' = n then a_age w n else (if f' < n then (if a_rt p w f' then (0 : Int32) else a_age w f') else wA w f')
      by_cases e : f' = n
      · rw [if_pos e, if_pos e, e]
      · rw [if_neg e, if_neg e]
    have pk0 : ∀ q, q ≠ k + 1 → py_age Y k (nI n) q = Y q := fun q hq => putAge_k _ _ _ hq
    generalize py_age Y k (nI n) = Z at *
    have zq : ∀ q, sl ≤ q → q ≤ sl + 7 → Z q = X q := fun q a b => (pk0 q (by omega)).trans (frq q a b)
    have er : f_Walker_rootsAgain Z sl k (nI n) = bI (a_rt p w n) := by
      rw [roots_c ho hq (CC_c hs zq) (CD_c hd zq) (w4_O hv ho hR n) w4 hsl hk (by omega)]
      congr 1
      have e1 : wA (a_w4 p w n) n = a_age w n := by
        show (if n = n then a_age w n else _) = _
        rw [if_pos rfl]
      have e2 : wR (a_w4 p w n) n = a_row p w n := funext fun c => by
        show (if n < n ∧ a_rt p w n = true then (if c < cC p then (0 : Int32) else -1) else a_row p w n c) = _
        rw [if_neg (by omega)]
      rw [e1, e2]
      unfold a_rt
      rw [decide_eq_true (by omega : n < cF p)]; rfl
    rw [er]
    have gk : ∀ q, q ≠ 26 → q ≠ 27 → gI_Walker_rootsAgain Z sl k (nI n) q = Z q := fun q a b => roots_k _ _ _ _ a b
    generalize gI_Walker_rootsAgain Z sl k (nI n) = V at *
    have w4V : WC V k (a_w4 p w n) := WC_c w4 (fun q a b => gk q (by omega) (by omega))
    have koV : KO lg V (k_set p w lg.isNone n kl) := KO_c h2 (fun g q e h => by have := hg g e; rw [gk q (by omega) (by omega), pk0 q (by omega)])
    cases et : a_rt p w n with
    | false =>
      rw [if_pos (show bI false = 0 from rfl)]
      refine ⟨?_, ?_⟩
      · obtain ⟨g1, g2, g3, g4, g5⟩ := w4V
        refine ⟨g1, g2, fun f hf => ?_, g4, fun f c hf hc => ?_⟩
        · rw [g3 f hf]
          show (if f = n then a_age w f else if f < n then (if a_rt p w f then (0 : Int32) else a_age w f) else wA w f) = (if f < n + 1 then (if a_rt p w f then (0 : Int32) else a_age w f) else wA w f)
          by_cases e : f = n
          · rw [if_pos e, if_pos (by omega), e, et]; rfl
          · rw [if_neg e]
            by_cases q : f < n
            · rw [if_pos q, if_pos (show f < n + 1 by omega)]
            · rw [if_neg q, if_neg (show ¬ f < n + 1 by omega)]
        · rw [g5 f c hf hc]
          show (if f < n ∧ a_rt p w f = true then (if c < cC p then (0 : Int32) else -1) else a_row p w f c) = (if f < n + 1 ∧ a_rt p w f = true then (if c < cC p then (0 : Int32) else -1) else a_row p w f c)
          by_cases q : f < n ∧ a_rt p w f = true
          · have q2 : f < n + 1 ∧ a_rt p w f = true := ⟨by omega, q.2⟩
            rw [if_pos q, if_pos q2]
          · have q2 : ¬ (f < n + 1 ∧ a_rt p w f = true) := by
              rintro ⟨z1, z2⟩
              by_cases e : f = n
              · rw [e, et] at z2; cases z2
              · exact q ⟨by omega, z2⟩
            rw [if_neg q, if_neg q2]
      · simp only [k_set, et]; exact koV
    | true =>
      rw [if_neg (show ¬ bI true = 0 by decide)]
      have e1 : V sl 1 = nI (cC p) := by rw [gk sl (by omega) (by omega), zq sl (by omega) (by omega)]; exact hs.1
      rw [e1]
      have wp : WC (w_plant V k (nI n) (nI (cC p))) k (a_w3 p w (n + 1)) := by
        refine plant_c (w := a_w4 p w n) w4V (by omega) hC rfl rfl (fun f hf => ?_) rfl (fun f c hf hc => ?_)
        · show (if f < n + 1 then (if a_rt p w f then (0 : Int32) else a_age w f) else wA w f) = if f = n then 0 else (if f = n then a_age w f else if f < n then (if a_rt p w f then (0 : Int32) else a_age w f) else wA w f)
          by_cases e : f = n
          · rw [if_pos (by omega), if_pos e, e, et]; rfl
          · rw [if_neg e, if_neg e]
            by_cases q : f < n
            · rw [if_pos q, if_pos (show f < n + 1 by omega)]
            · rw [if_neg q, if_neg (show ¬ f < n + 1 by omega)]
        · show (if f < n + 1 ∧ a_rt p w f = true then (if c < cC p then (0 : Int32) else -1) else a_row p w f c) = if f = n ∧ c < cC p then 0 else (if f < n ∧ a_rt p w f = true then (if c < cC p then (0 : Int32) else -1) else a_row p w f c)
          by_cases e : f = n
          · have q2 : f < n + 1 ∧ a_rt p w f = true := ⟨by omega, by rw [e]; exact et⟩
            have q3 : ¬ (f < n ∧ a_rt p w f = true) := by omega
            rw [if_pos q2, if_neg q3]
            by_cases q4 : c < cC p
            · rw [if_pos q4, if_pos ⟨e, q4⟩]
            · rw [if_neg q4, if_neg (fun z => q4 z.2), a_row_x hv (Or.inr (by omega))]
          · rw [if_neg (show ¬ (f = n ∧ c < cC p) from fun z => e z.1)]
            by_cases q : f < n ∧ a_rt p w f = true
            · have q2 : f < n + 1 ∧ a_rt p w f = true := ⟨by omega, q.2⟩
              rw [if_pos q, if_pos q2]
            · have q2 : ¬ (f < n + 1 ∧ a_rt p w f = true) := fun z => q ⟨by omega, z.2⟩
              rw [if_neg q, if_neg q2]
      have kp : KO lg (w_plant V k (nI n) (nI (cC p))) (k_set p w lg.isNone n kl) := KO_c koV (fun g q e h => by have := hg g e; exact plant_k _ _ _ (by omega) (by omega))
      have yk : w_plant V k (nI n) (nI (cC p)) k 0 = wY w := wp.1
      refine ⟨WC_c wp (fun q a b => wnote_k (fun g e => by have := hg g e; omega)), ?_⟩
      have := wnote_c (k := k) (f := nI n) (c := 255) kp
      rw [yk] at this
      simp only [k_set, et]
      exact this
/-- a year of the class -/
theorem year_c (ho : CO p) (hq : CQ p) (hR : cF p = 0 ∨ 0 < cR p) (hs : CC X sl p) (hd : CD X sl p) (hv : WO p w) (hsl : sl + 7 < 20) (hk : (20 ≤ k ∧ k ≤ 22) ∨ (28 ≤ k ∧ k ≤ 41)) (hg : ∀ g, lg = some g → 45 ≤ g) (hw : WC X k w) (hko : KO lg X kl) (hy : wY w < 999) :
    WC (py_year lg X k sl) k (a_year p w) ∧ KO lg (py_year lg X k sl) (a_kept p w lg.isNone kl) ∧ py_went lg X k sl = nI (a_went p w) := by
  have hC := ho.1; have hF := ho.2.2.1
  obtain ⟨a1, a2, a3⟩ := py1_c ho hq hs hd hv hsl hk hg hw hko (cF p) (Nat.le_refl _)
  have e3 : (X sl 3).toNatClampNeg = cF p := by rw [hs.2.2.1, nI_clamp (by omega)]
  have wa : WC (py_a lg X k sl) k (a_w3 p w 0) := by
    unfold py_a
    rw [e3]
    obtain ⟨g1, g2, g3, g4, g5⟩ := a1
    refine ⟨?_, ?_, fun f hf => ?_, fun c hc => ?_, fun f c hf hc => ?_⟩
    · rw [up_j _ _ _ (by decide)]; exact g1
    · rw [up_e]; rfl
    · rw [up_k _ _ _ (by omega), g3 f hf]
      show wA w f = (if f < 0 then (if a_rt p w f then (0 : Int32) else a_age w f) else wA w f)
      rw [if_neg (by omega)]
    · rw [up_k _ _ _ (by omega)]; exact g4 c hc
    · rw [up_k _ _ _ (by omega), g5 f c hf hc]
      show (if f < cF p ∨ (f = cF p ∧ c < 0) then a_row p w f c else wR w f c) = (if f < 0 ∧ a_rt p w f = true then (if c < cC p then (0 : Int32) else -1) else a_row p w f c)
      rw [if_neg (show ¬ (f < 0 ∧ a_rt p w f = true) by omega)]
      by_cases q : f < cF p
      · rw [if_pos (by omega)]
      · rw [if_neg (by omega), a_row_x hv (Or.inl (by omega)), hv.2.2.2.2.2 f c (Or.inl (by omega))]
  have fra := fr_pya lg X k sl
  have frq : ∀ q, sl ≤ q → q ≤ sl + 7 → (py_a lg X k sl) q = X q := fun q a b => fra q (FP_sl hsl hk hg (by omega))
  have ka : KO lg (py_a lg X k sl) (k_all p w lg.isNone (cF p) kl) := KO_c a2 (fun g q e h => by
    have := hg g e
    unfold py_a
    rw [e3]
    exact up_k _ _ _ (by omega))
  obtain ⟨b1, b2⟩ := py2_c ho hq hR (CC_c hs frq) (CD_c hd frq) hv hsl hk hg wa ka (cF p) (Nat.le_refl _)
  have eb : py_b lg X k sl = py_2 lg (py_a lg X k sl) k sl (cF p) := by unfold py_b; rw [e3]
  refine ⟨?_, ?_, ?_⟩
  · unfold py_year
    rw [eb]
    obtain ⟨g1, g2, g3, g4, g5⟩ := b1
    refine ⟨?_, ?_, fun f hf => ?_, fun c hc => ?_, fun f c hf hc => ?_⟩
    · rw [up_e, g1]
      show f_Math_min_II 999 (wY w + 1) = wY w + 1
      have y0 := hv.1.1
      unfold f_Math_min_II
      split
      · rfl
      · grind
    · rw [up_j _ _ _ (by decide)]; exact g2
    · rw [up_k _ _ _ (by omega)]; exact g3 f hf
    · rw [up_k _ _ _ (by omega)]; exact g4 c hc
    · rw [up_k _ _ _ (by omega), g5 f c hf hc]
      show (if f < cF p ∧ a_rt p w f = true then (if c < cC p then (0 : Int32) else -1) else a_row p w f c) = (if a_rt p w f then (if c < cC p then (0 : Int32) else -1) else a_row p w f c)
      cases er : a_rt p w f
      · rw [if_neg (by simp), if_neg (by simp)]
      · rw [if_pos ⟨a_rt_F er, rfl⟩, if_pos rfl]
  · unfold py_year
    rw [eb]
    exact KO_c b2 (fun g q e h => by have := hg g e; exact up_k _ _ _ (by omega))
  · unfold py_went
    rw [e3]; exact a3
end C60
