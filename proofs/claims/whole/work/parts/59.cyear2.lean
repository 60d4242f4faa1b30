/-! a year passes in the class -/
section C59
variable {I X : MI} {k sl : Nat} {p : CF} {w : WD} {kl : List NT} {lg : Option Nat}
/-- those ahead of f, and ahead of n of f, have walked -/
def a_w2 (p : CF) (w : WD) (f n : Nat) : WD := (wY w, wK w, wA w, wP w, fun f' c => if f' < f ∨ (f' = f ∧ c < n) then a_row p w f' c else wR w f' c)
theorem WC_put {w' : WD} {f c : Nat} {v : Int32} (h : WC X k w) (hf : f < 6) (hc : c < 6) (h1 : wY w' = wY w) (h2 : wK w' = wK w) (h3 : wA w' = wA w) (h4 : wP w' = wP w) (h5 : ∀ f' c', f' < 6 → c' < 6 → wR w' f' c' = if f' = f ∧ c' = c then v else wR w f' c') : WC (w_putStake X k (nI f) (nI c) v) k w' := by
  obtain ⟨g1, g2, g3, g4, g5⟩ := h
  unfold w_putStake
  rw [if_pos (is_st hf hc), ad_76, nI_clamp (by omega)]
  refine ⟨?_, ?_, fun f' hf' => ?_, fun c' hc' => ?_, fun f' c' hf' hc' => ?_⟩
  · rw [up_k _ _ _ (by omega), h1]; exact g1
  · rw [up_k _ _ _ (by omega), h2]; exact g2
  · rw [up_k _ _ _ (by omega), h3]; exact g3 f' hf'
  · rw [up_k _ _ _ (by omega), h4]; exact g4 c' hc'
  · rw [h5 f' c' hf' hc']
    by_cases e : f' = f ∧ c' = c
    · rw [if_pos e, e.1, e.2, up_e]
    · rw [if_neg e, up_j _ _ _ (by omega)]; exact g5 f' c' hf' hc'
theorem oI_m1 {o : Option Nat} (h : ∀ r, o = some r → r < 1000) : oI o = -1 ↔ o = none := by
  cases o with
  | none => exact ⟨fun _ => rfl, fun _ => rfl⟩
  | some r =>
    have := h r rfl
    constructor
    · intro z
      have z : nI r = -1 := z
      have := congrArg Int32.toInt z
      rw [nI_toInt (by omega)] at this
      have e : (-1 : Int32).toInt = -1 := by decide
      omega
    · intro z; cases z
theorem a_o_lt (hv : WO p w) (ho : CO p) {f c : Nat} (h : ¬ wR w f c = -1) : ∀ r, a_o p w f c = some r → r < 1000 := by
  intro r' e
  obtain ⟨r, hr, e1, e2⟩ := rowN hv ho h
  unfold a_o at e
  rw [e2] at e
  have := w_n_lt _ _ _ hr e
  have := ho.2.1
  omega
theorem wf_c (ho : CO p) (hq : CQ p) (hs : CC X sl p) (hd : CD X sl p) (hv : WO p w) (hsl : sl + 7 < 20) (hk : (20 ≤ k ∧ k ≤ 22) ∨ (28 ≤ k ∧ k ≤ 41)) (hg : ∀ g, lg = some g → 45 ≤ g) {f : Nat} (hf : f < cF p) (hw : WC X k (a_w2 p w f 0)) (hcut : ¬ wK w f = 1) (hko : KO lg X kl) :
    ∀ n, n ≤ cC p → WC (l_wf lg X k sl (nI f) n).2 k (a_w2 p w f n) ∧ KO lg (l_wf lg X k sl (nI f) n).2 (k_row p w lg.isNone f n kl) ∧ (l_wf lg X k sl (nI f) n).1 = nI (sm (fun c => if a_goes p w f c then 1 else 0) n) ∧ (l_wf lg X k sl (nI f) n).2 27 6 = wA w f ∧ (l_wf lg X k sl (nI f) n).2 27 11 = wY w := by
  have hC := ho.1; have hF := ho.2.2.1; have hR := ho.2.1
  intro n
  induction n with
  | zero =>
    intro _
    refine ⟨WC_c hw (fun q h1 h2 => ?_), KO_c hko (fun g q e h => ?_), rfl, ?_, ?_⟩
    · show m_up (m_up X 27 6 _) 27 11 _ q = X q
      rw [up_k _ _ _ (by omega), up_k _ _ _ (by omega)]
    · show m_up (m_up X 27 6 _) 27 11 _ q = X q
      have := hg g e
      rw [up_k _ _ _ (by omega), up_k _ _ _ (by omega)]
    · show m_up (m_up X 27 6 (f_Lay_ageOf X k (nI f))) 27 11 ((m_up X 27 6 (f_Lay_ageOf X k (nI f))) k 0) 27 6 = _
      rw [up_j _ _ _ (by decide), up_e, age_c hw (by omega)]; rfl
    · show m_up (m_up X 27 6 (f_Lay_ageOf X k (nI f))) 27 11 ((m_up X 27 6 (f_Lay_ageOf X k (nI f))) k 0) 27 11 = _
      rw [up_e, up_k _ _ _ (by omega), hw.1]; rfl
  | succ n ih =>
    intro hn
    obtain ⟨h1, h2, h3, h4, h5⟩ := ih (by omega)
    have frn : fr (FP k lg) (l_wf lg X k sl (nI f) n).2 X := fr_wf lg X k sl (nI f) n
    have frq : ∀ q, sl ≤ q → q ≤ sl + 7 → (l_wf lg X k sl (nI f) n).2 q = X q := fun q a b => frn q (by
      unfold FP
      rintro (h | h | h | h | h | ⟨g, e, h⟩)
      · omega
      · omega
      · omega
      · omega
      · omega
      · have := hg g e; omega)
    simp only [l_wf]
    generalize (l_wf lg X k sl (nI f) n) = Y at *
    obtain ⟨y1, Y⟩ := Y
    dsimp only at *
    have r0 : wR (a_w2 p w f n) f n = wR w f n := by
      show (if f < f ∨ (f = f ∧ n < n) then a_row p w f n else wR w f n) = _
      rw [if_neg (by omega)]
    rw [row_c h1 (by omega) (by omega), r0]
    by_cases c1 : wR w f n = -1
    · have ga : a_goes p w f n = false := by unfold a_goes; rw [c1]; simp
      have ra : a_row p w f n = -1 := by unfold a_row; rw [if_pos c1]
      rw [if_pos c1]
      dsimp only
      refine ⟨?_, ?_, ?_, h4, h5⟩
      · obtain ⟨g1, g2, g3, g4, g5⟩ := h1
        refine ⟨g1, g2, g3, g4, fun f' c' hf' hc' => ?_⟩
        rw [g5 f' c' hf' hc']
        show (if f' < f ∨ (f' = f ∧ c' < n) then a_row p w f' c' else wR w f' c') = (if f' < f ∨ (f' = f ∧ c' < n + 1) then a_row p w f' c' else wR w f' c')
        by_cases q : f' < f ∨ (f' = f ∧ c' < n)
        · rw [if_pos q, if_pos (by omega)]
        · rw [if_neg q]
          by_cases q2 : f' = f ∧ c' = n
          · rw [if_pos (by omega), q2.1, q2.2, ra, c1]
          · rw [if_neg (by omega)]
      · simp only [k_row, ga]; exact h2
      · simp only [sm, ga]; exact h3
    · rw [if_neg c1]
      obtain ⟨r, hr, e3, e4⟩ := rowN hv ho c1
      obtain ⟨q, hq2, e5, e6⟩ := postN hv n
      have hpn := a_pn_le ho (wA w f) (wY w) n (wR w f n)
      have ha : a_o p w f n = w_n q (cR p) (a_pn p (wA w f) (wY w) n (wR w f n)) r := by
        unfold a_o
        rw [e6, e4, if_neg hcut]
      have ra : a_row p w f n = oI (a_o p w f n) := by unfold a_row; rw [if_neg c1]
      have hsY : CC Y sl p := CC_c hs frq
      have hdY : CD Y sl p := CD_c hd frq
      have hpc : f_Walker_paces Y sl (nI n) (wR w f n) = nI (a_pn p (wA w f) (wY w) n (wR w f n)) := paces_c ho hq hsY hdY hv hsl (by omega) h4 h5
      have to : wf_to Y k sl (nI f) (nI n) = oI (a_o p w f n) := by
        unfold wf_to
        rw [row_c h1 (by omega) (by omega), r0, posts_c h1 (by omega), hpc]
        show f_Walker_landing _ sl (wP w n) _ _ = _
        rw [e5, e3, land_c hq2 hR hr (by rw [← e3]; exact hpn) (by rw [paces_k _ _ _ _ (by omega) (by omega)]; exact hsY.2.1), ← e3, ha]
      rw [to]
      have pu : WC (wf_put Y k sl (nI f) (nI n)) k (a_w2 p w f (n + 1)) := by
        unfold wf_put
        rw [row_c h1 (by omega) (by omega), r0, to]
        refine WC_put (w := a_w2 p w f n) (WC_c h1 (fun q a b => paces_k _ _ _ _ (by omega) (by omega))) (by omega) (by omega) rfl rfl rfl rfl (fun f' c' hf' hc' => ?_)
        show (if f' < f ∨ (f' = f ∧ c' < n + 1) then a_row p w f' c' else wR w f' c') = if f' = f ∧ c' = n then oI (a_o p w f n) else (if f' < f ∨ (f' = f ∧ c' < n) then a_row p w f' c' else wR w f' c')
        by_cases q2 : f' = f ∧ c' = n
        · rw [if_pos (by omega), if_pos q2, q2.1, q2.2, ra]
        · rw [if_neg q2]
          by_cases q : f' < f ∨ (f' = f ∧ c' < n)
          · rw [if_pos q, if_pos (by omega)]
          · rw [if_neg q, if_neg (by omega)]
      have pk1 : ∀ q, q ≠ 26 → q ≠ 27 → q ≠ k + 3 → wf_put Y k sl (nI f) (nI n) q = Y q := fun q a b c => by
        unfold wf_put
        exact (fr_putStake (P := fun q => q = k + 3) (I := gI_Walker_paces Y sl (nI n) (v_rowOf Y k (nI f) (nI n))) fr_refl rfl q c).trans (paces_k _ _ _ _ a b)
      have p27 : ∀ j, j ≠ 2 → j ≠ 5 → wf_put Y k sl (nI f) (nI n) 27 j = Y 27 j := fun j a b => by
        unfold wf_put
        rw [fr_putStake (P := fun q => q = k + 3) (I := gI_Walker_paces Y sl (nI n) (v_rowOf Y k (nI f) (nI n))) fr_refl rfl 27 (by omega)]
        exact paces_27 _ _ _ _ a b
      have kp : KO lg (wf_put Y k sl (nI f) (nI n)) (k_row p w lg.isNone f n kl) := KO_c h2 (fun g q e h => by have := hg g e; exact pk1 q (by omega) (by omega) (by omega))
      have yk : wf_put Y k sl (nI f) (nI n) k 0 = wY w := pu.1
      by_cases c2 : oI (a_o p w f n) = -1
      · rw [if_pos c2]
        dsimp only
        have on := (oI_m1 (a_o_lt hv ho c1)).mp c2
        have ga : a_goes p w f n = true := by unfold a_goes; rw [on]; simp [c1]
        have nk : ∀ q, (q ≤ 44) → wf_note lg (wf_put Y k sl (nI f) (nI n)) k (nI f) (nI n) q = wf_put Y k sl (nI f) (nI n) q := fun q hq => wnote_k (fun g e => by have := hg g e; omega)
        refine ⟨WC_c pu (fun q a b => nk q (by omega)), ?_, ?_, ?_, ?_⟩
        · have := wnote_c (k := k) (f := nI f) (c := nI n) kp
          rw [yk] at this
          simp only [k_row, ga]
          exact this
        · simp only [sm, ga]
          rw [h3]; exact nI_s _
        · rw [nk 27 (by omega), p27 6 (by decide) (by decide)]; exact h4
        · rw [nk 27 (by omega), p27 11 (by decide) (by decide)]; exact h5
      · rw [if_neg c2]
        dsimp only
        have ga : a_goes p w f n = false := by
          unfold a_goes
          cases e : a_o p w f n with
          | none => exact absurd ((oI_m1 (a_o_lt hv ho c1)).mpr e) c2
          | some z => simp
        refine ⟨pu, ?_, ?_, ?_, ?_⟩
        · simp only [k_row, ga]; exact kp
        · simp only [sm, ga]; exact h3
        · rw [p27 6 (by decide) (by decide)]; exact h4
        · rw [p27 11 (by decide) (by decide)]; exact h5
theorem msk_le (K : Nat → Int32) : ∀ n, n ≤ 6 → ∃ m, m < 64 ∧ a_msk K n = nI m ∧ ∀ f, f < 6 → m / 2 ^ f % 2 = if f < n ∧ K f = 1 then 1 else 0 := by
  intro n
  induction n with
  | zero => intro _; exact ⟨0, by decide, rfl, fun f _ => by rw [if_neg (by omega)]; simp⟩
  | succ n ih =>
    intro hn
    obtain ⟨m, h1, h2, h3⟩ := ih (by omega)
    simp only [a_msk]
    by_cases q : K n = 1
    · rw [if_pos q, h2]
      have key : ∀ n, n < 6 → ∀ m, m < 64 → m / 2 ^ n % 2 = 0 → (nI m ||| ((1 : Int32) <<< (nI n &&& 31))) = nI (m + 2 ^ n) ∧ m + 2 ^ n < 64 ∧ ∀ f, f < 6 → (m + 2 ^ n) / 2 ^ f % 2 = if f = n then 1 else m / 2 ^ f % 2 := by decide +kernel
      have h0 := h3 n (by omega)
      rw [if_neg (by omega)] at h0
      obtain ⟨k1, k2, k3⟩ := key n (by omega) m h1 h0
      refine ⟨m + 2 ^ n, k2, k1, fun f hf => ?_⟩
      rw [k3 f hf]
      by_cases e : f = n
      · rw [if_pos e, if_pos ⟨by omega, by rw [e]; exact q⟩]
      · rw [if_neg e, h3 f hf]
        by_cases z : f < n ∧ K f = 1
        · rw [if_pos z, if_pos ⟨by omega, z.2⟩]
        · rw [if_neg z, if_neg (fun y => z ⟨by omega, y.2⟩)]
    · rw [if_neg q]
      refine ⟨m, h1, h2, fun f hf => ?_⟩
      rw [h3 f hf]
      by_cases e : f = n
      · rw [e, if_neg (by omega), if_neg (fun y => q y.2)]
      · by_cases z : f < n ∧ K f = 1
        · rw [if_pos z, if_pos ⟨by omega, z.2⟩]
        · rw [if_neg z, if_neg (fun y => z ⟨by omega, y.2⟩)]
theorem cut_c (hw : WC X k w) {f : Nat} (hf : f < 6) : f_Lay_isCut X k (nI f) = if wK w f = 1 then 1 else 0 := by
  unfold f_Lay_isCut
  obtain ⟨m, h1, h2, h3⟩ := msk_le (wK w) 6 (by omega)
  rw [if_neg (nI_pos (by omega)), if_neg (show ¬ (6 : Int32) ≤ nI f from nI_ge hf (by decide)), hw.2.1, h2]
  have h4 := h3 f hf
  by_cases q : wK w f = 1
  · rw [if_pos ⟨hf, q⟩] at h4
    rw [if_pos q, if_neg (fun z => by have := (bit_0 (by omega) (by omega)).mp z; omega)]
  · rw [if_neg (fun z => q z.2)] at h4
    rw [if_neg q, if_pos ((bit_0 (by omega) (by omega)).mpr h4)]
theorem FP_sl {q : Nat} (hsl : sl + 7 < 20) (hk : (20 ≤ k ∧ k ≤ 22) ∨ (28 ≤ k ∧ k ≤ 41)) (hg : ∀ g, lg = some g → 45 ≤ g) (h : q < 20) : ¬ FP k lg q := by
  unfold FP
  rintro (h | h | h | h | h | ⟨g, e, h⟩)
  · omega
  · omega
  · omega
  · omega
  · omega
  · have := hg g e; omega
theorem py1_c (ho : CO p) (hq : CQ p) (hs : CC X sl p) (hd : CD X sl p) (hv : WO p w) (hsl : sl + 7 < 20) (hk : (20 ≤ k ∧ k ≤ 22) ∨ (28 ≤ k ∧ k ≤ 41)) (hg : ∀ g, lg = some g → 45 ≤ g) (hw : WC X k w) (hko : KO lg X kl) :
    ∀ n, n ≤ cF p → WC (py_1 lg X k sl n).2 k (a_w2 p w n 0) ∧ KO lg (py_1 lg X k sl n).2 (k_all p w lg.isNone n kl) ∧ (py_1 lg X k sl n).1 = nI (sm (fun f => sm (fun c => if a_goes p w f c then 1 else 0) (cC p)) n) := by
  have hC := ho.1; have hF := ho.2.2.1
  intro n
  induction n with
  | zero =>
    intro _
    refine ⟨?_, hko, rfl⟩
    obtain ⟨g1, g2, g3, g4, g5⟩ := hw
    refine ⟨g1, g2, g3, g4, fun f c hf hc => ?_⟩
    show X (k + 3) _ = (if f < 0 ∨ (f = 0 ∧ c < 0) then a_row p w f c else wR w f c)
    rw [if_neg (by omega)]; exact g5 f c hf hc
  | succ n ih =>
    intro hn
    obtain ⟨h1, h2, h3⟩ := ih (by omega)
    have frn := fr_py1 lg X k sl n
    have frq : ∀ q, sl ≤ q → q ≤ sl + 7 → (py_1 lg X k sl n).2 q = X q := fun q a b => frn q (FP_sl hsl hk hg (by omega))
    simp only [py_1]
    generalize (py_1 lg X k sl n) = Y at *
    obtain ⟨y1, Y⟩ := Y
    dsimp only at *
    have nx : ∀ Z : MI, WC Z k (a_w2 p w n (cC p)) → WC Z k (a_w2 p w (n + 1) 0) := by
      rintro Z ⟨g1, g2, g3, g4, g5⟩
      refine ⟨g1, g2, g3, g4, fun f c hf hc => ?_⟩
      rw [g5 f c hf hc]
      show (if f < n ∨ (f = n ∧ c < cC p) then a_row p w f c else wR w f c) = (if f < n + 1 ∨ (f = n + 1 ∧ c < 0) then a_row p w f c else wR w f c)
      by_cases q : f < n ∨ (f = n ∧ c < cC p)
      · rw [if_pos q, if_pos (by omega)]
      · rw [if_neg q]
        by_cases q2 : f = n
        · rw [if_pos (by omega), a_row_x hv (Or.inr (by omega)), hv.2.2.2.2.2 f c (Or.inr (by omega))]
        · rw [if_neg (by omega)]
    have ec : f_Lay_isCut Y k (nI n) = if wK w n = 1 then 1 else 0 := cut_c h1 (by omega)
    rw [ec]
    by_cases c1 : wK w n = 1
    · rw [if_pos c1, if_neg (by decide)]
      dsimp only
      have gz : ∀ c, a_goes p w n c = false := fun c => by
        unfold a_goes a_o
        rw [if_pos c1]
        simp [w_n]
      refine ⟨nx Y ?_, ?_, ?_⟩
      · obtain ⟨g1, g2, g3, g4, g5⟩ := h1
        refine ⟨g1, g2, g3, g4, fun f c hf hc => ?_⟩
        rw [g5 f c hf hc]
        show (if f < n ∨ (f = n ∧ c < 0) then a_row p w f c else wR w f c) = (if f < n ∨ (f = n ∧ c < cC p) then a_row p w f c else wR w f c)
        by_cases q : f < n
        · rw [if_pos (by omega), if_pos (by omega)]
        · rw [if_neg (by omega)]
          by_cases q2 : f = n ∧ c < cC p
          · rw [if_pos (by omega), q2.1]
            unfold a_row
            by_cases q3 : wR w n c = -1
            · rw [if_pos q3]; exact q3
            · obtain ⟨r, hr, e1, e2⟩ := rowN hv ho q3
              rw [if_neg q3]
              unfold a_o
              rw [if_pos c1, e2]
              exact e1
          · rw [if_neg (by omega)]
      · simp only [k_all]
        have : ∀ m kl, k_row p w lg.isNone n m kl = kl := by
          intro m kl
          induction m with
          | zero => rfl
          | succ m ihm => simp only [k_row]; rw [gz m, if_neg (by decide)]; exact ihm
        rw [this]; exact h2
      · simp only [sm]
        have z : sm (fun c => if a_goes p w n c then 1 else 0) (cC p) = 0 := by rw [sm_c (g := fun _ => 0) (fun c _ => by rw [gz c]; rfl), sm_0]
        rw [z]; exact h3
    · rw [if_neg c1, if_pos rfl]
      dsimp only
      have e1 : Y sl 1 = nI (cC p) := by rw [frq sl (by omega) (by omega)]; exact hs.1
      rw [e1, nI_clamp (by omega)]
      obtain ⟨g1, g2, g3, g4, g5⟩ := wf_c ho hq (CC_c hs frq) (CD_c hd frq) hv hsl hk hg (f := n) (by omega) h1 c1 h2 (cC p) (Nat.le_refl _)
      refine ⟨nx _ g1, g2, ?_⟩
      show y1 + _ = _
      rw [g3, h3, nI_add]; rfl
end C59
