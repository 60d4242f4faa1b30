/-! irons: the class treads, tries -/
section L96
variable {I X Y Z : MI} {J : MJ} {k o sl sd : Nat} {p : CF} {w : WD} {kl : List NT} {un : List (WD × List NT)}
theorem tb_c (ho : CO p) (hQ : CQ p) (hq : sl = 3 ∨ sl = 11) (hs : CC X sl p) (hd : CD X sl p) (hv : WO p w) (hw : WC X 31 w) {f : Nat} (hf : f < 6) : ∀ n, n ≤ 6 → (tb X sl (nI f) n) 27 6 = wA w f ∧ (tb X sl (nI f) n) 27 11 = wY w ∧ ∀ c r, c < 6 → r < 30 → bt (tb X sl (nI f) n 43 c) r = false → bt (X 43 c) r = false ∧ (c < n → a_ut1 p w c r f) := by
  intro n
  induction n with
  | zero =>
    intro _
    simp only [tb]
    refine ⟨?_, ?_, fun c r hc hr h => ?_⟩
    · rw [up_j _ _ _ (by decide), up_e]; exact age_c hw hf
    · rw [up_e, up_k _ _ _ (by decide)]; exact hw.1
    · rw [up_k _ _ _ (by decide), up_k _ _ _ (by decide)] at h
      exact ⟨h, fun z => by omega⟩
  | succ n ih =>
    intro hn
    obtain ⟨h1, h2, h3⟩ := ih (by omega)
    have hfr := tb_fr X sl (nI f) n
    simp only [tb]
    generalize tb X sl (nI f) n = Y at *
    have wY' : WC Y 31 w := WC_c hw (fun q a b => hfr q (by unfold FB; omega))
    have sY : CC Y sl p := CC_c hs (fun q a b => hfr q (by unfold FB; omega))
    have dY : CD Y sl p := CD_c hd (fun q a b => hfr q (by unfold FB; omega))
    rw [row_c wY' hf (by omega)]
    by_cases c1 : wR w f n = -1
    · rw [if_pos c1]
      refine ⟨h1, h2, fun c r hc hr h => ?_⟩
      obtain ⟨a, b⟩ := h3 c r hc hr h
      refine ⟨a, fun z => ?_⟩
      by_cases e : c = n
      · subst e; exact Or.inl c1
      · exact b (by omega)
    · rw [if_neg c1, paces_c ho hQ sY dY hv (by omega) (by omega) h1 h2]
      have p43 := paces_k Y sl (nI n) (wR w f n) (q := 43) (by decide) (by decide)
      refine ⟨?_, ?_, fun c r hc hr h => ?_⟩
      · rw [up_k _ _ _ (by decide), paces_27 _ _ _ _ (by decide) (by decide)]; exact h1
      · rw [up_k _ _ _ (by decide), paces_27 _ _ _ _ (by decide) (by decide)]; exact h2
      · by_cases e : c = n
        · subst e
          rw [up_e, p43, b_or, Bool.or_eq_false_iff] at h
          obtain ⟨a, b⟩ := h3 c r hc hr h.1
          obtain ⟨r0, z1, z2, z3⟩ := rowN hv ho c1
          have hR := ho.2.1
          refine ⟨a, fun _ => ?_⟩
          have hb := h.2
          have pl := a_pn_le ho (wA w f) (wY w) c (wR w f c)
          unfold a_ut1
          rw [z3]
          generalize a_pn p (wA w f) (wY w) c (wR w f c) = m at *
          rw [z2, reach_e (by omega) (by omega) (by omega)] at hb
          right
          by_cases q : r < r0
          · exact Or.inl q
          · right
            rw [decide_eq_true (show r0 ≤ r by omega), Bool.true_and] at hb
            have := of_decide_eq_false hb
            omega
        · rw [up_j _ _ _ e, p43] at h
          obtain ⟨a, b⟩ := h3 c r hc hr h
          exact ⟨a, fun z => b (by omega)⟩
theorem trin_fr (X : MI) (sl : Nat) : ∀ q, fr FB (tr_in X sl q) X := by
  intro q
  induction q with
  | zero => exact fr_refl
  | succ q ih => exact fr_trans (tb_fr _ _ _ _) ih
theorem trin_c (ho : CO p) (hQ : CQ p) (hq : sl = 3 ∨ sl = 11) (hs : CC X sl p) (hd : CD X sl p) (hv : WO p w) (hw : WC X 31 w) : ∀ q, q ≤ cF p → ∀ c r, c < cC p → r < 30 → bt (tr_in X sl q 43 c) r = false → bt (X 43 c) r = false ∧ ∀ f, f < q → a_ut1 p w c r f := by
  have hF := ho.2.2.1; have hC := ho.1
  intro q
  induction q with
  | zero => intro _ c r _ _ h; exact ⟨h, fun f hf => by omega⟩
  | succ q ih =>
    intro hq1 c r hc hr h
    have hfr := trin_fr X sl q
    have ih := ih (by omega) c r hc hr
    simp only [tr_in] at h
    generalize tr_in X sl q = Y at *
    have wY' : WC Y 31 w := WC_c hw (fun q a b => hfr q (by unfold FB; omega))
    have sY : CC Y sl p := CC_c hs (fun q a b => hfr q (by unfold FB; omega))
    have dY : CD Y sl p := CD_c hd (fun q a b => hfr q (by unfold FB; omega))
    have eN : tb_N (Y sl 1) = cC p := by unfold tb_N; rw [sY.1, nI_clamp (by omega)]; omega
    rw [eN] at h
    obtain ⟨a, b⟩ := (tb_c ho hQ hq sY dY hv wY' (f := q) (by omega) (cC p) hC).2.2 c r (by omega) hr h
    obtain ⟨a2, b2⟩ := ih a
    refine ⟨a2, fun f hf => ?_⟩
    by_cases e : f = q
    · subst e; exact b hc
    · exact b2 f (by omega)
theorem tr_all (ho : CO p) (hQ : CQ p) (hR : cF p = 0 ∨ 0 < cR p) (hq : sl = 3 ∨ sl = 11) (hs : CC I sl p) (hd : CD I sl p) (hv : WO p w) (hw : WC I 20 w) {y : Nat} (hy : wY w = nI y) : ∀ n, y + n ≤ 999 → WC (tr I sl n) 31 (a_it p w n) ∧ ∀ c r, c < cC p → r < 30 → bt (tr I sl n 43 c) r = false → ∀ i, i < n → a_ut p (a_it p w i) c r := by
  have hF := ho.2.2.1; have hC := ho.1
  intro n
  induction n with
  | zero =>
    intro _
    refine ⟨?_, fun c r _ _ _ i hi => by omega⟩
    have f0 : fr (fun q => q = 43) (m_fil I 43 0 6) I := fr_fil fr_refl rfl
    exact take_c (WC_c hw (fun q a b => f0 q (by show ¬ q = 43; omega))) (by omega)
  | succ n ih =>
    intro hn
    obtain ⟨h1, h2⟩ := ih (by omega)
    have hfr := fr_tr I sl n
    simp only [tr]
    rw [hs.2.2.1, nI_clamp (by omega)]
    generalize tr I sl n = Y at *
    have sY : CC Y sl p := CC_c hs (fun q a b => hfr q (by unfold FU FT; omega))
    have dY : CD Y sl p := CD_c hd (fun q a b => hfr q (by unfold FU FT; omega))
    have hO := it_O ho hR hv hy n (by omega)
    have hY : wY (a_it p w n) < 999 := by rw [it_Y, hy, nI_add]; exact nI_lt (b := 999) (by omega) (by decide)
    have h3 := trin_c ho hQ hq sY dY hO h1 (cF p) (Nat.le_refl _)
    have hfr2 := trin_fr Y sl (cF p)
    generalize tr_in Y sl (cF p) = Z at *
    have wZ : WC Z 31 (a_it p w n) := WC_c h1 (fun q a b => hfr2 q (by unfold FB; omega))
    have sZ : CC Z sl p := CC_c sY (fun q a b => hfr2 q (by unfold FB; omega))
    have dZ : CD Z sl p := CD_c dY (fun q a b => hfr2 q (by unfold FB; omega))
    refine ⟨(year_c (kl := []) (lg := none) ho hQ hR sZ dZ hO (by omega) (by omega) (fun g e => by cases e) wZ trivial hY).1, fun c r hc hr h i hi => ?_⟩
    have f4 : fr FT (py_year none Z 31 sl) Z := fr_yearT fr_refl
    rw [f4 43 (by unfold FT; omega)] at h
    obtain ⟨a, b⟩ := h3 c r hc hr h
    by_cases e : i = n
    · subst e
      intro f
      by_cases e2 : f < cF p
      · exact b f e2
      · exact Or.inl (hO.2.2.2.2.2 f c (Or.inl (by omega)))
    · exact h2 c r hc hr a i (by omega)
/-- what findIron keeps while it tries -/
def IV (Y Z : MI) (f n : Nat) (s : NT) : Prop := fr FV Y Z ∧ Y 30 7 = nI f ∧ Y 30 8 = nI n ∧ (Y 30 9, Y 30 10, Y 30 11) = s
theorem drv_c (h : WC X 31 w) {c r : Nat} (hc : c < 6) (hr : r < 30) : WC (gI_Lay_drive X 31 (nI c) (nI r)) 31 (a_drv w c r) := by
  have eD : gI_Lay_drive X 31 (nI c) (nI r) = m_up X 33 c ((X 33 c) ||| ((1 : Int32) <<< (nI r &&& 31))) := by
    unfold gI_Lay_drive
    rw [if_neg (nI_pos (by omega)), if_neg (show ¬ (6 : Int32) ≤ nI c from nI_ge (b := 6) (by omega) (by decide)), if_neg (nI_pos (by omega)), if_neg (show ¬ (30 : Int32) ≤ nI r from nI_ge (b := 30) (by omega) (by decide)), nI_clamp (by omega)]
  rw [eD]
  obtain ⟨g1, g2, g3, g4, g5⟩ := h
  refine ⟨?_, ?_, fun f hf => ?_, fun c' hc' => ?_, fun f c' hf hc' => ?_⟩
  · rw [up_k _ _ _ (by decide)]; exact g1
  · rw [up_k _ _ _ (by decide)]; exact g2
  · rw [up_k _ _ _ (by decide)]; exact g3 f hf
  · show _ = (if c' = c then wP w c ||| ((1 : Int32) <<< (nI r &&& 31)) else wP w c')
    by_cases e : c' = c
    · subst e; rw [if_pos rfl, up_e]
      exact congrArg (· ||| ((1 : Int32) <<< (nI r &&& 31))) (g4 c' hc')
    · rw [if_neg e, up_j _ _ _ e]; exact g4 c' hc'
  · rw [up_k _ _ _ (by decide)]; exact g5 f c' hf hc'
theorem ti_c (ho : CO p) (hQ : CQ p) (hR : cF p = 0 ∨ 0 < cR p) (hq : sl = 3 ∨ sl = 11) (hv : WO p w) (hx : WX p w) (h24 : n_pst w < 24) (hs : CC Z sl p) (hd : CD Z sl p) (hw : WC Z 20 w) {f n y : Nat} (hf : f < cF p) (hy : wY w = nI y) (hn : y + n ≤ 999) {c r : Nat} (hc : c < cC p) (hr : r < cR p) (hp : a_pst w c r = false) {s : NT} (h : IV Y Z f n s) : IV (ti_w Y sl (nI c) (nI r)) Z f n (if nI (a_fd p (a_it p (a_drv w c r) n) f) ≤ s.2.2 then s else (nI c, nI r, nI (a_fd p (a_it p (a_drv w c r) n) f))) := by
  have hF := ho.2.2.1; have hC := ho.1; have hR2 := ho.2.1
  obtain ⟨h1, h2, h3, h4⟩ := h
  have wY' : WC Y 20 w := WC_c hw (fun q a b => h1 q (by unfold FV FT; omega))
  have sY : CC Y sl p := CC_c hs (fun q a b => h1 q (by unfold FV FT; omega))
  have dY : CD Y sl p := CD_c hd (fun q a b => h1 q (by unfold FV FT; omega))
  have tD : WC (ti_0 Y (nI c) (nI r)) 31 (a_drv w c r) := drv_c (take_c wY' (by omega)) (by omega) (by omega)
  have fT : fr FT (ti_0 Y (nI c) (nI r)) Y := fr_drive (fr_takeT fr_refl) (by simp [FT])
  have cT : CC (ti_0 Y (nI c) (nI r)) sl p := CC_c sY (fun q a b => fT q (by unfold FT; omega))
  have dT : CD (ti_0 Y (nI c) (nI r)) sl p := CD_c dY (fun q a b => fT q (by unfold FT; omega))
  obtain ⟨hO, -⟩ := drv_O hv hx ho hc hr hp h24
  have zO := it_O ho hR hO (y := y) hy n (by omega)
  have z : WC (ti_Z Y sl (nI c) (nI r)) 31 (a_it p (a_drv w c r) n) := by
    unfold ti_Z
    rw [h3, nI_clamp (by omega)]
    exact it_c ho hQ hR cT dT hO (by omega) (by omega) tD (y := y) hy n hn
  have fZ : fr FT (ti_Z Y sl (nI c) (nI r)) Y := ti_fr
  have e30 : ti_Z Y sl (nI c) (nI r) 30 = Y 30 := fZ 30 ft_30
  have e2 : ti_Z Y sl (nI c) (nI r) sl 2 = nI (cR p) := by rw [fZ sl (ft_sl hq)]; exact sY.2.1
  have ef : ti_f Y sl (nI c) (nI r) = nI (a_fd p (a_it p (a_drv w c r) n) f) := by
    unfold ti_f
    rw [e30, h2, e2, field_c z zO ho (by omega)]
    rfl
  have h11 : Y 30 11 = s.2.2 := by rw [← h4]
  have fV : fr FV (ti_Z Y sl (nI c) (nI r)) Z := fr_trans (fr_mono fZ (fun _ => Or.inl)) h1
  unfold ti_w
  rw [ef, e30, h11]
  by_cases q : nI (a_fd p (a_it p (a_drv w c r) n) f) ≤ s.2.2
  · rw [if_pos q, if_pos q]
    exact ⟨fV, by rw [e30]; exact h2, by rw [e30]; exact h3, by rw [e30]; exact h4⟩
  · rw [if_neg q, if_neg q]
    refine ⟨fr_up (fr_up (fr_up fV (Or.inr rfl)) (Or.inr rfl)) (Or.inr rfl), ?_, ?_, ?_⟩
    · rw [up_j _ _ _ (by decide), up_j _ _ _ (by decide), up_j _ _ _ (by decide), e30]; exact h2
    · rw [up_j _ _ _ (by decide), up_j _ _ _ (by decide), up_j _ _ _ (by decide), e30]; exact h3
    · rw [up_j _ _ _ (show (9 : Nat) ≠ 10 by decide), up_e, up_e, up_j _ _ _ (show (11 : Nat) ≠ 10 by decide), up_j _ _ _ (show (11 : Nat) ≠ 9 by decide), up_e]
theorem pst_b (hv : WO p w) {c r : Nat} (hr : r < 30) : bt (wP w c) r = a_pst w c r := by
  obtain ⟨q, h1, h2, h3⟩ := postN hv c
  unfold a_pst
  rw [h3, h2]
  have key := (bt_is (x := nI q) (r := r) (by omega)).symm.trans (bit_0 (p := q) (by omega) (by omega))
  have m2 := Nat.mod_two_eq_zero_or_one (q / 2 ^ r)
  cases e : bt (nI q) r with
  | false => exact (decide_eq_false (by have := key.mp e; omega)).symm
  | true => exact (decide_eq_true (by
      have : ¬ q / 2 ^ r % 2 = 0 := fun z => by have := key.mpr z; rw [e] at this; cases this
      omega)).symm
theorem fir_c (ho : CO p) (hQ : CQ p) (hR : cF p = 0 ∨ 0 < cR p) (hq : sl = 3 ∨ sl = 11) (hv : WO p w) (hx : WX p w) (h24 : n_pst w < 24) (hs : CC Z sl p) (hd : CD Z sl p) (hw : WC Z 20 w) {f n y : Nat} (hf : f < cF p) (hy : wY w = nI y) (hn : y + n ≤ 999) {c : Nat} (hc : c < cC p) {wo : Int32}
    (h0 : ∀ r, r < 30 → bt wo r = false → a_pst w c r = true ∨ ∀ i, i < n → a_ut p (a_it p w i) c r) (h1 : ∀ r, r < 30 → bt wo r = true → a_pst w c r = false) {s : NT} (hb : nI (a_fd p (a_it p w n) f) ≤ s.2.2) (h : IV Y Z f n s) : ∀ q, q ≤ cR p → IV (fi_r Y sl (nI c) wo q) Z f n (a_irr p w f n c q s) := by
  have hR2 := ho.2.1
  intro q
  induction q with
  | zero => intro _; exact h
  | succ q ih =>
    intro hq1
    have ih := ih (by omega)
    simp only [fi_r]
    cases b : bt wo q with
    | false =>
      rw [if_pos ((bt_is (by omega)).mpr b)]
      rcases h0 q (by omega) b with g | g
      · simp only [a_irr]
        rw [if_pos g]
        exact ih
      · rw [irr_skip ho hR hv hy (by omega) (by omega) g hb]
        exact ih
    | true =>
      have g := h1 q (by omega) b
      rw [if_neg (fun z => by have := (bt_is (by omega)).mp z; rw [b] at this; cases this)]
      simp only [a_irr]
      rw [if_neg (by rw [g]; decide)]
      exact ti_c ho hQ hR hq hv hx h24 hs hd hw hf hy hn hc (by omega) g ih
theorem fic_c (ho : CO p) (hQ : CQ p) (hR : cF p = 0 ∨ 0 < cR p) (hq : sl = 3 ∨ sl = 11) (hv : WO p w) (hx : WX p w) (h24 : n_pst w < 24) (hs : CC Z sl p) (hd : CD Z sl p) (hw : WC Z 20 w) {f n y : Nat} (hf : f < cF p) (hy : wY w = nI y) (hn : y + n ≤ 999)
    (h43 : ∀ c r, c < cC p → r < 30 → bt (Z 43 c) r = false → ∀ i, i < n → a_ut p (a_it p w i) c r) (h : IV Z Z f n (a_irc p w f n 0)) : ∀ c, c ≤ cC p → IV (fi_c Z sl c) Z f n (a_irc p w f n c) := by
  have hF := ho.2.2.1; have hC := ho.1; have hR2 := ho.2.1
  intro c
  induction c with
  | zero => intro _; exact h
  | succ c ih =>
    intro hc
    have ih := ih (by omega)
    simp only [fi_c]
    have hfr := fr_fic Z sl c
    rw [hs.2.1, nI_clamp (by omega)]
    have e43 : fi_c Z sl c 43 = Z 43 := hfr 43 (by unfold FV FT; omega)
    have wY' : WC (fi_c Z sl c) 20 w := WC_c hw (fun q a b => hfr q (by unfold FV FT; omega))
    have ewo : fi_wo (fi_c Z sl c) c = Z 43 c &&& (wP w c ^^^ -1) := by
      unfold fi_wo
      rw [nI_clamp (by omega), e43, posts_c wY' (by omega)]
    have bwo : ∀ r, r < 30 → bt (fi_wo (fi_c Z sl c) c) r = (bt (Z 43 c) r && !(a_pst w c r)) := fun r hr => by
      rw [ewo, b_and, b_xor, b_m1 r (by omega), pst_b hv hr]
      cases a_pst w c r <;> rfl
    refine fir_c ho hQ hR hq hv hx h24 hs hd hw hf hy hn (by omega) (fun r hr hb => ?_) (fun r hr hb => ?_) (irc_ge f n c) ih (cR p) (Nat.le_refl _)
    · rw [bwo r hr] at hb
      cases g : a_pst w c r with
      | true => exact Or.inl rfl
      | false =>
        rw [g] at hb
        refine Or.inr (h43 c r (by omega) hr ?_)
        simpa using hb
    · rw [bwo r hr] at hb
      simp at hb
      exact hb.2
abbrev DI : List (Nat × Option Nat) := (30, none) :: (43, none) :: DC
theorem FV_D : ∀ k, FV k → (k, (none : Option Nat)) ∈ DI := by
  intro k h
  unfold FV at h
  rcases h with h | h
  · exact List.mem_cons_of_mem _ (List.mem_cons_of_mem _ (FT_D k h))
  · subst h; decide
theorem FU_D : ∀ k, FU k → (k, (none : Option Nat)) ∈ DI := by
  intro k h
  unfold FU at h
  rcases h with h | h
  · exact List.mem_cons_of_mem _ (List.mem_cons_of_mem _ (FT_D k h))
  · subst h; decide
/-- the class finds the iron place -/
theorem find_c (h : RelX I J sl p w kl un) (hq : sl = 3 ∨ sl = 11) {f n y : Nat} (hf : f < cF p) (h24 : n_pst w < 24) (hy : wY w = nI y) (hn : y + n ≤ 999) (hn1 : 1 ≤ n) (hn20 : n ≤ 20) :
    (fi_w I sl (nI f) (nI n) 30 9, fi_w I sl (nI f) (nI n) 30 10, fi_w I sl (nI f) (nI n) 30 11) = a_irn p w f n ∧ fi_w I sl (nI f) (nI n) 30 7 = nI f ∧ fi_w I sl (nI f) (nI n) 30 8 = nI n ∧ fsL DI (fi_w I sl (nI f) (nI n)) I := by
  have hR := RelX_R h
  have hg := h.2.2.1
  obtain ⟨⟨ho, hQ, h00, -⟩, ⟨hc, hcd, hm, hcn⟩, ht, -⟩ := h.2.1.2.1
  obtain ⟨⟨hv, hx, -⟩, hw, hwm, hkc, hkm⟩ := h.2.1.2.2.1
  have hF := ho.2.2.1; have hC := ho.1; have hR2 := ho.2.1
  unfold fi_w
  by_cases q : nI f = I 30 7 ∧ nI n = I 30 8
  · rw [if_pos q]
    refine ⟨hg f n hf hn1 hn20 ?_ q.1.symm q.2.symm, q.1.symm, q.2.symm, fs_r I⟩
    rw [hy, nI_add]
    exact nI_le (b := 999) (by omega) (by decide)
  · rw [if_neg q]
    have f1 : fr (fun q => q = 30) (fi_1 I (nI f) (nI n)) I := fr_up (fr_up (fr_up (fr_up fr_refl rfl) rfl) rfl) rfl
    have n1 : ∀ q, q ≠ 30 → fi_1 I (nI f) (nI n) q = I q := fun q hq => f1 q hq
    obtain ⟨t1, t2⟩ := tr_all ho hQ hR hq (CC_c hc (fun q a b => n1 q (by omega))) (CD_c hcd (fun q a b => n1 q (by omega))) hv (WC_c hw (fun q a b => n1 q (by omega))) hy n hn
    have ft : fr FU (fi_t I sl (nI f) (nI n)) (fi_1 I (nI f) (nI n)) := fr_tr _ _ _
    have et : fi_t I sl (nI f) (nI n) = tr (fi_1 I (nI f) (nI n)) sl n := by unfold fi_t; rw [nI_clamp (by omega)]
    rw [← et] at t1 t2
    have e30 : fi_t I sl (nI f) (nI n) 30 = fi_1 I (nI f) (nI n) 30 := ft 30 (by unfold FU FT; omega)
    have esl : fi_t I sl (nI f) (nI n) sl = I sl := (ft sl (fu_sl hq)).trans (n1 sl (by omega))
    have hO := it_O ho hR hv hy n (by omega)
    have e0 : fi_0 I sl (nI f) (nI n) = m_up (fi_t I sl (nI f) (nI n)) 30 11 (nI (a_fd p (a_it p w n) f)) := by
      unfold fi_0
      rw [esl, hc.2.1, field_c t1 hO ho (by omega)]
      rfl
    rw [e0]
    have fz : fr (fun q => q = 30) (m_up (fi_t I sl (nI f) (nI n)) 30 11 (nI (a_fd p (a_it p w n) f))) (fi_t I sl (nI f) (nI n)) := fr_up fr_refl rfl
    have a7 : m_up (fi_t I sl (nI f) (nI n)) 30 11 (nI (a_fd p (a_it p w n) f)) 30 7 = nI f := by
      rw [up_j _ _ _ (by decide), e30]; unfold fi_1; rw [up_j _ _ _ (by decide), up_j _ _ _ (by decide), up_j _ _ _ (by decide), up_e]
    have a8 : m_up (fi_t I sl (nI f) (nI n)) 30 11 (nI (a_fd p (a_it p w n) f)) 30 8 = nI n := by
      rw [up_j _ _ _ (by decide), e30]; unfold fi_1; rw [up_j _ _ _ (by decide), up_j _ _ _ (by decide), up_e]
    have a9 : m_up (fi_t I sl (nI f) (nI n)) 30 11 (nI (a_fd p (a_it p w n) f)) 30 9 = -1 := by
      rw [up_j _ _ _ (by decide), e30]; unfold fi_1; rw [up_j _ _ _ (by decide), up_e]
    have a10 : m_up (fi_t I sl (nI f) (nI n)) 30 11 (nI (a_fd p (a_it p w n) f)) 30 10 = -1 := by
      rw [up_j _ _ _ (by decide), e30]; unfold fi_1; rw [up_e]
    have a11 : m_up (fi_t I sl (nI f) (nI n)) 30 11 (nI (a_fd p (a_it p w n) f)) 30 11 = nI (a_fd p (a_it p w n) f) := up_e _ _ _ _
    have zx : fsL DI (m_up (fi_t I sl (nI f) (nI n)) 30 11 (nI (a_fd p (a_it p w n) f))) I :=
      fs_tr (fs_fr fz (fun k e => by subst e; decide)) (fs_tr (fs_fr ft FU_D) (fs_fr f1 (fun k e => by subst e; decide)))
    have zk : ∀ q, q < 26 → m_up (fi_t I sl (nI f) (nI n)) 30 11 (nI (a_fd p (a_it p w n) f)) q = I q := fun q hq => (fz q (by show ¬ q = 30; omega)).trans ((ft q (by unfold FU FT; omega)).trans (n1 q (by omega)))
    have z43 : m_up (fi_t I sl (nI f) (nI n)) 30 11 (nI (a_fd p (a_it p w n) f)) 43 = fi_t I sl (nI f) (nI n) 43 := fz 43 (by decide)
    generalize m_up (fi_t I sl (nI f) (nI n)) 30 11 (nI (a_fd p (a_it p w n) f)) = Z at *
    have sZ : CC Z sl p := CC_c hc (fun q a b => zk q (by omega))
    have dZ : CD Z sl p := CD_c hcd (fun q a b => zk q (by omega))
    have wZ : WC Z 20 w := WC_c hw (fun q a b => zk q (by omega))
    have eN : tb_N (Z sl 1) = cC p := by unfold tb_N; rw [sZ.1, nI_clamp (by omega)]; omega
    rw [eN]
    have iv := fic_c ho hQ hR hq hv hx h24 sZ dZ wZ hf hy hn (by rw [z43]; exact t2) ⟨fr_refl, a7, a8, by rw [a9, a10, a11]; rfl⟩ (cC p) (Nat.le_refl _)
    exact ⟨iv.2.2.2, iv.2.1, iv.2.2.1, fs_tr (fs_fr iv.1 FV_D) zx⟩
end L96
