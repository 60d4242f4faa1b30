/-! the 33 calls: what the law does with both -/
def wInv (L : List (Nat × Nat)) (S : MS) : Prop := ∃ sl sd I J R, S = (L, I, J, R) ∧ ((sl = 3 ∧ sd = 11) ∨ (sl = 11 ∧ sd = 3)) ∧ Rel I J sl ∧ RF R ∧ R 0 1 = some (8, 0, sl) ∧ R 0 2 = some (8, 0, sd) ∧ R 24 1 = some (8, 0, sl)
def wB (G : MG) (dX : Nat) (yX : MethodName) (MX : MM) (dM : Nat) (yM : MethodName) (MM' : MM) (as : List MV) (L : List (Nat × Nat)) (S : MS) : Prop := ∃ (a : Int32) (S1 S2 : MS), m_met G dX 0 0 yX MX (mR (11, 0, 0) :: as) S (m_is (some (mI a)) S1) ∧ m_met G dM 0 0 yM MM' (mR (12, 0, 177) :: as) S1 (m_is (some (mI a)) S2) ∧ S1.1 = L ∧ wInv L S2
def wBJ (G : MG) (dX : Nat) (yX : MethodName) (MX : MM) (dM : Nat) (yM : MethodName) (MM' : MM) (as : List MV) (L : List (Nat × Nat)) (S : MS) : Prop := ∃ (a : Int64) (S1 S2 : MS), m_met G dX 0 0 yX MX (mR (11, 0, 0) :: as) S (m_is (some (mJ a)) S1) ∧ m_met G dM 0 0 yM MM' (mR (12, 0, 177) :: as) S1 (m_is (some (mJ a)) S2) ∧ S1.1 = L ∧ wInv L S2
section WG5
variable {G : MG} {L : List (Nat × Nat)} {S : MS}
theorem w_feed (h : wInv L S) (v1 v2 v3 v4 v5 : Int32) : wB G 2 y_WF_feed M_WF_feed 1 y_MD_feed M_MD_feed [mI v1, mI v2, mI v3, mI v4, mI v5] L S := by
  obtain ⟨sl, sd, I, J, R, rfl, hs, hr, hR, h01, h02, h24⟩ := h
  have hq : sl = 3 ∨ sl = 11 := by omega
  have hqd : sd = 3 ∨ sd = 11 := by omega
  obtain ⟨a, I1, I2, e1, e2, e3⟩ := op_feed (sd := sd) hr v1 v2 v3 v4 v5
  exact ⟨a, _, _, C_WF_feed sl sd I J v1 v2 v3 v4 v5 hR h01 h02 h24 hq hqd e1, C_MD_feed I1 J v1 v2 v3 v4 v5 hR e2, rfl, sl, sd, I2, J, R, rfl, hs, e3, hR, h01, h02, h24⟩
theorem w_end (h : wInv L S) (v1 : Int32) : wB G 2 y_WF_end M_WF_end 1 y_MD_end M_MD_end [mI v1] L S := by
  obtain ⟨sl, sd, I, J, R, rfl, hs, hr, hR, h01, h02, h24⟩ := h
  have hq : sl = 3 ∨ sl = 11 := by omega
  have hqd : sd = 3 ∨ sd = 11 := by omega
  obtain ⟨a, I1, I2, e1, e2, e3⟩ := op_end (sd := sd) hr v1
  exact ⟨a, _, _, C_WF_end sl sd I J v1 hR h01 h02 h24 hq hqd e1, C_MD_end I1 J v1 hR e2, rfl, sl, sd, I2, J, R, rfl, hs, e3, hR, h01, h02, h24⟩
theorem w_slope (h : wInv L S) : wB G 71 y_WF_slope M_WF_slope 12 y_MD_slope M_MD_slope [] L S := by
  obtain ⟨sl, sd, I, J, R, rfl, hs, hr, hR, h01, h02, h24⟩ := h
  have hq : sl = 3 ∨ sl = 11 := by omega
  have hqd : sd = 3 ∨ sd = 11 := by omega
  obtain ⟨a, I1, R1, I2, J2, e1, e2, e3⟩ := op_slope (R := R) hs hr
  have nr : ∀ {R : MRR} {k j : Nat} {v : Option MRef}, RF R → (k = 19 ∧ j = 4) ∨ (k = 0 ∧ j = 2) ∨ (k = 0 ∧ j = 1) ∨ (k = 24 ∧ j = 1) → RF (m_up R k j v) := fun {R k j v} h hk => rf_up h (by rcases hk with ⟨z, y⟩ | ⟨z, y⟩ | ⟨z, y⟩ | ⟨z, y⟩ <;> subst z <;> subst y <;> decide +kernel)
  rcases e3 with ⟨e3, e4⟩ | ⟨e3, e4⟩
  · subst e4
    have h1 : RF (m_up R 19 4 (some (8, 0, sd))) := nr hR (Or.inl ⟨rfl, rfl⟩)
    exact ⟨a, _, _, C_WF_slope sl sd R I J hR h01 h02 h24 hq hqd e1, C_MD_slope I1 J h1 e2, rfl, sl, sd, I2, J2, _, rfl, hs, e3, h1, by rw [up_k _ _ _ (by decide)]; exact h01, by rw [up_k _ _ _ (by decide)]; exact h02, by rw [up_k _ _ _ (by decide)]; exact h24⟩
  · subst e4
    have h1 : RF (m_up (m_up (m_up (m_up R 19 4 (some (8, 0, sd))) 0 2 (some (8, 0, sl))) 0 1 (some (8, 0, sd))) 24 1 (some (8, 0, sd))) := nr (nr (nr (nr hR (Or.inl ⟨rfl, rfl⟩)) (Or.inr (Or.inl ⟨rfl, rfl⟩))) (Or.inr (Or.inr (Or.inl ⟨rfl, rfl⟩)))) (Or.inr (Or.inr (Or.inr ⟨rfl, rfl⟩)))
    exact ⟨a, _, _, C_WF_slope sl sd R I J hR h01 h02 h24 hq hqd e1, C_MD_slope I1 J h1 e2, rfl, sd, sl, I2, J2, _, rfl, by omega, e3, h1, by rw [up_k _ _ _ (by decide), up_e], by rw [up_k _ _ _ (by decide), up_j _ _ _ (by decide), up_e], up_e _ _ _ _⟩
theorem w_fault (h : wInv L S) (v1 : Int32) : wB G 1 y_WF_fault M_WF_fault 1 y_MD_fault M_MD_fault [mI v1] L S := by
  obtain ⟨sl, sd, I, J, R, rfl, hs, hr, hR, h01, h02, h24⟩ := h
  have hq : sl = 3 ∨ sl = 11 := by omega
  have hqd : sd = 3 ∨ sd = 11 := by omega
  obtain ⟨hq0, p, w, kl, un, hx⟩ := id hr
  obtain ⟨a, e1, e2⟩ := op_fault (sd := sd) hx v1
  exact ⟨a, _, _, C_WF_fault sl sd I J v1 hR h01 h02 h24 hq hqd e1, C_MD_fault I J v1 hR e2, rfl, sl, sd, I, J, R, rfl, hs, hr, hR, h01, h02, h24⟩
theorem w_has (h : wInv L S) (v1 : Int32) : wB G 6 y_WF_has M_WF_has 4 y_MD_has M_MD_has [mI v1] L S := by
  obtain ⟨sl, sd, I, J, R, rfl, hs, hr, hR, h01, h02, h24⟩ := h
  have hq : sl = 3 ∨ sl = 11 := by omega
  have hqd : sd = 3 ∨ sd = 11 := by omega
  obtain ⟨hq0, p, w, kl, un, hx⟩ := id hr
  obtain ⟨a, e1, e2⟩ := op_has (sd := sd) hx v1
  exact ⟨a, _, _, C_WF_has sl sd I J v1 hR h01 h02 h24 hq hqd e1, C_MD_has I J v1 hR e2, rfl, sl, sd, I, J, R, rfl, hs, hr, hR, h01, h02, h24⟩
theorem w_letter (h : wInv L S) (v1 v2 : Int32) : wB G 2 y_WF_letter M_WF_letter 3 y_MD_letter M_MD_letter [mI v1, mI v2] L S := by
  obtain ⟨sl, sd, I, J, R, rfl, hs, hr, hR, h01, h02, h24⟩ := h
  have hq : sl = 3 ∨ sl = 11 := by omega
  have hqd : sd = 3 ∨ sd = 11 := by omega
  obtain ⟨hq0, p, w, kl, un, hx⟩ := id hr
  obtain ⟨a, e1, e2⟩ := op_letter (sd := sd) hx v1 v2
  exact ⟨a, _, _, C_WF_letter sl sd I J v1 v2 hR h01 h02 h24 hq hqd e1, C_MD_letter I J v1 v2 hR e2, rfl, sl, sd, I, J, R, rfl, hs, hr, hR, h01, h02, h24⟩
theorem w_place (h : wInv L S) (v1 v2 v3 : Int32) : wB G 4 y_WF_place M_WF_place 4 y_MD_place M_MD_place [mI v1, mI v2, mI v3] L S := by
  obtain ⟨sl, sd, I, J, R, rfl, hs, hr, hR, h01, h02, h24⟩ := h
  have hq : sl = 3 ∨ sl = 11 := by omega
  have hqd : sd = 3 ∨ sd = 11 := by omega
  obtain ⟨hq0, p, w, kl, un, hx⟩ := id hr
  obtain ⟨a, e1, e2⟩ := op_place (sd := sd) hx v1 v2 v3
  exact ⟨a, _, _, C_WF_place sl sd I J v1 v2 v3 hR h01 h02 h24 hq hqd e1, C_MD_place I J v1 v2 v3 hR e2, rfl, sl, sd, I, J, R, rfl, hs, hr, hR, h01, h02, h24⟩
theorem w_fence (h : wInv L S) (v1 v2 : Int32) : wB G 5 y_WF_fence M_WF_fence 4 y_MD_fence M_MD_fence [mI v1, mI v2] L S := by
  obtain ⟨sl, sd, I, J, R, rfl, hs, hr, hR, h01, h02, h24⟩ := h
  have hq : sl = 3 ∨ sl = 11 := by omega
  have hqd : sd = 3 ∨ sd = 11 := by omega
  obtain ⟨hq0, p, w, kl, un, hx⟩ := id hr
  obtain ⟨a, e1, e2⟩ := op_fence (sd := sd) hx v1 v2
  exact ⟨a, _, _, C_WF_fence sl sd I J v1 v2 hR h01 h02 h24 hq hqd e1, C_MD_fence I J v1 v2 hR e2, rfl, sl, sd, I, J, R, rfl, hs, hr, hR, h01, h02, h24⟩
theorem w_stake (h : wInv L S) (v1 v2 : Int32) : wB G 3 y_WF_stake M_WF_stake 3 y_MD_stake M_MD_stake [mI v1, mI v2] L S := by
  obtain ⟨sl, sd, I, J, R, rfl, hs, hr, hR, h01, h02, h24⟩ := h
  have hq : sl = 3 ∨ sl = 11 := by omega
  have hqd : sd = 3 ∨ sd = 11 := by omega
  obtain ⟨hq0, p, w, kl, un, hx⟩ := id hr
  obtain ⟨a, e1, e2⟩ := op_stake (sd := sd) hx v1 v2
  exact ⟨a, _, _, C_WF_stake sl sd I J v1 v2 hR h01 h02 h24 hq hqd e1, C_MD_stake I J v1 v2 hR e2, rfl, sl, sd, I, J, R, rfl, hs, hr, hR, h01, h02, h24⟩
theorem w_walks (h : wInv L S) (v1 v2 : Int32) : wB G 5 y_WF_walks M_WF_walks 7 y_MD_walks M_MD_walks [mI v1, mI v2] L S := by
  obtain ⟨sl, sd, I, J, R, rfl, hs, hr, hR, h01, h02, h24⟩ := h
  have hq : sl = 3 ∨ sl = 11 := by omega
  have hqd : sd = 3 ∨ sd = 11 := by omega
  obtain ⟨a, I1, I2, J2, e1, e2, e3⟩ := op_walks (sd := sd) hr v1 v2
  exact ⟨a, _, _, C_WF_walks sl sd I J v1 v2 hR h01 h02 h24 hq hqd e1, C_MD_walks I1 J v1 v2 hR e2, rfl, sl, sd, I2, J2, R, rfl, hs, e3, hR, h01, h02, h24⟩
theorem w_kept (h : wInv L S) (v1 v2 : Int32) : wB G 2 y_WF_kept M_WF_kept 2 y_MD_kept M_MD_kept [mI v1, mI v2] L S := by
  obtain ⟨sl, sd, I, J, R, rfl, hs, hr, hR, h01, h02, h24⟩ := h
  have hq : sl = 3 ∨ sl = 11 := by omega
  have hqd : sd = 3 ∨ sd = 11 := by omega
  obtain ⟨hq0, p, w, kl, un, hx⟩ := id hr
  obtain ⟨a, e1, e2⟩ := op_kept (sd := sd) hx v1 v2
  exact ⟨a, _, _, C_WF_kept sl sd I J v1 v2 hR h01 h02 h24 hq hqd e1, C_MD_kept I J v1 v2 hR e2, rfl, sl, sd, I, J, R, rfl, hs, hr, hR, h01, h02, h24⟩
theorem w_later (h : wInv L S) (v1 v2 v3 : Int32) : wB G 9 y_WF_later M_WF_later 9 y_MD_later M_MD_later [mI v1, mI v2, mI v3] L S := by
  obtain ⟨sl, sd, I, J, R, rfl, hs, hr, hR, h01, h02, h24⟩ := h
  have hq : sl = 3 ∨ sl = 11 := by omega
  have hqd : sd = 3 ∨ sd = 11 := by omega
  obtain ⟨a, I1, I2, J2, e1, e2, e3⟩ := op_later (sd := sd) hr v1 v2 v3
  exact ⟨a, _, _, C_WF_later sl sd I J v1 v2 v3 hR h01 h02 h24 hq hqd e1, C_MD_later I1 J v1 v2 v3 hR e2, rfl, sl, sd, I2, J2, R, rfl, hs, e3, hR, h01, h02, h24⟩
theorem w_whose (h : wInv L S) (v1 v2 v3 : Int32) : wB G 9 y_WF_whose M_WF_whose 9 y_MD_whose M_MD_whose [mI v1, mI v2, mI v3] L S := by
  obtain ⟨sl, sd, I, J, R, rfl, hs, hr, hR, h01, h02, h24⟩ := h
  have hq : sl = 3 ∨ sl = 11 := by omega
  have hqd : sd = 3 ∨ sd = 11 := by omega
  obtain ⟨a, I1, I2, J2, e1, e2, e3⟩ := op_whose (sd := sd) hr v1 v2 v3
  exact ⟨a, _, _, C_WF_whose sl sd I J v1 v2 v3 hR h01 h02 h24 hq hqd e1, C_MD_whose I1 J v1 v2 v3 hR e2, rfl, sl, sd, I2, J2, R, rfl, hs, e3, hR, h01, h02, h24⟩
theorem w_meets (h : wInv L S) (v1 v2 : Int32) : wB G 8 y_WF_meets M_WF_meets 8 y_MD_meets M_MD_meets [mI v1, mI v2] L S := by
  obtain ⟨sl, sd, I, J, R, rfl, hs, hr, hR, h01, h02, h24⟩ := h
  have hq : sl = 3 ∨ sl = 11 := by omega
  have hqd : sd = 3 ∨ sd = 11 := by omega
  obtain ⟨a, I1, I2, J2, e1, e2, e3⟩ := op_meets (sd := sd) hr v1 v2
  exact ⟨a, _, _, C_WF_meets sl sd I J v1 v2 hR h01 h02 h24 hq hqd e1, C_MD_meets I1 J v1 v2 hR e2, rfl, sl, sd, I2, J2, R, rfl, hs, e3, hR, h01, h02, h24⟩
theorem w_below (h : wInv L S) (v1 v2 : Int32) : wB G 4 y_WF_below M_WF_below 4 y_MD_below M_MD_below [mI v1, mI v2] L S := by
  obtain ⟨sl, sd, I, J, R, rfl, hs, hr, hR, h01, h02, h24⟩ := h
  have hq : sl = 3 ∨ sl = 11 := by omega
  have hqd : sd = 3 ∨ sd = 11 := by omega
  obtain ⟨hq0, p, w, kl, un, hx⟩ := id hr
  obtain ⟨a, e1, e2⟩ := op_below (sd := sd) hx v1 v2
  exact ⟨a, _, _, C_WF_below sl sd I J v1 v2 hR h01 h02 h24 hq hqd e1, C_MD_below I J v1 v2 hR e2, rfl, sl, sd, I, J, R, rfl, hs, hr, hR, h01, h02, h24⟩
theorem w_sets (h : wInv L S) (v1 v2 v3 : Int32) : wB G 8 y_WF_sets M_WF_sets 9 y_MD_sets M_MD_sets [mI v1, mI v2, mI v3] L S := by
  obtain ⟨sl, sd, I, J, R, rfl, hs, hr, hR, h01, h02, h24⟩ := h
  have hq : sl = 3 ∨ sl = 11 := by omega
  have hqd : sd = 3 ∨ sd = 11 := by omega
  obtain ⟨a, I1, I2, J2, e1, e2, e3⟩ := op_sets (sd := sd) hr v1 v2 v3
  exact ⟨a, _, _, C_WF_sets sl sd I J v1 v2 v3 hR h01 h02 h24 hq hqd e1, C_MD_sets I1 J v1 v2 v3 hR e2, rfl, sl, sd, I2, J2, R, rfl, hs, e3, hR, h01, h02, h24⟩
theorem w_irons (h : wInv L S) (v1 v2 v3 : Int32) : wB G 9 y_WF_irons M_WF_irons 9 y_MD_irons M_MD_irons [mI v1, mI v2, mI v3] L S := by
  obtain ⟨sl, sd, I, J, R, rfl, hs, hr, hR, h01, h02, h24⟩ := h
  have hq : sl = 3 ∨ sl = 11 := by omega
  have hqd : sd = 3 ∨ sd = 11 := by omega
  obtain ⟨a, I1, I2, J2, e1, e2, e3⟩ := op_irons (sd := sd) hr v1 v2 v3
  exact ⟨a, _, _, C_WF_irons sl sd I J v1 v2 v3 hR h01 h02 h24 hq hqd e1, C_MD_irons I1 J v1 v2 v3 hR e2, rfl, sl, sd, I2, J2, R, rfl, hs, e3, hR, h01, h02, h24⟩
theorem w_rest (h : wInv L S) (v1 : Int32) : wB G 9 y_WF_rest M_WF_rest 10 y_MD_rest M_MD_rest [mI v1] L S := by
  obtain ⟨sl, sd, I, J, R, rfl, hs, hr, hR, h01, h02, h24⟩ := h
  have hq : sl = 3 ∨ sl = 11 := by omega
  have hqd : sd = 3 ∨ sd = 11 := by omega
  obtain ⟨a, I1, I2, J2, e1, e2, e3⟩ := op_rest (sd := sd) hr v1
  exact ⟨a, _, _, C_WF_rest sl sd I J v1 hR h01 h02 h24 hq hqd e1, C_MD_rest I1 J v1 hR e2, rfl, sl, sd, I2, J2, R, rfl, hs, e3, hR, h01, h02, h24⟩
theorem w_see (h : wInv L S) : wB G 3 y_WF_see M_WF_see 4 y_MD_see M_MD_see [] L S := by
  obtain ⟨sl, sd, I, J, R, rfl, hs, hr, hR, h01, h02, h24⟩ := h
  have hq : sl = 3 ∨ sl = 11 := by omega
  have hqd : sd = 3 ∨ sd = 11 := by omega
  obtain ⟨a, I1, I2, e1, e2, e3⟩ := op_see (sd := sd) hr
  exact ⟨a, _, _, C_WF_see sl sd I J hR h01 h02 h24 hq hqd e1, C_MD_see I1 J hR e2, rfl, sl, sd, I2, J, R, rfl, hs, e3, hR, h01, h02, h24⟩
theorem w_fits (h : wInv L S) (v1 : Int32) : wB G 8 y_WF_fits M_WF_fits 9 y_MD_fits M_MD_fits [mI v1] L S := by
  obtain ⟨sl, sd, I, J, R, rfl, hs, hr, hR, h01, h02, h24⟩ := h
  have hq : sl = 3 ∨ sl = 11 := by omega
  have hqd : sd = 3 ∨ sd = 11 := by omega
  obtain ⟨a, I1, I2, J2, e1, e2, e3⟩ := op_fits (sd := sd) hr v1
  exact ⟨a, _, _, C_WF_fits sl sd I J v1 hR h01 h02 h24 hq hqd e1, C_MD_fits I1 J v1 hR e2, rfl, sl, sd, I2, J2, R, rfl, hs, e3, hR, h01, h02, h24⟩
theorem w_tells (h : wInv L S) (v1 : Int32) : wB G 9 y_WF_tells M_WF_tells 9 y_MD_tells M_MD_tells [mI v1] L S := by
  obtain ⟨sl, sd, I, J, R, rfl, hs, hr, hR, h01, h02, h24⟩ := h
  have hq : sl = 3 ∨ sl = 11 := by omega
  have hqd : sd = 3 ∨ sd = 11 := by omega
  obtain ⟨a, I1, I2, J2, e1, e2, e3⟩ := op_tells (sd := sd) hr v1
  exact ⟨a, _, _, C_WF_tells sl sd I J v1 hR h01 h02 h24 hq hqd e1, C_MD_tells I1 J v1 hR e2, rfl, sl, sd, I2, J2, R, rfl, hs, e3, hR, h01, h02, h24⟩
theorem w_set (h : wInv L S) (v1 : Int32) : wB G 5 y_WF_set M_WF_set 3 y_MD_set M_MD_set [mI v1] L S := by
  obtain ⟨sl, sd, I, J, R, rfl, hs, hr, hR, h01, h02, h24⟩ := h
  have hq : sl = 3 ∨ sl = 11 := by omega
  have hqd : sd = 3 ∨ sd = 11 := by omega
  obtain ⟨a, I1, I2, e1, e2, e3⟩ := op_set (sd := sd) hr v1
  exact ⟨a, _, _, C_WF_set sl sd I J v1 hR h01 h02 h24 hq hqd e1, C_MD_set I1 J v1 hR e2, rfl, sl, sd, I2, J, R, rfl, hs, e3, hR, h01, h02, h24⟩
theorem w_cut (h : wInv L S) (v1 : Int32) : wB G 5 y_WF_cut M_WF_cut 3 y_MD_cut M_MD_cut [mI v1] L S := by
  obtain ⟨sl, sd, I, J, R, rfl, hs, hr, hR, h01, h02, h24⟩ := h
  have hq : sl = 3 ∨ sl = 11 := by omega
  have hqd : sd = 3 ∨ sd = 11 := by omega
  obtain ⟨a, I1, I2, e1, e2, e3⟩ := op_cut (sd := sd) hr v1
  exact ⟨a, _, _, C_WF_cut sl sd I J v1 hR h01 h02 h24 hq hqd e1, C_MD_cut I1 J v1 hR e2, rfl, sl, sd, I2, J, R, rfl, hs, e3, hR, h01, h02, h24⟩
theorem w_iron (h : wInv L S) (v1 v2 : Int32) : wB G 5 y_WF_iron M_WF_iron 4 y_MD_iron M_MD_iron [mI v1, mI v2] L S := by
  obtain ⟨sl, sd, I, J, R, rfl, hs, hr, hR, h01, h02, h24⟩ := h
  have hq : sl = 3 ∨ sl = 11 := by omega
  have hqd : sd = 3 ∨ sd = 11 := by omega
  obtain ⟨a, I1, I2, e1, e2, e3⟩ := op_iron (sd := sd) hr v1 v2
  exact ⟨a, _, _, C_WF_iron sl sd I J v1 v2 hR h01 h02 h24 hq hqd e1, C_MD_iron I1 J v1 v2 hR e2, rfl, sl, sd, I2, J, R, rfl, hs, e3, hR, h01, h02, h24⟩
theorem w_years (h : wInv L S) (v1 : Int32) : wB G 7 y_WF_years M_WF_years 9 y_MD_years M_MD_years [mI v1] L S := by
  obtain ⟨sl, sd, I, J, R, rfl, hs, hr, hR, h01, h02, h24⟩ := h
  have hq : sl = 3 ∨ sl = 11 := by omega
  have hqd : sd = 3 ∨ sd = 11 := by omega
  obtain ⟨a, I1, I2, J2, e1, e2, e3⟩ := op_years (sd := sd) hr v1
  exact ⟨a, _, _, C_WF_years sl sd I J v1 hR h01 h02 h24 hq hqd e1, C_MD_years I1 J v1 hR e2, rfl, sl, sd, I2, J2, R, rfl, hs, e3, hR, h01, h02, h24⟩
theorem w_chance (h : wInv L S) (v1 : Int32) : wB G 7 y_WF_chance M_WF_chance 8 y_MD_chance M_MD_chance [mI v1] L S := by
  obtain ⟨sl, sd, I, J, R, rfl, hs, hr, hR, h01, h02, h24⟩ := h
  have hq : sl = 3 ∨ sl = 11 := by omega
  have hqd : sd = 3 ∨ sd = 11 := by omega
  obtain ⟨a, I1, I2, J2, e1, e2, e3⟩ := op_chance (sd := sd) hr v1
  exact ⟨a, _, _, C_WF_chance sl sd I J v1 hR h01 h02 h24 hq hqd e1, C_MD_chance I1 J v1 hR e2, rfl, sl, sd, I2, J2, R, rfl, hs, e3, hR, h01, h02, h24⟩
theorem w_undo (h : wInv L S) : wB G 4 y_WF_undo M_WF_undo 1 y_MD_undo M_MD_undo [] L S := by
  obtain ⟨sl, sd, I, J, R, rfl, hs, hr, hR, h01, h02, h24⟩ := h
  have hq : sl = 3 ∨ sl = 11 := by omega
  have hqd : sd = 3 ∨ sd = 11 := by omega
  obtain ⟨a, I1, I2, e1, e2, e3⟩ := op_undo (sd := sd) hr
  exact ⟨a, _, _, C_WF_undo sl sd I J hR h01 h02 h24 hq hqd e1, C_MD_undo I1 J hR e2, rfl, sl, sd, I2, J, R, rfl, hs, e3, hR, h01, h02, h24⟩
theorem w_seed (h : wInv L S) (v1 : Int32) : wB G 2 y_WF_seed M_WF_seed 1 y_MD_seed M_MD_seed [mI v1] L S := by
  obtain ⟨sl, sd, I, J, R, rfl, hs, hr, hR, h01, h02, h24⟩ := h
  have hq : sl = 3 ∨ sl = 11 := by omega
  have hqd : sd = 3 ∨ sd = 11 := by omega
  obtain ⟨a, I1, I2, J2, e1, e2, e3⟩ := op_seed (sd := sd) hr v1
  exact ⟨a, _, _, C_WF_seed sl sd I J v1 hR h01 h02 h24 hq hqd e1, C_MD_seed I1 J v1 hR e2, rfl, sl, sd, I2, J2, R, rfl, hs, e3, hR, h01, h02, h24⟩
theorem w_ask (h : wInv L S) : wBJ G 70 y_WF_ask M_WF_ask 10 y_MD_ask M_MD_ask [] L S := by
  obtain ⟨sl, sd, I, J, R, rfl, hs, hr, hR, h01, h02, h24⟩ := h
  have hq : sl = 3 ∨ sl = 11 := by omega
  have hqd : sd = 3 ∨ sd = 11 := by omega
  obtain ⟨a, I1, R1, I2, J2, e1, e2, e3, e4⟩ := op_ask (R := R) hs hr
  rcases e4 with e4 | e4
  · subst e4
    exact ⟨a, _, _, C_WF_ask sl sd _ I J hR h01 h02 h24 hq hqd e1, C_MD_ask I1 J hR e2, rfl, sl, sd, I2, J2, _, rfl, hs, e3, hR, h01, h02, h24⟩
  · subst e4
    have h1 : RF (m_up R 19 4 (some (8, 0, sd))) := rf_up hR (by decide +kernel)
    exact ⟨a, _, _, C_WF_ask sl sd R I J hR h01 h02 h24 hq hqd e1, C_MD_ask I1 J h1 e2, rfl, sl, sd, I2, J2, _, rfl, hs, e3, h1, by rw [up_k _ _ _ (by decide)]; exact h01, by rw [up_k _ _ _ (by decide)]; exact h02, by rw [up_k _ _ _ (by decide)]; exact h24⟩
theorem w_image (h : wInv L S) : wB G 4 y_WF_image M_WF_image 3 y_MD_image M_MD_image [] L S := by
  obtain ⟨sl, sd, I, J, R, rfl, hs, hr, hR, h01, h02, h24⟩ := h
  have hq : sl = 3 ∨ sl = 11 := by omega
  have hqd : sd = 3 ∨ sd = 11 := by omega
  obtain ⟨a, I1, I2, e1, e2, e3⟩ := op_image (sd := sd) hr
  exact ⟨a, _, _, C_WF_image sl sd I J hR h01 h02 h24 hq hqd e1, C_MD_image I1 J hR e2, rfl, sl, sd, I2, J, R, rfl, hs, e3, hR, h01, h02, h24⟩
theorem w_octet (h : wInv L S) (v1 : Int32) : wB G 1 y_WF_octet M_WF_octet 1 y_MD_octet M_MD_octet [mI v1] L S := by
  obtain ⟨sl, sd, I, J, R, rfl, hs, hr, hR, h01, h02, h24⟩ := h
  have hq : sl = 3 ∨ sl = 11 := by omega
  have hqd : sd = 3 ∨ sd = 11 := by omega
  obtain ⟨hq0, p, w, kl, un, hx⟩ := id hr
  obtain ⟨a, e1, e2⟩ := op_octet (sd := sd) hx v1
  exact ⟨a, _, _, C_WF_octet sl sd I J v1 hR h01 h02 h24 hq hqd e1, C_MD_octet I J v1 hR e2, rfl, sl, sd, I, J, R, rfl, hs, hr, hR, h01, h02, h24⟩
theorem w_on (h : wInv L S) : wB G 5 y_WF_on M_WF_on 6 y_MD_on M_MD_on [] L S := by
  obtain ⟨sl, sd, I, J, R, rfl, hs, hr, hR, h01, h02, h24⟩ := h
  have hq : sl = 3 ∨ sl = 11 := by omega
  have hqd : sd = 3 ∨ sd = 11 := by omega
  obtain ⟨a, I1, I2, e1, e2, e3⟩ := op_on (sd := sd) hr
  exact ⟨a, _, _, C_WF_on sl sd I J hR h01 h02 h24 hq hqd e1, C_MD_on I1 J hR e2, rfl, sl, sd, I2, J, R, rfl, hs, e3, hR, h01, h02, h24⟩
theorem w_status (h : wInv L S) (v1 : Int32) : wB G 1 y_WF_status M_WF_status 2 y_MD_status M_MD_status [mI v1] L S := by
  obtain ⟨sl, sd, I, J, R, rfl, hs, hr, hR, h01, h02, h24⟩ := h
  have hq : sl = 3 ∨ sl = 11 := by omega
  have hqd : sd = 3 ∨ sd = 11 := by omega
  obtain ⟨hq0, p, w, kl, un, hx⟩ := id hr
  obtain ⟨a, e1, e2⟩ := op_status (sd := sd) hx v1
  exact ⟨a, _, _, C_WF_status sl sd I J v1 hR h01 h02 h24 hq hqd e1, C_MD_status I J v1 hR e2, rfl, sl, sd, I, J, R, rfl, hs, hr, hR, h01, h02, h24⟩
end WG5
