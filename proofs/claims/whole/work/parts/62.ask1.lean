/-! calls that only ask -/
theorem isIn_e (a b c : Int64) : F_MD_isIn a b c = some (if b ≤ a ∧ a ≤ c then 1 else 0) := by
  unfold F_MD_isIn
  simp only [lg_cmp_lt, lg_cmp_gt]
  by_cases h1 : a < b
  · rw [if_pos h1, if_neg (fun z => absurd h1 (Int64.not_lt.mpr z.1))]
  · rw [if_neg h1]
    by_cases h2 : c < a
    · rw [if_pos h2, if_neg (fun z => absurd h2 (Int64.not_lt.mpr z.2))]
    · rw [if_neg h2, if_pos ⟨Int64.not_lt.mp h1, Int64.not_lt.mp h2⟩]
theorem L_le (a b : Int32) : a.toInt64 ≤ b.toInt64 ↔ a ≤ b := by
  rw [Int64.le_iff_toInt_le, Int32.le_iff_toInt_le, Int32.toInt_toInt64, Int32.toInt_toInt64]
theorem isIn_i (a b c : Int32) : F_MD_isIn a.toInt64 b.toInt64 c.toInt64 = some (if b ≤ a ∧ a ≤ c then 1 else 0) := by
  rw [isIn_e]; simp only [L_le]
theorem le_pred {v : Int32} {n : Nat} (hn : n < 2 ^ 31) : v ≤ nI n - 1 ↔ v < nI n := by
  have e : (nI n - 1).toInt = (n : Int) - 1 := by
    rw [Int32.toInt_sub, nI_toInt hn]
    have : (1 : Int32).toInt = 1 := by decide
    rw [this, Int.bmod_eq_of_le] <;> omega
  rw [Int32.le_iff_toInt_le, Int32.lt_iff_toInt_lt, e, nI_toInt hn]
  omega
section A62
variable {I : MI} {J : MJ} {k sl sd : Nat} {p : CF} {w : WD} {kl : List NT} {un : List (WD × List NT)}
theorem isFence_e (ho : CO p) (hs : CM I p) (v : Int32) : F_MD_isFence I v = some (if 0 ≤ v ∧ v < nI (cF p) then 1 else 0) := by
  have := ho.2.2.1
  unfold F_MD_isFence
  rw [fm_e hs]
  simp only [Option.bind_some]
  rw [show (0 : Int64) = (0 : Int32).toInt64 by decide, isIn_i]
  simp only [Option.bind_some, le_pred (show cF p < 2 ^ 31 by omega)]
  rw [gq_e]
  split
  · exact Or.inr rfl
  · exact Or.inl rfl
theorem hasFence_c (ho : CO p) (hs : CC I sl p) (v : Int32) : f_Slope_hasFence I sl v = if 0 ≤ v ∧ v < nI (cF p) then 1 else 0 := by
  have hF := ho.2.2.1
  unfold f_Slope_hasFence
  rw [hs.2.2.1]
  by_cases h1 : v < 0
  · rw [if_pos h1, if_neg (by grind)]
  · rw [if_neg h1]
    by_cases h2 : nI (cF p) ≤ v
    · rw [if_pos h2, if_neg (by grind)]
    · have h3 : nI (cF p) ≤ 6 := nI_le (b := 6) hF (by decide)
      rw [if_neg h2, if_neg (by grind), if_pos (by grind)]
theorem isCol_e (ho : CO p) (hs : CM I p) (v : Int32) : F_MD_isColumn I v = some (if 0 ≤ v ∧ v < nI (cC p) then 1 else 0) := by
  have := ho.1
  unfold F_MD_isColumn
  rw [hs.1, show (0 : Int64) = (0 : Int32).toInt64 by decide, isIn_i]
  simp only [Option.bind_some, le_pred (show cC p < 2 ^ 31 by omega)]
  rw [gq_e]
  split
  · exact Or.inr rfl
  · exact Or.inl rfl
def b_plc (p : CF) (c r : Int32) : Prop := (0 ≤ c ∧ c < nI (cC p)) ∧ 0 ≤ r ∧ r < nI (cR p)
theorem isPlace_e (ho : CO p) (hs : CM I p) (ht : I 177 49 = bI (decide (0 < cC p))) (c r : Int32) : F_MD_isPlace I c r = some (@ite _ (b_plc p c r) (Classical.propDecidable _) 1 0) := by
  have h1 := ho.1; have h2 := ho.2.1
  unfold F_MD_isPlace
  by_cases q : 0 < cC p
  · rw [ht, decide_eq_true q, if_neg (show ¬ bI true = 0 by decide), isCol_e ho hs]
    simp only [Option.bind_some]
    by_cases c1 : 0 ≤ c ∧ c < nI (cC p)
    · rw [if_pos c1, if_neg (by decide), hs.2.1, show (0 : Int64) = (0 : Int32).toInt64 by decide, isIn_i]
      simp only [Option.bind_some, le_pred (show cR p < 2 ^ 31 by omega)]
      by_cases c2 : 0 ≤ r ∧ r < nI (cR p)
      · rw [if_pos c2, if_neg (by decide), if_pos (show b_plc p c r from ⟨c1, c2⟩)]
      · rw [if_neg c2, if_pos rfl, if_neg (show ¬ b_plc p c r from fun z => c2 z.2)]
    · rw [if_neg c1, if_pos rfl, if_neg (show ¬ b_plc p c r from fun z => c1 z.1)]
  · rw [ht, decide_eq_false q, if_pos (show bI false = 0 from rfl), if_neg]
    rintro ⟨⟨z1, z2⟩, -⟩
    rw [show cC p = 0 by omega, nI_0] at z2
    grind
theorem hasPlace_c (hs : CC I sl p) (c r : Int32) : f_Slope_hasPlace I sl c r = @ite _ (b_plc p c r) (Classical.propDecidable _) 1 0 := by
  unfold f_Slope_hasPlace
  rw [hs.1, hs.2.1]
  by_cases h1 : c < 0
  · rw [if_pos h1, if_neg (show ¬ b_plc p c r from fun z => by have := z.1.1; grind)]
  · rw [if_neg h1]
    by_cases h2 : nI (cC p) ≤ c
    · rw [if_pos h2, if_neg (show ¬ b_plc p c r from fun z => by have := z.1.2; grind)]
    · rw [if_neg h2]
      by_cases h3 : r < 0
      · rw [if_pos h3, if_neg (show ¬ b_plc p c r from fun z => by have := z.2.1; grind)]
      · rw [if_neg h3]
        by_cases h4 : nI (cR p) ≤ r
        · rw [if_pos h4, if_neg (show ¬ b_plc p c r from fun z => by have := z.2.2; grind)]
        · rw [if_neg h4, if_pos (show b_plc p c r from ⟨⟨by grind, by grind⟩, by grind, by grind⟩)]
theorem ix_2 {v : Int32} {n : Nat} (hn : n < 2 ^ 31) (h : 0 ≤ v ∧ v < nI n) : ∃ j, j < n ∧ v = nI j := ix_of hn h.1 h.2
/-- fault -/
theorem op_fault (h : RelX I J sl p w kl un) (v : Int32) : ∃ a, F_WF_fault sl sd I v = some a ∧ F_MD_fault I v = some a := by
  have hf := h.1.2.1
  unfold F_WF_fault F_MD_fault
  rw [hf.1, hf.2]
  by_cases h0 : v = 0
  · simp only [if_pos h0]; exact ⟨_, rfl, rfl⟩
  · simp only [if_neg h0]
    by_cases h1 : v = 1
    · simp only [if_pos h1]; exact ⟨_, rfl, rfl⟩
    · simp only [if_neg h1]; exact ⟨_, rfl, rfl⟩
/-- status -/
theorem op_status (h : RelX I J sl p w kl un) (v : Int32) : ∃ a, F_WF_status sl sd I v = some a ∧ F_MD_status I v = some a := by
  have hf := h.1.2.2.1
  unfold F_WF_status F_MD_status
  rw [show (0 : Int64) = (0 : Int32).toInt64 by decide, show (5 : Int64) = (5 : Int32).toInt64 by decide, isIn_i]
  simp only [Option.bind_some]
  by_cases h0 : v < 0
  · rw [if_pos h0, if_neg (show ¬ ((0 : Int32) ≤ v ∧ v ≤ 5) by grind), if_pos rfl]; exact ⟨_, rfl, rfl⟩
  · rw [if_neg h0]
    by_cases h1 : 6 ≤ v
    · rw [if_pos h1, if_neg (show ¬ ((0 : Int32) ≤ v ∧ v ≤ 5) by grind), if_pos rfl]; exact ⟨_, rfl, rfl⟩
    · rw [if_neg h1, if_pos (show (0 : Int32) ≤ v ∧ v ≤ 5 by grind), if_neg (by decide)]
      obtain ⟨j, hj, rfl⟩ := ix_2 (v := v) (n := 6) (by decide) ⟨by grind, by show v < 6; grind⟩
      rw [gd_n hj (by decide), gd_n hj (by decide), nI_clamp (by omega), hf j hj]
      exact ⟨_, rfl, rfl⟩
/-- octet -/
theorem op_octet (h : RelX I J sl p w kl un) (v : Int32) : ∃ a, F_WF_octet sl sd I v = some a ∧ F_MD_octet I v = some a := by
  obtain ⟨n, tb, h1, h2, h3, h4⟩ := h.1.2.2.2.1
  unfold F_WF_octet F_MD_octet
  rw [h2, h3]
  by_cases c0 : v < 0
  · simp only [if_pos c0]; exact ⟨_, rfl, rfl⟩
  · simp only [if_neg c0]
    by_cases c1 : nI n ≤ v
    · simp only [if_pos c1]; exact ⟨_, rfl, rfl⟩
    · simp only [if_neg c1]
      obtain ⟨j, hj, rfl⟩ := ix_2 (v := v) (n := n) (by omega) ⟨by grind, by grind⟩
      rw [gd_n (by omega) (by decide), gd_n (by omega) (by decide), nI_clamp (by omega), (h4 j hj).2.1, (h4 j hj).2.2]
      exact ⟨_, rfl, rfl⟩
theorem row_any (ho : CO p) (hw : WC I 20 w) (hv : WO p w) (f c : Int32) : v_rowOf I 20 f c = @ite _ ((0 ≤ f ∧ f < nI (cF p)) ∧ 0 ≤ c ∧ c < nI (cC p)) (Classical.propDecidable _) (wR w f.toNatClampNeg c.toNatClampNeg) (-1) := by
  by_cases h1 : v_isStake f c = true
  · have h2 : 0 ≤ f ∧ f < 6 ∧ 0 ≤ c ∧ c < 6 := of_decide_eq_true h1
    obtain ⟨a, ha, rfl⟩ := ix_2 (v := f) (n := 6) (by decide) ⟨h2.1, h2.2.1⟩
    obtain ⟨b, hb, rfl⟩ := ix_2 (v := c) (n := 6) (by decide) ⟨h2.2.2.1, h2.2.2.2⟩
    rw [row_c hw ha hb]
    split
    · rw [nI_clamp (by omega), nI_clamp (by omega)]
    · rename_i z
      have hF := ho.2.2.1; have hC := ho.1
      refine hv.2.2.2.2.2 a b ?_
      by_cases q1 : a < cF p
      · by_cases q2 : b < cC p
        · exact absurd ⟨⟨nI_pos' (by omega), (nI_ltI (by omega) (by omega)).mpr q1⟩, nI_pos' (by omega), (nI_ltI (by omega) (by omega)).mpr q2⟩ z
        · exact Or.inr (by omega)
      · exact Or.inl (by omega)
  · unfold v_rowOf
    rw [if_neg h1]
    split
    · rename_i z
      exfalso
      apply h1
      unfold v_isStake
      have h3 : nI (cF p) ≤ 6 := nI_le (b := 6) ho.2.2.1 (by decide)
      have h4 : nI (cC p) ≤ 6 := nI_le (b := 6) ho.1 (by decide)
      have z1 := z.1.2; have z2 := z.2.2
      exact decide_eq_true ⟨z.1.1, by grind, z.2.1, by grind⟩
    · rfl
/-- stake -/
theorem op_stake (h : RelX I J sl p w kl un) (f c : Int32) : ∃ a, F_WF_stake sl sd I f c = some a ∧ F_MD_stake I f c = some a := by
  obtain ⟨⟨ho, -⟩, ⟨hc, -, hm, -⟩, -⟩ := h.2.1.2.1
  obtain ⟨⟨hv, -, -⟩, hw, hwm, -⟩ := h.2.1.2.2.1
  have hF := ho.2.2.1; have hC := ho.1
  have e1 : F_WF_stake sl sd I f c = some (v_rowOf I 20 f c) := by
    unfold F_WF_stake
    by_cases q : v_rowOf I 20 f c = -1
    · rw [if_pos q, q]
    · rw [if_neg q]
  refine ⟨_, e1, ?_⟩
  rw [row_any ho hw hv]
  unfold F_MD_stake
  rw [isFence_e ho hm]
  simp only [Option.bind_some]
  by_cases q1 : 0 ≤ f ∧ f < nI (cF p)
  · rw [if_pos q1, if_neg (by decide), isCol_e ho hm]
    simp only [Option.bind_some]
    by_cases q2 : 0 ≤ c ∧ c < nI (cC p)
    · rw [if_pos q2, if_neg (by decide), if_pos (show (0 ≤ f ∧ f < nI (cF p)) ∧ 0 ≤ c ∧ c < nI (cC p) from ⟨q1, q2⟩)]
      obtain ⟨a, ha, rfl⟩ := ix_2 (by omega) q1
      obtain ⟨b, hb, rfl⟩ := ix_2 (by omega) q2
      rw [row_e ho hwm ha hb, nI_clamp (by omega), nI_clamp (by omega)]; rfl
    · rw [if_neg q2, if_pos rfl, if_neg (show ¬ ((0 ≤ f ∧ f < nI (cF p)) ∧ 0 ≤ c ∧ c < nI (cC p)) from fun z => q2 z.2)]
  · rw [if_neg q1, if_pos rfl, if_neg (show ¬ ((0 ≤ f ∧ f < nI (cF p)) ∧ 0 ≤ c ∧ c < nI (cC p)) from fun z => q1 z.1)]
theorem post_c (hw : WC I k w) (hv : WO p w) {c r : Nat} (hc : c < 6) (hr : r < 30) : f_Lay_hasPost I k (nI c) (nI r) = bI (a_pst w c r) := by
  obtain ⟨q, h1, h2, h3⟩ := postN hv c
  unfold f_Lay_hasPost a_pst
  rw [if_neg (nI_pos (by omega)), if_neg (show ¬ (30 : Int32) ≤ nI r from nI_ge (b := 30) hr (by decide)), posts_c hw hc, h3, h2]
  by_cases z : q / 2 ^ r % 2 = 1
  · rw [if_neg (fun y => by have := (bit_0 (by omega) (by omega)).mp y; omega), decide_eq_true z]; rfl
  · rw [if_pos ((bit_0 (by omega) (by omega)).mpr (by omega)), decide_eq_false z]; rfl
theorem post_m (hw : WM I p w) (hv : WO p w) {c r : Nat} (hc : c < 6) (hr : r < 30) : F_MD_isPost I (nI c) (nI r) = some (bI (a_pst w c r)) := by
  obtain ⟨q, h1, h2, h3⟩ := postN hv c
  rw [post_e hw hc, h2]
  unfold a_pst
  rw [h3]
  by_cases z : q / 2 ^ r % 2 = 1
  · rw [if_pos ((bit_1 (by omega) (by omega)).mpr z), decide_eq_true z]; rfl
  · rw [if_neg (fun y => z ((bit_1 (by omega) (by omega)).mp y)), decide_eq_false z]; rfl
/-- place -/
theorem op_place (h : RelX I J sl p w kl un) (c r v : Int32) : ∃ a, F_WF_place sl sd I c r v = some a ∧ F_MD_place I c r v = some a := by
  obtain ⟨⟨ho, -⟩, ⟨hc, -, hm, -⟩, ht, -⟩ := h.2.1.2.1
  obtain ⟨⟨hv, -, -⟩, hw, hwm, -⟩ := h.2.1.2.2.1
  have hC := ho.1; have hR := ho.2.1
  unfold F_WF_place F_MD_place
  rw [hasPlace_c hc, isPlace_e ho hm ht]
  simp only [Option.bind_some]
  by_cases q : b_plc p c r
  · simp only [if_pos q, if_neg (show ¬ (1 : Int32) = 0 by decide)]
    obtain ⟨a, ha, rfl⟩ := ix_2 (by omega) q.1
    obtain ⟨b, hb, rfl⟩ := ix_2 (by omega) q.2
    by_cases v0 : v = 0
    · simp only [if_pos v0]; rw [owner_c hw hv ho (by omega), whose_e ho hm hwm hv ha]; exact ⟨_, rfl, rfl⟩
    · simp only [if_neg v0]
      by_cases v1 : v = 1
      · simp only [if_pos v1]; rw [post_c hw hv (by omega) (by omega), post_m hwm hv (by omega) (by omega)]
        simp only [Option.bind_some]
        by_cases z : bI (a_pst w a b) = 0
        · rw [if_pos z]; exact ⟨_, rfl, rfl⟩
        · rw [if_neg z]; exact ⟨_, rfl, rfl⟩
      · simp only [if_neg v1]
        by_cases v2 : v = 2
        · simp only [if_pos v2]; rw [stakes_c hw hv ho (by omega) (by have : (0 : Int32) ≤ nI b := nI_pos' (by omega); grind), stakes_e ho hm hwm ha]; exact ⟨_, rfl, rfl⟩
        · simp only [if_neg v2]; exact ⟨_, rfl, rfl⟩
  · simp only [if_neg q, if_true]; exact ⟨_, rfl, rfl⟩
/-- fence -/
theorem op_fence (h : RelX I J sl p w kl un) (f v : Int32) : ∃ a, F_WF_fence sl sd I f v = some a ∧ F_MD_fence I f v = some a := by
  obtain ⟨⟨ho, -⟩, ⟨hc, -, hm, -⟩, ht, -⟩ := h.2.1.2.1
  obtain ⟨⟨hv, -, -⟩, hw, hwm, -⟩ := h.2.1.2.2.1
  have hF := ho.2.2.1
  unfold F_WF_fence F_MD_fence
  rw [hasFence_c ho hc, isFence_e ho hm]
  simp only [Option.bind_some]
  by_cases q : 0 ≤ f ∧ f < nI (cF p)
  · simp only [if_pos q, if_neg (show ¬ (1 : Int32) = 0 by decide)]
    obtain ⟨a, ha, rfl⟩ := ix_2 (by omega) q
    by_cases v0 : v = 0
    · simp only [if_pos v0]; rw [gd_n (by omega) (by decide), nI_clamp (by omega), age_e ho hwm ha, show I 21 a = wA w a from hw.2.2.1 a (by omega)]; exact ⟨_, rfl, rfl⟩
    · simp only [if_neg v0]
      by_cases v1 : v = 1
      · simp only [if_pos v1]; rw [hc.2.1, field_c hw hv ho (by omega), field_e ho hm hwm hv]; exact ⟨_, rfl, rfl⟩
      · simp only [if_neg v1]
        by_cases v2 : v = 2
        · simp only [if_pos v2]; rw [left_c hw hv ho (by omega), left_e ho hm hwm ha]; exact ⟨_, rfl, rfl⟩
        · simp only [if_neg v2]
          by_cases v3 : v = 3
          · simp only [if_pos v3]; rw [cut_c hw (by omega), cut_e ho hwm ha]
            simp only [Option.bind_some]
            by_cases z : wK w a = 1
            · rw [if_pos z, if_neg (by decide)]; exact ⟨_, rfl, rfl⟩
            · rw [if_neg z, if_pos rfl]; exact ⟨_, rfl, rfl⟩
          · simp only [if_neg v3]; exact ⟨_, rfl, rfl⟩
  · simp only [if_neg q, if_true]; exact ⟨_, rfl, rfl⟩
theorem two_c (ho : CO p) (hc : CC I sl p) (a b : Int32) : F_WF_areTwoFences sl sd I a b = some (@ite _ ((0 ≤ a ∧ a < nI (cF p)) ∧ (0 ≤ b ∧ b < nI (cF p)) ∧ ¬ a = b) (Classical.propDecidable _) 1 0) := by
  unfold F_WF_areTwoFences
  rw [hasFence_c ho hc, hasFence_c ho hc]
  by_cases q1 : 0 ≤ a ∧ a < nI (cF p)
  · rw [if_pos q1, if_neg (by decide)]
    by_cases q2 : 0 ≤ b ∧ b < nI (cF p)
    · rw [if_pos q2, if_neg (by decide)]
      by_cases q3 : a = b
      · rw [if_pos q3, if_neg (fun z => z.2.2 q3)]
      · rw [if_neg q3, if_pos ⟨q1, q2, q3⟩]
    · rw [if_neg q2, if_pos rfl, if_neg (fun z => q2 z.2.1)]
  · rw [if_neg q1, if_pos rfl, if_neg (fun z => q1 z.1)]
theorem two_e (ho : CO p) (hm : CM I p) (a b : Int32) : F_MD_areTwo I a b = some (@ite _ ((0 ≤ a ∧ a < nI (cF p)) ∧ (0 ≤ b ∧ b < nI (cF p)) ∧ ¬ a = b) (Classical.propDecidable _) 1 0) := by
  unfold F_MD_areTwo
  rw [isFence_e ho hm, isFence_e ho hm]
  simp only [Option.bind_some]
  by_cases q1 : 0 ≤ a ∧ a < nI (cF p)
  · rw [if_pos q1, if_neg (by decide)]
    by_cases q2 : 0 ≤ b ∧ b < nI (cF p)
    · rw [if_pos q2, if_neg (by decide)]
      by_cases q3 : a = b
      · rw [if_pos q3, if_neg (fun z => z.2.2 q3)]
      · rw [if_neg q3, if_pos ⟨q1, q2, q3⟩]
    · rw [if_neg q2, if_pos rfl, if_neg (fun z => q2 z.2.1)]
  · rw [if_neg q1, if_pos rfl, if_neg (fun z => q1 z.1)]
/-- below -/
theorem op_below (h : RelX I J sl p w kl un) (a b : Int32) : ∃ r, F_WF_below sl sd I a b = some r ∧ F_MD_below I a b = some r := by
  obtain ⟨⟨ho, -⟩, ⟨hc, -, hm, -⟩, ht, -⟩ := h.2.1.2.1
  obtain ⟨⟨hv, -, -⟩, hw, hwm, -⟩ := h.2.1.2.2.1
  have hF := ho.2.2.1
  unfold F_WF_below F_MD_below
  rw [two_c ho hc, two_e ho hm]
  simp only [Option.bind_some]
  split
  · rename_i q
    obtain ⟨x, hx, rfl⟩ := ix_2 (by omega) q.1
    obtain ⟨y, hy, rfl⟩ := ix_2 (by omega) q.2.1
    simp only [if_neg (show ¬ (1 : Int32) = 0 by decide)]
    rw [below_c hw hv ho (by omega) (by omega), belows_e ho hm hwm hx hy]; exact ⟨_, rfl, rfl⟩
  · simp only [if_pos rfl]; exact ⟨_, rfl, rfl⟩
end A62
