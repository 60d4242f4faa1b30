/-! both objects, made -/
def L_0 : List (Nat × Nat) := l_MD (l_WF ([] ++ [(11, 0)]) ++ [(12, 0)])
def I_0 : MI := i_MD (m_zap (i_WF (m_zap (fun _ _ => 0) 0 0)) 177 0)
def J_0 : MJ := j_MD (m_zap (j_WF (m_zap (fun _ _ => 0) 0 0)) 177 0)
def R_0 : MRR := r_MD (m_zap (r_WF (m_zap (fun _ _ => none) 0 none)) 177 none)
def p_00 : CF := (0, 0, 0, fun _ => 0, [], [])
def w_00 : WD := (0, fun _ => 0, fun _ => 0, fun _ => 0, fun _ _ => -1)
theorem R0_RF : RF R_0 := by
  have h : m_refs.all (fun q => decide (R_0 q.1 q.2.1 = some q.2.2)) = true := by decide +kernel
  exact fun q hq => of_decide_eq_true (List.all_eq_true.mp h q hq)
theorem R0_s : R_0 0 1 = some (8, 0, 3) ∧ R_0 0 2 = some (8, 0, 11) ∧ R_0 24 1 = some (8, 0, 3) := by decide +kernel
theorem I0_1 : I_0 1 1 = nI 0 ∧ I_0 177 1 = nI 0 ∧ I_0 19 1 = I_0 177 7 ∧ I_0 19 2 = I_0 177 8 ∧ I_0 174 1 = nI 0 ∧ I_0 177 102 = nI 0 ∧ I_0 0 12 = nI 1 ∧ I_0 170 3 = nI 0 ∧ I_0 177 59 = nI 0 := by decide +kernel
theorem I0_2 : ∀ j, j < 6 → I_0 176 j = I_0 179 j := by decide +kernel
theorem J0_1 : J_0 177 68 = lN 1 := by decide +kernel
theorem I0_3 : I_0 3 1 = nI 0 ∧ I_0 3 2 = nI 0 ∧ I_0 3 3 = nI 0 ∧ I_0 3 9 = 0 ∧ I_0 3 10 = 0 ∧ I_0 3 11 = 0 ∧ I_0 3 12 = 0 ∧ I_0 204 2 = nI 0 ∧ I_0 204 3 = nI 0 ∧ I_0 205 2 = nI 0 ∧ I_0 210 2 = -1 ∧ I_0 210 3 = -1 := by decide +kernel
theorem I0_4 : ∀ c, c < 6 → I_0 4 c = 0 ∧ I_0 207 (6 + c) = 0 ∧ I_0 21 c = 0 ∧ I_0 22 c = 0 ∧ I_0 213 (1 + c) = 0 := by decide +kernel
theorem I0_5 : ∀ f, f < 6 → ∀ c, c < 6 → I_0 23 (6 * f + c) = -1 := by decide +kernel
theorem I0_6 : I_0 177 49 = 0 ∧ I_0 3 4 = 0 ∧ I_0 177 43 = 0 ∧ I_0 20 0 = 0 ∧ I_0 20 1 = 0 ∧ I_0 213 0 = 0 ∧ I_0 45 1 = 0 ∧ I_0 45 2 = 0 ∧ I_0 213 55 = 0 ∧ I_0 47 3 = nI 0 ∧ I_0 177 66 = nI 0 ∧ I_0 47 2 = nI 0 ∧ I_0 177 67 = nI 0 ∧ I_0 177 55 = 0 := by decide +kernel
theorem I0_7 : ∀ q, q ∈ m_wds → ∀ j, j < q.2.length → I_0 q.1 j = q.2.getD j 0 := by
  have h : m_wds.all (fun q => (List.range q.2.length).all fun j => decide (I_0 q.1 j = q.2.getD j 0)) = true := by decide +kernel
  intro q hq j hj
  have h1 := List.all_eq_true.mp h q hq
  exact of_decide_eq_true (List.all_eq_true.mp h1 j (List.mem_range.mpr hj))
set_option maxRecDepth 1000000 in
theorem I0_8 (j : Nat) : I_0 2 j = 0 := rfl
theorem L0_len : L_0.length = 248 := len_MD (len_s (len_WF (len_s (n := 0) rfl)))
theorem L0_at : L_0[0]? = some (11, 0) ∧ L_0[177]? = some (12, 0) := by decide +kernel
theorem p00_o : CO p_00 := ⟨by decide, by decide, by decide, fun c => ⟨Int32.le_refl _, (by decide : (0 : Int32) ≤ 9)⟩⟩
theorem w00_o : WO p_00 w_00 := ⟨⟨by decide, by decide⟩, fun f => Or.inl rfl, fun f => ⟨Int32.le_refl _, (by decide : (0 : Int32) ≤ 99)⟩, fun c => ⟨Int32.le_refl _, (by decide : (0 : Int32) < 1073741824)⟩, fun f c => Or.inr rfl, fun f c _ => rfl⟩
theorem w00_x : WX p_00 w_00 := ⟨fun f _ => rfl, fun c _ => rfl, fun c => (by decide : (0 : Int32) < nI (2 ^ 0)), by decide, by decide⟩
theorem Rel_0 : Rel I_0 J_0 3 := by
  obtain ⟨a1, a2, a3, a4, a5, a6, a7, a8, a9⟩ := I0_1
  obtain ⟨b1, b2, b3, b4, b5, b6, b7, b8, b9, b10, b11, b12⟩ := I0_3
  obtain ⟨c1, c2, c3, c4, c5, c6, c7, c8, c9, c10, c11, c12, c13, c14⟩ := I0_6
  refine ⟨Or.inl rfl, p_00, w_00, [], [], ⟨⟨0, fun _ => 0, by decide, a1, a2, fun j hj => absurd hj (by omega)⟩, ⟨a3, a4⟩, I0_2, ⟨0, fun _ => 0, by decide, a5, a6, fun j hj => absurd hj (by omega)⟩, ⟨1, by decide, a7, J0_1⟩⟩, ⟨⟨[], by decide, a8, a9, fun i hi => absurd hi (by simp)⟩, ⟨⟨p00_o, ⟨Or.inl rfl, Or.inl rfl⟩, fun _ => ⟨rfl, rfl⟩, fun z => absurd z (by decide)⟩, ⟨⟨b1, b2, b3, fun c hc => (I0_4 c hc).1⟩, ⟨?_, ?_⟩, ⟨b8, b9, b10, fun c hc => (I0_4 c hc).2.1⟩, ⟨?_, ?_⟩⟩, ?_, ⟨?_, ?_, ?_⟩, ⟨fun _ => [], fun f hf => absurd hf (by show ¬ f < 0; omega)⟩⟩, ⟨⟨w00_o, w00_x, fun x hx => (by cases hx)⟩, ⟨c4, ?_, fun f hf => (I0_4 f hf).2.2.1, fun c hc => (I0_4 c hc).2.2.2.1, fun f c hf hc => I0_5 f hf c hc⟩, ⟨c6, fun f hf => absurd hf (by show ¬ f < 0; omega), fun f hf => absurd hf (by show ¬ f < 0; omega), fun c hc => (I0_4 c hc).2.2.2.2, fun f c hf => absurd hf (by show ¬ f < 0; omega)⟩, ⟨by decide, c8, 0, by decide, c7, fun i hi => absurd hi (by simp)⟩, ⟨c9, by decide, fun i hi => absurd hi (by simp)⟩⟩, ⟨by decide, fun q hq => (by cases hq), c10, c11, ⟨0, by decide, c12, fun i hi => absurd hi (by simp)⟩, ⟨0, by decide, c13, fun i hi => absurd hi (by simp)⟩⟩⟩, fun f n hf => absurd hf (by show ¬ f < 0; omega), c14, I0_7, fun j => by rw [I0_8]; rfl⟩
  · show (if ([] : List Nat) = [] then I_0 3 10 ≤ I_0 3 9 else _)
    rw [if_pos rfl, b5, b4]; exact Int32.le_refl _
  · show (if ([] : List Nat) = [] then I_0 3 12 ≤ I_0 3 11 else _)
    rw [if_pos rfl, b7, b6]; exact Int32.le_refl _
  · show (if ([] : List Nat) = [] then I_0 210 2 = -1 else _)
    rw [if_pos rfl]; exact b11
  · show (if ([] : List Nat) = [] then I_0 210 3 = -1 else _)
    rw [if_pos rfl]; exact b12
  · rw [c1]; rfl
  · rw [c2, c3]
  · rw [c2]; exact Int32.le_refl _
  · rw [c2]; decide
  · rw [c5]; rfl
theorem wInv_0 : wInv L_0 (L_0, I_0, J_0, R_0) := ⟨3, 11, I_0, J_0, R_0, rfl, Or.inl ⟨rfl, rfl⟩, Rel_0, R0_RF, R0_s.1, R0_s.2.1, R0_s.2.2⟩
