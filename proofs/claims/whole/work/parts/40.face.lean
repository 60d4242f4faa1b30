/-! the class: its face as functions -/
noncomputable def F_WF_refuse (sl : Nat) (sd : Nat) (I : MI) (v1 : Int32) : Option (Int32 × MI) :=
  if v1 < (0 : Int32) then (some (((-1) : Int32), I)) else (if (6 : Int32) ≤ v1 then (some (((-1) : Int32), I)) else (gd v1 6 <| gd v1 6 <| some (((-1) : Int32), m_up I 176 (v1.toNatClampNeg) ((I 176 v1.toNatClampNeg) + (1 : Int32)))))
set_option maxRecDepth 100000 in
set_option maxHeartbeats 400000 in
theorem W_WF_refuse {G : MG} {Q : Option MV → MS → Prop} {L : List (Nat × Nat)} {R : Nat → Nat → Option MRef} (sl : Nat) (sd : Nat) (I : MI) (J : MJ) (v1 : Int32) (hR : RF R) (h01 : R 0 1 = some (8, 0, sl)) (h02 : R 0 2 = some (8, 0, sd)) (hs : R 24 1 = some (8, 0, sl)) (hq : sl = 3 ∨ sl = 11) (hqd : sd = 3 ∨ sd = 11) {r : Int32 × MI} (hf : F_WF_refuse sl sd I v1 = some r) (hk : (fun r : Int32 × MI => Q (some (mI r.1)) (L, r.2, J, R)) r) : m_B G (m_rm 1 0 0) M_WF_refuse Q 0 0 0 [some (mR (11, 0, 0)), some (mI v1)] [] (L, I, J, R) := by
  unfold F_WF_refuse at hf
  refine b_blk (pc' := 1) (ls' := [some (mR (11, 0, 0)), some (mI v1)]) (st' := [mI v1]) (S' := (L, I, J, R)) (P := True) [(.iload_n 1, (0, 0, 0, 0, 0))] [] (by decide +kernel) rfl trivial ?_
  refine b_if_lt (off := 19) (tgt := 20) (by decide +kernel) (by decide) (fun h1 => ?_) (fun h1 => ?_)
  · have hf := if_t h1 hf
    refine b_blk (pc' := 21) (ls' := [some (mR (11, 0, 0)), some (mI v1)]) (st' := [mI (-1)]) (S' := (L, I, J, R)) (P := True) [(.iconst (-1), (0, 0, 0, (-1), 0))] [] (by decide +kernel) rfl trivial ?_
    cases hf
    exact b_iret (by decide +kernel) rfl hk
  · have hf := if_f h1 hf
    refine b_blk (pc' := 7) (ls' := [some (mR (11, 0, 0)), some (mI v1)]) (st' := [mI 6, mI v1]) (S' := (L, I, J, R)) (P := True) [(.iload_n 1, (0, 0, 0, 0, 0)), (.bipush 6, (0, 0, 0, 6, 0))] [] (by decide +kernel) rfl trivial ?_
    refine b_icmp_ge (off := 13) (tgt := 20) (by decide +kernel) (by decide) (fun h2 => ?_) (fun h2 => ?_)
    · have hf := if_t h2 hf
      refine b_blk (pc' := 21) (ls' := [some (mR (11, 0, 0)), some (mI v1)]) (st' := [mI (-1)]) (S' := (L, I, J, R)) (P := True) [(.iconst (-1), (0, 0, 0, (-1), 0))] [] (by decide +kernel) rfl trivial ?_
      cases hf
      exact b_iret (by decide +kernel) rfl hk
    · have hf := if_f h2 hf
      obtain ⟨g3, hf⟩ := gd_s hf
      obtain ⟨g4, hf⟩ := gd_s hf
      refine b_blk (pc' := 21) (ls' := [some (mR (11, 0, 0)), some (mI v1)]) (st' := [mI (-1)]) (S' := (L, m_up I 176 (v1.toNatClampNeg) ((I 176 v1.toNatClampNeg) + (1 : Int32)), J, R)) (P := (((True ∧ R 0 11 = some (20, 6, 176)) ∧ vp_in v1 6) ∧ vp_in v1 6)) [(.aload_n 0, (0, 0, 0, 0, 0)), (.getfield 88, (11, 11, 3, 0, 0)), (.iload_n 1, (0, 0, 0, 0, 0)), (.dup2, (0, 0, 0, 0, 0)), (.iaload, (0, 0, 0, 0, 0)), (.iconst 1, (0, 0, 0, 1, 0)), (.iadd, (0, 0, 0, 0, 0)), (.iastore, (0, 0, 0, 0, 0)), (.iconst (-1), (0, 0, 0, (-1), 0))] [some (20, 6, 176)] (by decide +kernel) rfl ⟨⟨⟨trivial, (r_0_11 hR)⟩, (in_n (n := 6) (by decide) g3.1 g3.2)⟩, (in_n (n := 6) (by decide) g4.1 g4.2)⟩ ?_
      cases hf
      exact b_iret (by decide +kernel) rfl hk
theorem C_WF_refuse {G : MG} {L : List (Nat × Nat)} {R : Nat → Nat → Option MRef} (sl : Nat) (sd : Nat) (I : MI) (J : MJ) (v1 : Int32) (hR : RF R) (h01 : R 0 1 = some (8, 0, sl)) (h02 : R 0 2 = some (8, 0, sd)) (hs : R 24 1 = some (8, 0, sl)) (hq : sl = 3 ∨ sl = 11) (hqd : sd = 3 ∨ sd = 11) {r : Int32 × MI} (hf : F_WF_refuse sl sd I v1 = some r) : m_met G 1 0 0 y_WF_refuse M_WF_refuse [mR (11, 0, 0), mI v1] (L, I, J, R) (m_is (some (mI r.1)) (L, r.2, J, R)) :=
  m_met_in n_WF_refuse (plainFor_of_name (by decide)) (by decide) (Nat.le_of_ble_eq_true rfl) (ls := [some (mR (11, 0, 0)), some (mI v1)]) rfl (W_WF_refuse sl sd I J v1 hR h01 h02 hs hq hqd hf ⟨rfl, rfl⟩)
noncomputable def F_WF_beginAnew (k : Nat) (I : MI) : Option (MI) :=
  (F_History_clear (m_up (m_up (w_take I 20 k) 45 1 (0 : Int32)) 45 2 (0 : Int32))).bind fun r1 => some (m_up r1 30 7 (-1 : Int32))
set_option maxRecDepth 100000 in
set_option maxHeartbeats 400000 in
theorem W_WF_beginAnew {G : MG} {Q : Option MV → MS → Prop} {L : List (Nat × Nat)} {R : Nat → Nat → Option MRef} (k : Nat) (I : MI) (J : MJ) (hR : RF R) (hk : LayR R k) {r : MI} (hf : F_WF_beginAnew k I = some r) (hk : (fun r : MI => Q (none) (L, r, J, R)) r) : m_B G (m_rm 3 0 0) M_WF_beginAnew Q 0 0 0 [some (mR (11, 0, 0)), some (mR (3, 0, k))] [] (L, I, J, R) := by
  unfold F_WF_beginAnew at hf
  refine b_blk (pc' := 5) (ls' := [some (mR (11, 0, 0)), some (mR (3, 0, k))]) (st' := [mR (3, 0, k), mR (3, 0, 20)]) (S' := (L, I, J, R)) (P := (True ∧ R 0 4 = some (3, 0, 20))) [(.aload_n 0, (0, 0, 0, 0, 0)), (.getfield 38, (11, 4, 3, 0, 0)), (.aload_n 1, (0, 0, 0, 0, 0))] [some (3, 0, 20)] (by decide +kernel) rfl ⟨trivial, (r_0_4 hR)⟩ ?_
  refine b_cV (as := [mR (3, 0, k)]) (st := []) (by decide +kernel) k_11_335 n_Lay_takeFrom rfl (by decide) v_Lay_takeFrom (c_take 20 k (ly_20 hR) (by assumption)) (Nat.le_of_ble_eq_true rfl) (by decide) rfl rfl (fun _ h => h) ?_
  show m_B _ _ _ _ _ _ 8 [some (mR (11, 0, 0)), some (mR (3, 0, k))] [] (L, w_take I 20 k, J, R)
  refine b_blk (pc' := 12) (ls' := [some (mR (11, 0, 0)), some (mR (3, 0, k))]) (st' := [mR (4, 0, 45)]) (S' := (L, w_take I 20 k, J, R)) (P := (True ∧ R 0 7 = some (4, 0, 45))) [(.aload_n 0, (0, 0, 0, 0, 0)), (.getfield 63, (11, 7, 3, 0, 0))] [some (4, 0, 45)] (by decide +kernel) rfl ⟨trivial, (r_0_7 hR)⟩ ?_
  refine b_cV (as := []) (st := []) (by decide +kernel) k_11_338 n_Log_clear rfl (by decide) v_Log_clear (c_Log_clear 45 ) (Nat.le_of_ble_eq_true rfl) (by decide) rfl rfl (fun _ h => h) ?_
  show m_B _ _ _ _ _ _ 15 [some (mR (11, 0, 0)), some (mR (3, 0, k))] [] (L, m_up (m_up (w_take I 20 k) 45 1 (0 : Int32)) 45 2 (0 : Int32), J, R)
  refine b_blk (pc' := 19) (ls' := [some (mR (11, 0, 0)), some (mR (3, 0, k))]) (st' := [mR (1, 0, 47)]) (S' := (L, m_up (m_up (w_take I 20 k) 45 1 (0 : Int32)) 45 2 (0 : Int32), J, R)) (P := (True ∧ R 0 8 = some (1, 0, 47))) [(.aload_n 0, (0, 0, 0, 0, 0)), (.getfield 70, (11, 8, 3, 0, 0))] [some (1, 0, 47)] (by decide +kernel) rfl ⟨trivial, (r_0_8 hR)⟩ ?_
  obtain ⟨r1, hc1, hf⟩ := bnd_o hf
  refine b_cV (as := []) (st := []) (by decide +kernel) k_11_341 n_History_clear rfl (by decide) v_History_clear (C_History_clear (m_up (m_up (w_take I 20 k) 45 1 (0 : Int32)) 45 2 (0 : Int32)) J hR hc1) (Nat.le_of_ble_eq_true rfl) (by decide) rfl rfl (fun _ h => h) ?_
  show m_B G (m_rm 3 0 0) M_WF_beginAnew Q 0 0 22 [some (mR (11, 0, 0)), some (mR (3, 0, k))] [] (L, r1, J, R)
  refine b_blk (pc' := 26) (ls' := [some (mR (11, 0, 0)), some (mR (3, 0, k))]) (st' := [mR (0, 0, 30)]) (S' := (L, r1, J, R)) (P := (True ∧ R 0 6 = some (0, 0, 30))) [(.aload_n 0, (0, 0, 0, 0, 0)), (.getfield 56, (11, 6, 3, 0, 0))] [some (0, 0, 30)] (by decide +kernel) rfl ⟨trivial, (r_0_6 hR)⟩ ?_
  refine b_cV (as := []) (st := []) (by decide +kernel) k_11_304 n_Foresight_forget rfl (by decide) v_Foresight_forget (c_Foresight_forget  ) (Nat.le_of_ble_eq_true rfl) (by decide) rfl rfl (fun _ h => h) ?_
  show m_B _ _ _ _ _ _ 29 [some (mR (11, 0, 0)), some (mR (3, 0, k))] [] (L, m_up r1 30 7 (-1 : Int32), J, R)
  cases hf
  exact b_vret (by decide +kernel) rfl hk
theorem C_WF_beginAnew {G : MG} {L : List (Nat × Nat)} {R : Nat → Nat → Option MRef} (k : Nat) (I : MI) (J : MJ) (hR : RF R) (hk : LayR R k) {r : MI} (hf : F_WF_beginAnew k I = some r) : m_met G 3 0 0 y_WF_beginAnew M_WF_beginAnew [mR (11, 0, 0), mR (3, 0, k)] (L, I, J, R) (m_is (none) (L, r, J, R)) :=
  m_met_in n_WF_beginAnew (plainFor_of_name (by decide)) (by decide) (Nat.le_of_ble_eq_true rfl) (ls := [some (mR (11, 0, 0)), some (mR (3, 0, k))]) rfl (W_WF_beginAnew k I J hR hk hf ⟨rfl, rfl⟩)
noncomputable def F_WF_beginAct (sl : Nat) (sd : Nat) (I : MI) : Option (MI) :=
  (F_History_keep I).bind fun r1 => some (m_up r1 30 7 (-1 : Int32))
set_option maxRecDepth 100000 in
set_option maxHeartbeats 400000 in
theorem W_WF_beginAct {G : MG} {Q : Option MV → MS → Prop} {L : List (Nat × Nat)} {R : Nat → Nat → Option MRef} (sl : Nat) (sd : Nat) (I : MI) (J : MJ) (hR : RF R) (h01 : R 0 1 = some (8, 0, sl)) (h02 : R 0 2 = some (8, 0, sd)) (hs : R 24 1 = some (8, 0, sl)) (hq : sl = 3 ∨ sl = 11) (hqd : sd = 3 ∨ sd = 11) {r : MI} (hf : F_WF_beginAct sl sd I = some r) (hk : (fun r : MI => Q (none) (L, r, J, R)) r) : m_B G (m_rm 4 0 0) M_WF_beginAct Q 0 0 0 [some (mR (11, 0, 0))] [] (L, I, J, R) := by
  unfold F_WF_beginAct at hf
  refine b_blk (pc' := 12) (ls' := [some (mR (11, 0, 0))]) (st' := [mR (4, 0, 45), mR (3, 0, 20), mR (1, 0, 47)]) (S' := (L, I, J, R)) (P := (((True ∧ R 0 8 = some (1, 0, 47)) ∧ R 0 4 = some (3, 0, 20)) ∧ R 0 7 = some (4, 0, 45))) [(.aload_n 0, (0, 0, 0, 0, 0)), (.getfield 70, (11, 8, 3, 0, 0)), (.aload_n 0, (0, 0, 0, 0, 0)), (.getfield 38, (11, 4, 3, 0, 0)), (.aload_n 0, (0, 0, 0, 0, 0)), (.getfield 63, (11, 7, 3, 0, 0))] [some (1, 0, 47), some (3, 0, 20), some (4, 0, 45)] (by decide +kernel) rfl ⟨⟨⟨trivial, (r_0_8 hR)⟩, (r_0_4 hR)⟩, (r_0_7 hR)⟩ ?_
  obtain ⟨r1, hc1, hf⟩ := bnd_o hf
  refine b_cV (as := [mR (3, 0, 20), mR (4, 0, 45)]) (st := []) (by decide +kernel) k_11_342 n_History_keep rfl (by decide) v_History_keep (C_History_keep I J hR hc1) (Nat.le_of_ble_eq_true rfl) (by decide) rfl rfl (fun _ h => h) ?_
  show m_B G (m_rm 4 0 0) M_WF_beginAct Q 0 0 15 [some (mR (11, 0, 0))] [] (L, r1, J, R)
  refine b_blk (pc' := 19) (ls' := [some (mR (11, 0, 0))]) (st' := [mR (0, 0, 30)]) (S' := (L, r1, J, R)) (P := (True ∧ R 0 6 = some (0, 0, 30))) [(.aload_n 0, (0, 0, 0, 0, 0)), (.getfield 56, (11, 6, 3, 0, 0))] [some (0, 0, 30)] (by decide +kernel) rfl ⟨trivial, (r_0_6 hR)⟩ ?_
  refine b_cV (as := []) (st := []) (by decide +kernel) k_11_304 n_Foresight_forget rfl (by decide) v_Foresight_forget (c_Foresight_forget  ) (Nat.le_of_ble_eq_true rfl) (by decide) rfl rfl (fun _ h => h) ?_
  show m_B _ _ _ _ _ _ 22 [some (mR (11, 0, 0))] [] (L, m_up r1 30 7 (-1 : Int32), J, R)
  cases hf
  exact b_vret (by decide +kernel) rfl hk
theorem C_WF_beginAct {G : MG} {L : List (Nat × Nat)} {R : Nat → Nat → Option MRef} (sl : Nat) (sd : Nat) (I : MI) (J : MJ) (hR : RF R) (h01 : R 0 1 = some (8, 0, sl)) (h02 : R 0 2 = some (8, 0, sd)) (hs : R 24 1 = some (8, 0, sl)) (hq : sl = 3 ∨ sl = 11) (hqd : sd = 3 ∨ sd = 11) {r : MI} (hf : F_WF_beginAct sl sd I = some r) : m_met G 4 0 0 y_WF_beginAct M_WF_beginAct [mR (11, 0, 0)] (L, I, J, R) (m_is (none) (L, r, J, R)) :=
  m_met_in n_WF_beginAct (plainFor_of_name (by decide)) (by decide) (Nat.le_of_ble_eq_true rfl) (ls := [some (mR (11, 0, 0))]) rfl (W_WF_beginAct sl sd I J hR h01 h02 hs hq hqd hf ⟨rfl, rfl⟩)
noncomputable def F_WF_yearsAtMost (sl : Nat) (sd : Nat) (I : MI) (v1 : Int32) : Option (Int32) :=
  some (f_Math_min_II v1 ((999 : Int32) - (I 20 0)) : Int32)
set_option maxRecDepth 100000 in
set_option maxHeartbeats 400000 in
theorem W_WF_yearsAtMost {G : MG} {Q : Option MV → MS → Prop} {L : List (Nat × Nat)} {R : Nat → Nat → Option MRef} (sl : Nat) (sd : Nat) (I : MI) (J : MJ) (v1 : Int32) (hR : RF R) (h01 : R 0 1 = some (8, 0, sl)) (h02 : R 0 2 = some (8, 0, sd)) (hs : R 24 1 = some (8, 0, sl)) (hq : sl = 3 ∨ sl = 11) (hqd : sd = 3 ∨ sd = 11) {r : Int32} (hf : F_WF_yearsAtMost sl sd I v1 = some r) (hk : (fun r : Int32 => Q (some (mI r)) (L, I, J, R)) r) : m_B G (m_rm 2 0 0) M_WF_yearsAtMost Q 0 0 0 [some (mR (11, 0, 0)), some (mI v1)] [] (L, I, J, R) := by
  unfold F_WF_yearsAtMost at hf
  refine b_blk (pc' := 12) (ls' := [some (mR (11, 0, 0)), some (mI v1)]) (st' := [mI ((999 : Int32) - (I 20 0)), mI v1]) (S' := (L, I, J, R)) (P := (True ∧ R 0 4 = some (3, 0, 20))) [(.iload_n 1, (0, 0, 0, 0, 0)), (.sipush 999, (0, 0, 0, 999, 0)), (.aload_n 0, (0, 0, 0, 0, 0)), (.getfield 38, (11, 4, 3, 0, 0)), (.getfield 140, (3, 0, 0, 0, 0)), (.isub, (0, 0, 0, 0, 0))] [some (3, 0, 20)] (by decide +kernel) rfl ⟨trivial, (r_0_4 hR)⟩ ?_
  refine b_cS (as := [mI v1, mI ((999 : Int32) - (I 20 0))]) (st := []) (by decide +kernel) k_11_346 n_Math_min_II s_Math_min_II (c_Math_min_II v1 ((999 : Int32) - (I 20 0)) ) (Nat.le_of_ble_eq_true rfl) (by decide) rfl rfl (fun _ h => h) ?_
  show m_B _ _ _ _ _ _ 15 [some (mR (11, 0, 0)), some (mI v1)] [mI (f_Math_min_II v1 ((999 : Int32) - (I 20 0)))] (L, I, J, R)
  cases hf
  exact b_iret (by decide +kernel) rfl hk
theorem C_WF_yearsAtMost {G : MG} {L : List (Nat × Nat)} {R : Nat → Nat → Option MRef} (sl : Nat) (sd : Nat) (I : MI) (J : MJ) (v1 : Int32) (hR : RF R) (h01 : R 0 1 = some (8, 0, sl)) (h02 : R 0 2 = some (8, 0, sd)) (hs : R 24 1 = some (8, 0, sl)) (hq : sl = 3 ∨ sl = 11) (hqd : sd = 3 ∨ sd = 11) {r : Int32} (hf : F_WF_yearsAtMost sl sd I v1 = some r) : m_met G 2 0 0 y_WF_yearsAtMost M_WF_yearsAtMost [mR (11, 0, 0), mI v1] (L, I, J, R) (m_is (some (mI r)) (L, I, J, R)) :=
  m_met_in n_WF_yearsAtMost (plainFor_of_name (by decide)) (by decide) (Nat.le_of_ble_eq_true rfl) (ls := [some (mR (11, 0, 0)), some (mI v1)]) rfl (W_WF_yearsAtMost sl sd I J v1 hR h01 h02 hs hq hqd hf ⟨rfl, rfl⟩)
noncomputable def F_WF_areTwoFences (sl : Nat) (sd : Nat) (I : MI) (v1 : Int32) (v2 : Int32) : Option (Int32) :=
  if (f_Slope_hasFence I sl v1) = (0 : Int32) then (some (0 : Int32)) else (if (f_Slope_hasFence I sl v2) = (0 : Int32) then (some (0 : Int32)) else (if v1 = v2 then (some (0 : Int32)) else (some (1 : Int32))))
set_option maxRecDepth 100000 in
set_option maxHeartbeats 400000 in
theorem W_WF_areTwoFences {G : MG} {Q : Option MV → MS → Prop} {L : List (Nat × Nat)} {R : Nat → Nat → Option MRef} (sl : Nat) (sd : Nat) (I : MI) (J : MJ) (v1 : Int32) (v2 : Int32) (hR : RF R) (h01 : R 0 1 = some (8, 0, sl)) (h02 : R 0 2 = some (8, 0, sd)) (hs : R 24 1 = some (8, 0, sl)) (hq : sl = 3 ∨ sl = 11) (hqd : sd = 3 ∨ sd = 11) {r : Int32} (hf : F_WF_areTwoFences sl sd I v1 v2 = some r) (hk : (fun r : Int32 => Q (some (mI r)) (L, I, J, R)) r) : m_B G (m_rm 2 0 0) M_WF_areTwoFences Q 0 0 0 [some (mR (11, 0, 0)), some (mI v1), some (mI v2)] [] (L, I, J, R) := by
  unfold F_WF_areTwoFences at hf
  refine b_blk (pc' := 5) (ls' := [some (mR (11, 0, 0)), some (mI v1), some (mI v2)]) (st' := [mI v1, mR (8, 0, sl)]) (S' := (L, I, J, R)) (P := (True ∧ R 0 1 = some (8, 0, sl))) [(.aload_n 0, (0, 0, 0, 0, 0)), (.getfield 19, (11, 1, 3, 0, 0)), (.iload_n 1, (0, 0, 0, 0, 0))] [some (8, 0, sl)] (by decide +kernel) rfl ⟨trivial, h01⟩ ?_
  refine b_cV (as := [mI v1]) (st := []) (by decide +kernel) k_11_163 n_Slope_hasFence rfl (by decide) v_Slope_hasFence (c_Slope_hasFence sl v1 ) (Nat.le_of_ble_eq_true rfl) (by decide) rfl rfl (fun _ h => h) ?_
  show m_B _ _ _ _ _ _ 8 [some (mR (11, 0, 0)), some (mI v1), some (mI v2)] [mI (f_Slope_hasFence I sl v1)] (L, I, J, R)
  refine b_if_eq (off := 23) (tgt := 31) (by decide +kernel) (by decide) (fun h1 => ?_) (fun h1 => ?_)
  · have hf := if_t h1 hf
    refine b_blk (pc' := 32) (ls' := [some (mR (11, 0, 0)), some (mI v1), some (mI v2)]) (st' := [mI 0]) (S' := (L, I, J, R)) (P := True) [(.iconst 0, (0, 0, 0, 0, 0))] [] (by decide +kernel) rfl trivial ?_
    cases hf
    exact b_zret (by decide +kernel) rfl (by decide) hk
  · have hf := if_f h1 hf
    refine b_blk (pc' := 16) (ls' := [some (mR (11, 0, 0)), some (mI v1), some (mI v2)]) (st' := [mI v2, mR (8, 0, sl)]) (S' := (L, I, J, R)) (P := (True ∧ R 0 1 = some (8, 0, sl))) [(.aload_n 0, (0, 0, 0, 0, 0)), (.getfield 19, (11, 1, 3, 0, 0)), (.iload_n 2, (0, 0, 0, 0, 0))] [some (8, 0, sl)] (by decide +kernel) rfl ⟨trivial, h01⟩ ?_
    refine b_cV (as := [mI v2]) (st := []) (by decide +kernel) k_11_163 n_Slope_hasFence rfl (by decide) v_Slope_hasFence (c_Slope_hasFence sl v2 ) (Nat.le_of_ble_eq_true rfl) (by decide) rfl rfl (fun _ h => h) ?_
    show m_B _ _ _ _ _ _ 19 [some (mR (11, 0, 0)), some (mI v1), some (mI v2)] [mI (f_Slope_hasFence I sl v2)] (L, I, J, R)
    refine b_if_eq (off := 12) (tgt := 31) (by decide +kernel) (by decide) (fun h2 => ?_) (fun h2 => ?_)
    · have hf := if_t h2 hf
      refine b_blk (pc' := 32) (ls' := [some (mR (11, 0, 0)), some (mI v1), some (mI v2)]) (st' := [mI 0]) (S' := (L, I, J, R)) (P := True) [(.iconst 0, (0, 0, 0, 0, 0))] [] (by decide +kernel) rfl trivial ?_
      cases hf
      exact b_zret (by decide +kernel) rfl (by decide) hk
    · have hf := if_f h2 hf
      refine b_blk (pc' := 24) (ls' := [some (mR (11, 0, 0)), some (mI v1), some (mI v2)]) (st' := [mI v2, mI v1]) (S' := (L, I, J, R)) (P := True) [(.iload_n 1, (0, 0, 0, 0, 0)), (.iload_n 2, (0, 0, 0, 0, 0))] [] (by decide +kernel) rfl trivial ?_
      refine b_icmp_eq (off := 7) (tgt := 31) (by decide +kernel) (by decide) (fun h3 => ?_) (fun h3 => ?_)
      · have hf := if_t h3 hf
        refine b_blk (pc' := 32) (ls' := [some (mR (11, 0, 0)), some (mI v1), some (mI v2)]) (st' := [mI 0]) (S' := (L, I, J, R)) (P := True) [(.iconst 0, (0, 0, 0, 0, 0))] [] (by decide +kernel) rfl trivial ?_
        cases hf
        exact b_zret (by decide +kernel) rfl (by decide) hk
      · have hf := if_f h3 hf
        refine b_blk (pc' := 32) (ls' := [some (mR (11, 0, 0)), some (mI v1), some (mI v2)]) (st' := [mI 1]) (S' := (L, I, J, R)) (P := True) [(.iconst 1, (0, 0, 0, 1, 0)), (.goto 4, (0, 32, 0, 0, 0))] [] (by decide +kernel) rfl trivial ?_
        cases hf
        exact b_zret (by decide +kernel) rfl (by decide) hk
theorem C_WF_areTwoFences {G : MG} {L : List (Nat × Nat)} {R : Nat → Nat → Option MRef} (sl : Nat) (sd : Nat) (I : MI) (J : MJ) (v1 : Int32) (v2 : Int32) (hR : RF R) (h01 : R 0 1 = some (8, 0, sl)) (h02 : R 0 2 = some (8, 0, sd)) (hs : R 24 1 = some (8, 0, sl)) (hq : sl = 3 ∨ sl = 11) (hqd : sd = 3 ∨ sd = 11) {r : Int32} (hf : F_WF_areTwoFences sl sd I v1 v2 = some r) : m_met G 2 0 0 y_WF_areTwoFences M_WF_areTwoFences [mR (11, 0, 0), mI v1, mI v2] (L, I, J, R) (m_is (some (mI r)) (L, I, J, R)) :=
  m_met_in n_WF_areTwoFences (plainFor_of_name (by decide)) (by decide) (Nat.le_of_ble_eq_true rfl) (ls := [some (mR (11, 0, 0)), some (mI v1), some (mI v2)]) rfl (W_WF_areTwoFences sl sd I J v1 v2 hR h01 h02 hs hq hqd hf ⟨rfl, rfl⟩)
noncomputable def F_WF_countStakes_4 (sl : Nat) (sd : Nat) (I : MI) (v1 : Int32) (v2 : Int32) : Option ((Int32 × Int32) ⊕ (Int32)) :=
  if (I sl 3) ≤ v2 then (some (.inr (v1 : Int32))) else (some (.inl ((v1 + (l_left I 20 v2 6) : Int32), (v2 + 1 : Int32))))
set_option maxRecDepth 100000 in
set_option maxHeartbeats 400000 in
theorem W_WF_countStakes_4 {G : MG} {Q : Option MV → MS → Prop} {L : List (Nat × Nat)} {R : Nat → Nat → Option MRef} (sl : Nat) (sd : Nat) (I : MI) (J : MJ) (v1 : Int32) (v2 : Int32) (hR : RF R) (h01 : R 0 1 = some (8, 0, sl)) (h02 : R 0 2 = some (8, 0, sd)) (hs : R 24 1 = some (8, 0, sl)) (hq : sl = 3 ∨ sl = 11) (hqd : sd = 3 ∨ sd = 11) {r : (Int32 × Int32) ⊕ (Int32)} (hf : F_WF_countStakes_4 sl sd I v1 v2 = some r) (hk : (Sum.elim (fun s : Int32 × Int32 => m_B G (m_rm 4 0 0) M_WF_countStakes Q 0 0 4 [some (mR (11, 0, 0)), some (mI s.1), some (mI s.2)] [] (L, I, J, R)) (fun s : Int32 => m_B G (m_rm 4 0 0) M_WF_countStakes Q 0 0 32 [none, some (mI s), none] [] (L, I, J, R))) r) : m_B G (m_rm 4 0 0) M_WF_countStakes Q 0 0 4 [some (mR (11, 0, 0)), some (mI v1), some (mI v2)] [] (L, I, J, R) := by
  unfold F_WF_countStakes_4 at hf
  refine b_blk (pc' := 12) (ls' := [some (mR (11, 0, 0)), some (mI v1), some (mI v2)]) (st' := [mI (I sl 3), mI v2]) (S' := (L, I, J, R)) (P := (True ∧ R 0 1 = some (8, 0, sl))) [(.iload_n 2, (0, 0, 0, 0, 0)), (.aload_n 0, (0, 0, 0, 0, 0)), (.getfield 19, (11, 1, 3, 0, 0)), (.getfield 137, (8, 3, 0, 0, 0))] [some (8, 0, sl)] (by decide +kernel) rfl ⟨trivial, h01⟩ ?_
  refine b_icmp_ge (off := 20) (tgt := 32) (by decide +kernel) (by decide) (fun h1 => ?_) (fun h1 => ?_)
  · have hf := if_t h1 hf
    refine b_frg 0 ?_
    refine b_frg 2 ?_
    cases hf
    exact hk
  · have hf := if_f h1 hf
    refine b_blk (pc' := 21) (ls' := [some (mR (11, 0, 0)), some (mI v1), some (mI v2)]) (st' := [mI v2, mR (3, 0, 20), mI v1]) (S' := (L, I, J, R)) (P := (True ∧ R 0 4 = some (3, 0, 20))) [(.iload_n 1, (0, 0, 0, 0, 0)), (.aload_n 0, (0, 0, 0, 0, 0)), (.getfield 38, (11, 4, 3, 0, 0)), (.iload_n 2, (0, 0, 0, 0, 0))] [some (3, 0, 20)] (by decide +kernel) rfl ⟨trivial, (r_0_4 hR)⟩ ?_
    refine b_cV (as := [mI v2]) (st := [mI v1]) (by decide +kernel) k_11_190 n_Lay_leftOf rfl (by decide) v_Lay_leftOf (c_Lay_leftOf 20 v2 (ly_20 hR)) (Nat.le_of_ble_eq_true rfl) (by decide) rfl rfl (fun _ h => h) ?_
    show m_B _ _ _ _ _ _ 24 [some (mR (11, 0, 0)), some (mI v1), some (mI v2)] [mI (l_left I 20 v2 6), mI v1] (L, I, J, R)
    refine b_blk (pc' := 4) (ls' := [some (mR (11, 0, 0)), some (mI (v1 + (l_left I 20 v2 6))), some (mI (v2 + 1))]) (st' := []) (S' := (L, I, J, R)) (P := True) [(.iadd, (0, 0, 0, 0, 0)), (.istore_n 1, (0, 0, 0, 0, 0)), (.iinc 2 1, (0, 0, 0, 1, 0)), (.goto (-25), (0, 4, 0, 0, 0))] [] (by decide +kernel) rfl trivial ?_
    cases hf
    exact hk
noncomputable def F_WF_countStakes (sl : Nat) (sd : Nat) (I : MI) : Option (Int32) :=
  (wl (fun s : Int32 × Int32 => F_WF_countStakes_4 sl sd I s.1 s.2) ((0 : Int32), (0 : Int32))).bind fun t1 => some (t1 : Int32)
set_option maxRecDepth 100000 in
set_option maxHeartbeats 400000 in
theorem W_WF_countStakes {G : MG} {Q : Option MV → MS → Prop} {L : List (Nat × Nat)} {R : Nat → Nat → Option MRef} (sl : Nat) (sd : Nat) (I : MI) (J : MJ) (hR : RF R) (h01 : R 0 1 = some (8, 0, sl)) (h02 : R 0 2 = some (8, 0, sd)) (hs : R 24 1 = some (8, 0, sl)) (hq : sl = 3 ∨ sl = 11) (hqd : sd = 3 ∨ sd = 11) {r : Int32} (hf : F_WF_countStakes sl sd I = some r) (hk : (fun r : Int32 => Q (some (mI r)) (L, I, J, R)) r) : m_B G (m_rm 4 0 0) M_WF_countStakes Q 0 0 0 [some (mR (11, 0, 0)), none, none] [] (L, I, J, R) := by
  unfold F_WF_countStakes at hf
  refine b_blk (pc' := 4) (ls' := [some (mR (11, 0, 0)), some (mI 0), some (mI 0)]) (st' := []) (S' := (L, I, J, R)) (P := True) [(.iconst 0, (0, 0, 0, 0, 0)), (.istore_n 1, (0, 0, 0, 0, 0)), (.iconst 0, (0, 0, 0, 0, 0)), (.istore_n 2, (0, 0, 0, 0, 0))] [] (by decide +kernel) rfl trivial ?_
  obtain ⟨t1, hw, hf⟩ := bnd_o hf
  refine wl_B (A := fun s : Int32 × Int32 => m_B G (m_rm 4 0 0) M_WF_countStakes Q 0 0 4 [some (mR (11, 0, 0)), some (mI s.1), some (mI s.2)] [] (L, I, J, R)) (B := (fun s : Int32 => m_B G (m_rm 4 0 0) M_WF_countStakes Q 0 0 32 [none, some (mI s), none] [] (L, I, J, R))) (fun s r hs_ hr => W_WF_countStakes_4 sl sd I J s.1 s.2 hR h01 h02 hs hq hqd hs_ hr) hw ?_
  show m_B G (m_rm 4 0 0) M_WF_countStakes Q 0 0 32 [none, some (mI t1), none] [] (L, I, J, R)
  refine b_blk (pc' := 33) (ls' := [none, some (mI t1), none]) (st' := [mI t1]) (S' := (L, I, J, R)) (P := True) [(.iload_n 1, (0, 0, 0, 0, 0))] [] (by decide +kernel) rfl trivial ?_
  cases hf
  exact b_iret (by decide +kernel) rfl hk
theorem C_WF_countStakes {G : MG} {L : List (Nat × Nat)} {R : Nat → Nat → Option MRef} (sl : Nat) (sd : Nat) (I : MI) (J : MJ) (hR : RF R) (h01 : R 0 1 = some (8, 0, sl)) (h02 : R 0 2 = some (8, 0, sd)) (hs : R 24 1 = some (8, 0, sl)) (hq : sl = 3 ∨ sl = 11) (hqd : sd = 3 ∨ sd = 11) {r : Int32} (hf : F_WF_countStakes sl sd I = some r) : m_met G 4 0 0 y_WF_countStakes M_WF_countStakes [mR (11, 0, 0)] (L, I, J, R) (m_is (some (mI r)) (L, I, J, R)) :=
  m_met_in n_WF_countStakes (plainFor_of_name (by decide)) (by decide) (Nat.le_of_ble_eq_true rfl) (ls := [some (mR (11, 0, 0)), none, none]) rfl (W_WF_countStakes sl sd I J hR h01 h02 hs hq hqd hf ⟨rfl, rfl⟩)
noncomputable def F_WF_countMoor_18 (sl : Nat) (sd : Nat) (I : MI) (v1 : Int32) (v2 : Int32) : Option ((Int32 × Int32) ⊕ (Int32)) :=
  if (I sl 3) ≤ v2 then (some (.inr (v1 : Int32))) else (some (.inl ((v1 - (l_field I 20 v2 (I sl 2) 6) : Int32), (v2 + 1 : Int32))))
set_option maxRecDepth 100000 in
set_option maxHeartbeats 400000 in
theorem W_WF_countMoor_18 {G : MG} {Q : Option MV → MS → Prop} {L : List (Nat × Nat)} {R : Nat → Nat → Option MRef} (sl : Nat) (sd : Nat) (I : MI) (J : MJ) (v1 : Int32) (v2 : Int32) (hR : RF R) (h01 : R 0 1 = some (8, 0, sl)) (h02 : R 0 2 = some (8, 0, sd)) (hs : R 24 1 = some (8, 0, sl)) (hq : sl = 3 ∨ sl = 11) (hqd : sd = 3 ∨ sd = 11) {r : (Int32 × Int32) ⊕ (Int32)} (hf : F_WF_countMoor_18 sl sd I v1 v2 = some r) (hk : (Sum.elim (fun s : Int32 × Int32 => m_B G (m_rm 5 0 0) M_WF_countMoor Q 0 0 18 [some (mR (11, 0, 0)), some (mI s.1), some (mI s.2)] [] (L, I, J, R)) (fun s : Int32 => m_B G (m_rm 5 0 0) M_WF_countMoor Q 0 0 53 [none, some (mI s), none] [] (L, I, J, R))) r) : m_B G (m_rm 5 0 0) M_WF_countMoor Q 0 0 18 [some (mR (11, 0, 0)), some (mI v1), some (mI v2)] [] (L, I, J, R) := by
  unfold F_WF_countMoor_18 at hf
  refine b_blk (pc' := 26) (ls' := [some (mR (11, 0, 0)), some (mI v1), some (mI v2)]) (st' := [mI (I sl 3), mI v2]) (S' := (L, I, J, R)) (P := (True ∧ R 0 1 = some (8, 0, sl))) [(.iload_n 2, (0, 0, 0, 0, 0)), (.aload_n 0, (0, 0, 0, 0, 0)), (.getfield 19, (11, 1, 3, 0, 0)), (.getfield 137, (8, 3, 0, 0, 0))] [some (8, 0, sl)] (by decide +kernel) rfl ⟨trivial, h01⟩ ?_
  refine b_icmp_ge (off := 27) (tgt := 53) (by decide +kernel) (by decide) (fun h1 => ?_) (fun h1 => ?_)
  · have hf := if_t h1 hf
    refine b_frg 0 ?_
    refine b_frg 2 ?_
    cases hf
    exact hk
  · have hf := if_f h1 hf
    refine b_blk (pc' := 42) (ls' := [some (mR (11, 0, 0)), some (mI v1), some (mI v2)]) (st' := [mI (I sl 2), mI v2, mR (3, 0, 20), mI v1]) (S' := (L, I, J, R)) (P := ((True ∧ R 0 4 = some (3, 0, 20)) ∧ R 0 1 = some (8, 0, sl))) [(.iload_n 1, (0, 0, 0, 0, 0)), (.aload_n 0, (0, 0, 0, 0, 0)), (.getfield 38, (11, 4, 3, 0, 0)), (.iload_n 2, (0, 0, 0, 0, 0)), (.aload_n 0, (0, 0, 0, 0, 0)), (.getfield 19, (11, 1, 3, 0, 0)), (.getfield 134, (8, 2, 0, 0, 0))] [some (3, 0, 20), some (8, 0, sl)] (by decide +kernel) rfl ⟨⟨trivial, (r_0_4 hR)⟩, h01⟩ ?_
    refine b_cV (as := [mI v2, mI (I sl 2)]) (st := [mI v1]) (by decide +kernel) k_11_187 n_Lay_fieldOf rfl (by decide) v_Lay_fieldOf (c_Lay_fieldOf 20 v2 (I sl 2) (ly_20 hR)) (Nat.le_of_ble_eq_true rfl) (by decide) rfl rfl (fun _ h => h) ?_
    show m_B _ _ _ _ _ _ 45 [some (mR (11, 0, 0)), some (mI v1), some (mI v2)] [mI (l_field I 20 v2 (I sl 2) 6), mI v1] (L, I, J, R)
    refine b_blk (pc' := 18) (ls' := [some (mR (11, 0, 0)), some (mI (v1 - (l_field I 20 v2 (I sl 2) 6))), some (mI (v2 + 1))]) (st' := []) (S' := (L, I, J, R)) (P := True) [(.isub, (0, 0, 0, 0, 0)), (.istore_n 1, (0, 0, 0, 0, 0)), (.iinc 2 1, (0, 0, 0, 1, 0)), (.goto (-32), (0, 18, 0, 0, 0))] [] (by decide +kernel) rfl trivial ?_
    cases hf
    exact hk
noncomputable def F_WF_countMoor (sl : Nat) (sd : Nat) (I : MI) : Option (Int32) :=
  (wl (fun s : Int32 × Int32 => F_WF_countMoor_18 sl sd I s.1 s.2) (((I sl 1) * (I sl 2) : Int32), (0 : Int32))).bind fun t1 => some (t1 : Int32)
set_option maxRecDepth 100000 in
set_option maxHeartbeats 400000 in
theorem W_WF_countMoor {G : MG} {Q : Option MV → MS → Prop} {L : List (Nat × Nat)} {R : Nat → Nat → Option MRef} (sl : Nat) (sd : Nat) (I : MI) (J : MJ) (hR : RF R) (h01 : R 0 1 = some (8, 0, sl)) (h02 : R 0 2 = some (8, 0, sd)) (hs : R 24 1 = some (8, 0, sl)) (hq : sl = 3 ∨ sl = 11) (hqd : sd = 3 ∨ sd = 11) {r : Int32} (hf : F_WF_countMoor sl sd I = some r) (hk : (fun r : Int32 => Q (some (mI r)) (L, I, J, R)) r) : m_B G (m_rm 5 0 0) M_WF_countMoor Q 0 0 0 [some (mR (11, 0, 0)), none, none] [] (L, I, J, R) := by
  unfold F_WF_countMoor at hf
  refine b_blk (pc' := 18) (ls' := [some (mR (11, 0, 0)), some (mI ((I sl 1) * (I sl 2))), some (mI 0)]) (st' := []) (S' := (L, I, J, R)) (P := ((True ∧ R 0 1 = some (8, 0, sl)) ∧ R 0 1 = some (8, 0, sl))) [(.aload_n 0, (0, 0, 0, 0, 0)), (.getfield 19, (11, 1, 3, 0, 0)), (.getfield 131, (8, 1, 0, 0, 0)), (.aload_n 0, (0, 0, 0, 0, 0)), (.getfield 19, (11, 1, 3, 0, 0)), (.getfield 134, (8, 2, 0, 0, 0)), (.imul, (0, 0, 0, 0, 0)), (.istore_n 1, (0, 0, 0, 0, 0)), (.iconst 0, (0, 0, 0, 0, 0)), (.istore_n 2, (0, 0, 0, 0, 0))] [some (8, 0, sl), some (8, 0, sl)] (by decide +kernel) rfl ⟨⟨trivial, h01⟩, h01⟩ ?_
  obtain ⟨t1, hw, hf⟩ := bnd_o hf
  refine wl_B (A := fun s : Int32 × Int32 => m_B G (m_rm 5 0 0) M_WF_countMoor Q 0 0 18 [some (mR (11, 0, 0)), some (mI s.1), some (mI s.2)] [] (L, I, J, R)) (B := (fun s : Int32 => m_B G (m_rm 5 0 0) M_WF_countMoor Q 0 0 53 [none, some (mI s), none] [] (L, I, J, R))) (fun s r hs_ hr => W_WF_countMoor_18 sl sd I J s.1 s.2 hR h01 h02 hs hq hqd hs_ hr) hw ?_
  show m_B G (m_rm 5 0 0) M_WF_countMoor Q 0 0 53 [none, some (mI t1), none] [] (L, I, J, R)
  refine b_blk (pc' := 54) (ls' := [none, some (mI t1), none]) (st' := [mI t1]) (S' := (L, I, J, R)) (P := True) [(.iload_n 1, (0, 0, 0, 0, 0))] [] (by decide +kernel) rfl trivial ?_
  cases hf
  exact b_iret (by decide +kernel) rfl hk
theorem C_WF_countMoor {G : MG} {L : List (Nat × Nat)} {R : Nat → Nat → Option MRef} (sl : Nat) (sd : Nat) (I : MI) (J : MJ) (hR : RF R) (h01 : R 0 1 = some (8, 0, sl)) (h02 : R 0 2 = some (8, 0, sd)) (hs : R 24 1 = some (8, 0, sl)) (hq : sl = 3 ∨ sl = 11) (hqd : sd = 3 ∨ sd = 11) {r : Int32} (hf : F_WF_countMoor sl sd I = some r) : m_met G 5 0 0 y_WF_countMoor M_WF_countMoor [mR (11, 0, 0)] (L, I, J, R) (m_is (some (mI r)) (L, I, J, R)) :=
  m_met_in n_WF_countMoor (plainFor_of_name (by decide)) (by decide) (Nat.le_of_ble_eq_true rfl) (ls := [some (mR (11, 0, 0)), none, none]) rfl (W_WF_countMoor sl sd I J hR h01 h02 hs hq hqd hf ⟨rfl, rfl⟩)
noncomputable def F_WF_draw (sl : Nat) (sd : Nat) (I : MI) (v1 : Int32) : Option (Int32 × MI) :=
  if v1 ≤ (0 : Int32) then (some ((0 : Int32), m_up I 0 12 ((((1103515245 : Int32) * (I 0 12)) + (12345 : Int32)) &&& (2147483647 : Int32)))) else (gq (¬ v1 = 0) <| some ((m_rem (((((1103515245 : Int32) * (I 0 12)) + (12345 : Int32)) &&& (2147483647 : Int32)) / (64 : Int32)) v1 : Int32), m_up I 0 12 ((((1103515245 : Int32) * (I 0 12)) + (12345 : Int32)) &&& (2147483647 : Int32))))
set_option maxRecDepth 100000 in
set_option maxHeartbeats 400000 in
theorem W_WF_draw {G : MG} {Q : Option MV → MS → Prop} {L : List (Nat × Nat)} {R : Nat → Nat → Option MRef} (sl : Nat) (sd : Nat) (I : MI) (J : MJ) (v1 : Int32) (hR : RF R) (h01 : R 0 1 = some (8, 0, sl)) (h02 : R 0 2 = some (8, 0, sd)) (hs : R 24 1 = some (8, 0, sl)) (hq : sl = 3 ∨ sl = 11) (hqd : sd = 3 ∨ sd = 11) {r : Int32 × MI} (hf : F_WF_draw sl sd I v1 = some r) (hk : (fun r : Int32 × MI => Q (some (mI r.1)) (L, r.2, J, R)) r) : m_B G (m_rm 1 0 0) M_WF_draw Q 0 0 0 [some (mR (11, 0, 0)), some (mI v1)] [] (L, I, J, R) := by
  unfold F_WF_draw at hf
  refine b_blk (pc' := 21) (ls' := [some (mR (11, 0, 0)), some (mI v1)]) (st' := [mI v1]) (S' := (L, m_up I 0 12 ((((1103515245 : Int32) * (I 0 12)) + (12345 : Int32)) &&& (2147483647 : Int32)), J, R)) (P := True) [(.aload_n 0, (0, 0, 0, 0, 0)), (.ldc_w 351, (0, 0, 0, 1103515245, 0)), (.aload_n 0, (0, 0, 0, 0, 0)), (.getfield 92, (11, 12, 0, 0, 0)), (.imul, (0, 0, 0, 0, 0)), (.sipush 12345, (0, 0, 0, 12345, 0)), (.iadd, (0, 0, 0, 0, 0)), (.ldc_w 352, (0, 0, 0, 2147483647, 0)), (.iand, (0, 0, 0, 0, 0)), (.putfield 92, (11, 12, 0, 0, 0)), (.iload_n 1, (0, 0, 0, 0, 0))] [] (by decide +kernel) rfl trivial ?_
  refine b_if_le (off := 15) (tgt := 36) (by decide +kernel) (by decide) (fun h1 => ?_) (fun h1 => ?_)
  · have hf := if_t h1 hf
    refine b_blk (pc' := 37) (ls' := [some (mR (11, 0, 0)), some (mI v1)]) (st' := [mI 0]) (S' := (L, m_up I 0 12 ((((1103515245 : Int32) * (I 0 12)) + (12345 : Int32)) &&& (2147483647 : Int32)), J, R)) (P := True) [(.iconst 0, (0, 0, 0, 0, 0))] [] (by decide +kernel) rfl trivial ?_
    cases hf
    exact b_iret (by decide +kernel) rfl hk
  · have hf := if_f h1 hf
    obtain ⟨g2, hf⟩ := gq_s hf
    refine b_blk (pc' := 37) (ls' := [some (mR (11, 0, 0)), some (mI v1)]) (st' := [mI (m_rem (((((1103515245 : Int32) * (I 0 12)) + (12345 : Int32)) &&& (2147483647 : Int32)) / (64 : Int32)) v1)]) (S' := (L, m_up I 0 12 ((((1103515245 : Int32) * (I 0 12)) + (12345 : Int32)) &&& (2147483647 : Int32)), J, R)) (P := ((True ∧ ¬ (64 : Int32) = 0) ∧ ¬ v1 = 0)) [(.aload_n 0, (0, 0, 0, 0, 0)), (.getfield 92, (11, 12, 0, 0, 0)), (.bipush 64, (0, 0, 0, 64, 0)), (.idiv, (0, 0, 0, 0, 0)), (.iload_n 1, (0, 0, 0, 0, 0)), (.irem, (0, 0, 0, 0, 0)), (.goto 4, (0, 37, 0, 0, 0))] [] (by decide +kernel) rfl ⟨⟨trivial, (by decide)⟩, g2⟩ ?_
    cases hf
    exact b_iret (by decide +kernel) rfl hk
theorem C_WF_draw {G : MG} {L : List (Nat × Nat)} {R : Nat → Nat → Option MRef} (sl : Nat) (sd : Nat) (I : MI) (J : MJ) (v1 : Int32) (hR : RF R) (h01 : R 0 1 = some (8, 0, sl)) (h02 : R 0 2 = some (8, 0, sd)) (hs : R 24 1 = some (8, 0, sl)) (hq : sl = 3 ∨ sl = 11) (hqd : sd = 3 ∨ sd = 11) {r : Int32 × MI} (hf : F_WF_draw sl sd I v1 = some r) : m_met G 1 0 0 y_WF_draw M_WF_draw [mR (11, 0, 0), mI v1] (L, I, J, R) (m_is (some (mI r.1)) (L, r.2, J, R)) :=
  m_met_in n_WF_draw (plainFor_of_name (by decide)) (by decide) (Nat.le_of_ble_eq_true rfl) (ls := [some (mR (11, 0, 0)), some (mI v1)]) rfl (W_WF_draw sl sd I J v1 hR h01 h02 hs hq hqd hf ⟨rfl, rfl⟩)
noncomputable def F_WF_washOut (sl : Nat) (sd : Nat) (I : MI) (v1 : Int32) (v2 : Int32) : Option (MI) :=
  if (v_rowOf I 20 v1 v2) = (-1 : Int32) then (some I) else (some (gI_Log_note (w_putStake I 20 v1 v2 (-1 : Int32)) 45 ((w_putStake I 20 v1 v2 (-1 : Int32)) 20 0) v1 v2))
set_option maxRecDepth 100000 in
set_option maxHeartbeats 400000 in
theorem W_WF_washOut {G : MG} {Q : Option MV → MS → Prop} {L : List (Nat × Nat)} {R : Nat → Nat → Option MRef} (sl : Nat) (sd : Nat) (I : MI) (J : MJ) (v1 : Int32) (v2 : Int32) (hR : RF R) (h01 : R 0 1 = some (8, 0, sl)) (h02 : R 0 2 = some (8, 0, sd)) (hs : R 24 1 = some (8, 0, sl)) (hq : sl = 3 ∨ sl = 11) (hqd : sd = 3 ∨ sd = 11) {r : MI} (hf : F_WF_washOut sl sd I v1 v2 = some r) (hk : (fun r : MI => Q (none) (L, r, J, R)) r) : m_B G (m_rm 3 0 0) M_WF_washOut Q 0 0 0 [some (mR (11, 0, 0)), some (mI v1), some (mI v2)] [] (L, I, J, R) := by
  unfold F_WF_washOut at hf
  refine b_blk (pc' := 6) (ls' := [some (mR (11, 0, 0)), some (mI v1), some (mI v2)]) (st' := [mI v2, mI v1, mR (3, 0, 20)]) (S' := (L, I, J, R)) (P := (True ∧ R 0 4 = some (3, 0, 20))) [(.aload_n 0, (0, 0, 0, 0, 0)), (.getfield 38, (11, 4, 3, 0, 0)), (.iload_n 1, (0, 0, 0, 0, 0)), (.iload_n 2, (0, 0, 0, 0, 0))] [some (3, 0, 20)] (by decide +kernel) rfl ⟨trivial, (r_0_4 hR)⟩ ?_
  refine b_cV (as := [mI v1, mI v2]) (st := []) (by decide +kernel) k_11_196 n_Lay_rowOf rfl (by decide) v_Lay_rowOf (c_Lay_rowOf 20 v1 v2 (ly_20 hR)) (Nat.le_of_ble_eq_true rfl) (by decide) rfl rfl (fun _ h => h) ?_
  show m_B _ _ _ _ _ _ 9 [some (mR (11, 0, 0)), some (mI v1), some (mI v2)] [mI (v_rowOf I 20 v1 v2)] (L, I, J, R)
  refine b_blk (pc' := 10) (ls' := [some (mR (11, 0, 0)), some (mI v1), some (mI v2)]) (st' := [mI (-1), mI (v_rowOf I 20 v1 v2)]) (S' := (L, I, J, R)) (P := True) [(.iconst (-1), (0, 0, 0, (-1), 0))] [] (by decide +kernel) rfl trivial ?_
  refine b_icmp_eq (off := 29) (tgt := 39) (by decide +kernel) (by decide) (fun h1 => ?_) (fun h1 => ?_)
  · have hf := if_t h1 hf
    cases hf
    exact b_vret (by decide +kernel) rfl hk
  · have hf := if_f h1 hf
    refine b_blk (pc' := 20) (ls' := [some (mR (11, 0, 0)), some (mI v1), some (mI v2)]) (st' := [mI (-1), mI v2, mI v1, mR (3, 0, 20)]) (S' := (L, I, J, R)) (P := (True ∧ R 0 4 = some (3, 0, 20))) [(.aload_n 0, (0, 0, 0, 0, 0)), (.getfield 38, (11, 4, 3, 0, 0)), (.iload_n 1, (0, 0, 0, 0, 0)), (.iload_n 2, (0, 0, 0, 0, 0)), (.iconst (-1), (0, 0, 0, (-1), 0))] [some (3, 0, 20)] (by decide +kernel) rfl ⟨trivial, (r_0_4 hR)⟩ ?_
    refine b_cV (as := [mI v1, mI v2, mI (-1)]) (st := []) (by decide +kernel) k_11_353 n_Lay_putStake rfl (by decide) v_Lay_putStake (c_Lay_putStake 20 v1 v2 (-1 : Int32) (ly_20 hR)) (Nat.le_of_ble_eq_true rfl) (by decide) rfl rfl (fun _ h => h) ?_
    show m_B _ _ _ _ _ _ 23 [some (mR (11, 0, 0)), some (mI v1), some (mI v2)] [] (L, w_putStake I 20 v1 v2 (-1 : Int32), J, R)
    refine b_blk (pc' := 36) (ls' := [some (mR (11, 0, 0)), some (mI v1), some (mI v2)]) (st' := [mI v2, mI v1, mI ((w_putStake I 20 v1 v2 (-1 : Int32)) 20 0), mR (4, 0, 45)]) (S' := (L, w_putStake I 20 v1 v2 (-1 : Int32), J, R)) (P := ((True ∧ R 0 7 = some (4, 0, 45)) ∧ R 0 4 = some (3, 0, 20))) [(.aload_n 0, (0, 0, 0, 0, 0)), (.getfield 63, (11, 7, 3, 0, 0)), (.aload_n 0, (0, 0, 0, 0, 0)), (.getfield 38, (11, 4, 3, 0, 0)), (.getfield 140, (3, 0, 0, 0, 0)), (.iload_n 1, (0, 0, 0, 0, 0)), (.iload_n 2, (0, 0, 0, 0, 0))] [some (4, 0, 45), some (3, 0, 20)] (by decide +kernel) rfl ⟨⟨trivial, (r_0_7 hR)⟩, (r_0_4 hR)⟩ ?_
    refine b_cV (as := [mI ((w_putStake I 20 v1 v2 (-1 : Int32)) 20 0), mI v1, mI v2]) (st := []) (by decide +kernel) k_11_357 n_Log_note rfl (by decide) v_Log_note (c_Log_note 45 ((w_putStake I 20 v1 v2 (-1 : Int32)) 20 0) v1 v2 (lg_45 hR)) (Nat.le_of_ble_eq_true rfl) (by decide) rfl rfl (fun _ h => h) ?_
    show m_B _ _ _ _ _ _ 39 [some (mR (11, 0, 0)), some (mI v1), some (mI v2)] [] (L, gI_Log_note (w_putStake I 20 v1 v2 (-1 : Int32)) 45 ((w_putStake I 20 v1 v2 (-1 : Int32)) 20 0) v1 v2, J, R)
    cases hf
    exact b_vret (by decide +kernel) rfl hk
theorem C_WF_washOut {G : MG} {L : List (Nat × Nat)} {R : Nat → Nat → Option MRef} (sl : Nat) (sd : Nat) (I : MI) (J : MJ) (v1 : Int32) (v2 : Int32) (hR : RF R) (h01 : R 0 1 = some (8, 0, sl)) (h02 : R 0 2 = some (8, 0, sd)) (hs : R 24 1 = some (8, 0, sl)) (hq : sl = 3 ∨ sl = 11) (hqd : sd = 3 ∨ sd = 11) {r : MI} (hf : F_WF_washOut sl sd I v1 v2 = some r) : m_met G 3 0 0 y_WF_washOut M_WF_washOut [mR (11, 0, 0), mI v1, mI v2] (L, I, J, R) (m_is (none) (L, r, J, R)) :=
  m_met_in n_WF_washOut (plainFor_of_name (by decide)) (by decide) (Nat.le_of_ble_eq_true rfl) (ls := [some (mR (11, 0, 0)), some (mI v1), some (mI v2)]) rfl (W_WF_washOut sl sd I J v1 v2 hR h01 h02 hs hq hqd hf ⟨rfl, rfl⟩)
noncomputable def F_WF_answer_23 (sl : Nat) (sd : Nat) (I : MI) (v1 : Int32) (v2 : Int64) (v4 : Int32) : Option ((Int64 × Int32 × MI) ⊕ (Int64 × MI)) :=
  if (I sl 3) ≤ v4 then (some (.inr ((v2 : Int64), I))) else ((F_Walker_reckonQuestion sl sd I v4).bind fun r2 => if v1 = 16 then (if (lg_cmp v2 (-1 : Int64)) = (0 : Int32) then (if r2.1 = (0 : Int32) then (some (.inl ((v2 : Int64), (v4 + 1 : Int32), r2.2))) else (some (.inl ((v4.toInt64 : Int64), (v4 + 1 : Int32), r2.2)))) else (some (.inl ((v2 : Int64), (v4 + 1 : Int32), r2.2)))) else (if v1 = 24 then (if r2.1 = (0 : Int32) then (some (.inl ((v2 : Int64), (v4 + 1 : Int32), r2.2))) else (some (.inl ((v4.toInt64 : Int64), (v4 + 1 : Int32), r2.2)))) else (if v1 = 27 then (if v4 = (0 : Int32) then (some (.inl ((r2.1.toInt64 : Int64), (v4 + 1 : Int32), r2.2))) else (some (.inl ((f_Math_max_JJ v2 r2.1.toInt64 : Int64), (v4 + 1 : Int32), r2.2)))) else (if v1 = 28 then (if v4 = (0 : Int32) then (some (.inl ((r2.1.toInt64 : Int64), (v4 + 1 : Int32), r2.2))) else (some (.inl ((f_Math_min_JJ v2 r2.1.toInt64 : Int64), (v4 + 1 : Int32), r2.2)))) else (some (.inl ((v2 + r2.1.toInt64 : Int64), (v4 + 1 : Int32), r2.2)))))))
set_option maxRecDepth 100000 in
set_option maxHeartbeats 400000 in
theorem W_WF_answer_23 {G : MG} {Q : Option MV → MS → Prop} {L : List (Nat × Nat)} {R : Nat → Nat → Option MRef} (sl : Nat) (sd : Nat) (I : MI) (J : MJ) (v1 : Int32) (v2 : Int64) (v4 : Int32) (hR : RF R) (h01 : R 0 1 = some (8, 0, sl)) (h02 : R 0 2 = some (8, 0, sd)) (hs : R 24 1 = some (8, 0, sl)) (hq : sl = 3 ∨ sl = 11) (hqd : sd = 3 ∨ sd = 11) {r : (Int64 × Int32 × MI) ⊕ (Int64 × MI)} (hf : F_WF_answer_23 sl sd I v1 v2 v4 = some r) (hk : (Sum.elim (fun s : Int64 × Int32 × MI => m_B G (m_rm 6 0 0) M_WF_answer Q 0 0 23 [some (mR (11, 0, 0)), some (mI v1), some (mJ s.1), none, some (mI s.2.1), none] [] (L, s.2.2, J, R)) (fun s : Int64 × MI => m_B G (m_rm 6 0 0) M_WF_answer Q 0 0 192 [none, none, some (mJ s.1), none, none, none] [] (L, s.2, J, R))) r) : m_B G (m_rm 6 0 0) M_WF_answer Q 0 0 23 [some (mR (11, 0, 0)), some (mI v1), some (mJ v2), none, some (mI v4), none] [] (L, I, J, R) := by
  unfold F_WF_answer_23 at hf
  refine b_blk (pc' := 32) (ls' := [some (mR (11, 0, 0)), some (mI v1), some (mJ v2), none, some (mI v4), none]) (st' := [mI (I sl 3), mI v4]) (S' := (L, I, J, R)) (P := (True ∧ R 0 1 = some (8, 0, sl))) [(.iload 4, (0, 0, 0, 0, 0)), (.aload_n 0, (0, 0, 0, 0, 0)), (.getfield 19, (11, 1, 3, 0, 0)), (.getfield 137, (8, 3, 0, 0, 0))] [some (8, 0, sl)] (by decide +kernel) rfl ⟨trivial, h01⟩ ?_
  refine b_icmp_ge (off := 160) (tgt := 192) (by decide +kernel) (by decide) (fun h1 => ?_) (fun h1 => ?_)
  · have hf := if_t h1 hf
    refine b_frg 0 ?_
    refine b_frg 1 ?_
    refine b_frg 4 ?_
    cases hf
    exact hk
  · have hf := if_f h1 hf
    refine b_blk (pc' := 49) (ls' := [some (mR (11, 0, 0)), some (mI v1), some (mJ v2), none, some (mI v4), none]) (st' := [mI v4, mR (3, 0, 20), mR (8, 0, sd), mR (10, 0, 24)]) (S' := (L, I, J, R)) (P := (((True ∧ R 0 5 = some (10, 0, 24)) ∧ R 0 2 = some (8, 0, sd)) ∧ R 0 4 = some (3, 0, 20))) [(.aload_n 0, (0, 0, 0, 0, 0)), (.getfield 47, (11, 5, 3, 0, 0)), (.aload_n 0, (0, 0, 0, 0, 0)), (.getfield 23, (11, 2, 3, 0, 0)), (.aload_n 0, (0, 0, 0, 0, 0)), (.getfield 38, (11, 4, 3, 0, 0)), (.iload 4, (0, 0, 0, 0, 0))] [some (10, 0, 24), some (8, 0, sd), some (3, 0, 20)] (by decide +kernel) rfl ⟨⟨⟨trivial, (r_0_5 hR)⟩, h02⟩, (r_0_4 hR)⟩ ?_
    obtain ⟨r2, hc2, hf⟩ := bnd_o hf
    refine b_cV (as := [mR (8, 0, sd), mR (3, 0, 20), mI v4]) (st := []) (by decide +kernel) k_11_362 n_Walker_reckonQuestion rfl (by decide) v_Walker_reckonQuestion (C_Walker_reckonQuestion sl sd I J v4 hR hs hq hqd hc2) (Nat.le_of_ble_eq_true rfl) (by decide) rfl rfl (fun _ h => h) ?_
    show m_B G (m_rm 6 0 0) M_WF_answer Q 0 0 52 [some (mR (11, 0, 0)), some (mI v1), some (mJ v2), none, some (mI v4), none] [mI r2.1] (L, r2.2, J, R)
    refine b_blk (pc' := 55) (ls' := [some (mR (11, 0, 0)), some (mI v1), some (mJ v2), none, some (mI v4), some (mI r2.1)]) (st' := [mI v1]) (S' := (L, r2.2, J, R)) (P := True) [(.istore 5, (0, 0, 0, 0, 0)), (.iload_n 1, (0, 0, 0, 0, 0))] [] (by decide +kernel) rfl trivial ?_
    by_cases h3 : v1 = 16
    · refine b_lswV (tgt := 96) (off := 41) (dflt := 125) (ps := #[(16, 41), (24, 65), (27, 81), (28, 103)]) (len := 41) h3 (by decide +kernel) (by decide) (by decide) (by decide) ?_
      have hf := if_t h3 hf
      refine b_blk (pc' := 101) (ls' := [some (mR (11, 0, 0)), some (mI v1), some (mJ v2), none, some (mI v4), some (mI r2.1)]) (st' := [mI (lg_cmp v2 (-1 : Int64))]) (S' := (L, r2.2, J, R)) (P := True) [(.lload_n 2, (0, 0, 0, 0, 0)), (.ldc2_w 360, (0, 0, 0, 0, (-1))), (.lcmp, (0, 0, 0, 0, 0))] [] (by decide +kernel) rfl trivial ?_
      refine b_if_ne (off := 14) (tgt := 115) (by decide +kernel) (by decide) (fun h4 => ?_) (fun h4 => ?_)
      · have hf := if_f h4 hf
        refine b_blk (pc' := 186) (ls' := [some (mR (11, 0, 0)), some (mI v1), some (mJ v2), none, some (mI v4), some (mI r2.1)]) (st' := []) (S' := (L, r2.2, J, R)) (P := True) [(.lload_n 2, (0, 0, 0, 0, 0)), (.lstore_n 2, (0, 0, 0, 0, 0)), (.goto 69, (0, 186, 0, 0, 0))] [] (by decide +kernel) rfl trivial ?_
        refine b_blk (pc' := 23) (ls' := [some (mR (11, 0, 0)), some (mI v1), some (mJ v2), none, some (mI (v4 + 1)), some (mI r2.1)]) (st' := []) (S' := (L, r2.2, J, R)) (P := True) [(.iinc 4 1, (0, 0, 0, 1, 0)), (.goto (-166), (0, 23, 0, 0, 0))] [] (by decide +kernel) rfl trivial ?_
        refine b_frg 5 ?_
        cases hf
        exact hk
      · have hf := if_t h4 hf
        refine b_blk (pc' := 106) (ls' := [some (mR (11, 0, 0)), some (mI v1), some (mJ v2), none, some (mI v4), some (mI r2.1)]) (st' := [mI r2.1]) (S' := (L, r2.2, J, R)) (P := True) [(.iload 5, (0, 0, 0, 0, 0))] [] (by decide +kernel) rfl trivial ?_
        refine b_if_eq (off := 9) (tgt := 115) (by decide +kernel) (by decide) (fun h5 => ?_) (fun h5 => ?_)
        · have hf := if_t h5 hf
          refine b_blk (pc' := 186) (ls' := [some (mR (11, 0, 0)), some (mI v1), some (mJ v2), none, some (mI v4), some (mI r2.1)]) (st' := []) (S' := (L, r2.2, J, R)) (P := True) [(.lload_n 2, (0, 0, 0, 0, 0)), (.lstore_n 2, (0, 0, 0, 0, 0)), (.goto 69, (0, 186, 0, 0, 0))] [] (by decide +kernel) rfl trivial ?_
          refine b_blk (pc' := 23) (ls' := [some (mR (11, 0, 0)), some (mI v1), some (mJ v2), none, some (mI (v4 + 1)), some (mI r2.1)]) (st' := []) (S' := (L, r2.2, J, R)) (P := True) [(.iinc 4 1, (0, 0, 0, 1, 0)), (.goto (-166), (0, 23, 0, 0, 0))] [] (by decide +kernel) rfl trivial ?_
          refine b_frg 5 ?_
          cases hf
          exact hk
        · have hf := if_f h5 hf
          refine b_blk (pc' := 116) (ls' := [some (mR (11, 0, 0)), some (mI v1), some (mJ v2), none, some (mI v4), some (mI r2.1)]) (st' := [mJ v4.toInt64]) (S' := (L, r2.2, J, R)) (P := True) [(.iload 4, (0, 0, 0, 0, 0)), (.i2l, (0, 0, 0, 0, 0)), (.goto 4, (0, 116, 0, 0, 0))] [] (by decide +kernel) rfl trivial ?_
          refine b_blk (pc' := 186) (ls' := [some (mR (11, 0, 0)), some (mI v1), some (mJ v4.toInt64), none, some (mI v4), some (mI r2.1)]) (st' := []) (S' := (L, r2.2, J, R)) (P := True) [(.lstore_n 2, (0, 0, 0, 0, 0)), (.goto 69, (0, 186, 0, 0, 0))] [] (by decide +kernel) rfl trivial ?_
          refine b_blk (pc' := 23) (ls' := [some (mR (11, 0, 0)), some (mI v1), some (mJ v4.toInt64), none, some (mI (v4 + 1)), some (mI r2.1)]) (st' := []) (S' := (L, r2.2, J, R)) (P := True) [(.iinc 4 1, (0, 0, 0, 1, 0)), (.goto (-166), (0, 23, 0, 0, 0))] [] (by decide +kernel) rfl trivial ?_
          refine b_frg 5 ?_
          cases hf
          exact hk
    have hf := if_f h3 hf
    by_cases h6 : v1 = 24
    · refine b_lswV (tgt := 120) (off := 65) (dflt := 125) (ps := #[(16, 41), (24, 65), (27, 81), (28, 103)]) (len := 41) h6 (by decide +kernel) (by decide) (by decide) (by decide) ?_
      have hf := if_t h6 hf
      refine b_blk (pc' := 122) (ls' := [some (mR (11, 0, 0)), some (mI v1), some (mJ v2), none, some (mI v4), some (mI r2.1)]) (st' := [mI r2.1]) (S' := (L, r2.2, J, R)) (P := True) [(.iload 5, (0, 0, 0, 0, 0))] [] (by decide +kernel) rfl trivial ?_
      refine b_if_eq (off := 9) (tgt := 131) (by decide +kernel) (by decide) (fun h7 => ?_) (fun h7 => ?_)
      · have hf := if_t h7 hf
        refine b_blk (pc' := 186) (ls' := [some (mR (11, 0, 0)), some (mI v1), some (mJ v2), none, some (mI v4), some (mI r2.1)]) (st' := []) (S' := (L, r2.2, J, R)) (P := True) [(.lload_n 2, (0, 0, 0, 0, 0)), (.lstore_n 2, (0, 0, 0, 0, 0)), (.goto 53, (0, 186, 0, 0, 0))] [] (by decide +kernel) rfl trivial ?_
        refine b_blk (pc' := 23) (ls' := [some (mR (11, 0, 0)), some (mI v1), some (mJ v2), none, some (mI (v4 + 1)), some (mI r2.1)]) (st' := []) (S' := (L, r2.2, J, R)) (P := True) [(.iinc 4 1, (0, 0, 0, 1, 0)), (.goto (-166), (0, 23, 0, 0, 0))] [] (by decide +kernel) rfl trivial ?_
        refine b_frg 5 ?_
        cases hf
        exact hk
      · have hf := if_f h7 hf
        refine b_blk (pc' := 132) (ls' := [some (mR (11, 0, 0)), some (mI v1), some (mJ v2), none, some (mI v4), some (mI r2.1)]) (st' := [mJ v4.toInt64]) (S' := (L, r2.2, J, R)) (P := True) [(.iload 4, (0, 0, 0, 0, 0)), (.i2l, (0, 0, 0, 0, 0)), (.goto 4, (0, 132, 0, 0, 0))] [] (by decide +kernel) rfl trivial ?_
        refine b_blk (pc' := 186) (ls' := [some (mR (11, 0, 0)), some (mI v1), some (mJ v4.toInt64), none, some (mI v4), some (mI r2.1)]) (st' := []) (S' := (L, r2.2, J, R)) (P := True) [(.lstore_n 2, (0, 0, 0, 0, 0)), (.goto 53, (0, 186, 0, 0, 0))] [] (by decide +kernel) rfl trivial ?_
        refine b_blk (pc' := 23) (ls' := [some (mR (11, 0, 0)), some (mI v1), some (mJ v4.toInt64), none, some (mI (v4 + 1)), some (mI r2.1)]) (st' := []) (S' := (L, r2.2, J, R)) (P := True) [(.iinc 4 1, (0, 0, 0, 1, 0)), (.goto (-166), (0, 23, 0, 0, 0))] [] (by decide +kernel) rfl trivial ?_
        refine b_frg 5 ?_
        cases hf
        exact hk
    have hf := if_f h6 hf
    by_cases h8 : v1 = 27
    · refine b_lswV (tgt := 136) (off := 81) (dflt := 125) (ps := #[(16, 41), (24, 65), (27, 81), (28, 103)]) (len := 41) h8 (by decide +kernel) (by decide) (by decide) (by decide) ?_
      have hf := if_t h8 hf
      refine b_blk (pc' := 138) (ls' := [some (mR (11, 0, 0)), some (mI v1), some (mJ v2), none, some (mI v4), some (mI r2.1)]) (st' := [mI v4]) (S' := (L, r2.2, J, R)) (P := True) [(.iload 4, (0, 0, 0, 0, 0))] [] (by decide +kernel) rfl trivial ?_
      refine b_if_ne (off := 9) (tgt := 147) (by decide +kernel) (by decide) (fun h9 => ?_) (fun h9 => ?_)
      · have hf := if_f h9 hf
        refine b_blk (pc' := 151) (ls' := [some (mR (11, 0, 0)), some (mI v1), some (mJ v2), none, some (mI v4), some (mI r2.1)]) (st' := [mJ r2.1.toInt64, mJ v2]) (S' := (L, r2.2, J, R)) (P := True) [(.lload_n 2, (0, 0, 0, 0, 0)), (.iload 5, (0, 0, 0, 0, 0)), (.i2l, (0, 0, 0, 0, 0))] [] (by decide +kernel) rfl trivial ?_
        refine b_cS (as := [mJ v2, mJ r2.1.toInt64]) (st := []) (by decide +kernel) k_11_366 n_Math_max_JJ s_Math_max_JJ (c_Math_max_JJ v2 r2.1.toInt64 ) (Nat.le_of_ble_eq_true rfl) (by decide) rfl rfl (fun _ h => h) ?_
        show m_B _ _ _ _ _ _ 154 [some (mR (11, 0, 0)), some (mI v1), some (mJ v2), none, some (mI v4), some (mI r2.1)] [mJ (f_Math_max_JJ v2 r2.1.toInt64)] (L, r2.2, J, R)
        refine b_blk (pc' := 186) (ls' := [some (mR (11, 0, 0)), some (mI v1), some (mJ (f_Math_max_JJ v2 r2.1.toInt64)), none, some (mI v4), some (mI r2.1)]) (st' := []) (S' := (L, r2.2, J, R)) (P := True) [(.lstore_n 2, (0, 0, 0, 0, 0)), (.goto 31, (0, 186, 0, 0, 0))] [] (by decide +kernel) rfl trivial ?_
        refine b_blk (pc' := 23) (ls' := [some (mR (11, 0, 0)), some (mI v1), some (mJ (f_Math_max_JJ v2 r2.1.toInt64)), none, some (mI (v4 + 1)), some (mI r2.1)]) (st' := []) (S' := (L, r2.2, J, R)) (P := True) [(.iinc 4 1, (0, 0, 0, 1, 0)), (.goto (-166), (0, 23, 0, 0, 0))] [] (by decide +kernel) rfl trivial ?_
        refine b_frg 5 ?_
        cases hf
        exact hk
      · have hf := if_t h9 hf
        refine b_blk (pc' := 154) (ls' := [some (mR (11, 0, 0)), some (mI v1), some (mJ v2), none, some (mI v4), some (mI r2.1)]) (st' := [mJ r2.1.toInt64]) (S' := (L, r2.2, J, R)) (P := True) [(.iload 5, (0, 0, 0, 0, 0)), (.i2l, (0, 0, 0, 0, 0)), (.goto 10, (0, 154, 0, 0, 0))] [] (by decide +kernel) rfl trivial ?_
        refine b_blk (pc' := 186) (ls' := [some (mR (11, 0, 0)), some (mI v1), some (mJ r2.1.toInt64), none, some (mI v4), some (mI r2.1)]) (st' := []) (S' := (L, r2.2, J, R)) (P := True) [(.lstore_n 2, (0, 0, 0, 0, 0)), (.goto 31, (0, 186, 0, 0, 0))] [] (by decide +kernel) rfl trivial ?_
        refine b_blk (pc' := 23) (ls' := [some (mR (11, 0, 0)), some (mI v1), some (mJ r2.1.toInt64), none, some (mI (v4 + 1)), some (mI r2.1)]) (st' := []) (S' := (L, r2.2, J, R)) (P := True) [(.iinc 4 1, (0, 0, 0, 1, 0)), (.goto (-166), (0, 23, 0, 0, 0))] [] (by decide +kernel) rfl trivial ?_
        refine b_frg 5 ?_
        cases hf
        exact hk
    have hf := if_f h8 hf
    by_cases h10 : v1 = 28
    · refine b_lswV (tgt := 158) (off := 103) (dflt := 125) (ps := #[(16, 41), (24, 65), (27, 81), (28, 103)]) (len := 41) h10 (by decide +kernel) (by decide) (by decide) (by decide) ?_
      have hf := if_t h10 hf
      refine b_blk (pc' := 160) (ls' := [some (mR (11, 0, 0)), some (mI v1), some (mJ v2), none, some (mI v4), some (mI r2.1)]) (st' := [mI v4]) (S' := (L, r2.2, J, R)) (P := True) [(.iload 4, (0, 0, 0, 0, 0))] [] (by decide +kernel) rfl trivial ?_
      refine b_if_ne (off := 9) (tgt := 169) (by decide +kernel) (by decide) (fun h11 => ?_) (fun h11 => ?_)
      · have hf := if_f h11 hf
        refine b_blk (pc' := 173) (ls' := [some (mR (11, 0, 0)), some (mI v1), some (mJ v2), none, some (mI v4), some (mI r2.1)]) (st' := [mJ r2.1.toInt64, mJ v2]) (S' := (L, r2.2, J, R)) (P := True) [(.lload_n 2, (0, 0, 0, 0, 0)), (.iload 5, (0, 0, 0, 0, 0)), (.i2l, (0, 0, 0, 0, 0))] [] (by decide +kernel) rfl trivial ?_
        refine b_cS (as := [mJ v2, mJ r2.1.toInt64]) (st := []) (by decide +kernel) k_11_370 n_Math_min_JJ s_Math_min_JJ (c_Math_min_JJ v2 r2.1.toInt64 ) (Nat.le_of_ble_eq_true rfl) (by decide) rfl rfl (fun _ h => h) ?_
        show m_B _ _ _ _ _ _ 176 [some (mR (11, 0, 0)), some (mI v1), some (mJ v2), none, some (mI v4), some (mI r2.1)] [mJ (f_Math_min_JJ v2 r2.1.toInt64)] (L, r2.2, J, R)
        refine b_blk (pc' := 186) (ls' := [some (mR (11, 0, 0)), some (mI v1), some (mJ (f_Math_min_JJ v2 r2.1.toInt64)), none, some (mI v4), some (mI r2.1)]) (st' := []) (S' := (L, r2.2, J, R)) (P := True) [(.lstore_n 2, (0, 0, 0, 0, 0)), (.goto 9, (0, 186, 0, 0, 0))] [] (by decide +kernel) rfl trivial ?_
        refine b_blk (pc' := 23) (ls' := [some (mR (11, 0, 0)), some (mI v1), some (mJ (f_Math_min_JJ v2 r2.1.toInt64)), none, some (mI (v4 + 1)), some (mI r2.1)]) (st' := []) (S' := (L, r2.2, J, R)) (P := True) [(.iinc 4 1, (0, 0, 0, 1, 0)), (.goto (-166), (0, 23, 0, 0, 0))] [] (by decide +kernel) rfl trivial ?_
        refine b_frg 5 ?_
        cases hf
        exact hk
      · have hf := if_t h11 hf
        refine b_blk (pc' := 176) (ls' := [some (mR (11, 0, 0)), some (mI v1), some (mJ v2), none, some (mI v4), some (mI r2.1)]) (st' := [mJ r2.1.toInt64]) (S' := (L, r2.2, J, R)) (P := True) [(.iload 5, (0, 0, 0, 0, 0)), (.i2l, (0, 0, 0, 0, 0)), (.goto 10, (0, 176, 0, 0, 0))] [] (by decide +kernel) rfl trivial ?_
        refine b_blk (pc' := 186) (ls' := [some (mR (11, 0, 0)), some (mI v1), some (mJ r2.1.toInt64), none, some (mI v4), some (mI r2.1)]) (st' := []) (S' := (L, r2.2, J, R)) (P := True) [(.lstore_n 2, (0, 0, 0, 0, 0)), (.goto 9, (0, 186, 0, 0, 0))] [] (by decide +kernel) rfl trivial ?_
        refine b_blk (pc' := 23) (ls' := [some (mR (11, 0, 0)), some (mI v1), some (mJ r2.1.toInt64), none, some (mI (v4 + 1)), some (mI r2.1)]) (st' := []) (S' := (L, r2.2, J, R)) (P := True) [(.iinc 4 1, (0, 0, 0, 1, 0)), (.goto (-166), (0, 23, 0, 0, 0))] [] (by decide +kernel) rfl trivial ?_
        refine b_frg 5 ?_
        cases hf
        exact hk
    have hf := if_f h10 hf
    refine b_lsw (tgt := 180) (off := 125) (dflt := 125) (ps := #[(16, 41), (24, 65), (27, 81), (28, 103)]) (len := 41) (by decide +kernel) (by decide) (by rw [lv_osw h3 (by decide), lv_osw h6 (by decide), lv_osw h8 (by decide), lv_osw h10 (by decide)]; rfl) (by decide) ?_
    refine b_blk (pc' := 23) (ls' := [some (mR (11, 0, 0)), some (mI v1), some (mJ (v2 + r2.1.toInt64)), none, some (mI (v4 + 1)), some (mI r2.1)]) (st' := []) (S' := (L, r2.2, J, R)) (P := True) [(.lload_n 2, (0, 0, 0, 0, 0)), (.iload 5, (0, 0, 0, 0, 0)), (.i2l, (0, 0, 0, 0, 0)), (.ladd, (0, 0, 0, 0, 0)), (.lstore_n 2, (0, 0, 0, 0, 0)), (.iinc 4 1, (0, 0, 0, 1, 0)), (.goto (-166), (0, 23, 0, 0, 0))] [] (by decide +kernel) rfl trivial ?_
    refine b_frg 5 ?_
    cases hf
    exact hk
noncomputable def F_WF_answer_19 (sl : Nat) (sd : Nat) (I : MI) (v1 : Int32) (y0 : Int64) : Option (Int64 × MI) :=
  (wl (fun s : Int64 × Int32 × MI => F_WF_answer_23 sl sd s.2.2 v1 s.1 s.2.1) ((y0 : Int64), (0 : Int32), I)).bind fun t1 => some ((t1.1 : Int64), t1.2)
set_option maxRecDepth 100000 in
set_option maxHeartbeats 400000 in
theorem W_WF_answer_19 {G : MG} {Q : Option MV → MS → Prop} {L : List (Nat × Nat)} {R : Nat → Nat → Option MRef} (sl : Nat) (sd : Nat) (I : MI) (J : MJ) (v1 : Int32) (y0 : Int64) (hR : RF R) (h01 : R 0 1 = some (8, 0, sl)) (h02 : R 0 2 = some (8, 0, sd)) (hs : R 24 1 = some (8, 0, sl)) (hq : sl = 3 ∨ sl = 11) (hqd : sd = 3 ∨ sd = 11) {r : Int64 × MI} (hf : F_WF_answer_19 sl sd I v1 y0 = some r) (hk : (fun r : Int64 × MI => Q (some (mJ r.1)) (L, r.2, J, R)) r) : m_B G (m_rm 6 0 0) M_WF_answer Q 0 0 19 [some (mR (11, 0, 0)), some (mI v1), none, none, none, none] [mJ y0] (L, I, J, R) := by
  unfold F_WF_answer_19 at hf
  refine b_blk (pc' := 23) (ls' := [some (mR (11, 0, 0)), some (mI v1), some (mJ y0), none, some (mI 0), none]) (st' := []) (S' := (L, I, J, R)) (P := True) [(.lstore_n 2, (0, 0, 0, 0, 0)), (.iconst 0, (0, 0, 0, 0, 0)), (.istore 4, (0, 0, 0, 0, 0))] [] (by decide +kernel) rfl trivial ?_
  obtain ⟨t1, hw, hf⟩ := bnd_o hf
  refine wl_B (A := fun s : Int64 × Int32 × MI => m_B G (m_rm 6 0 0) M_WF_answer Q 0 0 23 [some (mR (11, 0, 0)), some (mI v1), some (mJ s.1), none, some (mI s.2.1), none] [] (L, s.2.2, J, R)) (B := (fun s : Int64 × MI => m_B G (m_rm 6 0 0) M_WF_answer Q 0 0 192 [none, none, some (mJ s.1), none, none, none] [] (L, s.2, J, R))) (fun s r hs_ hr => W_WF_answer_23 sl sd s.2.2 J v1 s.1 s.2.1 hR h01 h02 hs hq hqd hs_ hr) hw ?_
  show m_B G (m_rm 6 0 0) M_WF_answer Q 0 0 192 [none, none, some (mJ t1.1), none, none, none] [] (L, t1.2, J, R)
  refine b_blk (pc' := 193) (ls' := [none, none, some (mJ t1.1), none, none, none]) (st' := [mJ t1.1]) (S' := (L, t1.2, J, R)) (P := True) [(.lload_n 2, (0, 0, 0, 0, 0))] [] (by decide +kernel) rfl trivial ?_
  cases hf
  exact b_lret (by decide +kernel) rfl hk
noncomputable def F_WF_answer_12 (sl : Nat) (sd : Nat) (I : MI) (v1 : Int32) : Option (Int64 × MI) :=
  F_WF_answer_19 sl sd I v1 (-1 : Int64)
set_option maxRecDepth 100000 in
set_option maxHeartbeats 400000 in
theorem W_WF_answer_12 {G : MG} {Q : Option MV → MS → Prop} {L : List (Nat × Nat)} {R : Nat → Nat → Option MRef} (sl : Nat) (sd : Nat) (I : MI) (J : MJ) (v1 : Int32) (hR : RF R) (h01 : R 0 1 = some (8, 0, sl)) (h02 : R 0 2 = some (8, 0, sd)) (hs : R 24 1 = some (8, 0, sl)) (hq : sl = 3 ∨ sl = 11) (hqd : sd = 3 ∨ sd = 11) {r : Int64 × MI} (hf : F_WF_answer_12 sl sd I v1 = some r) (hk : (fun r : Int64 × MI => Q (some (mJ r.1)) (L, r.2, J, R)) r) : m_B G (m_rm 6 0 0) M_WF_answer Q 0 0 12 [some (mR (11, 0, 0)), some (mI v1), none, none, none, none] [] (L, I, J, R) := by
  unfold F_WF_answer_12 at hf
  refine b_blk (pc' := 19) (ls' := [some (mR (11, 0, 0)), some (mI v1), none, none, none, none]) (st' := [mJ (-1)]) (S' := (L, I, J, R)) (P := True) [(.ldc2_w 360, (0, 0, 0, 0, (-1))), (.goto 4, (0, 19, 0, 0, 0))] [] (by decide +kernel) rfl trivial ?_
  exact m_B_cg rfl rfl rfl (W_WF_answer_19 sl sd I J v1 (-1 : Int64) hR h01 h02 hs hq hqd hf hk)
noncomputable def F_WF_answer (sl : Nat) (sd : Nat) (I : MI) (v1 : Int32) : Option (Int64 × MI) :=
  if v1 = (16 : Int32) then (F_WF_answer_12 sl sd I v1) else (if v1 = (24 : Int32) then (F_WF_answer_12 sl sd I v1) else (F_WF_answer_19 sl sd I v1 (0 : Int64)))
set_option maxRecDepth 100000 in
set_option maxHeartbeats 400000 in
theorem W_WF_answer {G : MG} {Q : Option MV → MS → Prop} {L : List (Nat × Nat)} {R : Nat → Nat → Option MRef} (sl : Nat) (sd : Nat) (I : MI) (J : MJ) (v1 : Int32) (hR : RF R) (h01 : R 0 1 = some (8, 0, sl)) (h02 : R 0 2 = some (8, 0, sd)) (hs : R 24 1 = some (8, 0, sl)) (hq : sl = 3 ∨ sl = 11) (hqd : sd = 3 ∨ sd = 11) {r : Int64 × MI} (hf : F_WF_answer sl sd I v1 = some r) (hk : (fun r : Int64 × MI => Q (some (mJ r.1)) (L, r.2, J, R)) r) : m_B G (m_rm 6 0 0) M_WF_answer Q 0 0 0 [some (mR (11, 0, 0)), some (mI v1), none, none, none, none] [] (L, I, J, R) := by
  unfold F_WF_answer at hf
  refine b_blk (pc' := 3) (ls' := [some (mR (11, 0, 0)), some (mI v1), none, none, none, none]) (st' := [mI 16, mI v1]) (S' := (L, I, J, R)) (P := True) [(.iload_n 1, (0, 0, 0, 0, 0)), (.bipush 16, (0, 0, 0, 16, 0))] [] (by decide +kernel) rfl trivial ?_
  refine b_icmp_eq (off := 9) (tgt := 12) (by decide +kernel) (by decide) (fun h1 => ?_) (fun h1 => ?_)
  · have hf := if_t h1 hf
    exact m_B_cg rfl rfl rfl (W_WF_answer_12 sl sd I J v1 hR h01 h02 hs hq hqd hf hk)
  · have hf := if_f h1 hf
    refine b_blk (pc' := 9) (ls' := [some (mR (11, 0, 0)), some (mI v1), none, none, none, none]) (st' := [mI 24, mI v1]) (S' := (L, I, J, R)) (P := True) [(.iload_n 1, (0, 0, 0, 0, 0)), (.bipush 24, (0, 0, 0, 24, 0))] [] (by decide +kernel) rfl trivial ?_
    refine b_icmp_ne (off := 9) (tgt := 18) (by decide +kernel) (by decide) (fun h2 => ?_) (fun h2 => ?_)
    · have hf := if_f h2 hf
      refine b_blk (pc' := 19) (ls' := [some (mR (11, 0, 0)), some (mI v1), none, none, none, none]) (st' := [mJ 0]) (S' := (L, I, J, R)) (P := True) [(.lconst 0, (0, 0, 0, 0, 0))] [] (by decide +kernel) rfl trivial ?_
      exact m_B_cg rfl rfl rfl (W_WF_answer_19 sl sd I J v1 (0 : Int64) hR h01 h02 hs hq hqd hf hk)
    · have hf := if_t h2 hf
      exact m_B_cg rfl rfl rfl (W_WF_answer_12 sl sd I J v1 hR h01 h02 hs hq hqd hf hk)
theorem C_WF_answer {G : MG} {L : List (Nat × Nat)} {R : Nat → Nat → Option MRef} (sl : Nat) (sd : Nat) (I : MI) (J : MJ) (v1 : Int32) (hR : RF R) (h01 : R 0 1 = some (8, 0, sl)) (h02 : R 0 2 = some (8, 0, sd)) (hs : R 24 1 = some (8, 0, sl)) (hq : sl = 3 ∨ sl = 11) (hqd : sd = 3 ∨ sd = 11) {r : Int64 × MI} (hf : F_WF_answer sl sd I v1 = some r) : m_met G 6 0 0 y_WF_answer M_WF_answer [mR (11, 0, 0), mI v1] (L, I, J, R) (m_is (some (mJ r.1)) (L, r.2, J, R)) :=
  m_met_in n_WF_answer (plainFor_of_name (by decide)) (by decide) (Nat.le_of_ble_eq_true rfl) (ls := [some (mR (11, 0, 0)), some (mI v1), none, none, none, none]) rfl (W_WF_answer sl sd I J v1 hR h01 h02 hs hq hqd hf ⟨rfl, rfl⟩)
noncomputable def F_WF_feed (sl : Nat) (sd : Nat) (I : MI) (v1 : Int32) (v2 : Int32) (v3 : Int32) (v4 : Int32) (v5 : Int32) : Option (Int32 × MI) :=
  if ((I 1 1) + (20 : Int32)) ≤ (1600 : Int32) then ((F_Tape_append I v1).bind fun r2 => (F_Tape_append r2 v2).bind fun r3 => (F_Tape_append r3 v3).bind fun r4 => (F_Tape_append r4 v4).bind fun r5 => (F_Tape_append r5 v5).bind fun r6 => some ((r6 1 1 : Int32), r6)) else ((F_WF_refuse sl sd I (0 : Int32)).bind fun r7 => some ((r7.1 : Int32), r7.2))
set_option maxRecDepth 100000 in
set_option maxHeartbeats 400000 in
theorem W_WF_feed {G : MG} {Q : Option MV → MS → Prop} {L : List (Nat × Nat)} {R : Nat → Nat → Option MRef} (sl : Nat) (sd : Nat) (I : MI) (J : MJ) (v1 : Int32) (v2 : Int32) (v3 : Int32) (v4 : Int32) (v5 : Int32) (hR : RF R) (h01 : R 0 1 = some (8, 0, sl)) (h02 : R 0 2 = some (8, 0, sd)) (hs : R 24 1 = some (8, 0, sl)) (hq : sl = 3 ∨ sl = 11) (hqd : sd = 3 ∨ sd = 11) {r : Int32 × MI} (hf : F_WF_feed sl sd I v1 v2 v3 v4 v5 = some r) (hk : (fun r : Int32 × MI => Q (some (mI r.1)) (L, r.2, J, R)) r) : m_B G (m_rm 2 0 0) M_WF_feed Q 0 0 0 [some (mR (11, 0, 0)), some (mI v1), some (mI v2), some (mI v3), some (mI v4), some (mI v5)] [] (L, I, J, R) := by
  unfold F_WF_feed at hf
  refine b_blk (pc' := 13) (ls' := [some (mR (11, 0, 0)), some (mI v1), some (mI v2), some (mI v3), some (mI v4), some (mI v5)]) (st' := [mI 1600, mI ((I 1 1) + (20 : Int32))]) (S' := (L, I, J, R)) (P := (True ∧ R 0 0 = some (9, 0, 1))) [(.aload_n 0, (0, 0, 0, 0, 0)), (.getfield 12, (11, 0, 3, 0, 0)), (.getfield 96, (9, 1, 0, 0, 0)), (.bipush 20, (0, 0, 0, 20, 0)), (.iadd, (0, 0, 0, 0, 0)), (.sipush 1600, (0, 0, 0, 1600, 0))] [some (9, 0, 1)] (by decide +kernel) rfl ⟨trivial, (r_0_0 hR)⟩ ?_
  refine b_icmp_le (off := 9) (tgt := 22) (by decide +kernel) (by decide) (fun h1 => ?_) (fun h1 => ?_)
  · have hf := if_t h1 hf
    refine b_blk (pc' := 27) (ls' := [some (mR (11, 0, 0)), some (mI v1), some (mI v2), some (mI v3), some (mI v4), some (mI v5)]) (st' := [mI v1, mR (9, 0, 1)]) (S' := (L, I, J, R)) (P := (True ∧ R 0 0 = some (9, 0, 1))) [(.aload_n 0, (0, 0, 0, 0, 0)), (.getfield 12, (11, 0, 3, 0, 0)), (.iload_n 1, (0, 0, 0, 0, 0))] [some (9, 0, 1)] (by decide +kernel) rfl ⟨trivial, (r_0_0 hR)⟩ ?_
    obtain ⟨r2, hc2, hf⟩ := bnd_o hf
    refine b_cV (as := [mI v1]) (st := []) (by decide +kernel) k_11_103 n_Tape_append rfl (by decide) v_Tape_append (C_Tape_append I J v1 hR hc2) (Nat.le_of_ble_eq_true rfl) (by decide) rfl rfl (fun _ h => h) ?_
    show m_B G (m_rm 2 0 0) M_WF_feed Q 0 0 30 [some (mR (11, 0, 0)), some (mI v1), some (mI v2), some (mI v3), some (mI v4), some (mI v5)] [] (L, r2, J, R)
    refine b_blk (pc' := 35) (ls' := [some (mR (11, 0, 0)), some (mI v1), some (mI v2), some (mI v3), some (mI v4), some (mI v5)]) (st' := [mI v2, mR (9, 0, 1)]) (S' := (L, r2, J, R)) (P := (True ∧ R 0 0 = some (9, 0, 1))) [(.aload_n 0, (0, 0, 0, 0, 0)), (.getfield 12, (11, 0, 3, 0, 0)), (.iload_n 2, (0, 0, 0, 0, 0))] [some (9, 0, 1)] (by decide +kernel) rfl ⟨trivial, (r_0_0 hR)⟩ ?_
    obtain ⟨r3, hc3, hf⟩ := bnd_o hf
    refine b_cV (as := [mI v2]) (st := []) (by decide +kernel) k_11_103 n_Tape_append rfl (by decide) v_Tape_append (C_Tape_append r2 J v2 hR hc3) (Nat.le_of_ble_eq_true rfl) (by decide) rfl rfl (fun _ h => h) ?_
    show m_B G (m_rm 2 0 0) M_WF_feed Q 0 0 38 [some (mR (11, 0, 0)), some (mI v1), some (mI v2), some (mI v3), some (mI v4), some (mI v5)] [] (L, r3, J, R)
    refine b_blk (pc' := 43) (ls' := [some (mR (11, 0, 0)), some (mI v1), some (mI v2), some (mI v3), some (mI v4), some (mI v5)]) (st' := [mI v3, mR (9, 0, 1)]) (S' := (L, r3, J, R)) (P := (True ∧ R 0 0 = some (9, 0, 1))) [(.aload_n 0, (0, 0, 0, 0, 0)), (.getfield 12, (11, 0, 3, 0, 0)), (.iload_n 3, (0, 0, 0, 0, 0))] [some (9, 0, 1)] (by decide +kernel) rfl ⟨trivial, (r_0_0 hR)⟩ ?_
    obtain ⟨r4, hc4, hf⟩ := bnd_o hf
    refine b_cV (as := [mI v3]) (st := []) (by decide +kernel) k_11_103 n_Tape_append rfl (by decide) v_Tape_append (C_Tape_append r3 J v3 hR hc4) (Nat.le_of_ble_eq_true rfl) (by decide) rfl rfl (fun _ h => h) ?_
    show m_B G (m_rm 2 0 0) M_WF_feed Q 0 0 46 [some (mR (11, 0, 0)), some (mI v1), some (mI v2), some (mI v3), some (mI v4), some (mI v5)] [] (L, r4, J, R)
    refine b_blk (pc' := 52) (ls' := [some (mR (11, 0, 0)), some (mI v1), some (mI v2), some (mI v3), some (mI v4), some (mI v5)]) (st' := [mI v4, mR (9, 0, 1)]) (S' := (L, r4, J, R)) (P := (True ∧ R 0 0 = some (9, 0, 1))) [(.aload_n 0, (0, 0, 0, 0, 0)), (.getfield 12, (11, 0, 3, 0, 0)), (.iload 4, (0, 0, 0, 0, 0))] [some (9, 0, 1)] (by decide +kernel) rfl ⟨trivial, (r_0_0 hR)⟩ ?_
    obtain ⟨r5, hc5, hf⟩ := bnd_o hf
    refine b_cV (as := [mI v4]) (st := []) (by decide +kernel) k_11_103 n_Tape_append rfl (by decide) v_Tape_append (C_Tape_append r4 J v4 hR hc5) (Nat.le_of_ble_eq_true rfl) (by decide) rfl rfl (fun _ h => h) ?_
    show m_B G (m_rm 2 0 0) M_WF_feed Q 0 0 55 [some (mR (11, 0, 0)), some (mI v1), some (mI v2), some (mI v3), some (mI v4), some (mI v5)] [] (L, r5, J, R)
    refine b_blk (pc' := 61) (ls' := [some (mR (11, 0, 0)), some (mI v1), some (mI v2), some (mI v3), some (mI v4), some (mI v5)]) (st' := [mI v5, mR (9, 0, 1)]) (S' := (L, r5, J, R)) (P := (True ∧ R 0 0 = some (9, 0, 1))) [(.aload_n 0, (0, 0, 0, 0, 0)), (.getfield 12, (11, 0, 3, 0, 0)), (.iload 5, (0, 0, 0, 0, 0))] [some (9, 0, 1)] (by decide +kernel) rfl ⟨trivial, (r_0_0 hR)⟩ ?_
    obtain ⟨r6, hc6, hf⟩ := bnd_o hf
    refine b_cV (as := [mI v5]) (st := []) (by decide +kernel) k_11_103 n_Tape_append rfl (by decide) v_Tape_append (C_Tape_append r5 J v5 hR hc6) (Nat.le_of_ble_eq_true rfl) (by decide) rfl rfl (fun _ h => h) ?_
    show m_B G (m_rm 2 0 0) M_WF_feed Q 0 0 64 [some (mR (11, 0, 0)), some (mI v1), some (mI v2), some (mI v3), some (mI v4), some (mI v5)] [] (L, r6, J, R)
    refine b_blk (pc' := 71) (ls' := [some (mR (11, 0, 0)), some (mI v1), some (mI v2), some (mI v3), some (mI v4), some (mI v5)]) (st' := [mI (r6 1 1)]) (S' := (L, r6, J, R)) (P := (True ∧ R 0 0 = some (9, 0, 1))) [(.aload_n 0, (0, 0, 0, 0, 0)), (.getfield 12, (11, 0, 3, 0, 0)), (.getfield 96, (9, 1, 0, 0, 0))] [some (9, 0, 1)] (by decide +kernel) rfl ⟨trivial, (r_0_0 hR)⟩ ?_
    cases hf
    exact b_iret (by decide +kernel) rfl hk
  · have hf := if_f h1 hf
    refine b_blk (pc' := 18) (ls' := [some (mR (11, 0, 0)), some (mI v1), some (mI v2), some (mI v3), some (mI v4), some (mI v5)]) (st' := [mI 0, mR (11, 0, 0)]) (S' := (L, I, J, R)) (P := True) [(.aload_n 0, (0, 0, 0, 0, 0)), (.iconst 0, (0, 0, 0, 0, 0))] [] (by decide +kernel) rfl trivial ?_
    obtain ⟨r7, hc7, hf⟩ := bnd_o hf
    refine b_cV (as := [mI 0]) (st := []) (by decide +kernel) k_11_99 n_WF_refuse rfl (by decide) v_WF_refuse (C_WF_refuse sl sd I J (0 : Int32) hR h01 h02 hs hq hqd hc7) (Nat.le_of_ble_eq_true rfl) (by decide) rfl rfl (fun _ h => h) ?_
    show m_B G (m_rm 2 0 0) M_WF_feed Q 0 0 21 [some (mR (11, 0, 0)), some (mI v1), some (mI v2), some (mI v3), some (mI v4), some (mI v5)] [mI r7.1] (L, r7.2, J, R)
    cases hf
    exact b_iret (by decide +kernel) rfl hk
theorem C_WF_feed {G : MG} {L : List (Nat × Nat)} {R : Nat → Nat → Option MRef} (sl : Nat) (sd : Nat) (I : MI) (J : MJ) (v1 : Int32) (v2 : Int32) (v3 : Int32) (v4 : Int32) (v5 : Int32) (hR : RF R) (h01 : R 0 1 = some (8, 0, sl)) (h02 : R 0 2 = some (8, 0, sd)) (hs : R 24 1 = some (8, 0, sl)) (hq : sl = 3 ∨ sl = 11) (hqd : sd = 3 ∨ sd = 11) {r : Int32 × MI} (hf : F_WF_feed sl sd I v1 v2 v3 v4 v5 = some r) : m_met G 2 0 0 y_WF_feed M_WF_feed [mR (11, 0, 0), mI v1, mI v2, mI v3, mI v4, mI v5] (L, I, J, R) (m_is (some (mI r.1)) (L, r.2, J, R)) :=
  m_met_in n_WF_feed (plainFor_of_name (by decide)) (by decide) (Nat.le_of_ble_eq_true rfl) (ls := [some (mR (11, 0, 0)), some (mI v1), some (mI v2), some (mI v3), some (mI v4), some (mI v5)]) rfl (W_WF_feed sl sd I J v1 v2 v3 v4 v5 hR h01 h02 hs hq hqd hf ⟨rfl, rfl⟩)
noncomputable def F_WF_end (sl : Nat) (sd : Nat) (I : MI) (v1 : Int32) : Option (Int32 × MI) :=
  if v1 < (0 : Int32) then ((F_WF_refuse sl sd I (0 : Int32)).bind fun r2 => some ((0 : Int32), r2.2)) else (if v1 ≤ (I 1 1) then (some ((1 : Int32), m_up I 1 1 v1)) else ((F_WF_refuse sl sd I (0 : Int32)).bind fun r4 => some ((0 : Int32), r4.2)))
set_option maxRecDepth 100000 in
set_option maxHeartbeats 400000 in
theorem W_WF_end {G : MG} {Q : Option MV → MS → Prop} {L : List (Nat × Nat)} {R : Nat → Nat → Option MRef} (sl : Nat) (sd : Nat) (I : MI) (J : MJ) (v1 : Int32) (hR : RF R) (h01 : R 0 1 = some (8, 0, sl)) (h02 : R 0 2 = some (8, 0, sd)) (hs : R 24 1 = some (8, 0, sl)) (hq : sl = 3 ∨ sl = 11) (hqd : sd = 3 ∨ sd = 11) {r : Int32 × MI} (hf : F_WF_end sl sd I v1 = some r) (hk : (fun r : Int32 × MI => Q (some (mI r.1)) (L, r.2, J, R)) r) : m_B G (m_rm 2 0 0) M_WF_end Q 0 0 0 [some (mR (11, 0, 0)), some (mI v1)] [] (L, I, J, R) := by
  unfold F_WF_end at hf
  refine b_blk (pc' := 1) (ls' := [some (mR (11, 0, 0)), some (mI v1)]) (st' := [mI v1]) (S' := (L, I, J, R)) (P := True) [(.iload_n 1, (0, 0, 0, 0, 0))] [] (by decide +kernel) rfl trivial ?_
  refine b_if_lt (off := 14) (tgt := 15) (by decide +kernel) (by decide) (fun h1 => ?_) (fun h1 => ?_)
  · have hf := if_t h1 hf
    refine b_blk (pc' := 17) (ls' := [some (mR (11, 0, 0)), some (mI v1)]) (st' := [mI 0, mR (11, 0, 0)]) (S' := (L, I, J, R)) (P := True) [(.aload_n 0, (0, 0, 0, 0, 0)), (.iconst 0, (0, 0, 0, 0, 0))] [] (by decide +kernel) rfl trivial ?_
    obtain ⟨r2, hc2, hf⟩ := bnd_o hf
    refine b_cV (as := [mI 0]) (st := []) (by decide +kernel) k_11_99 n_WF_refuse rfl (by decide) v_WF_refuse (C_WF_refuse sl sd I J (0 : Int32) hR h01 h02 hs hq hqd hc2) (Nat.le_of_ble_eq_true rfl) (by decide) rfl rfl (fun _ h => h) ?_
    show m_B G (m_rm 2 0 0) M_WF_end Q 0 0 20 [some (mR (11, 0, 0)), some (mI v1)] [mI r2.1] (L, r2.2, J, R)
    refine b_blk (pc' := 22) (ls' := [some (mR (11, 0, 0)), some (mI v1)]) (st' := [mI 0]) (S' := (L, r2.2, J, R)) (P := True) [(.pop, (0, 0, 0, 0, 0)), (.iconst 0, (0, 0, 0, 0, 0))] [] (by decide +kernel) rfl trivial ?_
    cases hf
    exact b_zret (by decide +kernel) rfl (by decide) hk
  · have hf := if_f h1 hf
    refine b_blk (pc' := 12) (ls' := [some (mR (11, 0, 0)), some (mI v1)]) (st' := [mI (I 1 1), mI v1]) (S' := (L, I, J, R)) (P := (True ∧ R 0 0 = some (9, 0, 1))) [(.iload_n 1, (0, 0, 0, 0, 0)), (.aload_n 0, (0, 0, 0, 0, 0)), (.getfield 12, (11, 0, 3, 0, 0)), (.getfield 96, (9, 1, 0, 0, 0))] [some (9, 0, 1)] (by decide +kernel) rfl ⟨trivial, (r_0_0 hR)⟩ ?_
    refine b_icmp_le (off := 11) (tgt := 23) (by decide +kernel) (by decide) (fun h3 => ?_) (fun h3 => ?_)
    · have hf := if_t h3 hf
      refine b_blk (pc' := 32) (ls' := [some (mR (11, 0, 0)), some (mI v1)]) (st' := [mI 1]) (S' := (L, m_up I 1 1 v1, J, R)) (P := (True ∧ R 0 0 = some (9, 0, 1))) [(.aload_n 0, (0, 0, 0, 0, 0)), (.getfield 12, (11, 0, 3, 0, 0)), (.iload_n 1, (0, 0, 0, 0, 0)), (.putfield 96, (9, 1, 0, 0, 0)), (.iconst 1, (0, 0, 0, 1, 0))] [some (9, 0, 1)] (by decide +kernel) rfl ⟨trivial, (r_0_0 hR)⟩ ?_
      cases hf
      exact b_zret (by decide +kernel) rfl (by decide) hk
    · have hf := if_f h3 hf
      refine b_blk (pc' := 17) (ls' := [some (mR (11, 0, 0)), some (mI v1)]) (st' := [mI 0, mR (11, 0, 0)]) (S' := (L, I, J, R)) (P := True) [(.aload_n 0, (0, 0, 0, 0, 0)), (.iconst 0, (0, 0, 0, 0, 0))] [] (by decide +kernel) rfl trivial ?_
      obtain ⟨r4, hc4, hf⟩ := bnd_o hf
      refine b_cV (as := [mI 0]) (st := []) (by decide +kernel) k_11_99 n_WF_refuse rfl (by decide) v_WF_refuse (C_WF_refuse sl sd I J (0 : Int32) hR h01 h02 hs hq hqd hc4) (Nat.le_of_ble_eq_true rfl) (by decide) rfl rfl (fun _ h => h) ?_
      show m_B G (m_rm 2 0 0) M_WF_end Q 0 0 20 [some (mR (11, 0, 0)), some (mI v1)] [mI r4.1] (L, r4.2, J, R)
      refine b_blk (pc' := 22) (ls' := [some (mR (11, 0, 0)), some (mI v1)]) (st' := [mI 0]) (S' := (L, r4.2, J, R)) (P := True) [(.pop, (0, 0, 0, 0, 0)), (.iconst 0, (0, 0, 0, 0, 0))] [] (by decide +kernel) rfl trivial ?_
      cases hf
      exact b_zret (by decide +kernel) rfl (by decide) hk
theorem C_WF_end {G : MG} {L : List (Nat × Nat)} {R : Nat → Nat → Option MRef} (sl : Nat) (sd : Nat) (I : MI) (J : MJ) (v1 : Int32) (hR : RF R) (h01 : R 0 1 = some (8, 0, sl)) (h02 : R 0 2 = some (8, 0, sd)) (hs : R 24 1 = some (8, 0, sl)) (hq : sl = 3 ∨ sl = 11) (hqd : sd = 3 ∨ sd = 11) {r : Int32 × MI} (hf : F_WF_end sl sd I v1 = some r) : m_met G 2 0 0 y_WF_end M_WF_end [mR (11, 0, 0), mI v1] (L, I, J, R) (m_is (some (mI r.1)) (L, r.2, J, R)) :=
  m_met_in n_WF_end (plainFor_of_name (by decide)) (by decide) (Nat.le_of_ble_eq_true rfl) (ls := [some (mR (11, 0, 0)), some (mI v1)]) rfl (W_WF_end sl sd I J v1 hR h01 h02 hs hq hqd hf ⟨rfl, rfl⟩)
noncomputable def F_WF_slope (sl : Nat) (sd : Nat) (R : MRR) (I : MI) : Option (Int32 × MI × MRR) :=
  (F_Reader_readSlope sd I).bind fun r1 => if r1.1 = (0 : Int32) then ((F_WF_refuse sl sd (m_up r1.2 1 1 (0 : Int32)) (1 : Int32)).bind fun r4 => some ((r4.1 : Int32), r4.2, m_up R 19 4 (some (8, 0, sd)))) else ((F_WF_beginAnew (sd + 3) (m_up r1.2 1 1 (0 : Int32))).bind fun r3 => some (((m_up r3 170 3 (0 : Int32)) sd 0 : Int32), m_up r3 170 3 (0 : Int32), m_up (m_up (m_up (m_up R 19 4 (some (8, 0, sd))) 0 2 (some (8, 0, sl))) 0 1 (some (8, 0, sd))) 24 1 (some (8, 0, sd))))
set_option maxRecDepth 100000 in
set_option maxHeartbeats 400000 in
theorem W_WF_slope {G : MG} {Q : Option MV → MS → Prop} {L : List (Nat × Nat)} (sl : Nat) (sd : Nat) (R : MRR) (I : MI) (J : MJ) (hR : RF R) (h01 : R 0 1 = some (8, 0, sl)) (h02 : R 0 2 = some (8, 0, sd)) (hs : R 24 1 = some (8, 0, sl)) (hq : sl = 3 ∨ sl = 11) (hqd : sd = 3 ∨ sd = 11) {r : Int32 × MI × MRR} (hf : F_WF_slope sl sd R I = some r) (hk : (fun r : Int32 × MI × MRR => Q (some (mI r.1)) (L, r.2.1, J, r.2.2)) r) : m_B G (m_rm 71 0 0) M_WF_slope Q 0 0 0 [some (mR (11, 0, 0)), none, none] [] (L, I, J, R) := by
  unfold F_WF_slope at hf
  refine b_blk (pc' := 8) (ls' := [some (mR (11, 0, 0)), none, none]) (st' := [mR (8, 0, sd), mR (5, 0, 19)]) (S' := (L, I, J, R)) (P := ((True ∧ R 0 3 = some (5, 0, 19)) ∧ R 0 2 = some (8, 0, sd))) [(.aload_n 0, (0, 0, 0, 0, 0)), (.getfield 31, (11, 3, 3, 0, 0)), (.aload_n 0, (0, 0, 0, 0, 0)), (.getfield 23, (11, 2, 3, 0, 0))] [some (5, 0, 19), some (8, 0, sd)] (by decide +kernel) rfl ⟨⟨trivial, (r_0_3 hR)⟩, h02⟩ ?_
  obtain ⟨r1, hc1, hf⟩ := bnd_o hf
  refine b_cV (as := [mR (8, 0, sd)]) (st := []) (by decide +kernel) k_11_107 n_Reader_readSlope rfl (by decide) v_Reader_readSlope (C_Reader_readSlope sd I J hR hqd hc1) (Nat.le_of_ble_eq_true rfl) (by decide) rfl rfl (fun _ h => h) ?_
  show m_B G (m_rm 71 0 0) M_WF_slope Q 0 0 11 [some (mR (11, 0, 0)), none, none] [mI r1.1] (L, r1.2, J, m_up R 19 4 (some (8, 0, sd)))
  refine b_blk (pc' := 21) (ls' := [some (mR (11, 0, 0)), some (mI r1.1), none]) (st' := [mI r1.1]) (S' := (L, m_up r1.2 1 1 (0 : Int32), J, m_up R 19 4 (some (8, 0, sd)))) (P := (True ∧ (m_up R 19 4 (some (8, 0, sd))) 0 0 = some (9, 0, 1))) [(.istore_n 1, (0, 0, 0, 0, 0)), (.aload_n 0, (0, 0, 0, 0, 0)), (.getfield 12, (11, 0, 3, 0, 0)), (.iconst 0, (0, 0, 0, 0, 0)), (.putfield 96, (9, 1, 0, 0, 0)), (.iload_n 1, (0, 0, 0, 0, 0))] [some (9, 0, 1)] (by decide +kernel) rfl ⟨trivial, (r_0_0 (R := R) hR)⟩ ?_
  refine b_if_ne (off := 9) (tgt := 30) (by decide +kernel) (by decide) (fun h2 => ?_) (fun h2 => ?_)
  · have hf := if_f h2 hf
    refine b_blk (pc' := 67) (ls' := [some (mR (11, 0, 0)), some (mI r1.1), some (mR (8, 0, sd))]) (st' := [mR (3, 0, sd + 3), mR (11, 0, 0)]) (S' := (L, m_up r1.2 1 1 (0 : Int32), J, m_up (m_up (m_up (m_up R 19 4 (some (8, 0, sd))) 0 2 (some (8, 0, sl))) 0 1 (some (8, 0, sd))) 24 1 (some (8, 0, sd)))) (P := ((((((True ∧ (m_up R 19 4 (some (8, 0, sd))) 0 2 = some (8, 0, sd)) ∧ (m_up R 19 4 (some (8, 0, sd))) 0 1 = some (8, 0, sl)) ∧ (m_up (m_up (m_up R 19 4 (some (8, 0, sd))) 0 2 (some (8, 0, sl))) 0 1 (some (8, 0, sd))) 0 5 = some (10, 0, 24)) ∧ (m_up (m_up (m_up R 19 4 (some (8, 0, sd))) 0 2 (some (8, 0, sl))) 0 1 (some (8, 0, sd))) 0 1 = some (8, 0, sd)) ∧ (m_up (m_up (m_up (m_up R 19 4 (some (8, 0, sd))) 0 2 (some (8, 0, sl))) 0 1 (some (8, 0, sd))) 24 1 (some (8, 0, sd))) 0 1 = some (8, 0, sd)) ∧ (m_up (m_up (m_up (m_up R 19 4 (some (8, 0, sd))) 0 2 (some (8, 0, sl))) 0 1 (some (8, 0, sd))) 24 1 (some (8, 0, sd))) sd 7 = some (3, 0, sd + 3))) [(.aload_n 0, (0, 0, 0, 0, 0)), (.getfield 23, (11, 2, 3, 0, 0)), (.astore_n 2, (0, 0, 0, 0, 0)), (.aload_n 0, (0, 0, 0, 0, 0)), (.aload_n 0, (0, 0, 0, 0, 0)), (.getfield 19, (11, 1, 3, 0, 0)), (.putfield 23, (11, 2, 3, 0, 0)), (.aload_n 0, (0, 0, 0, 0, 0)), (.aload_n 2, (0, 0, 0, 0, 0)), (.putfield 19, (11, 1, 3, 0, 0)), (.aload_n 0, (0, 0, 0, 0, 0)), (.getfield 47, (11, 5, 3, 0, 0)), (.aload_n 0, (0, 0, 0, 0, 0)), (.getfield 19, (11, 1, 3, 0, 0)), (.putfield 111, (10, 1, 3, 0, 0)), (.aload_n 0, (0, 0, 0, 0, 0)), (.aload_n 0, (0, 0, 0, 0, 0)), (.getfield 19, (11, 1, 3, 0, 0)), (.getfield 112, (8, 7, 3, 0, 0))] [some (8, 0, sd), some (8, 0, sl), some (10, 0, 24), some (8, 0, sd), some (8, 0, sd), some (3, 0, sd + 3)] (by decide +kernel) rfl ⟨⟨⟨⟨⟨⟨trivial, h02⟩, h01⟩, (r_0_5 (R := R) hR)⟩, rfl⟩, rfl⟩, (sl_of (rf_24 (rf_01 (rf_02 (rf_t hR)))) hqd).2.2.1⟩ ?_
    obtain ⟨r3, hc3, hf⟩ := bnd_o hf
    refine b_cV (as := [mR (3, 0, sd + 3)]) (st := []) (by decide +kernel) k_11_115 n_WF_beginAnew rfl (by decide) v_WF_beginAnew (C_WF_beginAnew (sd + 3) (m_up r1.2 1 1 (0 : Int32)) J (rf_24 (rf_01 (rf_02 (rf_t hR)))) (sl_of (rf_24 (rf_01 (rf_02 (rf_t hR)))) hqd).2.2.2.2 hc3) (Nat.le_of_ble_eq_true rfl) (by decide) rfl rfl (fun _ h => h) ?_
    show m_B G (m_rm 71 0 0) M_WF_slope Q 0 0 70 [some (mR (11, 0, 0)), some (mI r1.1), some (mR (8, 0, sd))] [] (L, r3, J, m_up (m_up (m_up (m_up R 19 4 (some (8, 0, sd))) 0 2 (some (8, 0, sl))) 0 1 (some (8, 0, sd))) 24 1 (some (8, 0, sd)))
    refine b_blk (pc' := 85) (ls' := [some (mR (11, 0, 0)), some (mI r1.1), some (mR (8, 0, sd))]) (st' := [mI ((m_up r3 170 3 (0 : Int32)) sd 0)]) (S' := (L, m_up r3 170 3 (0 : Int32), J, m_up (m_up (m_up (m_up R 19 4 (some (8, 0, sd))) 0 2 (some (8, 0, sl))) 0 1 (some (8, 0, sd))) 24 1 (some (8, 0, sd)))) (P := ((True ∧ (m_up (m_up (m_up (m_up R 19 4 (some (8, 0, sd))) 0 2 (some (8, 0, sl))) 0 1 (some (8, 0, sd))) 24 1 (some (8, 0, sd))) 0 9 = some (7, 0, 170)) ∧ (m_up (m_up (m_up (m_up R 19 4 (some (8, 0, sd))) 0 2 (some (8, 0, sl))) 0 1 (some (8, 0, sd))) 24 1 (some (8, 0, sd))) 0 1 = some (8, 0, sd))) [(.aload_n 0, (0, 0, 0, 0, 0)), (.getfield 77, (11, 9, 3, 0, 0)), (.iconst 0, (0, 0, 0, 0, 0)), (.putfield 119, (7, 3, 0, 0, 0)), (.aload_n 0, (0, 0, 0, 0, 0)), (.getfield 19, (11, 1, 3, 0, 0)), (.getfield 122, (8, 0, 0, 0, 0))] [some (7, 0, 170), some (8, 0, sd)] (by decide +kernel) rfl ⟨⟨trivial, (r_0_9 (R := R) hR)⟩, rfl⟩ ?_
    cases hf
    exact b_iret (by decide +kernel) rfl hk
  · have hf := if_t h2 hf
    refine b_blk (pc' := 26) (ls' := [some (mR (11, 0, 0)), some (mI r1.1), none]) (st' := [mI 1, mR (11, 0, 0)]) (S' := (L, m_up r1.2 1 1 (0 : Int32), J, m_up R 19 4 (some (8, 0, sd)))) (P := True) [(.aload_n 0, (0, 0, 0, 0, 0)), (.iconst 1, (0, 0, 0, 1, 0))] [] (by decide +kernel) rfl trivial ?_
    obtain ⟨r4, hc4, hf⟩ := bnd_o hf
    refine b_cV (as := [mI 1]) (st := []) (by decide +kernel) k_11_99 n_WF_refuse rfl (by decide) v_WF_refuse (C_WF_refuse sl sd (m_up r1.2 1 1 (0 : Int32)) J (1 : Int32) (rf_t hR) h01 h02 hs hq hqd hc4) (Nat.le_of_ble_eq_true rfl) (by decide) rfl rfl (fun _ h => h) ?_
    show m_B G (m_rm 71 0 0) M_WF_slope Q 0 0 29 [some (mR (11, 0, 0)), some (mI r1.1), none] [mI r4.1] (L, r4.2, J, m_up R 19 4 (some (8, 0, sd)))
    cases hf
    exact b_iret (by decide +kernel) rfl hk
theorem C_WF_slope {G : MG} {L : List (Nat × Nat)} (sl : Nat) (sd : Nat) (R : MRR) (I : MI) (J : MJ) (hR : RF R) (h01 : R 0 1 = some (8, 0, sl)) (h02 : R 0 2 = some (8, 0, sd)) (hs : R 24 1 = some (8, 0, sl)) (hq : sl = 3 ∨ sl = 11) (hqd : sd = 3 ∨ sd = 11) {r : Int32 × MI × MRR} (hf : F_WF_slope sl sd R I = some r) : m_met G 71 0 0 y_WF_slope M_WF_slope [mR (11, 0, 0)] (L, I, J, R) (m_is (some (mI r.1)) (L, r.2.1, J, r.2.2)) :=
  m_met_in n_WF_slope (plainFor_of_name (by decide)) (by decide) (Nat.le_of_ble_eq_true rfl) (ls := [some (mR (11, 0, 0)), none, none]) rfl (W_WF_slope sl sd R I J hR h01 h02 hs hq hqd hf ⟨rfl, rfl⟩)
noncomputable def F_WF_fault (sl : Nat) (sd : Nat) (I : MI) (v1 : Int32) : Option (Int32) :=
  if v1 = 0 then (some (I 19 1 : Int32)) else (if v1 = 1 then (some (I 19 2 : Int32)) else (some ((-1) : Int32)))
set_option maxRecDepth 100000 in
set_option maxHeartbeats 400000 in
theorem W_WF_fault {G : MG} {Q : Option MV → MS → Prop} {L : List (Nat × Nat)} {R : Nat → Nat → Option MRef} (sl : Nat) (sd : Nat) (I : MI) (J : MJ) (v1 : Int32) (hR : RF R) (h01 : R 0 1 = some (8, 0, sl)) (h02 : R 0 2 = some (8, 0, sd)) (hs : R 24 1 = some (8, 0, sl)) (hq : sl = 3 ∨ sl = 11) (hqd : sd = 3 ∨ sd = 11) {r : Int32} (hf : F_WF_fault sl sd I v1 = some r) (hk : (fun r : Int32 => Q (some (mI r)) (L, I, J, R)) r) : m_B G (m_rm 1 0 0) M_WF_fault Q 0 0 0 [some (mR (11, 0, 0)), some (mI v1)] [] (L, I, J, R) := by
  unfold F_WF_fault at hf
  refine b_blk (pc' := 1) (ls' := [some (mR (11, 0, 0)), some (mI v1)]) (st' := [mI v1]) (S' := (L, I, J, R)) (P := True) [(.iload_n 1, (0, 0, 0, 0, 0))] [] (by decide +kernel) rfl trivial ?_
  by_cases h1 : v1 = 0
  · refine b_lswV (tgt := 28) (off := 27) (dflt := 43) (ps := #[(0, 27), (1, 35)]) (len := 27) h1 (by decide +kernel) (by decide) (by decide) (by decide) ?_
    have hf := if_t h1 hf
    refine b_blk (pc' := 35) (ls' := [some (mR (11, 0, 0)), some (mI v1)]) (st' := [mI (I 19 1)]) (S' := (L, I, J, R)) (P := (True ∧ R 0 3 = some (5, 0, 19))) [(.aload_n 0, (0, 0, 0, 0, 0)), (.getfield 31, (11, 3, 3, 0, 0)), (.getfield 125, (5, 1, 0, 0, 0))] [some (5, 0, 19)] (by decide +kernel) rfl ⟨trivial, (r_0_3 hR)⟩ ?_
    cases hf
    exact b_iret (by decide +kernel) rfl hk
  have hf := if_f h1 hf
  by_cases h2 : v1 = 1
  · refine b_lswV (tgt := 36) (off := 35) (dflt := 43) (ps := #[(0, 27), (1, 35)]) (len := 27) h2 (by decide +kernel) (by decide) (by decide) (by decide) ?_
    have hf := if_t h2 hf
    refine b_blk (pc' := 43) (ls' := [some (mR (11, 0, 0)), some (mI v1)]) (st' := [mI (I 19 2)]) (S' := (L, I, J, R)) (P := (True ∧ R 0 3 = some (5, 0, 19))) [(.aload_n 0, (0, 0, 0, 0, 0)), (.getfield 31, (11, 3, 3, 0, 0)), (.getfield 128, (5, 2, 0, 0, 0))] [some (5, 0, 19)] (by decide +kernel) rfl ⟨trivial, (r_0_3 hR)⟩ ?_
    cases hf
    exact b_iret (by decide +kernel) rfl hk
  have hf := if_f h2 hf
  refine b_lsw (tgt := 44) (off := 43) (dflt := 43) (ps := #[(0, 27), (1, 35)]) (len := 27) (by decide +kernel) (by decide) (by rw [lv_osw h1 (by decide), lv_osw h2 (by decide)]; rfl) (by decide) ?_
  refine b_blk (pc' := 45) (ls' := [some (mR (11, 0, 0)), some (mI v1)]) (st' := [mI (-1)]) (S' := (L, I, J, R)) (P := True) [(.iconst (-1), (0, 0, 0, (-1), 0))] [] (by decide +kernel) rfl trivial ?_
  cases hf
  exact b_iret (by decide +kernel) rfl hk
theorem C_WF_fault {G : MG} {L : List (Nat × Nat)} {R : Nat → Nat → Option MRef} (sl : Nat) (sd : Nat) (I : MI) (J : MJ) (v1 : Int32) (hR : RF R) (h01 : R 0 1 = some (8, 0, sl)) (h02 : R 0 2 = some (8, 0, sd)) (hs : R 24 1 = some (8, 0, sl)) (hq : sl = 3 ∨ sl = 11) (hqd : sd = 3 ∨ sd = 11) {r : Int32} (hf : F_WF_fault sl sd I v1 = some r) : m_met G 1 0 0 y_WF_fault M_WF_fault [mR (11, 0, 0), mI v1] (L, I, J, R) (m_is (some (mI r)) (L, I, J, R)) :=
  m_met_in n_WF_fault (plainFor_of_name (by decide)) (by decide) (Nat.le_of_ble_eq_true rfl) (ls := [some (mR (11, 0, 0)), some (mI v1)]) rfl (W_WF_fault sl sd I J v1 hR h01 h02 hs hq hqd hf ⟨rfl, rfl⟩)
noncomputable def F_WF_has (sl : Nat) (sd : Nat) (I : MI) (v1 : Int32) : Option (Int32) :=
  if v1 = 0 then (some (I sl 1 : Int32)) else (if v1 = 1 then (some (I sl 2 : Int32)) else (if v1 = 2 then (some (I sl 3 : Int32)) else (if v1 = 3 then (some (I 20 0 : Int32)) else (if v1 = 4 then (some (l_posts I 20 6 : Int32)) else (if v1 = 5 then ((F_WF_countStakes sl sd I).bind fun r7 => some (r7 : Int32)) else (if v1 = 6 then (some (f_Integer_bitCount (I 20 1) : Int32)) else (if v1 = 7 then ((F_WF_countMoor sl sd I).bind fun r10 => some (r10 : Int32)) else (if v1 = 8 then (some (I 45 2 : Int32)) else (if v1 = 9 then (some (I 170 3 : Int32)) else (if v1 = 10 then (some (I 47 3 : Int32)) else (some ((-1) : Int32))))))))))))
set_option maxRecDepth 100000 in
set_option maxHeartbeats 400000 in
theorem W_WF_has {G : MG} {Q : Option MV → MS → Prop} {L : List (Nat × Nat)} {R : Nat → Nat → Option MRef} (sl : Nat) (sd : Nat) (I : MI) (J : MJ) (v1 : Int32) (hR : RF R) (h01 : R 0 1 = some (8, 0, sl)) (h02 : R 0 2 = some (8, 0, sd)) (hs : R 24 1 = some (8, 0, sl)) (hq : sl = 3 ∨ sl = 11) (hqd : sd = 3 ∨ sd = 11) {r : Int32} (hf : F_WF_has sl sd I v1 = some r) (hk : (fun r : Int32 => Q (some (mI r)) (L, I, J, R)) r) : m_B G (m_rm 6 0 0) M_WF_has Q 0 0 0 [some (mR (11, 0, 0)), some (mI v1)] [] (L, I, J, R) := by
  unfold F_WF_has at hf
  refine b_blk (pc' := 1) (ls' := [some (mR (11, 0, 0)), some (mI v1)]) (st' := [mI v1]) (S' := (L, I, J, R)) (P := True) [(.iload_n 1, (0, 0, 0, 0, 0))] [] (by decide +kernel) rfl trivial ?_
  by_cases h1 : v1 = 0
  · refine b_tswV (tgt := 60) (off := 59) (lo := 0) (hi := 10) (dflt := 144) (offs := #[59, 67, 75, 83, 91, 99, 104, 115, 120, 128, 136]) (len := 59) h1 (by decide +kernel) (by decide) (by decide) (by decide) (by decide) ?_
    have hf := if_t h1 hf
    refine b_blk (pc' := 67) (ls' := [some (mR (11, 0, 0)), some (mI v1)]) (st' := [mI (I sl 1)]) (S' := (L, I, J, R)) (P := (True ∧ R 0 1 = some (8, 0, sl))) [(.aload_n 0, (0, 0, 0, 0, 0)), (.getfield 19, (11, 1, 3, 0, 0)), (.getfield 131, (8, 1, 0, 0, 0))] [some (8, 0, sl)] (by decide +kernel) rfl ⟨trivial, h01⟩ ?_
    cases hf
    exact b_iret (by decide +kernel) rfl hk
  have hf := if_f h1 hf
  by_cases h2 : v1 = 1
  · refine b_tswV (tgt := 68) (off := 67) (lo := 0) (hi := 10) (dflt := 144) (offs := #[59, 67, 75, 83, 91, 99, 104, 115, 120, 128, 136]) (len := 59) h2 (by decide +kernel) (by decide) (by decide) (by decide) (by decide) ?_
    have hf := if_t h2 hf
    refine b_blk (pc' := 75) (ls' := [some (mR (11, 0, 0)), some (mI v1)]) (st' := [mI (I sl 2)]) (S' := (L, I, J, R)) (P := (True ∧ R 0 1 = some (8, 0, sl))) [(.aload_n 0, (0, 0, 0, 0, 0)), (.getfield 19, (11, 1, 3, 0, 0)), (.getfield 134, (8, 2, 0, 0, 0))] [some (8, 0, sl)] (by decide +kernel) rfl ⟨trivial, h01⟩ ?_
    cases hf
    exact b_iret (by decide +kernel) rfl hk
  have hf := if_f h2 hf
  by_cases h3 : v1 = 2
  · refine b_tswV (tgt := 76) (off := 75) (lo := 0) (hi := 10) (dflt := 144) (offs := #[59, 67, 75, 83, 91, 99, 104, 115, 120, 128, 136]) (len := 59) h3 (by decide +kernel) (by decide) (by decide) (by decide) (by decide) ?_
    have hf := if_t h3 hf
    refine b_blk (pc' := 83) (ls' := [some (mR (11, 0, 0)), some (mI v1)]) (st' := [mI (I sl 3)]) (S' := (L, I, J, R)) (P := (True ∧ R 0 1 = some (8, 0, sl))) [(.aload_n 0, (0, 0, 0, 0, 0)), (.getfield 19, (11, 1, 3, 0, 0)), (.getfield 137, (8, 3, 0, 0, 0))] [some (8, 0, sl)] (by decide +kernel) rfl ⟨trivial, h01⟩ ?_
    cases hf
    exact b_iret (by decide +kernel) rfl hk
  have hf := if_f h3 hf
  by_cases h4 : v1 = 3
  · refine b_tswV (tgt := 84) (off := 83) (lo := 0) (hi := 10) (dflt := 144) (offs := #[59, 67, 75, 83, 91, 99, 104, 115, 120, 128, 136]) (len := 59) h4 (by decide +kernel) (by decide) (by decide) (by decide) (by decide) ?_
    have hf := if_t h4 hf
    refine b_blk (pc' := 91) (ls' := [some (mR (11, 0, 0)), some (mI v1)]) (st' := [mI (I 20 0)]) (S' := (L, I, J, R)) (P := (True ∧ R 0 4 = some (3, 0, 20))) [(.aload_n 0, (0, 0, 0, 0, 0)), (.getfield 38, (11, 4, 3, 0, 0)), (.getfield 140, (3, 0, 0, 0, 0))] [some (3, 0, 20)] (by decide +kernel) rfl ⟨trivial, (r_0_4 hR)⟩ ?_
    cases hf
    exact b_iret (by decide +kernel) rfl hk
  have hf := if_f h4 hf
  by_cases h5 : v1 = 4
  · refine b_tswV (tgt := 92) (off := 91) (lo := 0) (hi := 10) (dflt := 144) (offs := #[59, 67, 75, 83, 91, 99, 104, 115, 120, 128, 136]) (len := 59) h5 (by decide +kernel) (by decide) (by decide) (by decide) (by decide) ?_
    have hf := if_t h5 hf
    refine b_blk (pc' := 96) (ls' := [some (mR (11, 0, 0)), some (mI v1)]) (st' := [mR (3, 0, 20)]) (S' := (L, I, J, R)) (P := (True ∧ R 0 4 = some (3, 0, 20))) [(.aload_n 0, (0, 0, 0, 0, 0)), (.getfield 38, (11, 4, 3, 0, 0))] [some (3, 0, 20)] (by decide +kernel) rfl ⟨trivial, (r_0_4 hR)⟩ ?_
    refine b_cV (as := []) (st := []) (by decide +kernel) k_11_143 n_Lay_countPosts rfl (by decide) v_Lay_countPosts (c_Lay_countPosts 20 (ly_20 hR)) (Nat.le_of_ble_eq_true rfl) (by decide) rfl rfl (fun _ h => h) ?_
    show m_B _ _ _ _ _ _ 99 [some (mR (11, 0, 0)), some (mI v1)] [mI (l_posts I 20 6)] (L, I, J, R)
    cases hf
    exact b_iret (by decide +kernel) rfl hk
  have hf := if_f h5 hf
  by_cases h6 : v1 = 5
  · refine b_tswV (tgt := 100) (off := 99) (lo := 0) (hi := 10) (dflt := 144) (offs := #[59, 67, 75, 83, 91, 99, 104, 115, 120, 128, 136]) (len := 59) h6 (by decide +kernel) (by decide) (by decide) (by decide) (by decide) ?_
    have hf := if_t h6 hf
    refine b_blk (pc' := 101) (ls' := [some (mR (11, 0, 0)), some (mI v1)]) (st' := [mR (11, 0, 0)]) (S' := (L, I, J, R)) (P := True) [(.aload_n 0, (0, 0, 0, 0, 0))] [] (by decide +kernel) rfl trivial ?_
    obtain ⟨r7, hc7, hf⟩ := bnd_o hf
    refine b_cV (as := []) (st := []) (by decide +kernel) k_11_147 n_WF_countStakes rfl (by decide) v_WF_countStakes (C_WF_countStakes sl sd I J hR h01 h02 hs hq hqd hc7) (Nat.le_of_ble_eq_true rfl) (by decide) rfl rfl (fun _ h => h) ?_
    show m_B G (m_rm 6 0 0) M_WF_has Q 0 0 104 [some (mR (11, 0, 0)), some (mI v1)] [mI r7] (L, I, J, R)
    cases hf
    exact b_iret (by decide +kernel) rfl hk
  have hf := if_f h6 hf
  by_cases h8 : v1 = 6
  · refine b_tswV (tgt := 105) (off := 104) (lo := 0) (hi := 10) (dflt := 144) (offs := #[59, 67, 75, 83, 91, 99, 104, 115, 120, 128, 136]) (len := 59) h8 (by decide +kernel) (by decide) (by decide) (by decide) (by decide) ?_
    have hf := if_t h8 hf
    refine b_blk (pc' := 112) (ls' := [some (mR (11, 0, 0)), some (mI v1)]) (st' := [mI (I 20 1)]) (S' := (L, I, J, R)) (P := (True ∧ R 0 4 = some (3, 0, 20))) [(.aload_n 0, (0, 0, 0, 0, 0)), (.getfield 38, (11, 4, 3, 0, 0)), (.getfield 150, (3, 1, 0, 0, 0))] [some (3, 0, 20)] (by decide +kernel) rfl ⟨trivial, (r_0_4 hR)⟩ ?_
    refine b_cS (as := [mI (I 20 1)]) (st := []) (by decide +kernel) k_11_153 n_Integer_bitCount s_Integer_bitCount (c_Integer_bitCount (I 20 1) ) (Nat.le_of_ble_eq_true rfl) (by decide) rfl rfl (fun _ h => h) ?_
    show m_B _ _ _ _ _ _ 115 [some (mR (11, 0, 0)), some (mI v1)] [mI (f_Integer_bitCount (I 20 1))] (L, I, J, R)
    cases hf
    exact b_iret (by decide +kernel) rfl hk
  have hf := if_f h8 hf
  by_cases h9 : v1 = 7
  · refine b_tswV (tgt := 116) (off := 115) (lo := 0) (hi := 10) (dflt := 144) (offs := #[59, 67, 75, 83, 91, 99, 104, 115, 120, 128, 136]) (len := 59) h9 (by decide +kernel) (by decide) (by decide) (by decide) (by decide) ?_
    have hf := if_t h9 hf
    refine b_blk (pc' := 117) (ls' := [some (mR (11, 0, 0)), some (mI v1)]) (st' := [mR (11, 0, 0)]) (S' := (L, I, J, R)) (P := True) [(.aload_n 0, (0, 0, 0, 0, 0))] [] (by decide +kernel) rfl trivial ?_
    obtain ⟨r10, hc10, hf⟩ := bnd_o hf
    refine b_cV (as := []) (st := []) (by decide +kernel) k_11_158 n_WF_countMoor rfl (by decide) v_WF_countMoor (C_WF_countMoor sl sd I J hR h01 h02 hs hq hqd hc10) (Nat.le_of_ble_eq_true rfl) (by decide) rfl rfl (fun _ h => h) ?_
    show m_B G (m_rm 6 0 0) M_WF_has Q 0 0 120 [some (mR (11, 0, 0)), some (mI v1)] [mI r10] (L, I, J, R)
    cases hf
    exact b_iret (by decide +kernel) rfl hk
  have hf := if_f h9 hf
  by_cases h11 : v1 = 8
  · refine b_tswV (tgt := 121) (off := 120) (lo := 0) (hi := 10) (dflt := 144) (offs := #[59, 67, 75, 83, 91, 99, 104, 115, 120, 128, 136]) (len := 59) h11 (by decide +kernel) (by decide) (by decide) (by decide) (by decide) ?_
    have hf := if_t h11 hf
    refine b_blk (pc' := 128) (ls' := [some (mR (11, 0, 0)), some (mI v1)]) (st' := [mI (I 45 2)]) (S' := (L, I, J, R)) (P := (True ∧ R 0 7 = some (4, 0, 45))) [(.aload_n 0, (0, 0, 0, 0, 0)), (.getfield 63, (11, 7, 3, 0, 0)), (.getfield 161, (4, 2, 0, 0, 0))] [some (4, 0, 45)] (by decide +kernel) rfl ⟨trivial, (r_0_7 hR)⟩ ?_
    cases hf
    exact b_iret (by decide +kernel) rfl hk
  have hf := if_f h11 hf
  by_cases h12 : v1 = 9
  · refine b_tswV (tgt := 129) (off := 128) (lo := 0) (hi := 10) (dflt := 144) (offs := #[59, 67, 75, 83, 91, 99, 104, 115, 120, 128, 136]) (len := 59) h12 (by decide +kernel) (by decide) (by decide) (by decide) (by decide) ?_
    have hf := if_t h12 hf
    refine b_blk (pc' := 136) (ls' := [some (mR (11, 0, 0)), some (mI v1)]) (st' := [mI (I 170 3)]) (S' := (L, I, J, R)) (P := (True ∧ R 0 9 = some (7, 0, 170))) [(.aload_n 0, (0, 0, 0, 0, 0)), (.getfield 77, (11, 9, 3, 0, 0)), (.getfield 119, (7, 3, 0, 0, 0))] [some (7, 0, 170)] (by decide +kernel) rfl ⟨trivial, (r_0_9 hR)⟩ ?_
    cases hf
    exact b_iret (by decide +kernel) rfl hk
  have hf := if_f h12 hf
  by_cases h13 : v1 = 10
  · refine b_tswV (tgt := 137) (off := 136) (lo := 0) (hi := 10) (dflt := 144) (offs := #[59, 67, 75, 83, 91, 99, 104, 115, 120, 128, 136]) (len := 59) h13 (by decide +kernel) (by decide) (by decide) (by decide) (by decide) ?_
    have hf := if_t h13 hf
    refine b_blk (pc' := 144) (ls' := [some (mR (11, 0, 0)), some (mI v1)]) (st' := [mI (I 47 3)]) (S' := (L, I, J, R)) (P := (True ∧ R 0 8 = some (1, 0, 47))) [(.aload_n 0, (0, 0, 0, 0, 0)), (.getfield 70, (11, 8, 3, 0, 0)), (.getfield 162, (1, 3, 0, 0, 0))] [some (1, 0, 47)] (by decide +kernel) rfl ⟨trivial, (r_0_8 hR)⟩ ?_
    cases hf
    exact b_iret (by decide +kernel) rfl hk
  have hf := if_f h13 hf
  refine b_tswD (tgt := 145) (lo := 0) (hi := 10) (dflt := 144) (offs := #[59, 67, 75, 83, 91, 99, 104, 115, 120, 128, 136]) (len := 59) (by decide +kernel) (by have q0 := lv_neT h1 (a := 0) (by decide); have q1 := lv_neT h2 (a := 1) (by decide); have q2 := lv_neT h3 (a := 2) (by decide); have q3 := lv_neT h4 (a := 3) (by decide); have q4 := lv_neT h5 (a := 4) (by decide); have q5 := lv_neT h6 (a := 5) (by decide); have q6 := lv_neT h8 (a := 6) (by decide); have q7 := lv_neT h9 (a := 7) (by decide); have q8 := lv_neT h11 (a := 8) (by decide); have q9 := lv_neT h12 (a := 9) (by decide); have q10 := lv_neT h13 (a := 10) (by decide); omega) (by decide) ?_
  refine b_blk (pc' := 146) (ls' := [some (mR (11, 0, 0)), some (mI v1)]) (st' := [mI (-1)]) (S' := (L, I, J, R)) (P := True) [(.iconst (-1), (0, 0, 0, (-1), 0))] [] (by decide +kernel) rfl trivial ?_
  cases hf
  exact b_iret (by decide +kernel) rfl hk
theorem C_WF_has {G : MG} {L : List (Nat × Nat)} {R : Nat → Nat → Option MRef} (sl : Nat) (sd : Nat) (I : MI) (J : MJ) (v1 : Int32) (hR : RF R) (h01 : R 0 1 = some (8, 0, sl)) (h02 : R 0 2 = some (8, 0, sd)) (hs : R 24 1 = some (8, 0, sl)) (hq : sl = 3 ∨ sl = 11) (hqd : sd = 3 ∨ sd = 11) {r : Int32} (hf : F_WF_has sl sd I v1 = some r) : m_met G 6 0 0 y_WF_has M_WF_has [mR (11, 0, 0), mI v1] (L, I, J, R) (m_is (some (mI r)) (L, I, J, R)) :=
  m_met_in n_WF_has (plainFor_of_name (by decide)) (by decide) (Nat.le_of_ble_eq_true rfl) (ls := [some (mR (11, 0, 0)), some (mI v1)]) rfl (W_WF_has sl sd I J v1 hR h01 h02 hs hq hqd hf ⟨rfl, rfl⟩)
noncomputable def F_WF_letter (sl : Nat) (sd : Nat) (I : MI) (v1 : Int32) (v2 : Int32) : Option (Int32) :=
  if (f_Slope_hasFence I sl v1) = (0 : Int32) then (some ((-1) : Int32)) else (if v2 < (0 : Int32) then (some ((-1) : Int32)) else (if (6 : Int32) ≤ v2 then (some ((-1) : Int32)) else (gd ((v1 * (6 : Int32)) + v2) 36 <| some (I (sl + 2) ((v1 * (6 : Int32)) + v2).toNatClampNeg : Int32))))
set_option maxRecDepth 100000 in
set_option maxHeartbeats 400000 in
theorem W_WF_letter {G : MG} {Q : Option MV → MS → Prop} {L : List (Nat × Nat)} {R : Nat → Nat → Option MRef} (sl : Nat) (sd : Nat) (I : MI) (J : MJ) (v1 : Int32) (v2 : Int32) (hR : RF R) (h01 : R 0 1 = some (8, 0, sl)) (h02 : R 0 2 = some (8, 0, sd)) (hs : R 24 1 = some (8, 0, sl)) (hq : sl = 3 ∨ sl = 11) (hqd : sd = 3 ∨ sd = 11) {r : Int32} (hf : F_WF_letter sl sd I v1 v2 = some r) (hk : (fun r : Int32 => Q (some (mI r)) (L, I, J, R)) r) : m_B G (m_rm 2 0 0) M_WF_letter Q 0 0 0 [some (mR (11, 0, 0)), some (mI v1), some (mI v2)] [] (L, I, J, R) := by
  unfold F_WF_letter at hf
  refine b_blk (pc' := 5) (ls' := [some (mR (11, 0, 0)), some (mI v1), some (mI v2)]) (st' := [mI v1, mR (8, 0, sl)]) (S' := (L, I, J, R)) (P := (True ∧ R 0 1 = some (8, 0, sl))) [(.aload_n 0, (0, 0, 0, 0, 0)), (.getfield 19, (11, 1, 3, 0, 0)), (.iload_n 1, (0, 0, 0, 0, 0))] [some (8, 0, sl)] (by decide +kernel) rfl ⟨trivial, h01⟩ ?_
  refine b_cV (as := [mI v1]) (st := []) (by decide +kernel) k_11_163 n_Slope_hasFence rfl (by decide) v_Slope_hasFence (c_Slope_hasFence sl v1 ) (Nat.le_of_ble_eq_true rfl) (by decide) rfl rfl (fun _ h => h) ?_
  show m_B _ _ _ _ _ _ 8 [some (mR (11, 0, 0)), some (mI v1), some (mI v2)] [mI (f_Slope_hasFence I sl v1)] (L, I, J, R)
  refine b_if_eq (off := 30) (tgt := 38) (by decide +kernel) (by decide) (fun h1 => ?_) (fun h1 => ?_)
  · have hf := if_t h1 hf
    refine b_blk (pc' := 39) (ls' := [some (mR (11, 0, 0)), some (mI v1), some (mI v2)]) (st' := [mI (-1)]) (S' := (L, I, J, R)) (P := True) [(.iconst (-1), (0, 0, 0, (-1), 0))] [] (by decide +kernel) rfl trivial ?_
    cases hf
    exact b_iret (by decide +kernel) rfl hk
  · have hf := if_f h1 hf
    refine b_blk (pc' := 12) (ls' := [some (mR (11, 0, 0)), some (mI v1), some (mI v2)]) (st' := [mI v2]) (S' := (L, I, J, R)) (P := True) [(.iload_n 2, (0, 0, 0, 0, 0))] [] (by decide +kernel) rfl trivial ?_
    refine b_if_lt (off := 26) (tgt := 38) (by decide +kernel) (by decide) (fun h2 => ?_) (fun h2 => ?_)
    · have hf := if_t h2 hf
      refine b_blk (pc' := 39) (ls' := [some (mR (11, 0, 0)), some (mI v1), some (mI v2)]) (st' := [mI (-1)]) (S' := (L, I, J, R)) (P := True) [(.iconst (-1), (0, 0, 0, (-1), 0))] [] (by decide +kernel) rfl trivial ?_
      cases hf
      exact b_iret (by decide +kernel) rfl hk
    · have hf := if_f h2 hf
      refine b_blk (pc' := 18) (ls' := [some (mR (11, 0, 0)), some (mI v1), some (mI v2)]) (st' := [mI 6, mI v2]) (S' := (L, I, J, R)) (P := True) [(.iload_n 2, (0, 0, 0, 0, 0)), (.bipush 6, (0, 0, 0, 6, 0))] [] (by decide +kernel) rfl trivial ?_
      refine b_icmp_ge (off := 20) (tgt := 38) (by decide +kernel) (by decide) (fun h3 => ?_) (fun h3 => ?_)
      · have hf := if_t h3 hf
        refine b_blk (pc' := 39) (ls' := [some (mR (11, 0, 0)), some (mI v1), some (mI v2)]) (st' := [mI (-1)]) (S' := (L, I, J, R)) (P := True) [(.iconst (-1), (0, 0, 0, (-1), 0))] [] (by decide +kernel) rfl trivial ?_
        cases hf
        exact b_iret (by decide +kernel) rfl hk
      · have hf := if_f h3 hf
        obtain ⟨g4, hf⟩ := gd_s hf
        refine b_blk (pc' := 39) (ls' := [some (mR (11, 0, 0)), some (mI v1), some (mI v2)]) (st' := [mI (I (sl + 2) ((v1 * (6 : Int32)) + v2).toNatClampNeg)]) (S' := (L, I, J, R)) (P := (((True ∧ R 0 1 = some (8, 0, sl)) ∧ R sl 6 = some (20, 36, sl + 2)) ∧ vp_in ((v1 * (6 : Int32)) + v2) 36)) [(.aload_n 0, (0, 0, 0, 0, 0)), (.getfield 19, (11, 1, 3, 0, 0)), (.getfield 167, (8, 6, 3, 0, 0)), (.iload_n 1, (0, 0, 0, 0, 0)), (.bipush 6, (0, 0, 0, 6, 0)), (.imul, (0, 0, 0, 0, 0)), (.iload_n 2, (0, 0, 0, 0, 0)), (.iadd, (0, 0, 0, 0, 0)), (.iaload, (0, 0, 0, 0, 0)), (.goto 4, (0, 39, 0, 0, 0))] [some (8, 0, sl), some (20, 36, sl + 2)] (by decide +kernel) rfl ⟨⟨⟨trivial, h01⟩, (sl_of hR hq).2.1⟩, (in_n (n := 36) (by decide) g4.1 g4.2)⟩ ?_
        cases hf
        exact b_iret (by decide +kernel) rfl hk
theorem C_WF_letter {G : MG} {L : List (Nat × Nat)} {R : Nat → Nat → Option MRef} (sl : Nat) (sd : Nat) (I : MI) (J : MJ) (v1 : Int32) (v2 : Int32) (hR : RF R) (h01 : R 0 1 = some (8, 0, sl)) (h02 : R 0 2 = some (8, 0, sd)) (hs : R 24 1 = some (8, 0, sl)) (hq : sl = 3 ∨ sl = 11) (hqd : sd = 3 ∨ sd = 11) {r : Int32} (hf : F_WF_letter sl sd I v1 v2 = some r) : m_met G 2 0 0 y_WF_letter M_WF_letter [mR (11, 0, 0), mI v1, mI v2] (L, I, J, R) (m_is (some (mI r)) (L, I, J, R)) :=
  m_met_in n_WF_letter (plainFor_of_name (by decide)) (by decide) (Nat.le_of_ble_eq_true rfl) (ls := [some (mR (11, 0, 0)), some (mI v1), some (mI v2)]) rfl (W_WF_letter sl sd I J v1 v2 hR h01 h02 hs hq hqd hf ⟨rfl, rfl⟩)
noncomputable def F_WF_place (sl : Nat) (sd : Nat) (I : MI) (v1 : Int32) (v2 : Int32) (v3 : Int32) : Option (Int32) :=
  if (f_Slope_hasPlace I sl v1 v2) = (0 : Int32) then (some ((-1) : Int32)) else (if v3 = 0 then (some ((l_owner I 20 v1 v2 6).1 : Int32)) else (if v3 = 1 then (if (f_Lay_hasPost I 20 v1 v2) = (0 : Int32) then (some (0 : Int32)) else (some (1 : Int32))) else (if v3 = 2 then (some (l_stakesAt I 20 v1 v2 6 : Int32)) else (some ((-1) : Int32)))))
set_option maxRecDepth 100000 in
set_option maxHeartbeats 400000 in
theorem W_WF_place {G : MG} {Q : Option MV → MS → Prop} {L : List (Nat × Nat)} {R : Nat → Nat → Option MRef} (sl : Nat) (sd : Nat) (I : MI) (J : MJ) (v1 : Int32) (v2 : Int32) (v3 : Int32) (hR : RF R) (h01 : R 0 1 = some (8, 0, sl)) (h02 : R 0 2 = some (8, 0, sd)) (hs : R 24 1 = some (8, 0, sl)) (hq : sl = 3 ∨ sl = 11) (hqd : sd = 3 ∨ sd = 11) {r : Int32} (hf : F_WF_place sl sd I v1 v2 v3 = some r) (hk : (fun r : Int32 => Q (some (mI r)) (L, I, J, R)) r) : m_B G (m_rm 4 0 0) M_WF_place Q 0 0 0 [some (mR (11, 0, 0)), some (mI v1), some (mI v2), some (mI v3)] [] (L, I, J, R) := by
  unfold F_WF_place at hf
  refine b_blk (pc' := 6) (ls' := [some (mR (11, 0, 0)), some (mI v1), some (mI v2), some (mI v3)]) (st' := [mI v2, mI v1, mR (8, 0, sl)]) (S' := (L, I, J, R)) (P := (True ∧ R 0 1 = some (8, 0, sl))) [(.aload_n 0, (0, 0, 0, 0, 0)), (.getfield 19, (11, 1, 3, 0, 0)), (.iload_n 1, (0, 0, 0, 0, 0)), (.iload_n 2, (0, 0, 0, 0, 0))] [some (8, 0, sl)] (by decide +kernel) rfl ⟨trivial, h01⟩ ?_
  refine b_cV (as := [mI v1, mI v2]) (st := []) (by decide +kernel) k_11_170 n_Slope_hasPlace rfl (by decide) v_Slope_hasPlace (c_Slope_hasPlace sl v1 v2 ) (Nat.le_of_ble_eq_true rfl) (by decide) rfl rfl (fun _ h => h) ?_
  show m_B _ _ _ _ _ _ 9 [some (mR (11, 0, 0)), some (mI v1), some (mI v2), some (mI v3)] [mI (f_Slope_hasPlace I sl v1 v2)] (L, I, J, R)
  refine b_if_ne (off := 5) (tgt := 14) (by decide +kernel) (by decide) (fun h1 => ?_) (fun h1 => ?_)
  · have hf := if_f h1 hf
    refine b_blk (pc' := 15) (ls' := [some (mR (11, 0, 0)), some (mI v1), some (mI v2), some (mI v3)]) (st' := [mI v3]) (S' := (L, I, J, R)) (P := True) [(.iload_n 3, (0, 0, 0, 0, 0))] [] (by decide +kernel) rfl trivial ?_
    by_cases h2 : v3 = 0
    · refine b_tswV (tgt := 40) (off := 25) (lo := 0) (hi := 2) (dflt := 63) (offs := #[25, 35, 53]) (len := 25) h2 (by decide +kernel) (by decide) (by decide) (by decide) (by decide) ?_
      have hf := if_t h2 hf
      refine b_blk (pc' := 46) (ls' := [some (mR (11, 0, 0)), some (mI v1), some (mI v2), some (mI v3)]) (st' := [mI v2, mI v1, mR (3, 0, 20)]) (S' := (L, I, J, R)) (P := (True ∧ R 0 4 = some (3, 0, 20))) [(.aload_n 0, (0, 0, 0, 0, 0)), (.getfield 38, (11, 4, 3, 0, 0)), (.iload_n 1, (0, 0, 0, 0, 0)), (.iload_n 2, (0, 0, 0, 0, 0))] [some (3, 0, 20)] (by decide +kernel) rfl ⟨trivial, (r_0_4 hR)⟩ ?_
      refine b_cV (as := [mI v1, mI v2]) (st := []) (by decide +kernel) k_11_174 n_Lay_ownerOf rfl (by decide) v_Lay_ownerOf (c_Lay_ownerOf 20 v1 v2 (ly_20 hR)) (Nat.le_of_ble_eq_true rfl) (by decide) rfl rfl (fun _ h => h) ?_
      show m_B _ _ _ _ _ _ 49 [some (mR (11, 0, 0)), some (mI v1), some (mI v2), some (mI v3)] [mI ((l_owner I 20 v1 v2 6).1)] (L, I, J, R)
      cases hf
      exact b_iret (by decide +kernel) rfl hk
    have hf := if_f h2 hf
    by_cases h3 : v3 = 1
    · refine b_tswV (tgt := 50) (off := 35) (lo := 0) (hi := 2) (dflt := 63) (offs := #[25, 35, 53]) (len := 25) h3 (by decide +kernel) (by decide) (by decide) (by decide) (by decide) ?_
      have hf := if_t h3 hf
      refine b_blk (pc' := 56) (ls' := [some (mR (11, 0, 0)), some (mI v1), some (mI v2), some (mI v3)]) (st' := [mI v2, mI v1, mR (3, 0, 20)]) (S' := (L, I, J, R)) (P := (True ∧ R 0 4 = some (3, 0, 20))) [(.aload_n 0, (0, 0, 0, 0, 0)), (.getfield 38, (11, 4, 3, 0, 0)), (.iload_n 1, (0, 0, 0, 0, 0)), (.iload_n 2, (0, 0, 0, 0, 0))] [some (3, 0, 20)] (by decide +kernel) rfl ⟨trivial, (r_0_4 hR)⟩ ?_
      refine b_cV (as := [mI v1, mI v2]) (st := []) (by decide +kernel) k_11_178 n_Lay_hasPost rfl (by decide) v_Lay_hasPost (c_Lay_hasPost 20 v1 v2 (ly_20 hR)) (Nat.le_of_ble_eq_true rfl) (by decide) rfl rfl (fun _ h => h) ?_
      show m_B _ _ _ _ _ _ 59 [some (mR (11, 0, 0)), some (mI v1), some (mI v2), some (mI v3)] [mI (f_Lay_hasPost I 20 v1 v2)] (L, I, J, R)
      refine b_if_eq (off := 7) (tgt := 66) (by decide +kernel) (by decide) (fun h4 => ?_) (fun h4 => ?_)
      · have hf := if_t h4 hf
        refine b_blk (pc' := 67) (ls' := [some (mR (11, 0, 0)), some (mI v1), some (mI v2), some (mI v3)]) (st' := [mI 0]) (S' := (L, I, J, R)) (P := True) [(.iconst 0, (0, 0, 0, 0, 0))] [] (by decide +kernel) rfl trivial ?_
        cases hf
        exact b_iret (by decide +kernel) rfl hk
      · have hf := if_f h4 hf
        refine b_blk (pc' := 67) (ls' := [some (mR (11, 0, 0)), some (mI v1), some (mI v2), some (mI v3)]) (st' := [mI 1]) (S' := (L, I, J, R)) (P := True) [(.iconst 1, (0, 0, 0, 1, 0)), (.goto 4, (0, 67, 0, 0, 0))] [] (by decide +kernel) rfl trivial ?_
        cases hf
        exact b_iret (by decide +kernel) rfl hk
    have hf := if_f h3 hf
    by_cases h5 : v3 = 2
    · refine b_tswV (tgt := 68) (off := 53) (lo := 0) (hi := 2) (dflt := 63) (offs := #[25, 35, 53]) (len := 25) h5 (by decide +kernel) (by decide) (by decide) (by decide) (by decide) ?_
      have hf := if_t h5 hf
      refine b_blk (pc' := 74) (ls' := [some (mR (11, 0, 0)), some (mI v1), some (mI v2), some (mI v3)]) (st' := [mI v2, mI v1, mR (3, 0, 20)]) (S' := (L, I, J, R)) (P := (True ∧ R 0 4 = some (3, 0, 20))) [(.aload_n 0, (0, 0, 0, 0, 0)), (.getfield 38, (11, 4, 3, 0, 0)), (.iload_n 1, (0, 0, 0, 0, 0)), (.iload_n 2, (0, 0, 0, 0, 0))] [some (3, 0, 20)] (by decide +kernel) rfl ⟨trivial, (r_0_4 hR)⟩ ?_
      refine b_cV (as := [mI v1, mI v2]) (st := []) (by decide +kernel) k_11_181 n_Lay_stakesAt rfl (by decide) v_Lay_stakesAt (c_Lay_stakesAt 20 v1 v2 (ly_20 hR)) (Nat.le_of_ble_eq_true rfl) (by decide) rfl rfl (fun _ h => h) ?_
      show m_B _ _ _ _ _ _ 77 [some (mR (11, 0, 0)), some (mI v1), some (mI v2), some (mI v3)] [mI (l_stakesAt I 20 v1 v2 6)] (L, I, J, R)
      cases hf
      exact b_iret (by decide +kernel) rfl hk
    have hf := if_f h5 hf
    refine b_tswD (tgt := 78) (lo := 0) (hi := 2) (dflt := 63) (offs := #[25, 35, 53]) (len := 25) (by decide +kernel) (by have q0 := lv_neT h2 (a := 0) (by decide); have q1 := lv_neT h3 (a := 1) (by decide); have q2 := lv_neT h5 (a := 2) (by decide); omega) (by decide) ?_
    refine b_blk (pc' := 79) (ls' := [some (mR (11, 0, 0)), some (mI v1), some (mI v2), some (mI v3)]) (st' := [mI (-1)]) (S' := (L, I, J, R)) (P := True) [(.iconst (-1), (0, 0, 0, (-1), 0))] [] (by decide +kernel) rfl trivial ?_
    cases hf
    exact b_iret (by decide +kernel) rfl hk
  · have hf := if_t h1 hf
    refine b_blk (pc' := 13) (ls' := [some (mR (11, 0, 0)), some (mI v1), some (mI v2), some (mI v3)]) (st' := [mI (-1)]) (S' := (L, I, J, R)) (P := True) [(.iconst (-1), (0, 0, 0, (-1), 0))] [] (by decide +kernel) rfl trivial ?_
    cases hf
    exact b_iret (by decide +kernel) rfl hk
theorem C_WF_place {G : MG} {L : List (Nat × Nat)} {R : Nat → Nat → Option MRef} (sl : Nat) (sd : Nat) (I : MI) (J : MJ) (v1 : Int32) (v2 : Int32) (v3 : Int32) (hR : RF R) (h01 : R 0 1 = some (8, 0, sl)) (h02 : R 0 2 = some (8, 0, sd)) (hs : R 24 1 = some (8, 0, sl)) (hq : sl = 3 ∨ sl = 11) (hqd : sd = 3 ∨ sd = 11) {r : Int32} (hf : F_WF_place sl sd I v1 v2 v3 = some r) : m_met G 4 0 0 y_WF_place M_WF_place [mR (11, 0, 0), mI v1, mI v2, mI v3] (L, I, J, R) (m_is (some (mI r)) (L, I, J, R)) :=
  m_met_in n_WF_place (plainFor_of_name (by decide)) (by decide) (Nat.le_of_ble_eq_true rfl) (ls := [some (mR (11, 0, 0)), some (mI v1), some (mI v2), some (mI v3)]) rfl (W_WF_place sl sd I J v1 v2 v3 hR h01 h02 hs hq hqd hf ⟨rfl, rfl⟩)
noncomputable def F_WF_fence (sl : Nat) (sd : Nat) (I : MI) (v1 : Int32) (v2 : Int32) : Option (Int32) :=
  if (f_Slope_hasFence I sl v1) = (0 : Int32) then (some ((-1) : Int32)) else (if v2 = 0 then (gd v1 6 <| some (I 21 v1.toNatClampNeg : Int32)) else (if v2 = 1 then (some (l_field I 20 v1 (I sl 2) 6 : Int32)) else (if v2 = 2 then (some (l_left I 20 v1 6 : Int32)) else (if v2 = 3 then (if (f_Lay_isCut I 20 v1) = (0 : Int32) then (some (0 : Int32)) else (some (1 : Int32))) else (some ((-1) : Int32))))))
set_option maxRecDepth 100000 in
set_option maxHeartbeats 400000 in
theorem W_WF_fence {G : MG} {Q : Option MV → MS → Prop} {L : List (Nat × Nat)} {R : Nat → Nat → Option MRef} (sl : Nat) (sd : Nat) (I : MI) (J : MJ) (v1 : Int32) (v2 : Int32) (hR : RF R) (h01 : R 0 1 = some (8, 0, sl)) (h02 : R 0 2 = some (8, 0, sd)) (hs : R 24 1 = some (8, 0, sl)) (hq : sl = 3 ∨ sl = 11) (hqd : sd = 3 ∨ sd = 11) {r : Int32} (hf : F_WF_fence sl sd I v1 v2 = some r) (hk : (fun r : Int32 => Q (some (mI r)) (L, I, J, R)) r) : m_B G (m_rm 5 0 0) M_WF_fence Q 0 0 0 [some (mR (11, 0, 0)), some (mI v1), some (mI v2)] [] (L, I, J, R) := by
  unfold F_WF_fence at hf
  refine b_blk (pc' := 5) (ls' := [some (mR (11, 0, 0)), some (mI v1), some (mI v2)]) (st' := [mI v1, mR (8, 0, sl)]) (S' := (L, I, J, R)) (P := (True ∧ R 0 1 = some (8, 0, sl))) [(.aload_n 0, (0, 0, 0, 0, 0)), (.getfield 19, (11, 1, 3, 0, 0)), (.iload_n 1, (0, 0, 0, 0, 0))] [some (8, 0, sl)] (by decide +kernel) rfl ⟨trivial, h01⟩ ?_
  refine b_cV (as := [mI v1]) (st := []) (by decide +kernel) k_11_163 n_Slope_hasFence rfl (by decide) v_Slope_hasFence (c_Slope_hasFence sl v1 ) (Nat.le_of_ble_eq_true rfl) (by decide) rfl rfl (fun _ h => h) ?_
  show m_B _ _ _ _ _ _ 8 [some (mR (11, 0, 0)), some (mI v1), some (mI v2)] [mI (f_Slope_hasFence I sl v1)] (L, I, J, R)
  refine b_if_ne (off := 5) (tgt := 13) (by decide +kernel) (by decide) (fun h1 => ?_) (fun h1 => ?_)
  · have hf := if_f h1 hf
    refine b_blk (pc' := 14) (ls' := [some (mR (11, 0, 0)), some (mI v1), some (mI v2)]) (st' := [mI v2]) (S' := (L, I, J, R)) (P := True) [(.iload_n 2, (0, 0, 0, 0, 0))] [] (by decide +kernel) rfl trivial ?_
    by_cases h2 : v2 = 0
    · refine b_tswV (tgt := 44) (off := 30) (lo := 0) (hi := 3) (dflt := 82) (offs := #[30, 40, 56, 65]) (len := 30) h2 (by decide +kernel) (by decide) (by decide) (by decide) (by decide) ?_
      have hf := if_t h2 hf
      obtain ⟨g3, hf⟩ := gd_s hf
      refine b_blk (pc' := 53) (ls' := [some (mR (11, 0, 0)), some (mI v1), some (mI v2)]) (st' := [mI (I 21 v1.toNatClampNeg)]) (S' := (L, I, J, R)) (P := (((True ∧ R 0 4 = some (3, 0, 20)) ∧ R 20 2 = some (20, 6, 21)) ∧ vp_in v1 6)) [(.aload_n 0, (0, 0, 0, 0, 0)), (.getfield 38, (11, 4, 3, 0, 0)), (.getfield 184, (3, 2, 3, 0, 0)), (.iload_n 1, (0, 0, 0, 0, 0)), (.iaload, (0, 0, 0, 0, 0))] [some (3, 0, 20), some (20, 6, 21)] (by decide +kernel) rfl ⟨⟨⟨trivial, (r_0_4 hR)⟩, (r_20_2 hR)⟩, (in_n (n := 6) (by decide) g3.1 g3.2)⟩ ?_
      cases hf
      exact b_iret (by decide +kernel) rfl hk
    have hf := if_f h2 hf
    by_cases h4 : v2 = 1
    · refine b_tswV (tgt := 54) (off := 40) (lo := 0) (hi := 3) (dflt := 82) (offs := #[30, 40, 56, 65]) (len := 30) h4 (by decide +kernel) (by decide) (by decide) (by decide) (by decide) ?_
      have hf := if_t h4 hf
      refine b_blk (pc' := 66) (ls' := [some (mR (11, 0, 0)), some (mI v1), some (mI v2)]) (st' := [mI (I sl 2), mI v1, mR (3, 0, 20)]) (S' := (L, I, J, R)) (P := ((True ∧ R 0 4 = some (3, 0, 20)) ∧ R 0 1 = some (8, 0, sl))) [(.aload_n 0, (0, 0, 0, 0, 0)), (.getfield 38, (11, 4, 3, 0, 0)), (.iload_n 1, (0, 0, 0, 0, 0)), (.aload_n 0, (0, 0, 0, 0, 0)), (.getfield 19, (11, 1, 3, 0, 0)), (.getfield 134, (8, 2, 0, 0, 0))] [some (3, 0, 20), some (8, 0, sl)] (by decide +kernel) rfl ⟨⟨trivial, (r_0_4 hR)⟩, h01⟩ ?_
      refine b_cV (as := [mI v1, mI (I sl 2)]) (st := []) (by decide +kernel) k_11_187 n_Lay_fieldOf rfl (by decide) v_Lay_fieldOf (c_Lay_fieldOf 20 v1 (I sl 2) (ly_20 hR)) (Nat.le_of_ble_eq_true rfl) (by decide) rfl rfl (fun _ h => h) ?_
      show m_B _ _ _ _ _ _ 69 [some (mR (11, 0, 0)), some (mI v1), some (mI v2)] [mI (l_field I 20 v1 (I sl 2) 6)] (L, I, J, R)
      cases hf
      exact b_iret (by decide +kernel) rfl hk
    have hf := if_f h4 hf
    by_cases h5 : v2 = 2
    · refine b_tswV (tgt := 70) (off := 56) (lo := 0) (hi := 3) (dflt := 82) (offs := #[30, 40, 56, 65]) (len := 30) h5 (by decide +kernel) (by decide) (by decide) (by decide) (by decide) ?_
      have hf := if_t h5 hf
      refine b_blk (pc' := 75) (ls' := [some (mR (11, 0, 0)), some (mI v1), some (mI v2)]) (st' := [mI v1, mR (3, 0, 20)]) (S' := (L, I, J, R)) (P := (True ∧ R 0 4 = some (3, 0, 20))) [(.aload_n 0, (0, 0, 0, 0, 0)), (.getfield 38, (11, 4, 3, 0, 0)), (.iload_n 1, (0, 0, 0, 0, 0))] [some (3, 0, 20)] (by decide +kernel) rfl ⟨trivial, (r_0_4 hR)⟩ ?_
      refine b_cV (as := [mI v1]) (st := []) (by decide +kernel) k_11_190 n_Lay_leftOf rfl (by decide) v_Lay_leftOf (c_Lay_leftOf 20 v1 (ly_20 hR)) (Nat.le_of_ble_eq_true rfl) (by decide) rfl rfl (fun _ h => h) ?_
      show m_B _ _ _ _ _ _ 78 [some (mR (11, 0, 0)), some (mI v1), some (mI v2)] [mI (l_left I 20 v1 6)] (L, I, J, R)
      cases hf
      exact b_iret (by decide +kernel) rfl hk
    have hf := if_f h5 hf
    by_cases h6 : v2 = 3
    · refine b_tswV (tgt := 79) (off := 65) (lo := 0) (hi := 3) (dflt := 82) (offs := #[30, 40, 56, 65]) (len := 30) h6 (by decide +kernel) (by decide) (by decide) (by decide) (by decide) ?_
      have hf := if_t h6 hf
      refine b_blk (pc' := 84) (ls' := [some (mR (11, 0, 0)), some (mI v1), some (mI v2)]) (st' := [mI v1, mR (3, 0, 20)]) (S' := (L, I, J, R)) (P := (True ∧ R 0 4 = some (3, 0, 20))) [(.aload_n 0, (0, 0, 0, 0, 0)), (.getfield 38, (11, 4, 3, 0, 0)), (.iload_n 1, (0, 0, 0, 0, 0))] [some (3, 0, 20)] (by decide +kernel) rfl ⟨trivial, (r_0_4 hR)⟩ ?_
      refine b_cV (as := [mI v1]) (st := []) (by decide +kernel) k_11_193 n_Lay_isCut rfl (by decide) v_Lay_isCut (c_Lay_isCut 20 v1 ) (Nat.le_of_ble_eq_true rfl) (by decide) rfl rfl (fun _ h => h) ?_
      show m_B _ _ _ _ _ _ 87 [some (mR (11, 0, 0)), some (mI v1), some (mI v2)] [mI (f_Lay_isCut I 20 v1)] (L, I, J, R)
      refine b_if_eq (off := 7) (tgt := 94) (by decide +kernel) (by decide) (fun h7 => ?_) (fun h7 => ?_)
      · have hf := if_t h7 hf
        refine b_blk (pc' := 95) (ls' := [some (mR (11, 0, 0)), some (mI v1), some (mI v2)]) (st' := [mI 0]) (S' := (L, I, J, R)) (P := True) [(.iconst 0, (0, 0, 0, 0, 0))] [] (by decide +kernel) rfl trivial ?_
        cases hf
        exact b_iret (by decide +kernel) rfl hk
      · have hf := if_f h7 hf
        refine b_blk (pc' := 95) (ls' := [some (mR (11, 0, 0)), some (mI v1), some (mI v2)]) (st' := [mI 1]) (S' := (L, I, J, R)) (P := True) [(.iconst 1, (0, 0, 0, 1, 0)), (.goto 4, (0, 95, 0, 0, 0))] [] (by decide +kernel) rfl trivial ?_
        cases hf
        exact b_iret (by decide +kernel) rfl hk
    have hf := if_f h6 hf
    refine b_tswD (tgt := 96) (lo := 0) (hi := 3) (dflt := 82) (offs := #[30, 40, 56, 65]) (len := 30) (by decide +kernel) (by have q0 := lv_neT h2 (a := 0) (by decide); have q1 := lv_neT h4 (a := 1) (by decide); have q2 := lv_neT h5 (a := 2) (by decide); have q3 := lv_neT h6 (a := 3) (by decide); omega) (by decide) ?_
    refine b_blk (pc' := 97) (ls' := [some (mR (11, 0, 0)), some (mI v1), some (mI v2)]) (st' := [mI (-1)]) (S' := (L, I, J, R)) (P := True) [(.iconst (-1), (0, 0, 0, (-1), 0))] [] (by decide +kernel) rfl trivial ?_
    cases hf
    exact b_iret (by decide +kernel) rfl hk
  · have hf := if_t h1 hf
    refine b_blk (pc' := 12) (ls' := [some (mR (11, 0, 0)), some (mI v1), some (mI v2)]) (st' := [mI (-1)]) (S' := (L, I, J, R)) (P := True) [(.iconst (-1), (0, 0, 0, (-1), 0))] [] (by decide +kernel) rfl trivial ?_
    cases hf
    exact b_iret (by decide +kernel) rfl hk
theorem C_WF_fence {G : MG} {L : List (Nat × Nat)} {R : Nat → Nat → Option MRef} (sl : Nat) (sd : Nat) (I : MI) (J : MJ) (v1 : Int32) (v2 : Int32) (hR : RF R) (h01 : R 0 1 = some (8, 0, sl)) (h02 : R 0 2 = some (8, 0, sd)) (hs : R 24 1 = some (8, 0, sl)) (hq : sl = 3 ∨ sl = 11) (hqd : sd = 3 ∨ sd = 11) {r : Int32} (hf : F_WF_fence sl sd I v1 v2 = some r) : m_met G 5 0 0 y_WF_fence M_WF_fence [mR (11, 0, 0), mI v1, mI v2] (L, I, J, R) (m_is (some (mI r)) (L, I, J, R)) :=
  m_met_in n_WF_fence (plainFor_of_name (by decide)) (by decide) (Nat.le_of_ble_eq_true rfl) (ls := [some (mR (11, 0, 0)), some (mI v1), some (mI v2)]) rfl (W_WF_fence sl sd I J v1 v2 hR h01 h02 hs hq hqd hf ⟨rfl, rfl⟩)
noncomputable def F_WF_stake (sl : Nat) (sd : Nat) (I : MI) (v1 : Int32) (v2 : Int32) : Option (Int32) :=
  if (v_rowOf I 20 v1 v2) = (-1 : Int32) then (some ((-1) : Int32)) else (some (v_rowOf I 20 v1 v2 : Int32))
set_option maxRecDepth 100000 in
set_option maxHeartbeats 400000 in
theorem W_WF_stake {G : MG} {Q : Option MV → MS → Prop} {L : List (Nat × Nat)} {R : Nat → Nat → Option MRef} (sl : Nat) (sd : Nat) (I : MI) (J : MJ) (v1 : Int32) (v2 : Int32) (hR : RF R) (h01 : R 0 1 = some (8, 0, sl)) (h02 : R 0 2 = some (8, 0, sd)) (hs : R 24 1 = some (8, 0, sl)) (hq : sl = 3 ∨ sl = 11) (hqd : sd = 3 ∨ sd = 11) {r : Int32} (hf : F_WF_stake sl sd I v1 v2 = some r) (hk : (fun r : Int32 => Q (some (mI r)) (L, I, J, R)) r) : m_B G (m_rm 3 0 0) M_WF_stake Q 0 0 0 [some (mR (11, 0, 0)), some (mI v1), some (mI v2), none] [] (L, I, J, R) := by
  unfold F_WF_stake at hf
  refine b_blk (pc' := 6) (ls' := [some (mR (11, 0, 0)), some (mI v1), some (mI v2), none]) (st' := [mI v2, mI v1, mR (3, 0, 20)]) (S' := (L, I, J, R)) (P := (True ∧ R 0 4 = some (3, 0, 20))) [(.aload_n 0, (0, 0, 0, 0, 0)), (.getfield 38, (11, 4, 3, 0, 0)), (.iload_n 1, (0, 0, 0, 0, 0)), (.iload_n 2, (0, 0, 0, 0, 0))] [some (3, 0, 20)] (by decide +kernel) rfl ⟨trivial, (r_0_4 hR)⟩ ?_
  refine b_cV (as := [mI v1, mI v2]) (st := []) (by decide +kernel) k_11_196 n_Lay_rowOf rfl (by decide) v_Lay_rowOf (c_Lay_rowOf 20 v1 v2 (ly_20 hR)) (Nat.le_of_ble_eq_true rfl) (by decide) rfl rfl (fun _ h => h) ?_
  show m_B _ _ _ _ _ _ 9 [some (mR (11, 0, 0)), some (mI v1), some (mI v2), none] [mI (v_rowOf I 20 v1 v2)] (L, I, J, R)
  refine b_blk (pc' := 12) (ls' := [some (mR (11, 0, 0)), some (mI v1), some (mI v2), some (mI (v_rowOf I 20 v1 v2))]) (st' := [mI (-1), mI (v_rowOf I 20 v1 v2)]) (S' := (L, I, J, R)) (P := True) [(.istore_n 3, (0, 0, 0, 0, 0)), (.iload_n 3, (0, 0, 0, 0, 0)), (.iconst (-1), (0, 0, 0, (-1), 0))] [] (by decide +kernel) rfl trivial ?_
  refine b_icmp_ne (off := 7) (tgt := 19) (by decide +kernel) (by decide) (fun h1 => ?_) (fun h1 => ?_)
  · have hf := if_f h1 hf
    refine b_blk (pc' := 20) (ls' := [some (mR (11, 0, 0)), some (mI v1), some (mI v2), some (mI (v_rowOf I 20 v1 v2))]) (st' := [mI (v_rowOf I 20 v1 v2)]) (S' := (L, I, J, R)) (P := True) [(.iload_n 3, (0, 0, 0, 0, 0))] [] (by decide +kernel) rfl trivial ?_
    cases hf
    exact b_iret (by decide +kernel) rfl hk
  · have hf := if_t h1 hf
    refine b_blk (pc' := 20) (ls' := [some (mR (11, 0, 0)), some (mI v1), some (mI v2), some (mI (v_rowOf I 20 v1 v2))]) (st' := [mI (-1)]) (S' := (L, I, J, R)) (P := True) [(.iconst (-1), (0, 0, 0, (-1), 0)), (.goto 4, (0, 20, 0, 0, 0))] [] (by decide +kernel) rfl trivial ?_
    cases hf
    exact b_iret (by decide +kernel) rfl hk
theorem C_WF_stake {G : MG} {L : List (Nat × Nat)} {R : Nat → Nat → Option MRef} (sl : Nat) (sd : Nat) (I : MI) (J : MJ) (v1 : Int32) (v2 : Int32) (hR : RF R) (h01 : R 0 1 = some (8, 0, sl)) (h02 : R 0 2 = some (8, 0, sd)) (hs : R 24 1 = some (8, 0, sl)) (hq : sl = 3 ∨ sl = 11) (hqd : sd = 3 ∨ sd = 11) {r : Int32} (hf : F_WF_stake sl sd I v1 v2 = some r) : m_met G 3 0 0 y_WF_stake M_WF_stake [mR (11, 0, 0), mI v1, mI v2] (L, I, J, R) (m_is (some (mI r)) (L, I, J, R)) :=
  m_met_in n_WF_stake (plainFor_of_name (by decide)) (by decide) (Nat.le_of_ble_eq_true rfl) (ls := [some (mR (11, 0, 0)), some (mI v1), some (mI v2), none]) rfl (W_WF_stake sl sd I J v1 v2 hR h01 h02 hs hq hqd hf ⟨rfl, rfl⟩)
noncomputable def F_WF_walks (sl : Nat) (sd : Nat) (I : MI) (v1 : Int32) (v2 : Int32) : Option (Int32 × MI) :=
  if (v_rowOf I 20 v1 v2) = (-1 : Int32) then (some (((-1) : Int32), I)) else (bnd (gI_Walker_paces (m_up (m_up I 27 6 (f_Lay_ageOf I 20 v1)) 27 11 ((m_up I 27 6 (f_Lay_ageOf I 20 v1)) 20 0)) sl v2 (v_rowOf I 20 v1 v2) : MI) fun x2 => some ((f_Walker_paces (m_up (m_up I 27 6 (f_Lay_ageOf I 20 v1)) 27 11 ((m_up I 27 6 (f_Lay_ageOf I 20 v1)) 20 0)) sl v2 (v_rowOf I 20 v1 v2) : Int32), x2))
set_option maxRecDepth 100000 in
set_option maxHeartbeats 400000 in
theorem W_WF_walks {G : MG} {Q : Option MV → MS → Prop} {L : List (Nat × Nat)} {R : Nat → Nat → Option MRef} (sl : Nat) (sd : Nat) (I : MI) (J : MJ) (v1 : Int32) (v2 : Int32) (hR : RF R) (h01 : R 0 1 = some (8, 0, sl)) (h02 : R 0 2 = some (8, 0, sd)) (hs : R 24 1 = some (8, 0, sl)) (hq : sl = 3 ∨ sl = 11) (hqd : sd = 3 ∨ sd = 11) {r : Int32 × MI} (hf : F_WF_walks sl sd I v1 v2 = some r) (hk : (fun r : Int32 × MI => Q (some (mI r.1)) (L, r.2, J, R)) r) : m_B G (m_rm 5 0 0) M_WF_walks Q 0 0 0 [some (mR (11, 0, 0)), some (mI v1), some (mI v2), none] [] (L, I, J, R) := by
  unfold F_WF_walks at hf
  refine b_blk (pc' := 6) (ls' := [some (mR (11, 0, 0)), some (mI v1), some (mI v2), none]) (st' := [mI v2, mI v1, mR (3, 0, 20)]) (S' := (L, I, J, R)) (P := (True ∧ R 0 4 = some (3, 0, 20))) [(.aload_n 0, (0, 0, 0, 0, 0)), (.getfield 38, (11, 4, 3, 0, 0)), (.iload_n 1, (0, 0, 0, 0, 0)), (.iload_n 2, (0, 0, 0, 0, 0))] [some (3, 0, 20)] (by decide +kernel) rfl ⟨trivial, (r_0_4 hR)⟩ ?_
  refine b_cV (as := [mI v1, mI v2]) (st := []) (by decide +kernel) k_11_196 n_Lay_rowOf rfl (by decide) v_Lay_rowOf (c_Lay_rowOf 20 v1 v2 (ly_20 hR)) (Nat.le_of_ble_eq_true rfl) (by decide) rfl rfl (fun _ h => h) ?_
  show m_B _ _ _ _ _ _ 9 [some (mR (11, 0, 0)), some (mI v1), some (mI v2), none] [mI (v_rowOf I 20 v1 v2)] (L, I, J, R)
  refine b_blk (pc' := 12) (ls' := [some (mR (11, 0, 0)), some (mI v1), some (mI v2), some (mI (v_rowOf I 20 v1 v2))]) (st' := [mI (-1), mI (v_rowOf I 20 v1 v2)]) (S' := (L, I, J, R)) (P := True) [(.istore_n 3, (0, 0, 0, 0, 0)), (.iload_n 3, (0, 0, 0, 0, 0)), (.iconst (-1), (0, 0, 0, (-1), 0))] [] (by decide +kernel) rfl trivial ?_
  refine b_icmp_ne (off := 5) (tgt := 17) (by decide +kernel) (by decide) (fun h1 => ?_) (fun h1 => ?_)
  · have hf := if_f h1 hf
    refine b_blk (pc' := 26) (ls' := [some (mR (11, 0, 0)), some (mI v1), some (mI v2), some (mI (v_rowOf I 20 v1 v2))]) (st' := [mI v1, mR (3, 0, 20), mR (10, 0, 24)]) (S' := (L, I, J, R)) (P := ((True ∧ R 0 5 = some (10, 0, 24)) ∧ R 0 4 = some (3, 0, 20))) [(.aload_n 0, (0, 0, 0, 0, 0)), (.getfield 47, (11, 5, 3, 0, 0)), (.aload_n 0, (0, 0, 0, 0, 0)), (.getfield 38, (11, 4, 3, 0, 0)), (.iload_n 1, (0, 0, 0, 0, 0))] [some (10, 0, 24), some (3, 0, 20)] (by decide +kernel) rfl ⟨⟨trivial, (r_0_5 hR)⟩, (r_0_4 hR)⟩ ?_
    refine b_cV (as := [mR (3, 0, 20), mI v1]) (st := []) (by decide +kernel) k_11_199 n_Walker_face rfl (by decide) v_Walker_face (c_Walker_face 20 v1 hR (ly_20 hR)) (Nat.le_of_ble_eq_true rfl) (by decide) rfl rfl (fun _ h => h) ?_
    show m_B _ _ _ _ _ _ 29 [some (mR (11, 0, 0)), some (mI v1), some (mI v2), some (mI (v_rowOf I 20 v1 v2))] [] (L, m_up (m_up I 27 6 (f_Lay_ageOf I 20 v1)) 27 11 ((m_up I 27 6 (f_Lay_ageOf I 20 v1)) 20 0), J, R)
    refine b_blk (pc' := 35) (ls' := [some (mR (11, 0, 0)), some (mI v1), some (mI v2), some (mI (v_rowOf I 20 v1 v2))]) (st' := [mI (v_rowOf I 20 v1 v2), mI v2, mR (10, 0, 24)]) (S' := (L, m_up (m_up I 27 6 (f_Lay_ageOf I 20 v1)) 27 11 ((m_up I 27 6 (f_Lay_ageOf I 20 v1)) 20 0), J, R)) (P := (True ∧ R 0 5 = some (10, 0, 24))) [(.aload_n 0, (0, 0, 0, 0, 0)), (.getfield 47, (11, 5, 3, 0, 0)), (.iload_n 2, (0, 0, 0, 0, 0)), (.iload_n 3, (0, 0, 0, 0, 0))] [some (10, 0, 24)] (by decide +kernel) rfl ⟨trivial, (r_0_5 hR)⟩ ?_
    refine b_cV (as := [mI v2, mI (v_rowOf I 20 v1 v2)]) (st := []) (by decide +kernel) k_11_203 n_Walker_paces rfl (by decide) v_Walker_paces (c_Walker_paces v2 (v_rowOf I 20 v1 v2) sl hR hs (sl_of hR hq)) (Nat.le_of_ble_eq_true rfl) (by decide) rfl rfl (fun _ h => h) ?_
    show m_B _ _ _ _ _ _ 38 [some (mR (11, 0, 0)), some (mI v1), some (mI v2), some (mI (v_rowOf I 20 v1 v2))] [mI (f_Walker_paces (m_up (m_up I 27 6 (f_Lay_ageOf I 20 v1)) 27 11 ((m_up I 27 6 (f_Lay_ageOf I 20 v1)) 20 0)) sl v2 (v_rowOf I 20 v1 v2))] (L, gI_Walker_paces (m_up (m_up I 27 6 (f_Lay_ageOf I 20 v1)) 27 11 ((m_up I 27 6 (f_Lay_ageOf I 20 v1)) 20 0)) sl v2 (v_rowOf I 20 v1 v2), J, R)
    obtain ⟨x2, ex2, hf⟩ := bnd_s hf
    refine m_B_cg (ls' := [some (mR (11, 0, 0)), some (mI v1), some (mI v2), some (mI (v_rowOf I 20 v1 v2))]) (st' := [mI (f_Walker_paces (m_up (m_up I 27 6 (f_Lay_ageOf I 20 v1)) 27 11 ((m_up I 27 6 (f_Lay_ageOf I 20 v1)) 20 0)) sl v2 (v_rowOf I 20 v1 v2))]) (S' := (L, x2, J, R)) (by first | with_reducible rfl | rw [ex2]) (by first | with_reducible rfl | rw [ex2]) (by first | with_reducible rfl | rw [ex2]) ?_
    cases hf
    exact b_iret (by decide +kernel) rfl hk
  · have hf := if_t h1 hf
    refine b_blk (pc' := 16) (ls' := [some (mR (11, 0, 0)), some (mI v1), some (mI v2), some (mI (v_rowOf I 20 v1 v2))]) (st' := [mI (-1)]) (S' := (L, I, J, R)) (P := True) [(.iconst (-1), (0, 0, 0, (-1), 0))] [] (by decide +kernel) rfl trivial ?_
    cases hf
    exact b_iret (by decide +kernel) rfl hk
theorem C_WF_walks {G : MG} {L : List (Nat × Nat)} {R : Nat → Nat → Option MRef} (sl : Nat) (sd : Nat) (I : MI) (J : MJ) (v1 : Int32) (v2 : Int32) (hR : RF R) (h01 : R 0 1 = some (8, 0, sl)) (h02 : R 0 2 = some (8, 0, sd)) (hs : R 24 1 = some (8, 0, sl)) (hq : sl = 3 ∨ sl = 11) (hqd : sd = 3 ∨ sd = 11) {r : Int32 × MI} (hf : F_WF_walks sl sd I v1 v2 = some r) : m_met G 5 0 0 y_WF_walks M_WF_walks [mR (11, 0, 0), mI v1, mI v2] (L, I, J, R) (m_is (some (mI r.1)) (L, r.2, J, R)) :=
  m_met_in n_WF_walks (plainFor_of_name (by decide)) (by decide) (Nat.le_of_ble_eq_true rfl) (ls := [some (mR (11, 0, 0)), some (mI v1), some (mI v2), none]) rfl (W_WF_walks sl sd I J v1 v2 hR h01 h02 hs hq hqd hf ⟨rfl, rfl⟩)
noncomputable def F_WF_kept (sl : Nat) (sd : Nat) (I : MI) (v1 : Int32) (v2 : Int32) : Option (Int32) :=
  some (f_Log_tell I 45 v1 v2 : Int32)
set_option maxRecDepth 100000 in
set_option maxHeartbeats 400000 in
theorem W_WF_kept {G : MG} {Q : Option MV → MS → Prop} {L : List (Nat × Nat)} {R : Nat → Nat → Option MRef} (sl : Nat) (sd : Nat) (I : MI) (J : MJ) (v1 : Int32) (v2 : Int32) (hR : RF R) (h01 : R 0 1 = some (8, 0, sl)) (h02 : R 0 2 = some (8, 0, sd)) (hs : R 24 1 = some (8, 0, sl)) (hq : sl = 3 ∨ sl = 11) (hqd : sd = 3 ∨ sd = 11) {r : Int32} (hf : F_WF_kept sl sd I v1 v2 = some r) (hk : (fun r : Int32 => Q (some (mI r)) (L, I, J, R)) r) : m_B G (m_rm 2 0 0) M_WF_kept Q 0 0 0 [some (mR (11, 0, 0)), some (mI v1), some (mI v2)] [] (L, I, J, R) := by
  unfold F_WF_kept at hf
  refine b_blk (pc' := 6) (ls' := [some (mR (11, 0, 0)), some (mI v1), some (mI v2)]) (st' := [mI v2, mI v1, mR (4, 0, 45)]) (S' := (L, I, J, R)) (P := (True ∧ R 0 7 = some (4, 0, 45))) [(.aload_n 0, (0, 0, 0, 0, 0)), (.getfield 63, (11, 7, 3, 0, 0)), (.iload_n 1, (0, 0, 0, 0, 0)), (.iload_n 2, (0, 0, 0, 0, 0))] [some (4, 0, 45)] (by decide +kernel) rfl ⟨trivial, (r_0_7 hR)⟩ ?_
  refine b_cV (as := [mI v1, mI v2]) (st := []) (by decide +kernel) k_11_206 n_Log_tell rfl (by decide) v_Log_tell (c_Log_tell 45 v1 v2 (lg_45 hR)) (Nat.le_of_ble_eq_true rfl) (by decide) rfl rfl (fun _ h => h) ?_
  show m_B _ _ _ _ _ _ 9 [some (mR (11, 0, 0)), some (mI v1), some (mI v2)] [mI (f_Log_tell I 45 v1 v2)] (L, I, J, R)
  cases hf
  exact b_iret (by decide +kernel) rfl hk
theorem C_WF_kept {G : MG} {L : List (Nat × Nat)} {R : Nat → Nat → Option MRef} (sl : Nat) (sd : Nat) (I : MI) (J : MJ) (v1 : Int32) (v2 : Int32) (hR : RF R) (h01 : R 0 1 = some (8, 0, sl)) (h02 : R 0 2 = some (8, 0, sd)) (hs : R 24 1 = some (8, 0, sl)) (hq : sl = 3 ∨ sl = 11) (hqd : sd = 3 ∨ sd = 11) {r : Int32} (hf : F_WF_kept sl sd I v1 v2 = some r) : m_met G 2 0 0 y_WF_kept M_WF_kept [mR (11, 0, 0), mI v1, mI v2] (L, I, J, R) (m_is (some (mI r)) (L, I, J, R)) :=
  m_met_in n_WF_kept (plainFor_of_name (by decide)) (by decide) (Nat.le_of_ble_eq_true rfl) (ls := [some (mR (11, 0, 0)), some (mI v1), some (mI v2)]) rfl (W_WF_kept sl sd I J v1 v2 hR h01 h02 hs hq hqd hf ⟨rfl, rfl⟩)
noncomputable def F_WF_later (sl : Nat) (sd : Nat) (I : MI) (v1 : Int32) (v2 : Int32) (v3 : Int32) : Option (Int32 × MI) :=
  if (f_Slope_hasFence I sl v1) = (0 : Int32) then (some (((-1) : Int32), I)) else (if v2 < (0 : Int32) then (some (((-1) : Int32), I)) else ((F_WF_yearsAtMost sl sd I (60 : Int32)).bind fun r3 => if v2 ≤ r3 then (if v3 = 0 then (some ((l_field (py_it (w_take I 31 20) 31 sl v2.toNatClampNeg) 31 v1 ((py_it (w_take I 31 20) 31 sl v2.toNatClampNeg) sl 2) 6 : Int32), (py_it (w_take I 31 20) 31 sl v2.toNatClampNeg))) else (if v3 = 1 then (some ((l_left (py_it (w_take I 31 20) 31 sl v2.toNatClampNeg) 31 v1 6 : Int32), (py_it (w_take I 31 20) 31 sl v2.toNatClampNeg))) else (if v3 = 2 then (gd v1 6 <| some (((py_it (w_take I 31 20) 31 sl v2.toNatClampNeg) 32 v1.toNatClampNeg : Int32), py_it (w_take I 31 20) 31 sl v2.toNatClampNeg)) else (some (((-1) : Int32), py_it (w_take I 31 20) 31 sl v2.toNatClampNeg))))) else (some (((-1) : Int32), I))))
set_option maxRecDepth 100000 in
set_option maxHeartbeats 400000 in
theorem W_WF_later {G : MG} {Q : Option MV → MS → Prop} {L : List (Nat × Nat)} {R : Nat → Nat → Option MRef} (sl : Nat) (sd : Nat) (I : MI) (J : MJ) (v1 : Int32) (v2 : Int32) (v3 : Int32) (hR : RF R) (h01 : R 0 1 = some (8, 0, sl)) (h02 : R 0 2 = some (8, 0, sd)) (hs : R 24 1 = some (8, 0, sl)) (hq : sl = 3 ∨ sl = 11) (hqd : sd = 3 ∨ sd = 11) {r : Int32 × MI} (hf : F_WF_later sl sd I v1 v2 v3 = some r) (hk : (fun r : Int32 × MI => Q (some (mI r.1)) (L, r.2, J, R)) r) : m_B G (m_rm 9 0 0) M_WF_later Q 0 0 0 [some (mR (11, 0, 0)), some (mI v1), some (mI v2), some (mI v3), none] [] (L, I, J, R) := by
  unfold F_WF_later at hf
  refine b_blk (pc' := 5) (ls' := [some (mR (11, 0, 0)), some (mI v1), some (mI v2), some (mI v3), none]) (st' := [mI v1, mR (8, 0, sl)]) (S' := (L, I, J, R)) (P := (True ∧ R 0 1 = some (8, 0, sl))) [(.aload_n 0, (0, 0, 0, 0, 0)), (.getfield 19, (11, 1, 3, 0, 0)), (.iload_n 1, (0, 0, 0, 0, 0))] [some (8, 0, sl)] (by decide +kernel) rfl ⟨trivial, h01⟩ ?_
  refine b_cV (as := [mI v1]) (st := []) (by decide +kernel) k_11_163 n_Slope_hasFence rfl (by decide) v_Slope_hasFence (c_Slope_hasFence sl v1 ) (Nat.le_of_ble_eq_true rfl) (by decide) rfl rfl (fun _ h => h) ?_
  show m_B _ _ _ _ _ _ 8 [some (mR (11, 0, 0)), some (mI v1), some (mI v2), some (mI v3), none] [mI (f_Slope_hasFence I sl v1)] (L, I, J, R)
  refine b_if_eq (off := 17) (tgt := 25) (by decide +kernel) (by decide) (fun h1 => ?_) (fun h1 => ?_)
  · have hf := if_t h1 hf
    refine b_blk (pc' := 26) (ls' := [some (mR (11, 0, 0)), some (mI v1), some (mI v2), some (mI v3), none]) (st' := [mI (-1)]) (S' := (L, I, J, R)) (P := True) [(.iconst (-1), (0, 0, 0, (-1), 0))] [] (by decide +kernel) rfl trivial ?_
    cases hf
    exact b_iret (by decide +kernel) rfl hk
  · have hf := if_f h1 hf
    refine b_blk (pc' := 12) (ls' := [some (mR (11, 0, 0)), some (mI v1), some (mI v2), some (mI v3), none]) (st' := [mI v2]) (S' := (L, I, J, R)) (P := True) [(.iload_n 2, (0, 0, 0, 0, 0))] [] (by decide +kernel) rfl trivial ?_
    refine b_if_lt (off := 13) (tgt := 25) (by decide +kernel) (by decide) (fun h2 => ?_) (fun h2 => ?_)
    · have hf := if_t h2 hf
      refine b_blk (pc' := 26) (ls' := [some (mR (11, 0, 0)), some (mI v1), some (mI v2), some (mI v3), none]) (st' := [mI (-1)]) (S' := (L, I, J, R)) (P := True) [(.iconst (-1), (0, 0, 0, (-1), 0))] [] (by decide +kernel) rfl trivial ?_
      cases hf
      exact b_iret (by decide +kernel) rfl hk
    · have hf := if_f h2 hf
      refine b_blk (pc' := 19) (ls' := [some (mR (11, 0, 0)), some (mI v1), some (mI v2), some (mI v3), none]) (st' := [mI 60, mR (11, 0, 0), mI v2]) (S' := (L, I, J, R)) (P := True) [(.iload_n 2, (0, 0, 0, 0, 0)), (.aload_n 0, (0, 0, 0, 0, 0)), (.bipush 60, (0, 0, 0, 60, 0))] [] (by decide +kernel) rfl trivial ?_
      obtain ⟨r3, hc3, hf⟩ := bnd_o hf
      refine b_cV (as := [mI 60]) (st := [mI v2]) (by decide +kernel) k_11_209 n_WF_yearsAtMost rfl (by decide) v_WF_yearsAtMost (C_WF_yearsAtMost sl sd I J (60 : Int32) hR h01 h02 hs hq hqd hc3) (Nat.le_of_ble_eq_true rfl) (by decide) rfl rfl (fun _ h => h) ?_
      show m_B G (m_rm 9 0 0) M_WF_later Q 0 0 22 [some (mR (11, 0, 0)), some (mI v1), some (mI v2), some (mI v3), none] [mI r3, mI v2] (L, I, J, R)
      refine b_icmp_le (off := 5) (tgt := 27) (by decide +kernel) (by decide) (fun h4 => ?_) (fun h4 => ?_)
      · have hf := if_t h4 hf
        refine b_blk (pc' := 32) (ls' := [some (mR (11, 0, 0)), some (mI v1), some (mI v2), some (mI v3), none]) (st' := [mI v2, mR (0, 0, 30)]) (S' := (L, I, J, R)) (P := (True ∧ R 0 6 = some (0, 0, 30))) [(.aload_n 0, (0, 0, 0, 0, 0)), (.getfield 56, (11, 6, 3, 0, 0)), (.iload_n 2, (0, 0, 0, 0, 0))] [some (0, 0, 30)] (by decide +kernel) rfl ⟨trivial, (r_0_6 hR)⟩ ?_
        refine b_cV (as := [mI v2]) (st := []) (by decide +kernel) k_11_212 n_Foresight_goAhead rfl (by decide) v_Foresight_goAhead (c_Foresight_goAhead v2 sl hR hs hq) (Nat.le_of_ble_eq_true rfl) (by decide) rfl rfl (fun _ h => h) ?_
        show m_B _ _ _ _ _ _ 35 [some (mR (11, 0, 0)), some (mI v1), some (mI v2), some (mI v3), none] [mR (3, 0, 31)] (L, py_it (w_take I 31 20) 31 sl v2.toNatClampNeg, J, R)
        refine b_blk (pc' := 38) (ls' := [some (mR (11, 0, 0)), some (mI v1), some (mI v2), some (mI v3), some (mR (3, 0, 31))]) (st' := [mI v3]) (S' := (L, py_it (w_take I 31 20) 31 sl v2.toNatClampNeg, J, R)) (P := True) [(.astore 4, (0, 0, 0, 0, 0)), (.iload_n 3, (0, 0, 0, 0, 0))] [] (by decide +kernel) rfl trivial ?_
        by_cases h5 : v3 = 0
        · refine b_tswV (tgt := 64) (off := 26) (lo := 0) (hi := 2) (dflt := 55) (offs := #[26, 40, 47]) (len := 26) h5 (by decide +kernel) (by decide) (by decide) (by decide) (by decide) ?_
          have hf := if_t h5 hf
          refine b_blk (pc' := 74) (ls' := [some (mR (11, 0, 0)), some (mI v1), some (mI v2), some (mI v3), some (mR (3, 0, 31))]) (st' := [mI ((py_it (w_take I 31 20) 31 sl v2.toNatClampNeg) sl 2), mI v1, mR (3, 0, 31)]) (S' := (L, py_it (w_take I 31 20) 31 sl v2.toNatClampNeg, J, R)) (P := (True ∧ R 0 1 = some (8, 0, sl))) [(.aload 4, (0, 0, 0, 0, 0)), (.iload_n 1, (0, 0, 0, 0, 0)), (.aload_n 0, (0, 0, 0, 0, 0)), (.getfield 19, (11, 1, 3, 0, 0)), (.getfield 134, (8, 2, 0, 0, 0))] [some (8, 0, sl)] (by decide +kernel) rfl ⟨trivial, h01⟩ ?_
          refine b_cV (as := [mI v1, mI ((py_it (w_take I 31 20) 31 sl v2.toNatClampNeg) sl 2)]) (st := []) (by decide +kernel) k_11_187 n_Lay_fieldOf rfl (by decide) v_Lay_fieldOf (c_Lay_fieldOf 31 v1 ((py_it (w_take I 31 20) 31 sl v2.toNatClampNeg) sl 2) (ly_31 hR)) (Nat.le_of_ble_eq_true rfl) (by decide) rfl rfl (fun _ h => h) ?_
          show m_B _ _ _ _ _ _ 77 [some (mR (11, 0, 0)), some (mI v1), some (mI v2), some (mI v3), some (mR (3, 0, 31))] [mI (l_field (py_it (w_take I 31 20) 31 sl v2.toNatClampNeg) 31 v1 ((py_it (w_take I 31 20) 31 sl v2.toNatClampNeg) sl 2) 6)] (L, (py_it (w_take I 31 20) 31 sl v2.toNatClampNeg), J, R)
          cases hf
          exact b_iret (by decide +kernel) rfl hk
        have hf := if_f h5 hf
        by_cases h6 : v3 = 1
        · refine b_tswV (tgt := 78) (off := 40) (lo := 0) (hi := 2) (dflt := 55) (offs := #[26, 40, 47]) (len := 26) h6 (by decide +kernel) (by decide) (by decide) (by decide) (by decide) ?_
          have hf := if_t h6 hf
          refine b_blk (pc' := 81) (ls' := [some (mR (11, 0, 0)), some (mI v1), some (mI v2), some (mI v3), some (mR (3, 0, 31))]) (st' := [mI v1, mR (3, 0, 31)]) (S' := (L, py_it (w_take I 31 20) 31 sl v2.toNatClampNeg, J, R)) (P := True) [(.aload 4, (0, 0, 0, 0, 0)), (.iload_n 1, (0, 0, 0, 0, 0))] [] (by decide +kernel) rfl trivial ?_
          refine b_cV (as := [mI v1]) (st := []) (by decide +kernel) k_11_190 n_Lay_leftOf rfl (by decide) v_Lay_leftOf (c_Lay_leftOf 31 v1 (ly_31 hR)) (Nat.le_of_ble_eq_true rfl) (by decide) rfl rfl (fun _ h => h) ?_
          show m_B _ _ _ _ _ _ 84 [some (mR (11, 0, 0)), some (mI v1), some (mI v2), some (mI v3), some (mR (3, 0, 31))] [mI (l_left (py_it (w_take I 31 20) 31 sl v2.toNatClampNeg) 31 v1 6)] (L, (py_it (w_take I 31 20) 31 sl v2.toNatClampNeg), J, R)
          cases hf
          exact b_iret (by decide +kernel) rfl hk
        have hf := if_f h6 hf
        by_cases h7 : v3 = 2
        · refine b_tswV (tgt := 85) (off := 47) (lo := 0) (hi := 2) (dflt := 55) (offs := #[26, 40, 47]) (len := 26) h7 (by decide +kernel) (by decide) (by decide) (by decide) (by decide) ?_
          have hf := if_t h7 hf
          obtain ⟨g8, hf⟩ := gd_s hf
          refine b_blk (pc' := 92) (ls' := [some (mR (11, 0, 0)), some (mI v1), some (mI v2), some (mI v3), some (mR (3, 0, 31))]) (st' := [mI ((py_it (w_take I 31 20) 31 sl v2.toNatClampNeg) 32 v1.toNatClampNeg)]) (S' := (L, py_it (w_take I 31 20) 31 sl v2.toNatClampNeg, J, R)) (P := ((True ∧ R 31 2 = some (20, 6, 32)) ∧ vp_in v1 6)) [(.aload 4, (0, 0, 0, 0, 0)), (.getfield 184, (3, 2, 3, 0, 0)), (.iload_n 1, (0, 0, 0, 0, 0)), (.iaload, (0, 0, 0, 0, 0))] [some (20, 6, 32)] (by decide +kernel) rfl ⟨⟨trivial, (r_31_2 hR)⟩, (in_n (n := 6) (by decide) g8.1 g8.2)⟩ ?_
          cases hf
          exact b_iret (by decide +kernel) rfl hk
        have hf := if_f h7 hf
        refine b_tswD (tgt := 93) (lo := 0) (hi := 2) (dflt := 55) (offs := #[26, 40, 47]) (len := 26) (by decide +kernel) (by have q0 := lv_neT h5 (a := 0) (by decide); have q1 := lv_neT h6 (a := 1) (by decide); have q2 := lv_neT h7 (a := 2) (by decide); omega) (by decide) ?_
        refine b_blk (pc' := 94) (ls' := [some (mR (11, 0, 0)), some (mI v1), some (mI v2), some (mI v3), some (mR (3, 0, 31))]) (st' := [mI (-1)]) (S' := (L, py_it (w_take I 31 20) 31 sl v2.toNatClampNeg, J, R)) (P := True) [(.iconst (-1), (0, 0, 0, (-1), 0))] [] (by decide +kernel) rfl trivial ?_
        cases hf
        exact b_iret (by decide +kernel) rfl hk
      · have hf := if_f h4 hf
        refine b_blk (pc' := 26) (ls' := [some (mR (11, 0, 0)), some (mI v1), some (mI v2), some (mI v3), none]) (st' := [mI (-1)]) (S' := (L, I, J, R)) (P := True) [(.iconst (-1), (0, 0, 0, (-1), 0))] [] (by decide +kernel) rfl trivial ?_
        cases hf
        exact b_iret (by decide +kernel) rfl hk
theorem C_WF_later {G : MG} {L : List (Nat × Nat)} {R : Nat → Nat → Option MRef} (sl : Nat) (sd : Nat) (I : MI) (J : MJ) (v1 : Int32) (v2 : Int32) (v3 : Int32) (hR : RF R) (h01 : R 0 1 = some (8, 0, sl)) (h02 : R 0 2 = some (8, 0, sd)) (hs : R 24 1 = some (8, 0, sl)) (hq : sl = 3 ∨ sl = 11) (hqd : sd = 3 ∨ sd = 11) {r : Int32 × MI} (hf : F_WF_later sl sd I v1 v2 v3 = some r) : m_met G 9 0 0 y_WF_later M_WF_later [mR (11, 0, 0), mI v1, mI v2, mI v3] (L, I, J, R) (m_is (some (mI r.1)) (L, r.2, J, R)) :=
  m_met_in n_WF_later (plainFor_of_name (by decide)) (by decide) (Nat.le_of_ble_eq_true rfl) (ls := [some (mR (11, 0, 0)), some (mI v1), some (mI v2), some (mI v3), none]) rfl (W_WF_later sl sd I J v1 v2 v3 hR h01 h02 hs hq hqd hf ⟨rfl, rfl⟩)
noncomputable def F_WF_whose (sl : Nat) (sd : Nat) (I : MI) (v1 : Int32) (v2 : Int32) (v3 : Int32) : Option (Int32 × MI) :=
  if (f_Slope_hasPlace I sl v1 v2) = (0 : Int32) then (some (((-1) : Int32), I)) else (if v3 < (0 : Int32) then (some (((-1) : Int32), I)) else ((F_WF_yearsAtMost sl sd I (60 : Int32)).bind fun r3 => if v3 ≤ r3 then (some (((l_owner (py_it (w_take I 31 20) 31 sl v3.toNatClampNeg) 31 v1 v2 6).1 : Int32), (py_it (w_take I 31 20) 31 sl v3.toNatClampNeg))) else (some (((-1) : Int32), I))))
set_option maxRecDepth 100000 in
set_option maxHeartbeats 400000 in
theorem W_WF_whose {G : MG} {Q : Option MV → MS → Prop} {L : List (Nat × Nat)} {R : Nat → Nat → Option MRef} (sl : Nat) (sd : Nat) (I : MI) (J : MJ) (v1 : Int32) (v2 : Int32) (v3 : Int32) (hR : RF R) (h01 : R 0 1 = some (8, 0, sl)) (h02 : R 0 2 = some (8, 0, sd)) (hs : R 24 1 = some (8, 0, sl)) (hq : sl = 3 ∨ sl = 11) (hqd : sd = 3 ∨ sd = 11) {r : Int32 × MI} (hf : F_WF_whose sl sd I v1 v2 v3 = some r) (hk : (fun r : Int32 × MI => Q (some (mI r.1)) (L, r.2, J, R)) r) : m_B G (m_rm 9 0 0) M_WF_whose Q 0 0 0 [some (mR (11, 0, 0)), some (mI v1), some (mI v2), some (mI v3)] [] (L, I, J, R) := by
  unfold F_WF_whose at hf
  refine b_blk (pc' := 6) (ls' := [some (mR (11, 0, 0)), some (mI v1), some (mI v2), some (mI v3)]) (st' := [mI v2, mI v1, mR (8, 0, sl)]) (S' := (L, I, J, R)) (P := (True ∧ R 0 1 = some (8, 0, sl))) [(.aload_n 0, (0, 0, 0, 0, 0)), (.getfield 19, (11, 1, 3, 0, 0)), (.iload_n 1, (0, 0, 0, 0, 0)), (.iload_n 2, (0, 0, 0, 0, 0))] [some (8, 0, sl)] (by decide +kernel) rfl ⟨trivial, h01⟩ ?_
  refine b_cV (as := [mI v1, mI v2]) (st := []) (by decide +kernel) k_11_170 n_Slope_hasPlace rfl (by decide) v_Slope_hasPlace (c_Slope_hasPlace sl v1 v2 ) (Nat.le_of_ble_eq_true rfl) (by decide) rfl rfl (fun _ h => h) ?_
  show m_B _ _ _ _ _ _ 9 [some (mR (11, 0, 0)), some (mI v1), some (mI v2), some (mI v3)] [mI (f_Slope_hasPlace I sl v1 v2)] (L, I, J, R)
  refine b_if_eq (off := 17) (tgt := 26) (by decide +kernel) (by decide) (fun h1 => ?_) (fun h1 => ?_)
  · have hf := if_t h1 hf
    refine b_blk (pc' := 27) (ls' := [some (mR (11, 0, 0)), some (mI v1), some (mI v2), some (mI v3)]) (st' := [mI (-1)]) (S' := (L, I, J, R)) (P := True) [(.iconst (-1), (0, 0, 0, (-1), 0))] [] (by decide +kernel) rfl trivial ?_
    cases hf
    exact b_iret (by decide +kernel) rfl hk
  · have hf := if_f h1 hf
    refine b_blk (pc' := 13) (ls' := [some (mR (11, 0, 0)), some (mI v1), some (mI v2), some (mI v3)]) (st' := [mI v3]) (S' := (L, I, J, R)) (P := True) [(.iload_n 3, (0, 0, 0, 0, 0))] [] (by decide +kernel) rfl trivial ?_
    refine b_if_lt (off := 13) (tgt := 26) (by decide +kernel) (by decide) (fun h2 => ?_) (fun h2 => ?_)
    · have hf := if_t h2 hf
      refine b_blk (pc' := 27) (ls' := [some (mR (11, 0, 0)), some (mI v1), some (mI v2), some (mI v3)]) (st' := [mI (-1)]) (S' := (L, I, J, R)) (P := True) [(.iconst (-1), (0, 0, 0, (-1), 0))] [] (by decide +kernel) rfl trivial ?_
      cases hf
      exact b_iret (by decide +kernel) rfl hk
    · have hf := if_f h2 hf
      refine b_blk (pc' := 20) (ls' := [some (mR (11, 0, 0)), some (mI v1), some (mI v2), some (mI v3)]) (st' := [mI 60, mR (11, 0, 0), mI v3]) (S' := (L, I, J, R)) (P := True) [(.iload_n 3, (0, 0, 0, 0, 0)), (.aload_n 0, (0, 0, 0, 0, 0)), (.bipush 60, (0, 0, 0, 60, 0))] [] (by decide +kernel) rfl trivial ?_
      obtain ⟨r3, hc3, hf⟩ := bnd_o hf
      refine b_cV (as := [mI 60]) (st := [mI v3]) (by decide +kernel) k_11_209 n_WF_yearsAtMost rfl (by decide) v_WF_yearsAtMost (C_WF_yearsAtMost sl sd I J (60 : Int32) hR h01 h02 hs hq hqd hc3) (Nat.le_of_ble_eq_true rfl) (by decide) rfl rfl (fun _ h => h) ?_
      show m_B G (m_rm 9 0 0) M_WF_whose Q 0 0 23 [some (mR (11, 0, 0)), some (mI v1), some (mI v2), some (mI v3)] [mI r3, mI v3] (L, I, J, R)
      refine b_icmp_le (off := 5) (tgt := 28) (by decide +kernel) (by decide) (fun h4 => ?_) (fun h4 => ?_)
      · have hf := if_t h4 hf
        refine b_blk (pc' := 33) (ls' := [some (mR (11, 0, 0)), some (mI v1), some (mI v2), some (mI v3)]) (st' := [mI v3, mR (0, 0, 30)]) (S' := (L, I, J, R)) (P := (True ∧ R 0 6 = some (0, 0, 30))) [(.aload_n 0, (0, 0, 0, 0, 0)), (.getfield 56, (11, 6, 3, 0, 0)), (.iload_n 3, (0, 0, 0, 0, 0))] [some (0, 0, 30)] (by decide +kernel) rfl ⟨trivial, (r_0_6 hR)⟩ ?_
        refine b_cV (as := [mI v3]) (st := []) (by decide +kernel) k_11_212 n_Foresight_goAhead rfl (by decide) v_Foresight_goAhead (c_Foresight_goAhead v3 sl hR hs hq) (Nat.le_of_ble_eq_true rfl) (by decide) rfl rfl (fun _ h => h) ?_
        show m_B _ _ _ _ _ _ 36 [some (mR (11, 0, 0)), some (mI v1), some (mI v2), some (mI v3)] [mR (3, 0, 31)] (L, py_it (w_take I 31 20) 31 sl v3.toNatClampNeg, J, R)
        refine b_blk (pc' := 38) (ls' := [some (mR (11, 0, 0)), some (mI v1), some (mI v2), some (mI v3)]) (st' := [mI v2, mI v1, mR (3, 0, 31)]) (S' := (L, py_it (w_take I 31 20) 31 sl v3.toNatClampNeg, J, R)) (P := True) [(.iload_n 1, (0, 0, 0, 0, 0)), (.iload_n 2, (0, 0, 0, 0, 0))] [] (by decide +kernel) rfl trivial ?_
        refine b_cV (as := [mI v1, mI v2]) (st := []) (by decide +kernel) k_11_174 n_Lay_ownerOf rfl (by decide) v_Lay_ownerOf (c_Lay_ownerOf 31 v1 v2 (ly_31 hR)) (Nat.le_of_ble_eq_true rfl) (by decide) rfl rfl (fun _ h => h) ?_
        show m_B _ _ _ _ _ _ 41 [some (mR (11, 0, 0)), some (mI v1), some (mI v2), some (mI v3)] [mI ((l_owner (py_it (w_take I 31 20) 31 sl v3.toNatClampNeg) 31 v1 v2 6).1)] (L, (py_it (w_take I 31 20) 31 sl v3.toNatClampNeg), J, R)
        cases hf
        exact b_iret (by decide +kernel) rfl hk
      · have hf := if_f h4 hf
        refine b_blk (pc' := 27) (ls' := [some (mR (11, 0, 0)), some (mI v1), some (mI v2), some (mI v3)]) (st' := [mI (-1)]) (S' := (L, I, J, R)) (P := True) [(.iconst (-1), (0, 0, 0, (-1), 0))] [] (by decide +kernel) rfl trivial ?_
        cases hf
        exact b_iret (by decide +kernel) rfl hk
theorem C_WF_whose {G : MG} {L : List (Nat × Nat)} {R : Nat → Nat → Option MRef} (sl : Nat) (sd : Nat) (I : MI) (J : MJ) (v1 : Int32) (v2 : Int32) (v3 : Int32) (hR : RF R) (h01 : R 0 1 = some (8, 0, sl)) (h02 : R 0 2 = some (8, 0, sd)) (hs : R 24 1 = some (8, 0, sl)) (hq : sl = 3 ∨ sl = 11) (hqd : sd = 3 ∨ sd = 11) {r : Int32 × MI} (hf : F_WF_whose sl sd I v1 v2 v3 = some r) : m_met G 9 0 0 y_WF_whose M_WF_whose [mR (11, 0, 0), mI v1, mI v2, mI v3] (L, I, J, R) (m_is (some (mI r.1)) (L, r.2, J, R)) :=
  m_met_in n_WF_whose (plainFor_of_name (by decide)) (by decide) (Nat.le_of_ble_eq_true rfl) (ls := [some (mR (11, 0, 0)), some (mI v1), some (mI v2), some (mI v3)]) rfl (W_WF_whose sl sd I J v1 v2 v3 hR h01 h02 hs hq hqd hf ⟨rfl, rfl⟩)
noncomputable def F_WF_meets (sl : Nat) (sd : Nat) (I : MI) (v1 : Int32) (v2 : Int32) : Option (Int32 × MI) :=
  (F_WF_areTwoFences sl sd I v1 v2).bind fun r1 => if r1 = (0 : Int32) then (some (((-1) : Int32), I)) else ((F_WF_yearsAtMost sl sd I (60 : Int32)).bind fun r3 => gq (r3 ≤ 60) <| some ((fm_v I sl v1 v2 r3 : Int32), fm_w I sl v1 v2 r3))
set_option maxRecDepth 100000 in
set_option maxHeartbeats 400000 in
theorem W_WF_meets {G : MG} {Q : Option MV → MS → Prop} {L : List (Nat × Nat)} {R : Nat → Nat → Option MRef} (sl : Nat) (sd : Nat) (I : MI) (J : MJ) (v1 : Int32) (v2 : Int32) (hR : RF R) (h01 : R 0 1 = some (8, 0, sl)) (h02 : R 0 2 = some (8, 0, sd)) (hs : R 24 1 = some (8, 0, sl)) (hq : sl = 3 ∨ sl = 11) (hqd : sd = 3 ∨ sd = 11) {r : Int32 × MI} (hf : F_WF_meets sl sd I v1 v2 = some r) (hk : (fun r : Int32 × MI => Q (some (mI r.1)) (L, r.2, J, R)) r) : m_B G (m_rm 8 0 0) M_WF_meets Q 0 0 0 [some (mR (11, 0, 0)), some (mI v1), some (mI v2)] [] (L, I, J, R) := by
  unfold F_WF_meets at hf
  refine b_blk (pc' := 3) (ls' := [some (mR (11, 0, 0)), some (mI v1), some (mI v2)]) (st' := [mI v2, mI v1, mR (11, 0, 0)]) (S' := (L, I, J, R)) (P := True) [(.aload_n 0, (0, 0, 0, 0, 0)), (.iload_n 1, (0, 0, 0, 0, 0)), (.iload_n 2, (0, 0, 0, 0, 0))] [] (by decide +kernel) rfl trivial ?_
  obtain ⟨r1, hc1, hf⟩ := bnd_o hf
  refine b_cV (as := [mI v1, mI v2]) (st := []) (by decide +kernel) k_11_216 n_WF_areTwoFences rfl (by decide) v_WF_areTwoFences (C_WF_areTwoFences sl sd I J v1 v2 hR h01 h02 hs hq hqd hc1) (Nat.le_of_ble_eq_true rfl) (by decide) rfl rfl (fun _ h => h) ?_
  show m_B G (m_rm 8 0 0) M_WF_meets Q 0 0 6 [some (mR (11, 0, 0)), some (mI v1), some (mI v2)] [mI r1] (L, I, J, R)
  refine b_if_ne (off := 5) (tgt := 11) (by decide +kernel) (by decide) (fun h2 => ?_) (fun h2 => ?_)
  · have hf := if_f h2 hf
    refine b_blk (pc' := 20) (ls' := [some (mR (11, 0, 0)), some (mI v1), some (mI v2)]) (st' := [mI 60, mR (11, 0, 0), mI v2, mI v1, mR (0, 0, 30)]) (S' := (L, I, J, R)) (P := (True ∧ R 0 6 = some (0, 0, 30))) [(.aload_n 0, (0, 0, 0, 0, 0)), (.getfield 56, (11, 6, 3, 0, 0)), (.iload_n 1, (0, 0, 0, 0, 0)), (.iload_n 2, (0, 0, 0, 0, 0)), (.aload_n 0, (0, 0, 0, 0, 0)), (.bipush 60, (0, 0, 0, 60, 0))] [some (0, 0, 30)] (by decide +kernel) rfl ⟨trivial, (r_0_6 hR)⟩ ?_
    obtain ⟨r3, hc3, hf⟩ := bnd_o hf
    refine b_cV (as := [mI 60]) (st := [mI v2, mI v1, mR (0, 0, 30)]) (by decide +kernel) k_11_209 n_WF_yearsAtMost rfl (by decide) v_WF_yearsAtMost (C_WF_yearsAtMost sl sd I J (60 : Int32) hR h01 h02 hs hq hqd hc3) (Nat.le_of_ble_eq_true rfl) (by decide) rfl rfl (fun _ h => h) ?_
    show m_B G (m_rm 8 0 0) M_WF_meets Q 0 0 23 [some (mR (11, 0, 0)), some (mI v1), some (mI v2)] [mI r3, mI v2, mI v1, mR (0, 0, 30)] (L, I, J, R)
    obtain ⟨g4, hf⟩ := gq_s hf
    refine b_cV (as := [mI v1, mI v2, mI r3]) (st := []) (by decide +kernel) k_11_219 n_Foresight_firstMeeting rfl (by decide) v_Foresight_firstMeeting (c_Foresight_firstMeeting v1 v2 r3 sl hR hs hq (by assumption)) (Nat.le_of_ble_eq_true rfl) (by decide) rfl rfl (fun _ h => h) ?_
    show m_B _ _ _ _ _ _ 26 [some (mR (11, 0, 0)), some (mI v1), some (mI v2)] [mI (fm_v I sl v1 v2 r3)] (L, fm_w I sl v1 v2 r3, J, R)
    cases hf
    exact b_iret (by decide +kernel) rfl hk
  · have hf := if_t h2 hf
    refine b_blk (pc' := 10) (ls' := [some (mR (11, 0, 0)), some (mI v1), some (mI v2)]) (st' := [mI (-1)]) (S' := (L, I, J, R)) (P := True) [(.iconst (-1), (0, 0, 0, (-1), 0))] [] (by decide +kernel) rfl trivial ?_
    cases hf
    exact b_iret (by decide +kernel) rfl hk
theorem C_WF_meets {G : MG} {L : List (Nat × Nat)} {R : Nat → Nat → Option MRef} (sl : Nat) (sd : Nat) (I : MI) (J : MJ) (v1 : Int32) (v2 : Int32) (hR : RF R) (h01 : R 0 1 = some (8, 0, sl)) (h02 : R 0 2 = some (8, 0, sd)) (hs : R 24 1 = some (8, 0, sl)) (hq : sl = 3 ∨ sl = 11) (hqd : sd = 3 ∨ sd = 11) {r : Int32 × MI} (hf : F_WF_meets sl sd I v1 v2 = some r) : m_met G 8 0 0 y_WF_meets M_WF_meets [mR (11, 0, 0), mI v1, mI v2] (L, I, J, R) (m_is (some (mI r.1)) (L, r.2, J, R)) :=
  m_met_in n_WF_meets (plainFor_of_name (by decide)) (by decide) (Nat.le_of_ble_eq_true rfl) (ls := [some (mR (11, 0, 0)), some (mI v1), some (mI v2)]) rfl (W_WF_meets sl sd I J v1 v2 hR h01 h02 hs hq hqd hf ⟨rfl, rfl⟩)
noncomputable def F_WF_below (sl : Nat) (sd : Nat) (I : MI) (v1 : Int32) (v2 : Int32) : Option (Int32) :=
  (F_WF_areTwoFences sl sd I v1 v2).bind fun r1 => if r1 = (0 : Int32) then (some ((-1) : Int32)) else (some (l_below I 20 v1 v2 6 : Int32))
set_option maxRecDepth 100000 in
set_option maxHeartbeats 400000 in
theorem W_WF_below {G : MG} {Q : Option MV → MS → Prop} {L : List (Nat × Nat)} {R : Nat → Nat → Option MRef} (sl : Nat) (sd : Nat) (I : MI) (J : MJ) (v1 : Int32) (v2 : Int32) (hR : RF R) (h01 : R 0 1 = some (8, 0, sl)) (h02 : R 0 2 = some (8, 0, sd)) (hs : R 24 1 = some (8, 0, sl)) (hq : sl = 3 ∨ sl = 11) (hqd : sd = 3 ∨ sd = 11) {r : Int32} (hf : F_WF_below sl sd I v1 v2 = some r) (hk : (fun r : Int32 => Q (some (mI r)) (L, I, J, R)) r) : m_B G (m_rm 4 0 0) M_WF_below Q 0 0 0 [some (mR (11, 0, 0)), some (mI v1), some (mI v2)] [] (L, I, J, R) := by
  unfold F_WF_below at hf
  refine b_blk (pc' := 3) (ls' := [some (mR (11, 0, 0)), some (mI v1), some (mI v2)]) (st' := [mI v2, mI v1, mR (11, 0, 0)]) (S' := (L, I, J, R)) (P := True) [(.aload_n 0, (0, 0, 0, 0, 0)), (.iload_n 1, (0, 0, 0, 0, 0)), (.iload_n 2, (0, 0, 0, 0, 0))] [] (by decide +kernel) rfl trivial ?_
  obtain ⟨r1, hc1, hf⟩ := bnd_o hf
  refine b_cV (as := [mI v1, mI v2]) (st := []) (by decide +kernel) k_11_216 n_WF_areTwoFences rfl (by decide) v_WF_areTwoFences (C_WF_areTwoFences sl sd I J v1 v2 hR h01 h02 hs hq hqd hc1) (Nat.le_of_ble_eq_true rfl) (by decide) rfl rfl (fun _ h => h) ?_
  show m_B G (m_rm 4 0 0) M_WF_below Q 0 0 6 [some (mR (11, 0, 0)), some (mI v1), some (mI v2)] [mI r1] (L, I, J, R)
  refine b_if_eq (off := 15) (tgt := 21) (by decide +kernel) (by decide) (fun h2 => ?_) (fun h2 => ?_)
  · have hf := if_t h2 hf
    refine b_blk (pc' := 22) (ls' := [some (mR (11, 0, 0)), some (mI v1), some (mI v2)]) (st' := [mI (-1)]) (S' := (L, I, J, R)) (P := True) [(.iconst (-1), (0, 0, 0, (-1), 0))] [] (by decide +kernel) rfl trivial ?_
    cases hf
    exact b_iret (by decide +kernel) rfl hk
  · have hf := if_f h2 hf
    refine b_blk (pc' := 15) (ls' := [some (mR (11, 0, 0)), some (mI v1), some (mI v2)]) (st' := [mI v2, mI v1, mR (3, 0, 20)]) (S' := (L, I, J, R)) (P := (True ∧ R 0 4 = some (3, 0, 20))) [(.aload_n 0, (0, 0, 0, 0, 0)), (.getfield 38, (11, 4, 3, 0, 0)), (.iload_n 1, (0, 0, 0, 0, 0)), (.iload_n 2, (0, 0, 0, 0, 0))] [some (3, 0, 20)] (by decide +kernel) rfl ⟨trivial, (r_0_4 hR)⟩ ?_
    refine b_cV (as := [mI v1, mI v2]) (st := []) (by decide +kernel) k_11_223 n_Lay_columnsBelow rfl (by decide) v_Lay_columnsBelow (c_Lay_columnsBelow 20 v1 v2 (ly_20 hR)) (Nat.le_of_ble_eq_true rfl) (by decide) rfl rfl (fun _ h => h) ?_
    show m_B _ _ _ _ _ _ 18 [some (mR (11, 0, 0)), some (mI v1), some (mI v2)] [mI (l_below I 20 v1 v2 6)] (L, I, J, R)
    refine b_blk (pc' := 22) (ls' := [some (mR (11, 0, 0)), some (mI v1), some (mI v2)]) (st' := [mI (l_below I 20 v1 v2 6)]) (S' := (L, I, J, R)) (P := True) [(.goto 4, (0, 22, 0, 0, 0))] [] (by decide +kernel) rfl trivial ?_
    cases hf
    exact b_iret (by decide +kernel) rfl hk
theorem C_WF_below {G : MG} {L : List (Nat × Nat)} {R : Nat → Nat → Option MRef} (sl : Nat) (sd : Nat) (I : MI) (J : MJ) (v1 : Int32) (v2 : Int32) (hR : RF R) (h01 : R 0 1 = some (8, 0, sl)) (h02 : R 0 2 = some (8, 0, sd)) (hs : R 24 1 = some (8, 0, sl)) (hq : sl = 3 ∨ sl = 11) (hqd : sd = 3 ∨ sd = 11) {r : Int32} (hf : F_WF_below sl sd I v1 v2 = some r) : m_met G 4 0 0 y_WF_below M_WF_below [mR (11, 0, 0), mI v1, mI v2] (L, I, J, R) (m_is (some (mI r)) (L, I, J, R)) :=
  m_met_in n_WF_below (plainFor_of_name (by decide)) (by decide) (Nat.le_of_ble_eq_true rfl) (ls := [some (mR (11, 0, 0)), some (mI v1), some (mI v2)]) rfl (W_WF_below sl sd I J v1 v2 hR h01 h02 hs hq hqd hf ⟨rfl, rfl⟩)
noncomputable def F_WF_sets_55 (sl : Nat) (sd : Nat) (I : MI) (v1 : Int32) (v2 : Int32) (v3 : Int32) (v4 : Int32) (v5 : Int32) (v6 : Int32) : Option ((Int32 × Int32 × Int32 × MI) ⊕ (Int32 × Int32 × MI)) :=
  if v2 ≤ v6 then (some (.inr ((v4 : Int32), (v5 : Int32), I))) else (if ((lf I sl v1 v6 v2.toNatClampNeg).1) ≤ v4 then (some (.inl ((v4 : Int32), (v5 : Int32), (v6 + 1 : Int32), (lf I sl v1 v6 v2.toNatClampNeg).2))) else (some (.inl (((lf I sl v1 v6 v2.toNatClampNeg).1 : Int32), (v6 : Int32), (v6 + 1 : Int32), (lf I sl v1 v6 v2.toNatClampNeg).2))))
set_option maxRecDepth 100000 in
set_option maxHeartbeats 400000 in
theorem W_WF_sets_55 {G : MG} {Q : Option MV → MS → Prop} {L : List (Nat × Nat)} {R : Nat → Nat → Option MRef} (sl : Nat) (sd : Nat) (I : MI) (J : MJ) (v1 : Int32) (v2 : Int32) (v3 : Int32) (v4 : Int32) (v5 : Int32) (v6 : Int32) (hR : RF R) (h01 : R 0 1 = some (8, 0, sl)) (h02 : R 0 2 = some (8, 0, sd)) (hs : R 24 1 = some (8, 0, sl)) (hq : sl = 3 ∨ sl = 11) (hqd : sd = 3 ∨ sd = 11) {r : (Int32 × Int32 × Int32 × MI) ⊕ (Int32 × Int32 × MI)} (hf : F_WF_sets_55 sl sd I v1 v2 v3 v4 v5 v6 = some r) (hk : (Sum.elim (fun s : Int32 × Int32 × Int32 × MI => m_B G (m_rm 8 0 0) M_WF_sets Q 0 0 55 [some (mR (11, 0, 0)), some (mI v1), some (mI v2), some (mI v3), some (mI s.1), some (mI s.2.1), some (mI s.2.2.1), none] [] (L, s.2.2.2, J, R)) (fun s : Int32 × Int32 × MI => m_B G (m_rm 8 0 0) M_WF_sets Q 0 0 95 [none, none, none, some (mI v3), some (mI s.1), some (mI s.2.1), none, none] [] (L, s.2.2, J, R))) r) : m_B G (m_rm 8 0 0) M_WF_sets Q 0 0 55 [some (mR (11, 0, 0)), some (mI v1), some (mI v2), some (mI v3), some (mI v4), some (mI v5), some (mI v6), none] [] (L, I, J, R) := by
  unfold F_WF_sets_55 at hf
  refine b_blk (pc' := 58) (ls' := [some (mR (11, 0, 0)), some (mI v1), some (mI v2), some (mI v3), some (mI v4), some (mI v5), some (mI v6), none]) (st' := [mI v2, mI v6]) (S' := (L, I, J, R)) (P := True) [(.iload 6, (0, 0, 0, 0, 0)), (.iload_n 2, (0, 0, 0, 0, 0))] [] (by decide +kernel) rfl trivial ?_
  refine b_icmp_ge (off := 37) (tgt := 95) (by decide +kernel) (by decide) (fun h1 => ?_) (fun h1 => ?_)
  · have hf := if_t h1 hf
    refine b_frg 0 ?_
    refine b_frg 1 ?_
    refine b_frg 2 ?_
    refine b_frg 6 ?_
    cases hf
    exact hk
  · have hf := if_f h1 hf
    refine b_blk (pc' := 69) (ls' := [some (mR (11, 0, 0)), some (mI v1), some (mI v2), some (mI v3), some (mI v4), some (mI v5), some (mI v6), none]) (st' := [mI v6, mI v2, mI v1, mR (0, 0, 30)]) (S' := (L, I, J, R)) (P := (True ∧ R 0 6 = some (0, 0, 30))) [(.aload_n 0, (0, 0, 0, 0, 0)), (.getfield 56, (11, 6, 3, 0, 0)), (.iload_n 1, (0, 0, 0, 0, 0)), (.iload_n 2, (0, 0, 0, 0, 0)), (.iload 6, (0, 0, 0, 0, 0))] [some (0, 0, 30)] (by decide +kernel) rfl ⟨trivial, (r_0_6 hR)⟩ ?_
    refine b_cV (as := [mI v1, mI v2, mI v6]) (st := []) (by decide +kernel) k_11_226 n_Foresight_leastField rfl (by decide) v_Foresight_leastField (c_Foresight_leastField v1 v2 v6 sl hR hs hq) (Nat.le_of_ble_eq_true rfl) (by decide) rfl rfl (fun _ h => h) ?_
    show m_B _ _ _ _ _ _ 72 [some (mR (11, 0, 0)), some (mI v1), some (mI v2), some (mI v3), some (mI v4), some (mI v5), some (mI v6), none] [mI ((lf I sl v1 v6 v2.toNatClampNeg).1)] (L, (lf I sl v1 v6 v2.toNatClampNeg).2, J, R)
    refine b_blk (pc' := 78) (ls' := [some (mR (11, 0, 0)), some (mI v1), some (mI v2), some (mI v3), some (mI v4), some (mI v5), some (mI v6), some (mI ((lf I sl v1 v6 v2.toNatClampNeg).1))]) (st' := [mI v4, mI ((lf I sl v1 v6 v2.toNatClampNeg).1)]) (S' := (L, (lf I sl v1 v6 v2.toNatClampNeg).2, J, R)) (P := True) [(.istore 7, (0, 0, 0, 0, 0)), (.iload 7, (0, 0, 0, 0, 0)), (.iload 4, (0, 0, 0, 0, 0))] [] (by decide +kernel) rfl trivial ?_
    refine b_icmp_le (off := 11) (tgt := 89) (by decide +kernel) (by decide) (fun h2 => ?_) (fun h2 => ?_)
    · have hf := if_t h2 hf
      refine b_blk (pc' := 55) (ls' := [some (mR (11, 0, 0)), some (mI v1), some (mI v2), some (mI v3), some (mI v4), some (mI v5), some (mI (v6 + 1)), some (mI ((lf I sl v1 v6 v2.toNatClampNeg).1))]) (st' := []) (S' := (L, (lf I sl v1 v6 v2.toNatClampNeg).2, J, R)) (P := True) [(.iinc 6 1, (0, 0, 0, 1, 0)), (.goto (-37), (0, 55, 0, 0, 0))] [] (by decide +kernel) rfl trivial ?_
      refine b_frg 7 ?_
      cases hf
      exact hk
    · have hf := if_f h2 hf
      refine b_blk (pc' := 55) (ls' := [some (mR (11, 0, 0)), some (mI v1), some (mI v2), some (mI v3), some (mI ((lf I sl v1 v6 v2.toNatClampNeg).1)), some (mI v6), some (mI (v6 + 1)), some (mI ((lf I sl v1 v6 v2.toNatClampNeg).1))]) (st' := []) (S' := (L, (lf I sl v1 v6 v2.toNatClampNeg).2, J, R)) (P := True) [(.iload 7, (0, 0, 0, 0, 0)), (.istore 4, (0, 0, 0, 0, 0)), (.iload 6, (0, 0, 0, 0, 0)), (.istore 5, (0, 0, 0, 0, 0)), (.iinc 6 1, (0, 0, 0, 1, 0)), (.goto (-37), (0, 55, 0, 0, 0))] [] (by decide +kernel) rfl trivial ?_
      refine b_frg 7 ?_
      cases hf
      exact hk
noncomputable def F_WF_sets (sl : Nat) (sd : Nat) (I : MI) (v1 : Int32) (v2 : Int32) (v3 : Int32) : Option (Int32 × MI) :=
  if (f_Slope_hasFence I sl v1) = (0 : Int32) then (some (((-1) : Int32), I)) else (if v2 < (1 : Int32) then (some (((-1) : Int32), I)) else ((F_WF_yearsAtMost sl sd I (30 : Int32)).bind fun r3 => if r3 < v2 then (some (((-1) : Int32), I)) else (if v3 < (0 : Int32) then (some (((-1) : Int32), I)) else (if v3 ≤ (1 : Int32) then ((wl (fun s : Int32 × Int32 × Int32 × MI => F_WF_sets_55 sl sd s.2.2.2 v1 v2 v3 s.1 s.2.1 s.2.2.1) (((lf I sl v1 (-1 : Int32) v2.toNatClampNeg).1 : Int32), ((-1) : Int32), (0 : Int32), (lf I sl v1 (-1 : Int32) v2.toNatClampNeg).2)).bind fun t7 => if v3 = (0 : Int32) then (some ((t7.2.1 : Int32), t7.2.2)) else (some ((t7.1 : Int32), t7.2.2))) else (some (((-1) : Int32), I))))))
set_option maxRecDepth 100000 in
set_option maxHeartbeats 400000 in
theorem W_WF_sets {G : MG} {Q : Option MV → MS → Prop} {L : List (Nat × Nat)} {R : Nat → Nat → Option MRef} (sl : Nat) (sd : Nat) (I : MI) (J : MJ) (v1 : Int32) (v2 : Int32) (v3 : Int32) (hR : RF R) (h01 : R 0 1 = some (8, 0, sl)) (h02 : R 0 2 = some (8, 0, sd)) (hs : R 24 1 = some (8, 0, sl)) (hq : sl = 3 ∨ sl = 11) (hqd : sd = 3 ∨ sd = 11) {r : Int32 × MI} (hf : F_WF_sets sl sd I v1 v2 v3 = some r) (hk : (fun r : Int32 × MI => Q (some (mI r.1)) (L, r.2, J, R)) r) : m_B G (m_rm 8 0 0) M_WF_sets Q 0 0 0 [some (mR (11, 0, 0)), some (mI v1), some (mI v2), some (mI v3), none, none, none, none] [] (L, I, J, R) := by
  unfold F_WF_sets at hf
  refine b_blk (pc' := 5) (ls' := [some (mR (11, 0, 0)), some (mI v1), some (mI v2), some (mI v3), none, none, none, none]) (st' := [mI v1, mR (8, 0, sl)]) (S' := (L, I, J, R)) (P := (True ∧ R 0 1 = some (8, 0, sl))) [(.aload_n 0, (0, 0, 0, 0, 0)), (.getfield 19, (11, 1, 3, 0, 0)), (.iload_n 1, (0, 0, 0, 0, 0))] [some (8, 0, sl)] (by decide +kernel) rfl ⟨trivial, h01⟩ ?_
  refine b_cV (as := [mI v1]) (st := []) (by decide +kernel) k_11_163 n_Slope_hasFence rfl (by decide) v_Slope_hasFence (c_Slope_hasFence sl v1 ) (Nat.le_of_ble_eq_true rfl) (by decide) rfl rfl (fun _ h => h) ?_
  show m_B _ _ _ _ _ _ 8 [some (mR (11, 0, 0)), some (mI v1), some (mI v2), some (mI v3), none, none, none, none] [mI (f_Slope_hasFence I sl v1)] (L, I, J, R)
  refine b_if_eq (off := 27) (tgt := 35) (by decide +kernel) (by decide) (fun h1 => ?_) (fun h1 => ?_)
  · have hf := if_t h1 hf
    refine b_blk (pc' := 36) (ls' := [some (mR (11, 0, 0)), some (mI v1), some (mI v2), some (mI v3), none, none, none, none]) (st' := [mI (-1)]) (S' := (L, I, J, R)) (P := True) [(.iconst (-1), (0, 0, 0, (-1), 0))] [] (by decide +kernel) rfl trivial ?_
    cases hf
    exact b_iret (by decide +kernel) rfl hk
  · have hf := if_f h1 hf
    refine b_blk (pc' := 13) (ls' := [some (mR (11, 0, 0)), some (mI v1), some (mI v2), some (mI v3), none, none, none, none]) (st' := [mI 1, mI v2]) (S' := (L, I, J, R)) (P := True) [(.iload_n 2, (0, 0, 0, 0, 0)), (.iconst 1, (0, 0, 0, 1, 0))] [] (by decide +kernel) rfl trivial ?_
    refine b_icmp_lt (off := 22) (tgt := 35) (by decide +kernel) (by decide) (fun h2 => ?_) (fun h2 => ?_)
    · have hf := if_t h2 hf
      refine b_blk (pc' := 36) (ls' := [some (mR (11, 0, 0)), some (mI v1), some (mI v2), some (mI v3), none, none, none, none]) (st' := [mI (-1)]) (S' := (L, I, J, R)) (P := True) [(.iconst (-1), (0, 0, 0, (-1), 0))] [] (by decide +kernel) rfl trivial ?_
      cases hf
      exact b_iret (by decide +kernel) rfl hk
    · have hf := if_f h2 hf
      refine b_blk (pc' := 20) (ls' := [some (mR (11, 0, 0)), some (mI v1), some (mI v2), some (mI v3), none, none, none, none]) (st' := [mI 30, mR (11, 0, 0), mI v2]) (S' := (L, I, J, R)) (P := True) [(.iload_n 2, (0, 0, 0, 0, 0)), (.aload_n 0, (0, 0, 0, 0, 0)), (.bipush 30, (0, 0, 0, 30, 0))] [] (by decide +kernel) rfl trivial ?_
      obtain ⟨r3, hc3, hf⟩ := bnd_o hf
      refine b_cV (as := [mI 30]) (st := [mI v2]) (by decide +kernel) k_11_209 n_WF_yearsAtMost rfl (by decide) v_WF_yearsAtMost (C_WF_yearsAtMost sl sd I J (30 : Int32) hR h01 h02 hs hq hqd hc3) (Nat.le_of_ble_eq_true rfl) (by decide) rfl rfl (fun _ h => h) ?_
      show m_B G (m_rm 8 0 0) M_WF_sets Q 0 0 23 [some (mR (11, 0, 0)), some (mI v1), some (mI v2), some (mI v3), none, none, none, none] [mI r3, mI v2] (L, I, J, R)
      refine b_icmp_gt (off := 12) (tgt := 35) (by decide +kernel) (by decide) (fun h4 => ?_) (fun h4 => ?_)
      · have hf := if_t h4 hf
        refine b_blk (pc' := 36) (ls' := [some (mR (11, 0, 0)), some (mI v1), some (mI v2), some (mI v3), none, none, none, none]) (st' := [mI (-1)]) (S' := (L, I, J, R)) (P := True) [(.iconst (-1), (0, 0, 0, (-1), 0))] [] (by decide +kernel) rfl trivial ?_
        cases hf
        exact b_iret (by decide +kernel) rfl hk
      · have hf := if_f h4 hf
        refine b_blk (pc' := 27) (ls' := [some (mR (11, 0, 0)), some (mI v1), some (mI v2), some (mI v3), none, none, none, none]) (st' := [mI v3]) (S' := (L, I, J, R)) (P := True) [(.iload_n 3, (0, 0, 0, 0, 0))] [] (by decide +kernel) rfl trivial ?_
        refine b_if_lt (off := 8) (tgt := 35) (by decide +kernel) (by decide) (fun h5 => ?_) (fun h5 => ?_)
        · have hf := if_t h5 hf
          refine b_blk (pc' := 36) (ls' := [some (mR (11, 0, 0)), some (mI v1), some (mI v2), some (mI v3), none, none, none, none]) (st' := [mI (-1)]) (S' := (L, I, J, R)) (P := True) [(.iconst (-1), (0, 0, 0, (-1), 0))] [] (by decide +kernel) rfl trivial ?_
          cases hf
          exact b_iret (by decide +kernel) rfl hk
        · have hf := if_f h5 hf
          refine b_blk (pc' := 32) (ls' := [some (mR (11, 0, 0)), some (mI v1), some (mI v2), some (mI v3), none, none, none, none]) (st' := [mI 1, mI v3]) (S' := (L, I, J, R)) (P := True) [(.iload_n 3, (0, 0, 0, 0, 0)), (.iconst 1, (0, 0, 0, 1, 0))] [] (by decide +kernel) rfl trivial ?_
          refine b_icmp_le (off := 5) (tgt := 37) (by decide +kernel) (by decide) (fun h6 => ?_) (fun h6 => ?_)
          · have hf := if_t h6 hf
            refine b_blk (pc' := 44) (ls' := [some (mR (11, 0, 0)), some (mI v1), some (mI v2), some (mI v3), none, none, none, none]) (st' := [mI (-1), mI v2, mI v1, mR (0, 0, 30)]) (S' := (L, I, J, R)) (P := (True ∧ R 0 6 = some (0, 0, 30))) [(.aload_n 0, (0, 0, 0, 0, 0)), (.getfield 56, (11, 6, 3, 0, 0)), (.iload_n 1, (0, 0, 0, 0, 0)), (.iload_n 2, (0, 0, 0, 0, 0)), (.iconst (-1), (0, 0, 0, (-1), 0))] [some (0, 0, 30)] (by decide +kernel) rfl ⟨trivial, (r_0_6 hR)⟩ ?_
            refine b_cV (as := [mI v1, mI v2, mI (-1)]) (st := []) (by decide +kernel) k_11_226 n_Foresight_leastField rfl (by decide) v_Foresight_leastField (c_Foresight_leastField v1 v2 (-1 : Int32) sl hR hs hq) (Nat.le_of_ble_eq_true rfl) (by decide) rfl rfl (fun _ h => h) ?_
            show m_B _ _ _ _ _ _ 47 [some (mR (11, 0, 0)), some (mI v1), some (mI v2), some (mI v3), none, none, none, none] [mI ((lf I sl v1 (-1 : Int32) v2.toNatClampNeg).1)] (L, (lf I sl v1 (-1 : Int32) v2.toNatClampNeg).2, J, R)
            refine b_blk (pc' := 55) (ls' := [some (mR (11, 0, 0)), some (mI v1), some (mI v2), some (mI v3), some (mI ((lf I sl v1 (-1 : Int32) v2.toNatClampNeg).1)), some (mI (-1)), some (mI 0), none]) (st' := []) (S' := (L, (lf I sl v1 (-1 : Int32) v2.toNatClampNeg).2, J, R)) (P := True) [(.istore 4, (0, 0, 0, 0, 0)), (.iconst (-1), (0, 0, 0, (-1), 0)), (.istore 5, (0, 0, 0, 0, 0)), (.iconst 0, (0, 0, 0, 0, 0)), (.istore 6, (0, 0, 0, 0, 0))] [] (by decide +kernel) rfl trivial ?_
            obtain ⟨t7, hw, hf⟩ := bnd_o hf
            refine wl_B (A := fun s : Int32 × Int32 × Int32 × MI => m_B G (m_rm 8 0 0) M_WF_sets Q 0 0 55 [some (mR (11, 0, 0)), some (mI v1), some (mI v2), some (mI v3), some (mI s.1), some (mI s.2.1), some (mI s.2.2.1), none] [] (L, s.2.2.2, J, R)) (B := (fun s : Int32 × Int32 × MI => m_B G (m_rm 8 0 0) M_WF_sets Q 0 0 95 [none, none, none, some (mI v3), some (mI s.1), some (mI s.2.1), none, none] [] (L, s.2.2, J, R))) (fun s r hs_ hr => W_WF_sets_55 sl sd s.2.2.2 J v1 v2 v3 s.1 s.2.1 s.2.2.1 hR h01 h02 hs hq hqd hs_ hr) hw ?_
            show m_B G (m_rm 8 0 0) M_WF_sets Q 0 0 95 [none, none, none, some (mI v3), some (mI t7.1), some (mI t7.2.1), none, none] [] (L, t7.2.2, J, R)
            refine b_blk (pc' := 96) (ls' := [none, none, none, some (mI v3), some (mI t7.1), some (mI t7.2.1), none, none]) (st' := [mI v3]) (S' := (L, t7.2.2, J, R)) (P := True) [(.iload_n 3, (0, 0, 0, 0, 0))] [] (by decide +kernel) rfl trivial ?_
            refine b_if_ne (off := 8) (tgt := 104) (by decide +kernel) (by decide) (fun h8 => ?_) (fun h8 => ?_)
            · have hf := if_f h8 hf
              refine b_blk (pc' := 106) (ls' := [none, none, none, some (mI v3), some (mI t7.1), some (mI t7.2.1), none, none]) (st' := [mI t7.1]) (S' := (L, t7.2.2, J, R)) (P := True) [(.iload 4, (0, 0, 0, 0, 0))] [] (by decide +kernel) rfl trivial ?_
              cases hf
              exact b_iret (by decide +kernel) rfl hk
            · have hf := if_t h8 hf
              refine b_blk (pc' := 106) (ls' := [none, none, none, some (mI v3), some (mI t7.1), some (mI t7.2.1), none, none]) (st' := [mI t7.2.1]) (S' := (L, t7.2.2, J, R)) (P := True) [(.iload 5, (0, 0, 0, 0, 0)), (.goto 5, (0, 106, 0, 0, 0))] [] (by decide +kernel) rfl trivial ?_
              cases hf
              exact b_iret (by decide +kernel) rfl hk
          · have hf := if_f h6 hf
            refine b_blk (pc' := 36) (ls' := [some (mR (11, 0, 0)), some (mI v1), some (mI v2), some (mI v3), none, none, none, none]) (st' := [mI (-1)]) (S' := (L, I, J, R)) (P := True) [(.iconst (-1), (0, 0, 0, (-1), 0))] [] (by decide +kernel) rfl trivial ?_
            cases hf
            exact b_iret (by decide +kernel) rfl hk
theorem C_WF_sets {G : MG} {L : List (Nat × Nat)} {R : Nat → Nat → Option MRef} (sl : Nat) (sd : Nat) (I : MI) (J : MJ) (v1 : Int32) (v2 : Int32) (v3 : Int32) (hR : RF R) (h01 : R 0 1 = some (8, 0, sl)) (h02 : R 0 2 = some (8, 0, sd)) (hs : R 24 1 = some (8, 0, sl)) (hq : sl = 3 ∨ sl = 11) (hqd : sd = 3 ∨ sd = 11) {r : Int32 × MI} (hf : F_WF_sets sl sd I v1 v2 v3 = some r) : m_met G 8 0 0 y_WF_sets M_WF_sets [mR (11, 0, 0), mI v1, mI v2, mI v3] (L, I, J, R) (m_is (some (mI r.1)) (L, r.2, J, R)) :=
  m_met_in n_WF_sets (plainFor_of_name (by decide)) (by decide) (Nat.le_of_ble_eq_true rfl) (ls := [some (mR (11, 0, 0)), some (mI v1), some (mI v2), some (mI v3), none, none, none, none]) rfl (W_WF_sets sl sd I J v1 v2 v3 hR h01 h02 hs hq hqd hf ⟨rfl, rfl⟩)
noncomputable def F_WF_irons (sl : Nat) (sd : Nat) (I : MI) (v1 : Int32) (v2 : Int32) (v3 : Int32) : Option (Int32 × MI) :=
  if (f_Slope_hasFence I sl v1) = (0 : Int32) then (some (((-1) : Int32), I)) else (if v2 < (1 : Int32) then (some (((-1) : Int32), I)) else ((F_WF_yearsAtMost sl sd I (20 : Int32)).bind fun r3 => if r3 < v2 then (some (((-1) : Int32), I)) else (if (l_posts I 20 6) < (24 : Int32) then (if v3 = 0 then (some (((fi_w I sl v1 v2) 30 9 : Int32), fi_w I sl v1 v2)) else (if v3 = 1 then (some (((fi_w I sl v1 v2) 30 10 : Int32), fi_w I sl v1 v2)) else (if v3 = 2 then (if ((fi_w I sl v1 v2) 30 9) = (-1 : Int32) then (some (((-1) : Int32), fi_w I sl v1 v2)) else (some (((fi_w I sl v1 v2) 30 11 : Int32), fi_w I sl v1 v2))) else (some (((-1) : Int32), fi_w I sl v1 v2))))) else (some (((-1) : Int32), I)))))
set_option maxRecDepth 100000 in
set_option maxHeartbeats 400000 in
theorem W_WF_irons {G : MG} {Q : Option MV → MS → Prop} {L : List (Nat × Nat)} {R : Nat → Nat → Option MRef} (sl : Nat) (sd : Nat) (I : MI) (J : MJ) (v1 : Int32) (v2 : Int32) (v3 : Int32) (hR : RF R) (h01 : R 0 1 = some (8, 0, sl)) (h02 : R 0 2 = some (8, 0, sd)) (hs : R 24 1 = some (8, 0, sl)) (hq : sl = 3 ∨ sl = 11) (hqd : sd = 3 ∨ sd = 11) {r : Int32 × MI} (hf : F_WF_irons sl sd I v1 v2 v3 = some r) (hk : (fun r : Int32 × MI => Q (some (mI r.1)) (L, r.2, J, R)) r) : m_B G (m_rm 9 0 0) M_WF_irons Q 0 0 0 [some (mR (11, 0, 0)), some (mI v1), some (mI v2), some (mI v3)] [] (L, I, J, R) := by
  unfold F_WF_irons at hf
  refine b_blk (pc' := 5) (ls' := [some (mR (11, 0, 0)), some (mI v1), some (mI v2), some (mI v3)]) (st' := [mI v1, mR (8, 0, sl)]) (S' := (L, I, J, R)) (P := (True ∧ R 0 1 = some (8, 0, sl))) [(.aload_n 0, (0, 0, 0, 0, 0)), (.getfield 19, (11, 1, 3, 0, 0)), (.iload_n 1, (0, 0, 0, 0, 0))] [some (8, 0, sl)] (by decide +kernel) rfl ⟨trivial, h01⟩ ?_
  refine b_cV (as := [mI v1]) (st := []) (by decide +kernel) k_11_163 n_Slope_hasFence rfl (by decide) v_Slope_hasFence (c_Slope_hasFence sl v1 ) (Nat.le_of_ble_eq_true rfl) (by decide) rfl rfl (fun _ h => h) ?_
  show m_B _ _ _ _ _ _ 8 [some (mR (11, 0, 0)), some (mI v1), some (mI v2), some (mI v3)] [mI (f_Slope_hasFence I sl v1)] (L, I, J, R)
  refine b_if_eq (off := 30) (tgt := 38) (by decide +kernel) (by decide) (fun h1 => ?_) (fun h1 => ?_)
  · have hf := if_t h1 hf
    refine b_blk (pc' := 39) (ls' := [some (mR (11, 0, 0)), some (mI v1), some (mI v2), some (mI v3)]) (st' := [mI (-1)]) (S' := (L, I, J, R)) (P := True) [(.iconst (-1), (0, 0, 0, (-1), 0))] [] (by decide +kernel) rfl trivial ?_
    cases hf
    exact b_iret (by decide +kernel) rfl hk
  · have hf := if_f h1 hf
    refine b_blk (pc' := 13) (ls' := [some (mR (11, 0, 0)), some (mI v1), some (mI v2), some (mI v3)]) (st' := [mI 1, mI v2]) (S' := (L, I, J, R)) (P := True) [(.iload_n 2, (0, 0, 0, 0, 0)), (.iconst 1, (0, 0, 0, 1, 0))] [] (by decide +kernel) rfl trivial ?_
    refine b_icmp_lt (off := 25) (tgt := 38) (by decide +kernel) (by decide) (fun h2 => ?_) (fun h2 => ?_)
    · have hf := if_t h2 hf
      refine b_blk (pc' := 39) (ls' := [some (mR (11, 0, 0)), some (mI v1), some (mI v2), some (mI v3)]) (st' := [mI (-1)]) (S' := (L, I, J, R)) (P := True) [(.iconst (-1), (0, 0, 0, (-1), 0))] [] (by decide +kernel) rfl trivial ?_
      cases hf
      exact b_iret (by decide +kernel) rfl hk
    · have hf := if_f h2 hf
      refine b_blk (pc' := 20) (ls' := [some (mR (11, 0, 0)), some (mI v1), some (mI v2), some (mI v3)]) (st' := [mI 20, mR (11, 0, 0), mI v2]) (S' := (L, I, J, R)) (P := True) [(.iload_n 2, (0, 0, 0, 0, 0)), (.aload_n 0, (0, 0, 0, 0, 0)), (.bipush 20, (0, 0, 0, 20, 0))] [] (by decide +kernel) rfl trivial ?_
      obtain ⟨r3, hc3, hf⟩ := bnd_o hf
      refine b_cV (as := [mI 20]) (st := [mI v2]) (by decide +kernel) k_11_209 n_WF_yearsAtMost rfl (by decide) v_WF_yearsAtMost (C_WF_yearsAtMost sl sd I J (20 : Int32) hR h01 h02 hs hq hqd hc3) (Nat.le_of_ble_eq_true rfl) (by decide) rfl rfl (fun _ h => h) ?_
      show m_B G (m_rm 9 0 0) M_WF_irons Q 0 0 23 [some (mR (11, 0, 0)), some (mI v1), some (mI v2), some (mI v3)] [mI r3, mI v2] (L, I, J, R)
      refine b_icmp_gt (off := 15) (tgt := 38) (by decide +kernel) (by decide) (fun h4 => ?_) (fun h4 => ?_)
      · have hf := if_t h4 hf
        refine b_blk (pc' := 39) (ls' := [some (mR (11, 0, 0)), some (mI v1), some (mI v2), some (mI v3)]) (st' := [mI (-1)]) (S' := (L, I, J, R)) (P := True) [(.iconst (-1), (0, 0, 0, (-1), 0))] [] (by decide +kernel) rfl trivial ?_
        cases hf
        exact b_iret (by decide +kernel) rfl hk
      · have hf := if_f h4 hf
        refine b_blk (pc' := 30) (ls' := [some (mR (11, 0, 0)), some (mI v1), some (mI v2), some (mI v3)]) (st' := [mR (3, 0, 20)]) (S' := (L, I, J, R)) (P := (True ∧ R 0 4 = some (3, 0, 20))) [(.aload_n 0, (0, 0, 0, 0, 0)), (.getfield 38, (11, 4, 3, 0, 0))] [some (3, 0, 20)] (by decide +kernel) rfl ⟨trivial, (r_0_4 hR)⟩ ?_
        refine b_cV (as := []) (st := []) (by decide +kernel) k_11_143 n_Lay_countPosts rfl (by decide) v_Lay_countPosts (c_Lay_countPosts 20 (ly_20 hR)) (Nat.le_of_ble_eq_true rfl) (by decide) rfl rfl (fun _ h => h) ?_
        show m_B _ _ _ _ _ _ 33 [some (mR (11, 0, 0)), some (mI v1), some (mI v2), some (mI v3)] [mI (l_posts I 20 6)] (L, I, J, R)
        refine b_blk (pc' := 35) (ls' := [some (mR (11, 0, 0)), some (mI v1), some (mI v2), some (mI v3)]) (st' := [mI 24, mI (l_posts I 20 6)]) (S' := (L, I, J, R)) (P := True) [(.bipush 24, (0, 0, 0, 24, 0))] [] (by decide +kernel) rfl trivial ?_
        refine b_icmp_lt (off := 5) (tgt := 40) (by decide +kernel) (by decide) (fun h5 => ?_) (fun h5 => ?_)
        · have hf := if_t h5 hf
          refine b_blk (pc' := 46) (ls' := [some (mR (11, 0, 0)), some (mI v1), some (mI v2), some (mI v3)]) (st' := [mI v2, mI v1, mR (0, 0, 30)]) (S' := (L, I, J, R)) (P := (True ∧ R 0 6 = some (0, 0, 30))) [(.aload_n 0, (0, 0, 0, 0, 0)), (.getfield 56, (11, 6, 3, 0, 0)), (.iload_n 1, (0, 0, 0, 0, 0)), (.iload_n 2, (0, 0, 0, 0, 0))] [some (0, 0, 30)] (by decide +kernel) rfl ⟨trivial, (r_0_6 hR)⟩ ?_
          refine b_cV (as := [mI v1, mI v2]) (st := []) (by decide +kernel) k_11_229 n_Foresight_findIron rfl (by decide) v_Foresight_findIron (c_Foresight_findIron v1 v2 sl hR hs hq) (Nat.le_of_ble_eq_true rfl) (by decide) rfl rfl (fun _ h => h) ?_
          show m_B _ _ _ _ _ _ 49 [some (mR (11, 0, 0)), some (mI v1), some (mI v2), some (mI v3)] [] (L, fi_w I sl v1 v2, J, R)
          refine b_blk (pc' := 50) (ls' := [some (mR (11, 0, 0)), some (mI v1), some (mI v2), some (mI v3)]) (st' := [mI v3]) (S' := (L, fi_w I sl v1 v2, J, R)) (P := True) [(.iload_n 3, (0, 0, 0, 0, 0))] [] (by decide +kernel) rfl trivial ?_
          by_cases h6 : v3 = 0
          · refine b_tswV (tgt := 76) (off := 26) (lo := 0) (hi := 2) (dflt := 65) (offs := #[26, 34, 42]) (len := 26) h6 (by decide +kernel) (by decide) (by decide) (by decide) (by decide) ?_
            have hf := if_t h6 hf
            refine b_blk (pc' := 83) (ls' := [some (mR (11, 0, 0)), some (mI v1), some (mI v2), some (mI v3)]) (st' := [mI ((fi_w I sl v1 v2) 30 9)]) (S' := (L, fi_w I sl v1 v2, J, R)) (P := (True ∧ R 0 6 = some (0, 0, 30))) [(.aload_n 0, (0, 0, 0, 0, 0)), (.getfield 56, (11, 6, 3, 0, 0)), (.getfield 233, (0, 9, 0, 0, 0))] [some (0, 0, 30)] (by decide +kernel) rfl ⟨trivial, (r_0_6 hR)⟩ ?_
            cases hf
            exact b_iret (by decide +kernel) rfl hk
          have hf := if_f h6 hf
          by_cases h7 : v3 = 1
          · refine b_tswV (tgt := 84) (off := 34) (lo := 0) (hi := 2) (dflt := 65) (offs := #[26, 34, 42]) (len := 26) h7 (by decide +kernel) (by decide) (by decide) (by decide) (by decide) ?_
            have hf := if_t h7 hf
            refine b_blk (pc' := 91) (ls' := [some (mR (11, 0, 0)), some (mI v1), some (mI v2), some (mI v3)]) (st' := [mI ((fi_w I sl v1 v2) 30 10)]) (S' := (L, fi_w I sl v1 v2, J, R)) (P := (True ∧ R 0 6 = some (0, 0, 30))) [(.aload_n 0, (0, 0, 0, 0, 0)), (.getfield 56, (11, 6, 3, 0, 0)), (.getfield 236, (0, 10, 0, 0, 0))] [some (0, 0, 30)] (by decide +kernel) rfl ⟨trivial, (r_0_6 hR)⟩ ?_
            cases hf
            exact b_iret (by decide +kernel) rfl hk
          have hf := if_f h7 hf
          by_cases h8 : v3 = 2
          · refine b_tswV (tgt := 92) (off := 42) (lo := 0) (hi := 2) (dflt := 65) (offs := #[26, 34, 42]) (len := 26) h8 (by decide +kernel) (by decide) (by decide) (by decide) (by decide) ?_
            have hf := if_t h8 hf
            refine b_blk (pc' := 100) (ls' := [some (mR (11, 0, 0)), some (mI v1), some (mI v2), some (mI v3)]) (st' := [mI (-1), mI ((fi_w I sl v1 v2) 30 9)]) (S' := (L, fi_w I sl v1 v2, J, R)) (P := (True ∧ R 0 6 = some (0, 0, 30))) [(.aload_n 0, (0, 0, 0, 0, 0)), (.getfield 56, (11, 6, 3, 0, 0)), (.getfield 233, (0, 9, 0, 0, 0)), (.iconst (-1), (0, 0, 0, (-1), 0))] [some (0, 0, 30)] (by decide +kernel) rfl ⟨trivial, (r_0_6 hR)⟩ ?_
            refine b_icmp_ne (off := 7) (tgt := 107) (by decide +kernel) (by decide) (fun h9 => ?_) (fun h9 => ?_)
            · have hf := if_f h9 hf
              refine b_blk (pc' := 114) (ls' := [some (mR (11, 0, 0)), some (mI v1), some (mI v2), some (mI v3)]) (st' := [mI ((fi_w I sl v1 v2) 30 11)]) (S' := (L, fi_w I sl v1 v2, J, R)) (P := (True ∧ R 0 6 = some (0, 0, 30))) [(.aload_n 0, (0, 0, 0, 0, 0)), (.getfield 56, (11, 6, 3, 0, 0)), (.getfield 239, (0, 11, 0, 0, 0))] [some (0, 0, 30)] (by decide +kernel) rfl ⟨trivial, (r_0_6 hR)⟩ ?_
              cases hf
              exact b_iret (by decide +kernel) rfl hk
            · have hf := if_t h9 hf
              refine b_blk (pc' := 114) (ls' := [some (mR (11, 0, 0)), some (mI v1), some (mI v2), some (mI v3)]) (st' := [mI (-1)]) (S' := (L, fi_w I sl v1 v2, J, R)) (P := True) [(.iconst (-1), (0, 0, 0, (-1), 0)), (.goto 10, (0, 114, 0, 0, 0))] [] (by decide +kernel) rfl trivial ?_
              cases hf
              exact b_iret (by decide +kernel) rfl hk
          have hf := if_f h8 hf
          refine b_tswD (tgt := 115) (lo := 0) (hi := 2) (dflt := 65) (offs := #[26, 34, 42]) (len := 26) (by decide +kernel) (by have q0 := lv_neT h6 (a := 0) (by decide); have q1 := lv_neT h7 (a := 1) (by decide); have q2 := lv_neT h8 (a := 2) (by decide); omega) (by decide) ?_
          refine b_blk (pc' := 116) (ls' := [some (mR (11, 0, 0)), some (mI v1), some (mI v2), some (mI v3)]) (st' := [mI (-1)]) (S' := (L, fi_w I sl v1 v2, J, R)) (P := True) [(.iconst (-1), (0, 0, 0, (-1), 0))] [] (by decide +kernel) rfl trivial ?_
          cases hf
          exact b_iret (by decide +kernel) rfl hk
        · have hf := if_f h5 hf
          refine b_blk (pc' := 39) (ls' := [some (mR (11, 0, 0)), some (mI v1), some (mI v2), some (mI v3)]) (st' := [mI (-1)]) (S' := (L, I, J, R)) (P := True) [(.iconst (-1), (0, 0, 0, (-1), 0))] [] (by decide +kernel) rfl trivial ?_
          cases hf
          exact b_iret (by decide +kernel) rfl hk
theorem C_WF_irons {G : MG} {L : List (Nat × Nat)} {R : Nat → Nat → Option MRef} (sl : Nat) (sd : Nat) (I : MI) (J : MJ) (v1 : Int32) (v2 : Int32) (v3 : Int32) (hR : RF R) (h01 : R 0 1 = some (8, 0, sl)) (h02 : R 0 2 = some (8, 0, sd)) (hs : R 24 1 = some (8, 0, sl)) (hq : sl = 3 ∨ sl = 11) (hqd : sd = 3 ∨ sd = 11) {r : Int32 × MI} (hf : F_WF_irons sl sd I v1 v2 v3 = some r) : m_met G 9 0 0 y_WF_irons M_WF_irons [mR (11, 0, 0), mI v1, mI v2, mI v3] (L, I, J, R) (m_is (some (mI r.1)) (L, r.2, J, R)) :=
  m_met_in n_WF_irons (plainFor_of_name (by decide)) (by decide) (Nat.le_of_ble_eq_true rfl) (ls := [some (mR (11, 0, 0)), some (mI v1), some (mI v2), some (mI v3)]) rfl (W_WF_irons sl sd I J v1 v2 v3 hR h01 h02 hs hq hqd hf ⟨rfl, rfl⟩)
noncomputable def F_WF_rest (sl : Nat) (sd : Nat) (I : MI) (v1 : Int32) : Option (Int32 × MI) :=
  if (f_Slope_isTold I sl) = (0 : Int32) then (some (((-1) : Int32), I)) else (if v1 < (1 : Int32) then (some (((-1) : Int32), I)) else ((F_WF_yearsAtMost sl sd I (30 : Int32)).bind fun r3 => if v1 ≤ r3 then ((F_Foresight_findRest sl I v1).bind fun r5 => some ((r5.1 : Int32), r5.2)) else (some (((-1) : Int32), I))))
set_option maxRecDepth 100000 in
set_option maxHeartbeats 400000 in
theorem W_WF_rest {G : MG} {Q : Option MV → MS → Prop} {L : List (Nat × Nat)} {R : Nat → Nat → Option MRef} (sl : Nat) (sd : Nat) (I : MI) (J : MJ) (v1 : Int32) (hR : RF R) (h01 : R 0 1 = some (8, 0, sl)) (h02 : R 0 2 = some (8, 0, sd)) (hs : R 24 1 = some (8, 0, sl)) (hq : sl = 3 ∨ sl = 11) (hqd : sd = 3 ∨ sd = 11) {r : Int32 × MI} (hf : F_WF_rest sl sd I v1 = some r) (hk : (fun r : Int32 × MI => Q (some (mI r.1)) (L, r.2, J, R)) r) : m_B G (m_rm 9 0 0) M_WF_rest Q 0 0 0 [some (mR (11, 0, 0)), some (mI v1)] [] (L, I, J, R) := by
  unfold F_WF_rest at hf
  refine b_blk (pc' := 4) (ls' := [some (mR (11, 0, 0)), some (mI v1)]) (st' := [mR (8, 0, sl)]) (S' := (L, I, J, R)) (P := (True ∧ R 0 1 = some (8, 0, sl))) [(.aload_n 0, (0, 0, 0, 0, 0)), (.getfield 19, (11, 1, 3, 0, 0))] [some (8, 0, sl)] (by decide +kernel) rfl ⟨trivial, h01⟩ ?_
  refine b_cV (as := []) (st := []) (by decide +kernel) k_11_242 n_Slope_isTold rfl (by decide) v_Slope_isTold (c_Slope_isTold sl ) (Nat.le_of_ble_eq_true rfl) (by decide) rfl rfl (fun _ h => h) ?_
  show m_B _ _ _ _ _ _ 7 [some (mR (11, 0, 0)), some (mI v1)] [mI (f_Slope_isTold I sl)] (L, I, J, R)
  refine b_if_eq (off := 18) (tgt := 25) (by decide +kernel) (by decide) (fun h1 => ?_) (fun h1 => ?_)
  · have hf := if_t h1 hf
    refine b_blk (pc' := 26) (ls' := [some (mR (11, 0, 0)), some (mI v1)]) (st' := [mI (-1)]) (S' := (L, I, J, R)) (P := True) [(.iconst (-1), (0, 0, 0, (-1), 0))] [] (by decide +kernel) rfl trivial ?_
    cases hf
    exact b_iret (by decide +kernel) rfl hk
  · have hf := if_f h1 hf
    refine b_blk (pc' := 12) (ls' := [some (mR (11, 0, 0)), some (mI v1)]) (st' := [mI 1, mI v1]) (S' := (L, I, J, R)) (P := True) [(.iload_n 1, (0, 0, 0, 0, 0)), (.iconst 1, (0, 0, 0, 1, 0))] [] (by decide +kernel) rfl trivial ?_
    refine b_icmp_lt (off := 13) (tgt := 25) (by decide +kernel) (by decide) (fun h2 => ?_) (fun h2 => ?_)
    · have hf := if_t h2 hf
      refine b_blk (pc' := 26) (ls' := [some (mR (11, 0, 0)), some (mI v1)]) (st' := [mI (-1)]) (S' := (L, I, J, R)) (P := True) [(.iconst (-1), (0, 0, 0, (-1), 0))] [] (by decide +kernel) rfl trivial ?_
      cases hf
      exact b_iret (by decide +kernel) rfl hk
    · have hf := if_f h2 hf
      refine b_blk (pc' := 19) (ls' := [some (mR (11, 0, 0)), some (mI v1)]) (st' := [mI 30, mR (11, 0, 0), mI v1]) (S' := (L, I, J, R)) (P := True) [(.iload_n 1, (0, 0, 0, 0, 0)), (.aload_n 0, (0, 0, 0, 0, 0)), (.bipush 30, (0, 0, 0, 30, 0))] [] (by decide +kernel) rfl trivial ?_
      obtain ⟨r3, hc3, hf⟩ := bnd_o hf
      refine b_cV (as := [mI 30]) (st := [mI v1]) (by decide +kernel) k_11_209 n_WF_yearsAtMost rfl (by decide) v_WF_yearsAtMost (C_WF_yearsAtMost sl sd I J (30 : Int32) hR h01 h02 hs hq hqd hc3) (Nat.le_of_ble_eq_true rfl) (by decide) rfl rfl (fun _ h => h) ?_
      show m_B G (m_rm 9 0 0) M_WF_rest Q 0 0 22 [some (mR (11, 0, 0)), some (mI v1)] [mI r3, mI v1] (L, I, J, R)
      refine b_icmp_le (off := 5) (tgt := 27) (by decide +kernel) (by decide) (fun h4 => ?_) (fun h4 => ?_)
      · have hf := if_t h4 hf
        refine b_blk (pc' := 32) (ls' := [some (mR (11, 0, 0)), some (mI v1)]) (st' := [mI v1, mR (0, 0, 30)]) (S' := (L, I, J, R)) (P := (True ∧ R 0 6 = some (0, 0, 30))) [(.aload_n 0, (0, 0, 0, 0, 0)), (.getfield 56, (11, 6, 3, 0, 0)), (.iload_n 1, (0, 0, 0, 0, 0))] [some (0, 0, 30)] (by decide +kernel) rfl ⟨trivial, (r_0_6 hR)⟩ ?_
        obtain ⟨r5, hc5, hf⟩ := bnd_o hf
        refine b_cV (as := [mI v1]) (st := []) (by decide +kernel) k_11_246 n_Foresight_findRest rfl (by decide) v_Foresight_findRest (C_Foresight_findRest sl I J v1 hR hs hq hc5) (Nat.le_of_ble_eq_true rfl) (by decide) rfl rfl (fun _ h => h) ?_
        show m_B G (m_rm 9 0 0) M_WF_rest Q 0 0 35 [some (mR (11, 0, 0)), some (mI v1)] [mI r5.1] (L, r5.2, J, R)
        cases hf
        exact b_iret (by decide +kernel) rfl hk
      · have hf := if_f h4 hf
        refine b_blk (pc' := 26) (ls' := [some (mR (11, 0, 0)), some (mI v1)]) (st' := [mI (-1)]) (S' := (L, I, J, R)) (P := True) [(.iconst (-1), (0, 0, 0, (-1), 0))] [] (by decide +kernel) rfl trivial ?_
        cases hf
        exact b_iret (by decide +kernel) rfl hk
theorem C_WF_rest {G : MG} {L : List (Nat × Nat)} {R : Nat → Nat → Option MRef} (sl : Nat) (sd : Nat) (I : MI) (J : MJ) (v1 : Int32) (hR : RF R) (h01 : R 0 1 = some (8, 0, sl)) (h02 : R 0 2 = some (8, 0, sd)) (hs : R 24 1 = some (8, 0, sl)) (hq : sl = 3 ∨ sl = 11) (hqd : sd = 3 ∨ sd = 11) {r : Int32 × MI} (hf : F_WF_rest sl sd I v1 = some r) : m_met G 9 0 0 y_WF_rest M_WF_rest [mR (11, 0, 0), mI v1] (L, I, J, R) (m_is (some (mI r.1)) (L, r.2, J, R)) :=
  m_met_in n_WF_rest (plainFor_of_name (by decide)) (by decide) (Nat.le_of_ble_eq_true rfl) (ls := [some (mR (11, 0, 0)), some (mI v1)]) rfl (W_WF_rest sl sd I J v1 hR h01 h02 hs hq hqd hf ⟨rfl, rfl⟩)
noncomputable def F_WF_see_33 (sl : Nat) (sd : Nat) (I : MI) (y0 : Int32) : Option (Int32 × MI) :=
  if y0 = (0 : Int32) then ((F_WF_refuse sl sd (m_up I 1 1 (0 : Int32)) (1 : Int32)).bind fun r2 => some ((r2.1 : Int32), r2.2)) else (some ((I 170 3 : Int32), m_up I 1 1 (0 : Int32)))
set_option maxRecDepth 100000 in
set_option maxHeartbeats 400000 in
theorem W_WF_see_33 {G : MG} {Q : Option MV → MS → Prop} {L : List (Nat × Nat)} {R : Nat → Nat → Option MRef} (sl : Nat) (sd : Nat) (I : MI) (J : MJ) (y0 : Int32) (hR : RF R) (h01 : R 0 1 = some (8, 0, sl)) (h02 : R 0 2 = some (8, 0, sd)) (hs : R 24 1 = some (8, 0, sl)) (hq : sl = 3 ∨ sl = 11) (hqd : sd = 3 ∨ sd = 11) {r : Int32 × MI} (hf : F_WF_see_33 sl sd I y0 = some r) (hk : (fun r : Int32 × MI => Q (some (mI r.1)) (L, r.2, J, R)) r) : m_B G (m_rm 3 0 0) M_WF_see Q 0 0 33 [some (mR (11, 0, 0)), none] [mI y0] (L, I, J, R) := by
  unfold F_WF_see_33 at hf
  refine b_blk (pc' := 43) (ls' := [some (mR (11, 0, 0)), some (mI y0)]) (st' := [mI y0]) (S' := (L, m_up I 1 1 (0 : Int32), J, R)) (P := (True ∧ R 0 0 = some (9, 0, 1))) [(.istore_n 1, (0, 0, 0, 0, 0)), (.aload_n 0, (0, 0, 0, 0, 0)), (.getfield 12, (11, 0, 3, 0, 0)), (.iconst 0, (0, 0, 0, 0, 0)), (.putfield 96, (9, 1, 0, 0, 0)), (.iload_n 1, (0, 0, 0, 0, 0))] [some (9, 0, 1)] (by decide +kernel) rfl ⟨trivial, (r_0_0 hR)⟩ ?_
  refine b_if_eq (off := 13) (tgt := 56) (by decide +kernel) (by decide) (fun h1 => ?_) (fun h1 => ?_)
  · have hf := if_t h1 hf
    refine b_blk (pc' := 58) (ls' := [some (mR (11, 0, 0)), some (mI y0)]) (st' := [mI 1, mR (11, 0, 0)]) (S' := (L, m_up I 1 1 (0 : Int32), J, R)) (P := True) [(.aload_n 0, (0, 0, 0, 0, 0)), (.iconst 1, (0, 0, 0, 1, 0))] [] (by decide +kernel) rfl trivial ?_
    obtain ⟨r2, hc2, hf⟩ := bnd_o hf
    refine b_cV (as := [mI 1]) (st := []) (by decide +kernel) k_11_99 n_WF_refuse rfl (by decide) v_WF_refuse (C_WF_refuse sl sd (m_up I 1 1 (0 : Int32)) J (1 : Int32) hR h01 h02 hs hq hqd hc2) (Nat.le_of_ble_eq_true rfl) (by decide) rfl rfl (fun _ h => h) ?_
    show m_B G (m_rm 3 0 0) M_WF_see Q 0 0 61 [some (mR (11, 0, 0)), some (mI y0)] [mI r2.1] (L, r2.2, J, R)
    cases hf
    exact b_iret (by decide +kernel) rfl hk
  · have hf := if_f h1 hf
    refine b_blk (pc' := 61) (ls' := [some (mR (11, 0, 0)), some (mI y0)]) (st' := [mI (I 170 3)]) (S' := (L, m_up I 1 1 (0 : Int32), J, R)) (P := (True ∧ R 0 9 = some (7, 0, 170))) [(.aload_n 0, (0, 0, 0, 0, 0)), (.getfield 77, (11, 9, 3, 0, 0)), (.getfield 119, (7, 3, 0, 0, 0)), (.goto 8, (0, 61, 0, 0, 0))] [some (7, 0, 170)] (by decide +kernel) rfl ⟨trivial, (r_0_9 hR)⟩ ?_
    cases hf
    exact b_iret (by decide +kernel) rfl hk
noncomputable def F_WF_see_32 (sl : Nat) (sd : Nat) (I : MI) : Option (Int32 × MI) :=
  F_WF_see_33 sl sd I (0 : Int32)
set_option maxRecDepth 100000 in
set_option maxHeartbeats 400000 in
theorem W_WF_see_32 {G : MG} {Q : Option MV → MS → Prop} {L : List (Nat × Nat)} {R : Nat → Nat → Option MRef} (sl : Nat) (sd : Nat) (I : MI) (J : MJ) (hR : RF R) (h01 : R 0 1 = some (8, 0, sl)) (h02 : R 0 2 = some (8, 0, sd)) (hs : R 24 1 = some (8, 0, sl)) (hq : sl = 3 ∨ sl = 11) (hqd : sd = 3 ∨ sd = 11) {r : Int32 × MI} (hf : F_WF_see_32 sl sd I = some r) (hk : (fun r : Int32 × MI => Q (some (mI r.1)) (L, r.2, J, R)) r) : m_B G (m_rm 3 0 0) M_WF_see Q 0 0 32 [some (mR (11, 0, 0)), none] [] (L, I, J, R) := by
  unfold F_WF_see_32 at hf
  refine b_blk (pc' := 33) (ls' := [some (mR (11, 0, 0)), none]) (st' := [mI 0]) (S' := (L, I, J, R)) (P := True) [(.iconst 0, (0, 0, 0, 0, 0))] [] (by decide +kernel) rfl trivial ?_
  exact m_B_cg rfl rfl rfl (W_WF_see_33 sl sd I J (0 : Int32) hR h01 h02 hs hq hqd hf hk)
noncomputable def F_WF_see (sl : Nat) (sd : Nat) (I : MI) : Option (Int32 × MI) :=
  if (f_Slope_isTold I sl) = (0 : Int32) then (F_WF_see_32 sl sd I) else ((F_Seen_readFrom sl I).bind fun r2 => if r2.1 = (0 : Int32) then (F_WF_see_32 sl sd r2.2) else (F_WF_see_33 sl sd r2.2 (1 : Int32)))
set_option maxRecDepth 100000 in
set_option maxHeartbeats 400000 in
theorem W_WF_see {G : MG} {Q : Option MV → MS → Prop} {L : List (Nat × Nat)} {R : Nat → Nat → Option MRef} (sl : Nat) (sd : Nat) (I : MI) (J : MJ) (hR : RF R) (h01 : R 0 1 = some (8, 0, sl)) (h02 : R 0 2 = some (8, 0, sd)) (hs : R 24 1 = some (8, 0, sl)) (hq : sl = 3 ∨ sl = 11) (hqd : sd = 3 ∨ sd = 11) {r : Int32 × MI} (hf : F_WF_see sl sd I = some r) (hk : (fun r : Int32 × MI => Q (some (mI r.1)) (L, r.2, J, R)) r) : m_B G (m_rm 3 0 0) M_WF_see Q 0 0 0 [some (mR (11, 0, 0)), none] [] (L, I, J, R) := by
  unfold F_WF_see at hf
  refine b_blk (pc' := 4) (ls' := [some (mR (11, 0, 0)), none]) (st' := [mR (8, 0, sl)]) (S' := (L, I, J, R)) (P := (True ∧ R 0 1 = some (8, 0, sl))) [(.aload_n 0, (0, 0, 0, 0, 0)), (.getfield 19, (11, 1, 3, 0, 0))] [some (8, 0, sl)] (by decide +kernel) rfl ⟨trivial, h01⟩ ?_
  refine b_cV (as := []) (st := []) (by decide +kernel) k_11_242 n_Slope_isTold rfl (by decide) v_Slope_isTold (c_Slope_isTold sl ) (Nat.le_of_ble_eq_true rfl) (by decide) rfl rfl (fun _ h => h) ?_
  show m_B _ _ _ _ _ _ 7 [some (mR (11, 0, 0)), none] [mI (f_Slope_isTold I sl)] (L, I, J, R)
  refine b_if_eq (off := 25) (tgt := 32) (by decide +kernel) (by decide) (fun h1 => ?_) (fun h1 => ?_)
  · have hf := if_t h1 hf
    exact m_B_cg rfl rfl rfl (W_WF_see_32 sl sd I J hR h01 h02 hs hq hqd hf hk)
  · have hf := if_f h1 hf
    refine b_blk (pc' := 22) (ls' := [some (mR (11, 0, 0)), none]) (st' := [mR (8, 0, sl), mR (9, 0, 1), mR (7, 0, 170)]) (S' := (L, I, J, R)) (P := (((True ∧ R 0 9 = some (7, 0, 170)) ∧ R 0 0 = some (9, 0, 1)) ∧ R 0 1 = some (8, 0, sl))) [(.aload_n 0, (0, 0, 0, 0, 0)), (.getfield 77, (11, 9, 3, 0, 0)), (.aload_n 0, (0, 0, 0, 0, 0)), (.getfield 12, (11, 0, 3, 0, 0)), (.aload_n 0, (0, 0, 0, 0, 0)), (.getfield 19, (11, 1, 3, 0, 0))] [some (7, 0, 170), some (9, 0, 1), some (8, 0, sl)] (by decide +kernel) rfl ⟨⟨⟨trivial, (r_0_9 hR)⟩, (r_0_0 hR)⟩, h01⟩ ?_
    obtain ⟨r2, hc2, hf⟩ := bnd_o hf
    refine b_cV (as := [mR (9, 0, 1), mR (8, 0, sl)]) (st := []) (by decide +kernel) k_11_249 n_Seen_readFrom rfl (by decide) v_Seen_readFrom (C_Seen_readFrom sl I J hR hs hq hc2) (Nat.le_of_ble_eq_true rfl) (by decide) rfl rfl (fun _ h => h) ?_
    show m_B G (m_rm 3 0 0) M_WF_see Q 0 0 25 [some (mR (11, 0, 0)), none] [mI r2.1] (L, r2.2, J, R)
    refine b_if_eq (off := 7) (tgt := 32) (by decide +kernel) (by decide) (fun h3 => ?_) (fun h3 => ?_)
    · have hf := if_t h3 hf
      exact m_B_cg rfl rfl rfl (W_WF_see_32 sl sd r2.2 J hR h01 h02 hs hq hqd hf hk)
    · have hf := if_f h3 hf
      refine b_blk (pc' := 33) (ls' := [some (mR (11, 0, 0)), none]) (st' := [mI 1]) (S' := (L, r2.2, J, R)) (P := True) [(.iconst 1, (0, 0, 0, 1, 0)), (.goto 4, (0, 33, 0, 0, 0))] [] (by decide +kernel) rfl trivial ?_
      exact m_B_cg rfl rfl rfl (W_WF_see_33 sl sd r2.2 J (1 : Int32) hR h01 h02 hs hq hqd hf hk)
theorem C_WF_see {G : MG} {L : List (Nat × Nat)} {R : Nat → Nat → Option MRef} (sl : Nat) (sd : Nat) (I : MI) (J : MJ) (hR : RF R) (h01 : R 0 1 = some (8, 0, sl)) (h02 : R 0 2 = some (8, 0, sd)) (hs : R 24 1 = some (8, 0, sl)) (hq : sl = 3 ∨ sl = 11) (hqd : sd = 3 ∨ sd = 11) {r : Int32 × MI} (hf : F_WF_see sl sd I = some r) : m_met G 3 0 0 y_WF_see M_WF_see [mR (11, 0, 0)] (L, I, J, R) (m_is (some (mI r.1)) (L, r.2, J, R)) :=
  m_met_in n_WF_see (plainFor_of_name (by decide)) (by decide) (Nat.le_of_ble_eq_true rfl) (ls := [some (mR (11, 0, 0)), none]) rfl (W_WF_see sl sd I J hR h01 h02 hs hq hqd hf ⟨rfl, rfl⟩)
noncomputable def F_WF_fits (sl : Nat) (sd : Nat) (I : MI) (v1 : Int32) : Option (Int32 × MI) :=
  if (f_Slope_isTold I sl) = (0 : Int32) then (some (((-1) : Int32), I)) else ((F_WF_yearsAtMost sl sd I (30 : Int32)).bind fun r2 => gq (r2 ≤ 60) <| if v1 = 0 then (some (((ff I sl (m_le r2)) 30 12 : Int32), ff I sl (m_le r2))) else (if v1 = 1 then (some (((ff I sl (m_le r2)) 30 13 : Int32), ff I sl (m_le r2))) else (if v1 = 2 then (some (((ff I sl (m_le r2)) 30 14 : Int32), ff I sl (m_le r2))) else (some (((-1) : Int32), ff I sl (m_le r2))))))
set_option maxRecDepth 100000 in
set_option maxHeartbeats 400000 in
theorem W_WF_fits {G : MG} {Q : Option MV → MS → Prop} {L : List (Nat × Nat)} {R : Nat → Nat → Option MRef} (sl : Nat) (sd : Nat) (I : MI) (J : MJ) (v1 : Int32) (hR : RF R) (h01 : R 0 1 = some (8, 0, sl)) (h02 : R 0 2 = some (8, 0, sd)) (hs : R 24 1 = some (8, 0, sl)) (hq : sl = 3 ∨ sl = 11) (hqd : sd = 3 ∨ sd = 11) {r : Int32 × MI} (hf : F_WF_fits sl sd I v1 = some r) (hk : (fun r : Int32 × MI => Q (some (mI r.1)) (L, r.2, J, R)) r) : m_B G (m_rm 8 0 0) M_WF_fits Q 0 0 0 [some (mR (11, 0, 0)), some (mI v1)] [] (L, I, J, R) := by
  unfold F_WF_fits at hf
  refine b_blk (pc' := 4) (ls' := [some (mR (11, 0, 0)), some (mI v1)]) (st' := [mR (8, 0, sl)]) (S' := (L, I, J, R)) (P := (True ∧ R 0 1 = some (8, 0, sl))) [(.aload_n 0, (0, 0, 0, 0, 0)), (.getfield 19, (11, 1, 3, 0, 0))] [some (8, 0, sl)] (by decide +kernel) rfl ⟨trivial, h01⟩ ?_
  refine b_cV (as := []) (st := []) (by decide +kernel) k_11_242 n_Slope_isTold rfl (by decide) v_Slope_isTold (c_Slope_isTold sl ) (Nat.le_of_ble_eq_true rfl) (by decide) rfl rfl (fun _ h => h) ?_
  show m_B _ _ _ _ _ _ 7 [some (mR (11, 0, 0)), some (mI v1)] [mI (f_Slope_isTold I sl)] (L, I, J, R)
  refine b_if_ne (off := 5) (tgt := 12) (by decide +kernel) (by decide) (fun h1 => ?_) (fun h1 => ?_)
  · have hf := if_f h1 hf
    refine b_blk (pc' := 23) (ls' := [some (mR (11, 0, 0)), some (mI v1)]) (st' := [mI 30, mR (11, 0, 0), mR (7, 0, 170), mR (0, 0, 30)]) (S' := (L, I, J, R)) (P := ((True ∧ R 0 6 = some (0, 0, 30)) ∧ R 0 9 = some (7, 0, 170))) [(.aload_n 0, (0, 0, 0, 0, 0)), (.getfield 56, (11, 6, 3, 0, 0)), (.aload_n 0, (0, 0, 0, 0, 0)), (.getfield 77, (11, 9, 3, 0, 0)), (.aload_n 0, (0, 0, 0, 0, 0)), (.bipush 30, (0, 0, 0, 30, 0))] [some (0, 0, 30), some (7, 0, 170)] (by decide +kernel) rfl ⟨⟨trivial, (r_0_6 hR)⟩, (r_0_9 hR)⟩ ?_
    obtain ⟨r2, hc2, hf⟩ := bnd_o hf
    refine b_cV (as := [mI 30]) (st := [mR (7, 0, 170), mR (0, 0, 30)]) (by decide +kernel) k_11_209 n_WF_yearsAtMost rfl (by decide) v_WF_yearsAtMost (C_WF_yearsAtMost sl sd I J (30 : Int32) hR h01 h02 hs hq hqd hc2) (Nat.le_of_ble_eq_true rfl) (by decide) rfl rfl (fun _ h => h) ?_
    show m_B G (m_rm 8 0 0) M_WF_fits Q 0 0 26 [some (mR (11, 0, 0)), some (mI v1)] [mI r2, mR (7, 0, 170), mR (0, 0, 30)] (L, I, J, R)
    obtain ⟨g3, hf⟩ := gq_s hf
    refine b_cV (as := [mR (7, 0, 170), mI r2]) (st := []) (by decide +kernel) k_11_253 n_Foresight_findFits rfl (by decide) v_Foresight_findFits (c_Foresight_findFits r2 sl hR hs hq (by assumption)) (Nat.le_of_ble_eq_true rfl) (by decide) rfl rfl (fun _ h => h) ?_
    show m_B _ _ _ _ _ _ 29 [some (mR (11, 0, 0)), some (mI v1)] [] (L, ff I sl (m_le r2), J, R)
    refine b_blk (pc' := 30) (ls' := [some (mR (11, 0, 0)), some (mI v1)]) (st' := [mI v1]) (S' := (L, ff I sl (m_le r2), J, R)) (P := True) [(.iload_n 1, (0, 0, 0, 0, 0))] [] (by decide +kernel) rfl trivial ?_
    by_cases h4 : v1 = 0
    · refine b_tswV (tgt := 56) (off := 26) (lo := 0) (hi := 2) (dflt := 50) (offs := #[26, 34, 42]) (len := 26) h4 (by decide +kernel) (by decide) (by decide) (by decide) (by decide) ?_
      have hf := if_t h4 hf
      refine b_blk (pc' := 63) (ls' := [some (mR (11, 0, 0)), some (mI v1)]) (st' := [mI ((ff I sl (m_le r2)) 30 12)]) (S' := (L, ff I sl (m_le r2), J, R)) (P := (True ∧ R 0 6 = some (0, 0, 30))) [(.aload_n 0, (0, 0, 0, 0, 0)), (.getfield 56, (11, 6, 3, 0, 0)), (.getfield 257, (0, 12, 0, 0, 0))] [some (0, 0, 30)] (by decide +kernel) rfl ⟨trivial, (r_0_6 hR)⟩ ?_
      cases hf
      exact b_iret (by decide +kernel) rfl hk
    have hf := if_f h4 hf
    by_cases h5 : v1 = 1
    · refine b_tswV (tgt := 64) (off := 34) (lo := 0) (hi := 2) (dflt := 50) (offs := #[26, 34, 42]) (len := 26) h5 (by decide +kernel) (by decide) (by decide) (by decide) (by decide) ?_
      have hf := if_t h5 hf
      refine b_blk (pc' := 71) (ls' := [some (mR (11, 0, 0)), some (mI v1)]) (st' := [mI ((ff I sl (m_le r2)) 30 13)]) (S' := (L, ff I sl (m_le r2), J, R)) (P := (True ∧ R 0 6 = some (0, 0, 30))) [(.aload_n 0, (0, 0, 0, 0, 0)), (.getfield 56, (11, 6, 3, 0, 0)), (.getfield 260, (0, 13, 0, 0, 0))] [some (0, 0, 30)] (by decide +kernel) rfl ⟨trivial, (r_0_6 hR)⟩ ?_
      cases hf
      exact b_iret (by decide +kernel) rfl hk
    have hf := if_f h5 hf
    by_cases h6 : v1 = 2
    · refine b_tswV (tgt := 72) (off := 42) (lo := 0) (hi := 2) (dflt := 50) (offs := #[26, 34, 42]) (len := 26) h6 (by decide +kernel) (by decide) (by decide) (by decide) (by decide) ?_
      have hf := if_t h6 hf
      refine b_blk (pc' := 79) (ls' := [some (mR (11, 0, 0)), some (mI v1)]) (st' := [mI ((ff I sl (m_le r2)) 30 14)]) (S' := (L, ff I sl (m_le r2), J, R)) (P := (True ∧ R 0 6 = some (0, 0, 30))) [(.aload_n 0, (0, 0, 0, 0, 0)), (.getfield 56, (11, 6, 3, 0, 0)), (.getfield 263, (0, 14, 0, 0, 0))] [some (0, 0, 30)] (by decide +kernel) rfl ⟨trivial, (r_0_6 hR)⟩ ?_
      cases hf
      exact b_iret (by decide +kernel) rfl hk
    have hf := if_f h6 hf
    refine b_tswD (tgt := 80) (lo := 0) (hi := 2) (dflt := 50) (offs := #[26, 34, 42]) (len := 26) (by decide +kernel) (by have q0 := lv_neT h4 (a := 0) (by decide); have q1 := lv_neT h5 (a := 1) (by decide); have q2 := lv_neT h6 (a := 2) (by decide); omega) (by decide) ?_
    refine b_blk (pc' := 81) (ls' := [some (mR (11, 0, 0)), some (mI v1)]) (st' := [mI (-1)]) (S' := (L, ff I sl (m_le r2), J, R)) (P := True) [(.iconst (-1), (0, 0, 0, (-1), 0))] [] (by decide +kernel) rfl trivial ?_
    cases hf
    exact b_iret (by decide +kernel) rfl hk
  · have hf := if_t h1 hf
    refine b_blk (pc' := 11) (ls' := [some (mR (11, 0, 0)), some (mI v1)]) (st' := [mI (-1)]) (S' := (L, I, J, R)) (P := True) [(.iconst (-1), (0, 0, 0, (-1), 0))] [] (by decide +kernel) rfl trivial ?_
    cases hf
    exact b_iret (by decide +kernel) rfl hk
theorem C_WF_fits {G : MG} {L : List (Nat × Nat)} {R : Nat → Nat → Option MRef} (sl : Nat) (sd : Nat) (I : MI) (J : MJ) (v1 : Int32) (hR : RF R) (h01 : R 0 1 = some (8, 0, sl)) (h02 : R 0 2 = some (8, 0, sd)) (hs : R 24 1 = some (8, 0, sl)) (hq : sl = 3 ∨ sl = 11) (hqd : sd = 3 ∨ sd = 11) {r : Int32 × MI} (hf : F_WF_fits sl sd I v1 = some r) : m_met G 8 0 0 y_WF_fits M_WF_fits [mR (11, 0, 0), mI v1] (L, I, J, R) (m_is (some (mI r.1)) (L, r.2, J, R)) :=
  m_met_in n_WF_fits (plainFor_of_name (by decide)) (by decide) (Nat.le_of_ble_eq_true rfl) (ls := [some (mR (11, 0, 0)), some (mI v1)]) rfl (W_WF_fits sl sd I J v1 hR h01 h02 hs hq hqd hf ⟨rfl, rfl⟩)
noncomputable def F_WF_tells (sl : Nat) (sd : Nat) (I : MI) (v1 : Int32) : Option (Int32 × MI) :=
  if (f_Slope_isTold I sl) = (0 : Int32) then (some (((-1) : Int32), I)) else ((F_WF_yearsAtMost sl sd I (30 : Int32)).bind fun r2 => gq (r2 ≤ 60) <| if v1 = 0 then (some (((ft_c (ft_0 I sl r2) sl (ft_N (ft_0 I sl r2) sl)) 30 15 : Int32), ft_c (ft_0 I sl r2) sl (ft_N (ft_0 I sl r2) sl))) else (if v1 = 1 then (some (((ft_c (ft_0 I sl r2) sl (ft_N (ft_0 I sl r2) sl)) 30 16 : Int32), ft_c (ft_0 I sl r2) sl (ft_N (ft_0 I sl r2) sl))) else (if v1 = 2 then (if ((ft_c (ft_0 I sl r2) sl (ft_N (ft_0 I sl r2) sl)) 30 15) = (-1 : Int32) then (some (((-1) : Int32), ft_c (ft_0 I sl r2) sl (ft_N (ft_0 I sl r2) sl))) else (some (((ft_c (ft_0 I sl r2) sl (ft_N (ft_0 I sl r2) sl)) 30 17 : Int32), ft_c (ft_0 I sl r2) sl (ft_N (ft_0 I sl r2) sl)))) else (some (((-1) : Int32), ft_c (ft_0 I sl r2) sl (ft_N (ft_0 I sl r2) sl))))))
set_option maxRecDepth 100000 in
set_option maxHeartbeats 400000 in
theorem W_WF_tells {G : MG} {Q : Option MV → MS → Prop} {L : List (Nat × Nat)} {R : Nat → Nat → Option MRef} (sl : Nat) (sd : Nat) (I : MI) (J : MJ) (v1 : Int32) (hR : RF R) (h01 : R 0 1 = some (8, 0, sl)) (h02 : R 0 2 = some (8, 0, sd)) (hs : R 24 1 = some (8, 0, sl)) (hq : sl = 3 ∨ sl = 11) (hqd : sd = 3 ∨ sd = 11) {r : Int32 × MI} (hf : F_WF_tells sl sd I v1 = some r) (hk : (fun r : Int32 × MI => Q (some (mI r.1)) (L, r.2, J, R)) r) : m_B G (m_rm 9 0 0) M_WF_tells Q 0 0 0 [some (mR (11, 0, 0)), some (mI v1)] [] (L, I, J, R) := by
  unfold F_WF_tells at hf
  refine b_blk (pc' := 4) (ls' := [some (mR (11, 0, 0)), some (mI v1)]) (st' := [mR (8, 0, sl)]) (S' := (L, I, J, R)) (P := (True ∧ R 0 1 = some (8, 0, sl))) [(.aload_n 0, (0, 0, 0, 0, 0)), (.getfield 19, (11, 1, 3, 0, 0))] [some (8, 0, sl)] (by decide +kernel) rfl ⟨trivial, h01⟩ ?_
  refine b_cV (as := []) (st := []) (by decide +kernel) k_11_242 n_Slope_isTold rfl (by decide) v_Slope_isTold (c_Slope_isTold sl ) (Nat.le_of_ble_eq_true rfl) (by decide) rfl rfl (fun _ h => h) ?_
  show m_B _ _ _ _ _ _ 7 [some (mR (11, 0, 0)), some (mI v1)] [mI (f_Slope_isTold I sl)] (L, I, J, R)
  refine b_if_ne (off := 5) (tgt := 12) (by decide +kernel) (by decide) (fun h1 => ?_) (fun h1 => ?_)
  · have hf := if_f h1 hf
    refine b_blk (pc' := 23) (ls' := [some (mR (11, 0, 0)), some (mI v1)]) (st' := [mI 30, mR (11, 0, 0), mR (7, 0, 170), mR (0, 0, 30)]) (S' := (L, I, J, R)) (P := ((True ∧ R 0 6 = some (0, 0, 30)) ∧ R 0 9 = some (7, 0, 170))) [(.aload_n 0, (0, 0, 0, 0, 0)), (.getfield 56, (11, 6, 3, 0, 0)), (.aload_n 0, (0, 0, 0, 0, 0)), (.getfield 77, (11, 9, 3, 0, 0)), (.aload_n 0, (0, 0, 0, 0, 0)), (.bipush 30, (0, 0, 0, 30, 0))] [some (0, 0, 30), some (7, 0, 170)] (by decide +kernel) rfl ⟨⟨trivial, (r_0_6 hR)⟩, (r_0_9 hR)⟩ ?_
    obtain ⟨r2, hc2, hf⟩ := bnd_o hf
    refine b_cV (as := [mI 30]) (st := [mR (7, 0, 170), mR (0, 0, 30)]) (by decide +kernel) k_11_209 n_WF_yearsAtMost rfl (by decide) v_WF_yearsAtMost (C_WF_yearsAtMost sl sd I J (30 : Int32) hR h01 h02 hs hq hqd hc2) (Nat.le_of_ble_eq_true rfl) (by decide) rfl rfl (fun _ h => h) ?_
    show m_B G (m_rm 9 0 0) M_WF_tells Q 0 0 26 [some (mR (11, 0, 0)), some (mI v1)] [mI r2, mR (7, 0, 170), mR (0, 0, 30)] (L, I, J, R)
    obtain ⟨g3, hf⟩ := gq_s hf
    refine b_cV (as := [mR (7, 0, 170), mI r2]) (st := []) (by decide +kernel) k_11_266 n_Foresight_findTelling rfl (by decide) v_Foresight_findTelling (c_Foresight_findTelling r2 sl hR hs hq (by assumption)) (Nat.le_of_ble_eq_true rfl) (by decide) rfl rfl (fun _ h => h) ?_
    show m_B _ _ _ _ _ _ 29 [some (mR (11, 0, 0)), some (mI v1)] [] (L, ft_c (ft_0 I sl r2) sl (ft_N (ft_0 I sl r2) sl), J, R)
    refine b_blk (pc' := 30) (ls' := [some (mR (11, 0, 0)), some (mI v1)]) (st' := [mI v1]) (S' := (L, ft_c (ft_0 I sl r2) sl (ft_N (ft_0 I sl r2) sl), J, R)) (P := True) [(.iload_n 1, (0, 0, 0, 0, 0))] [] (by decide +kernel) rfl trivial ?_
    by_cases h4 : v1 = 0
    · refine b_tswV (tgt := 56) (off := 26) (lo := 0) (hi := 2) (dflt := 65) (offs := #[26, 34, 42]) (len := 26) h4 (by decide +kernel) (by decide) (by decide) (by decide) (by decide) ?_
      have hf := if_t h4 hf
      refine b_blk (pc' := 63) (ls' := [some (mR (11, 0, 0)), some (mI v1)]) (st' := [mI ((ft_c (ft_0 I sl r2) sl (ft_N (ft_0 I sl r2) sl)) 30 15)]) (S' := (L, ft_c (ft_0 I sl r2) sl (ft_N (ft_0 I sl r2) sl), J, R)) (P := (True ∧ R 0 6 = some (0, 0, 30))) [(.aload_n 0, (0, 0, 0, 0, 0)), (.getfield 56, (11, 6, 3, 0, 0)), (.getfield 269, (0, 15, 0, 0, 0))] [some (0, 0, 30)] (by decide +kernel) rfl ⟨trivial, (r_0_6 hR)⟩ ?_
      cases hf
      exact b_iret (by decide +kernel) rfl hk
    have hf := if_f h4 hf
    by_cases h5 : v1 = 1
    · refine b_tswV (tgt := 64) (off := 34) (lo := 0) (hi := 2) (dflt := 65) (offs := #[26, 34, 42]) (len := 26) h5 (by decide +kernel) (by decide) (by decide) (by decide) (by decide) ?_
      have hf := if_t h5 hf
      refine b_blk (pc' := 71) (ls' := [some (mR (11, 0, 0)), some (mI v1)]) (st' := [mI ((ft_c (ft_0 I sl r2) sl (ft_N (ft_0 I sl r2) sl)) 30 16)]) (S' := (L, ft_c (ft_0 I sl r2) sl (ft_N (ft_0 I sl r2) sl), J, R)) (P := (True ∧ R 0 6 = some (0, 0, 30))) [(.aload_n 0, (0, 0, 0, 0, 0)), (.getfield 56, (11, 6, 3, 0, 0)), (.getfield 272, (0, 16, 0, 0, 0))] [some (0, 0, 30)] (by decide +kernel) rfl ⟨trivial, (r_0_6 hR)⟩ ?_
      cases hf
      exact b_iret (by decide +kernel) rfl hk
    have hf := if_f h5 hf
    by_cases h6 : v1 = 2
    · refine b_tswV (tgt := 72) (off := 42) (lo := 0) (hi := 2) (dflt := 65) (offs := #[26, 34, 42]) (len := 26) h6 (by decide +kernel) (by decide) (by decide) (by decide) (by decide) ?_
      have hf := if_t h6 hf
      refine b_blk (pc' := 80) (ls' := [some (mR (11, 0, 0)), some (mI v1)]) (st' := [mI (-1), mI ((ft_c (ft_0 I sl r2) sl (ft_N (ft_0 I sl r2) sl)) 30 15)]) (S' := (L, ft_c (ft_0 I sl r2) sl (ft_N (ft_0 I sl r2) sl), J, R)) (P := (True ∧ R 0 6 = some (0, 0, 30))) [(.aload_n 0, (0, 0, 0, 0, 0)), (.getfield 56, (11, 6, 3, 0, 0)), (.getfield 269, (0, 15, 0, 0, 0)), (.iconst (-1), (0, 0, 0, (-1), 0))] [some (0, 0, 30)] (by decide +kernel) rfl ⟨trivial, (r_0_6 hR)⟩ ?_
      refine b_icmp_ne (off := 7) (tgt := 87) (by decide +kernel) (by decide) (fun h7 => ?_) (fun h7 => ?_)
      · have hf := if_f h7 hf
        refine b_blk (pc' := 94) (ls' := [some (mR (11, 0, 0)), some (mI v1)]) (st' := [mI ((ft_c (ft_0 I sl r2) sl (ft_N (ft_0 I sl r2) sl)) 30 17)]) (S' := (L, ft_c (ft_0 I sl r2) sl (ft_N (ft_0 I sl r2) sl), J, R)) (P := (True ∧ R 0 6 = some (0, 0, 30))) [(.aload_n 0, (0, 0, 0, 0, 0)), (.getfield 56, (11, 6, 3, 0, 0)), (.getfield 275, (0, 17, 0, 0, 0))] [some (0, 0, 30)] (by decide +kernel) rfl ⟨trivial, (r_0_6 hR)⟩ ?_
        cases hf
        exact b_iret (by decide +kernel) rfl hk
      · have hf := if_t h7 hf
        refine b_blk (pc' := 94) (ls' := [some (mR (11, 0, 0)), some (mI v1)]) (st' := [mI (-1)]) (S' := (L, ft_c (ft_0 I sl r2) sl (ft_N (ft_0 I sl r2) sl), J, R)) (P := True) [(.iconst (-1), (0, 0, 0, (-1), 0)), (.goto 10, (0, 94, 0, 0, 0))] [] (by decide +kernel) rfl trivial ?_
        cases hf
        exact b_iret (by decide +kernel) rfl hk
    have hf := if_f h6 hf
    refine b_tswD (tgt := 95) (lo := 0) (hi := 2) (dflt := 65) (offs := #[26, 34, 42]) (len := 26) (by decide +kernel) (by have q0 := lv_neT h4 (a := 0) (by decide); have q1 := lv_neT h5 (a := 1) (by decide); have q2 := lv_neT h6 (a := 2) (by decide); omega) (by decide) ?_
    refine b_blk (pc' := 96) (ls' := [some (mR (11, 0, 0)), some (mI v1)]) (st' := [mI (-1)]) (S' := (L, ft_c (ft_0 I sl r2) sl (ft_N (ft_0 I sl r2) sl), J, R)) (P := True) [(.iconst (-1), (0, 0, 0, (-1), 0))] [] (by decide +kernel) rfl trivial ?_
    cases hf
    exact b_iret (by decide +kernel) rfl hk
  · have hf := if_t h1 hf
    refine b_blk (pc' := 11) (ls' := [some (mR (11, 0, 0)), some (mI v1)]) (st' := [mI (-1)]) (S' := (L, I, J, R)) (P := True) [(.iconst (-1), (0, 0, 0, (-1), 0))] [] (by decide +kernel) rfl trivial ?_
    cases hf
    exact b_iret (by decide +kernel) rfl hk
theorem C_WF_tells {G : MG} {L : List (Nat × Nat)} {R : Nat → Nat → Option MRef} (sl : Nat) (sd : Nat) (I : MI) (J : MJ) (v1 : Int32) (hR : RF R) (h01 : R 0 1 = some (8, 0, sl)) (h02 : R 0 2 = some (8, 0, sd)) (hs : R 24 1 = some (8, 0, sl)) (hq : sl = 3 ∨ sl = 11) (hqd : sd = 3 ∨ sd = 11) {r : Int32 × MI} (hf : F_WF_tells sl sd I v1 = some r) : m_met G 9 0 0 y_WF_tells M_WF_tells [mR (11, 0, 0), mI v1] (L, I, J, R) (m_is (some (mI r.1)) (L, r.2, J, R)) :=
  m_met_in n_WF_tells (plainFor_of_name (by decide)) (by decide) (Nat.le_of_ble_eq_true rfl) (ls := [some (mR (11, 0, 0)), some (mI v1)]) rfl (W_WF_tells sl sd I J v1 hR h01 h02 hs hq hqd hf ⟨rfl, rfl⟩)
noncomputable def F_WF_set (sl : Nat) (sd : Nat) (I : MI) (v1 : Int32) : Option (Int32 × MI) :=
  if (f_Slope_hasFence I sl v1) = (0 : Int32) then ((F_WF_refuse sl sd I (2 : Int32)).bind fun r3 => some ((0 : Int32), r3.2)) else ((F_WF_beginAct sl sd I).bind fun r2 => some ((1 : Int32), w_plant r2 20 v1 (r2 sl 1)))
set_option maxRecDepth 100000 in
set_option maxHeartbeats 400000 in
theorem W_WF_set {G : MG} {Q : Option MV → MS → Prop} {L : List (Nat × Nat)} {R : Nat → Nat → Option MRef} (sl : Nat) (sd : Nat) (I : MI) (J : MJ) (v1 : Int32) (hR : RF R) (h01 : R 0 1 = some (8, 0, sl)) (h02 : R 0 2 = some (8, 0, sd)) (hs : R 24 1 = some (8, 0, sl)) (hq : sl = 3 ∨ sl = 11) (hqd : sd = 3 ∨ sd = 11) {r : Int32 × MI} (hf : F_WF_set sl sd I v1 = some r) (hk : (fun r : Int32 × MI => Q (some (mI r.1)) (L, r.2, J, R)) r) : m_B G (m_rm 5 0 0) M_WF_set Q 0 0 0 [some (mR (11, 0, 0)), some (mI v1)] [] (L, I, J, R) := by
  unfold F_WF_set at hf
  refine b_blk (pc' := 5) (ls' := [some (mR (11, 0, 0)), some (mI v1)]) (st' := [mI v1, mR (8, 0, sl)]) (S' := (L, I, J, R)) (P := (True ∧ R 0 1 = some (8, 0, sl))) [(.aload_n 0, (0, 0, 0, 0, 0)), (.getfield 19, (11, 1, 3, 0, 0)), (.iload_n 1, (0, 0, 0, 0, 0))] [some (8, 0, sl)] (by decide +kernel) rfl ⟨trivial, h01⟩ ?_
  refine b_cV (as := [mI v1]) (st := []) (by decide +kernel) k_11_163 n_Slope_hasFence rfl (by decide) v_Slope_hasFence (c_Slope_hasFence sl v1 ) (Nat.le_of_ble_eq_true rfl) (by decide) rfl rfl (fun _ h => h) ?_
  show m_B _ _ _ _ _ _ 8 [some (mR (11, 0, 0)), some (mI v1)] [mI (f_Slope_hasFence I sl v1)] (L, I, J, R)
  refine b_if_ne (off := 11) (tgt := 19) (by decide +kernel) (by decide) (fun h1 => ?_) (fun h1 => ?_)
  · have hf := if_f h1 hf
    refine b_blk (pc' := 20) (ls' := [some (mR (11, 0, 0)), some (mI v1)]) (st' := [mR (11, 0, 0)]) (S' := (L, I, J, R)) (P := True) [(.aload_n 0, (0, 0, 0, 0, 0))] [] (by decide +kernel) rfl trivial ?_
    obtain ⟨r2, hc2, hf⟩ := bnd_o hf
    refine b_cV (as := []) (st := []) (by decide +kernel) k_11_278 n_WF_beginAct rfl (by decide) v_WF_beginAct (C_WF_beginAct sl sd I J hR h01 h02 hs hq hqd hc2) (Nat.le_of_ble_eq_true rfl) (by decide) rfl rfl (fun _ h => h) ?_
    show m_B G (m_rm 5 0 0) M_WF_set Q 0 0 23 [some (mR (11, 0, 0)), some (mI v1)] [] (L, r2, J, R)
    refine b_blk (pc' := 35) (ls' := [some (mR (11, 0, 0)), some (mI v1)]) (st' := [mI (r2 sl 1), mI v1, mR (3, 0, 20)]) (S' := (L, r2, J, R)) (P := ((True ∧ R 0 4 = some (3, 0, 20)) ∧ R 0 1 = some (8, 0, sl))) [(.aload_n 0, (0, 0, 0, 0, 0)), (.getfield 38, (11, 4, 3, 0, 0)), (.iload_n 1, (0, 0, 0, 0, 0)), (.aload_n 0, (0, 0, 0, 0, 0)), (.getfield 19, (11, 1, 3, 0, 0)), (.getfield 131, (8, 1, 0, 0, 0))] [some (3, 0, 20), some (8, 0, sl)] (by decide +kernel) rfl ⟨⟨trivial, (r_0_4 hR)⟩, h01⟩ ?_
    refine b_cV (as := [mI v1, mI (r2 sl 1)]) (st := []) (by decide +kernel) k_11_281 n_Lay_plant rfl (by decide) v_Lay_plant (c_Lay_plant 20 v1 (r2 sl 1) (ly_20 hR)) (Nat.le_of_ble_eq_true rfl) (by decide) rfl rfl (fun _ h => h) ?_
    show m_B _ _ _ _ _ _ 38 [some (mR (11, 0, 0)), some (mI v1)] [] (L, w_plant r2 20 v1 (r2 sl 1), J, R)
    refine b_blk (pc' := 39) (ls' := [some (mR (11, 0, 0)), some (mI v1)]) (st' := [mI 1]) (S' := (L, w_plant r2 20 v1 (r2 sl 1), J, R)) (P := True) [(.iconst 1, (0, 0, 0, 1, 0))] [] (by decide +kernel) rfl trivial ?_
    cases hf
    exact b_zret (by decide +kernel) rfl (by decide) hk
  · have hf := if_t h1 hf
    refine b_blk (pc' := 13) (ls' := [some (mR (11, 0, 0)), some (mI v1)]) (st' := [mI 2, mR (11, 0, 0)]) (S' := (L, I, J, R)) (P := True) [(.aload_n 0, (0, 0, 0, 0, 0)), (.iconst 2, (0, 0, 0, 2, 0))] [] (by decide +kernel) rfl trivial ?_
    obtain ⟨r3, hc3, hf⟩ := bnd_o hf
    refine b_cV (as := [mI 2]) (st := []) (by decide +kernel) k_11_99 n_WF_refuse rfl (by decide) v_WF_refuse (C_WF_refuse sl sd I J (2 : Int32) hR h01 h02 hs hq hqd hc3) (Nat.le_of_ble_eq_true rfl) (by decide) rfl rfl (fun _ h => h) ?_
    show m_B G (m_rm 5 0 0) M_WF_set Q 0 0 16 [some (mR (11, 0, 0)), some (mI v1)] [mI r3.1] (L, r3.2, J, R)
    refine b_blk (pc' := 18) (ls' := [some (mR (11, 0, 0)), some (mI v1)]) (st' := [mI 0]) (S' := (L, r3.2, J, R)) (P := True) [(.pop, (0, 0, 0, 0, 0)), (.iconst 0, (0, 0, 0, 0, 0))] [] (by decide +kernel) rfl trivial ?_
    cases hf
    exact b_zret (by decide +kernel) rfl (by decide) hk
theorem C_WF_set {G : MG} {L : List (Nat × Nat)} {R : Nat → Nat → Option MRef} (sl : Nat) (sd : Nat) (I : MI) (J : MJ) (v1 : Int32) (hR : RF R) (h01 : R 0 1 = some (8, 0, sl)) (h02 : R 0 2 = some (8, 0, sd)) (hs : R 24 1 = some (8, 0, sl)) (hq : sl = 3 ∨ sl = 11) (hqd : sd = 3 ∨ sd = 11) {r : Int32 × MI} (hf : F_WF_set sl sd I v1 = some r) : m_met G 5 0 0 y_WF_set M_WF_set [mR (11, 0, 0), mI v1] (L, I, J, R) (m_is (some (mI r.1)) (L, r.2, J, R)) :=
  m_met_in n_WF_set (plainFor_of_name (by decide)) (by decide) (Nat.le_of_ble_eq_true rfl) (ls := [some (mR (11, 0, 0)), some (mI v1)]) rfl (W_WF_set sl sd I J v1 hR h01 h02 hs hq hqd hf ⟨rfl, rfl⟩)
noncomputable def F_WF_cut (sl : Nat) (sd : Nat) (I : MI) (v1 : Int32) : Option (Int32 × MI) :=
  if (f_Slope_hasFence I sl v1) = (0 : Int32) then ((F_WF_refuse sl sd I (2 : Int32)).bind fun r2 => some ((0 : Int32), r2.2)) else (if (f_Lay_isCut I 20 v1) = (0 : Int32) then ((F_WF_beginAct sl sd I).bind fun r4 => some ((1 : Int32), m_up r4 20 1 ((r4 20 1) ||| ((1 : Int32) <<< (v1 &&& 31))))) else ((F_WF_refuse sl sd I (2 : Int32)).bind fun r5 => some ((0 : Int32), r5.2)))
set_option maxRecDepth 100000 in
set_option maxHeartbeats 400000 in
theorem W_WF_cut {G : MG} {Q : Option MV → MS → Prop} {L : List (Nat × Nat)} {R : Nat → Nat → Option MRef} (sl : Nat) (sd : Nat) (I : MI) (J : MJ) (v1 : Int32) (hR : RF R) (h01 : R 0 1 = some (8, 0, sl)) (h02 : R 0 2 = some (8, 0, sd)) (hs : R 24 1 = some (8, 0, sl)) (hq : sl = 3 ∨ sl = 11) (hqd : sd = 3 ∨ sd = 11) {r : Int32 × MI} (hf : F_WF_cut sl sd I v1 = some r) (hk : (fun r : Int32 × MI => Q (some (mI r.1)) (L, r.2, J, R)) r) : m_B G (m_rm 5 0 0) M_WF_cut Q 0 0 0 [some (mR (11, 0, 0)), some (mI v1)] [] (L, I, J, R) := by
  unfold F_WF_cut at hf
  refine b_blk (pc' := 5) (ls' := [some (mR (11, 0, 0)), some (mI v1)]) (st' := [mI v1, mR (8, 0, sl)]) (S' := (L, I, J, R)) (P := (True ∧ R 0 1 = some (8, 0, sl))) [(.aload_n 0, (0, 0, 0, 0, 0)), (.getfield 19, (11, 1, 3, 0, 0)), (.iload_n 1, (0, 0, 0, 0, 0))] [some (8, 0, sl)] (by decide +kernel) rfl ⟨trivial, h01⟩ ?_
  refine b_cV (as := [mI v1]) (st := []) (by decide +kernel) k_11_163 n_Slope_hasFence rfl (by decide) v_Slope_hasFence (c_Slope_hasFence sl v1 ) (Nat.le_of_ble_eq_true rfl) (by decide) rfl rfl (fun _ h => h) ?_
  show m_B _ _ _ _ _ _ 8 [some (mR (11, 0, 0)), some (mI v1)] [mI (f_Slope_hasFence I sl v1)] (L, I, J, R)
  refine b_if_eq (off := 14) (tgt := 22) (by decide +kernel) (by decide) (fun h1 => ?_) (fun h1 => ?_)
  · have hf := if_t h1 hf
    refine b_blk (pc' := 24) (ls' := [some (mR (11, 0, 0)), some (mI v1)]) (st' := [mI 2, mR (11, 0, 0)]) (S' := (L, I, J, R)) (P := True) [(.aload_n 0, (0, 0, 0, 0, 0)), (.iconst 2, (0, 0, 0, 2, 0))] [] (by decide +kernel) rfl trivial ?_
    obtain ⟨r2, hc2, hf⟩ := bnd_o hf
    refine b_cV (as := [mI 2]) (st := []) (by decide +kernel) k_11_99 n_WF_refuse rfl (by decide) v_WF_refuse (C_WF_refuse sl sd I J (2 : Int32) hR h01 h02 hs hq hqd hc2) (Nat.le_of_ble_eq_true rfl) (by decide) rfl rfl (fun _ h => h) ?_
    show m_B G (m_rm 5 0 0) M_WF_cut Q 0 0 27 [some (mR (11, 0, 0)), some (mI v1)] [mI r2.1] (L, r2.2, J, R)
    refine b_blk (pc' := 29) (ls' := [some (mR (11, 0, 0)), some (mI v1)]) (st' := [mI 0]) (S' := (L, r2.2, J, R)) (P := True) [(.pop, (0, 0, 0, 0, 0)), (.iconst 0, (0, 0, 0, 0, 0))] [] (by decide +kernel) rfl trivial ?_
    cases hf
    exact b_zret (by decide +kernel) rfl (by decide) hk
  · have hf := if_f h1 hf
    refine b_blk (pc' := 16) (ls' := [some (mR (11, 0, 0)), some (mI v1)]) (st' := [mI v1, mR (3, 0, 20)]) (S' := (L, I, J, R)) (P := (True ∧ R 0 4 = some (3, 0, 20))) [(.aload_n 0, (0, 0, 0, 0, 0)), (.getfield 38, (11, 4, 3, 0, 0)), (.iload_n 1, (0, 0, 0, 0, 0))] [some (3, 0, 20)] (by decide +kernel) rfl ⟨trivial, (r_0_4 hR)⟩ ?_
    refine b_cV (as := [mI v1]) (st := []) (by decide +kernel) k_11_193 n_Lay_isCut rfl (by decide) v_Lay_isCut (c_Lay_isCut 20 v1 ) (Nat.le_of_ble_eq_true rfl) (by decide) rfl rfl (fun _ h => h) ?_
    show m_B _ _ _ _ _ _ 19 [some (mR (11, 0, 0)), some (mI v1)] [mI (f_Lay_isCut I 20 v1)] (L, I, J, R)
    refine b_if_eq (off := 11) (tgt := 30) (by decide +kernel) (by decide) (fun h3 => ?_) (fun h3 => ?_)
    · have hf := if_t h3 hf
      refine b_blk (pc' := 31) (ls' := [some (mR (11, 0, 0)), some (mI v1)]) (st' := [mR (11, 0, 0)]) (S' := (L, I, J, R)) (P := True) [(.aload_n 0, (0, 0, 0, 0, 0))] [] (by decide +kernel) rfl trivial ?_
      obtain ⟨r4, hc4, hf⟩ := bnd_o hf
      refine b_cV (as := []) (st := []) (by decide +kernel) k_11_278 n_WF_beginAct rfl (by decide) v_WF_beginAct (C_WF_beginAct sl sd I J hR h01 h02 hs hq hqd hc4) (Nat.le_of_ble_eq_true rfl) (by decide) rfl rfl (fun _ h => h) ?_
      show m_B G (m_rm 5 0 0) M_WF_cut Q 0 0 34 [some (mR (11, 0, 0)), some (mI v1)] [] (L, r4, J, R)
      refine b_blk (pc' := 50) (ls' := [some (mR (11, 0, 0)), some (mI v1)]) (st' := [mI 1]) (S' := (L, m_up r4 20 1 ((r4 20 1) ||| ((1 : Int32) <<< (v1 &&& 31))), J, R)) (P := (True ∧ R 0 4 = some (3, 0, 20))) [(.aload_n 0, (0, 0, 0, 0, 0)), (.getfield 38, (11, 4, 3, 0, 0)), (.dup, (0, 0, 0, 0, 0)), (.getfield 150, (3, 1, 0, 0, 0)), (.iconst 1, (0, 0, 0, 1, 0)), (.iload_n 1, (0, 0, 0, 0, 0)), (.ishl, (0, 0, 0, 0, 0)), (.ior, (0, 0, 0, 0, 0)), (.putfield 150, (3, 1, 0, 0, 0)), (.iconst 1, (0, 0, 0, 1, 0))] [some (3, 0, 20)] (by decide +kernel) rfl ⟨trivial, (r_0_4 hR)⟩ ?_
      cases hf
      exact b_zret (by decide +kernel) rfl (by decide) hk
    · have hf := if_f h3 hf
      refine b_blk (pc' := 24) (ls' := [some (mR (11, 0, 0)), some (mI v1)]) (st' := [mI 2, mR (11, 0, 0)]) (S' := (L, I, J, R)) (P := True) [(.aload_n 0, (0, 0, 0, 0, 0)), (.iconst 2, (0, 0, 0, 2, 0))] [] (by decide +kernel) rfl trivial ?_
      obtain ⟨r5, hc5, hf⟩ := bnd_o hf
      refine b_cV (as := [mI 2]) (st := []) (by decide +kernel) k_11_99 n_WF_refuse rfl (by decide) v_WF_refuse (C_WF_refuse sl sd I J (2 : Int32) hR h01 h02 hs hq hqd hc5) (Nat.le_of_ble_eq_true rfl) (by decide) rfl rfl (fun _ h => h) ?_
      show m_B G (m_rm 5 0 0) M_WF_cut Q 0 0 27 [some (mR (11, 0, 0)), some (mI v1)] [mI r5.1] (L, r5.2, J, R)
      refine b_blk (pc' := 29) (ls' := [some (mR (11, 0, 0)), some (mI v1)]) (st' := [mI 0]) (S' := (L, r5.2, J, R)) (P := True) [(.pop, (0, 0, 0, 0, 0)), (.iconst 0, (0, 0, 0, 0, 0))] [] (by decide +kernel) rfl trivial ?_
      cases hf
      exact b_zret (by decide +kernel) rfl (by decide) hk
theorem C_WF_cut {G : MG} {L : List (Nat × Nat)} {R : Nat → Nat → Option MRef} (sl : Nat) (sd : Nat) (I : MI) (J : MJ) (v1 : Int32) (hR : RF R) (h01 : R 0 1 = some (8, 0, sl)) (h02 : R 0 2 = some (8, 0, sd)) (hs : R 24 1 = some (8, 0, sl)) (hq : sl = 3 ∨ sl = 11) (hqd : sd = 3 ∨ sd = 11) {r : Int32 × MI} (hf : F_WF_cut sl sd I v1 = some r) : m_met G 5 0 0 y_WF_cut M_WF_cut [mR (11, 0, 0), mI v1] (L, I, J, R) (m_is (some (mI r.1)) (L, r.2, J, R)) :=
  m_met_in n_WF_cut (plainFor_of_name (by decide)) (by decide) (Nat.le_of_ble_eq_true rfl) (ls := [some (mR (11, 0, 0)), some (mI v1)]) rfl (W_WF_cut sl sd I J v1 hR h01 h02 hs hq hqd hf ⟨rfl, rfl⟩)
noncomputable def F_WF_iron (sl : Nat) (sd : Nat) (I : MI) (v1 : Int32) (v2 : Int32) : Option (Int32 × MI) :=
  if (f_Slope_hasPlace I sl v1 v2) = (0 : Int32) then ((F_WF_refuse sl sd I (2 : Int32)).bind fun r2 => some ((r2.1 : Int32), r2.2)) else (if (f_Lay_hasPost I 20 v1 v2) = (0 : Int32) then (if (l_posts I 20 6) < (24 : Int32) then ((F_WF_beginAct sl sd I).bind fun r6 => some ((l_posts (gI_Lay_drive r6 20 v1 v2) 20 6 : Int32), (gI_Lay_drive r6 20 v1 v2))) else ((F_WF_refuse sl sd I (2 : Int32)).bind fun r7 => some ((r7.1 : Int32), r7.2))) else ((F_WF_refuse sl sd I (2 : Int32)).bind fun r4 => some ((r4.1 : Int32), r4.2)))
set_option maxRecDepth 100000 in
set_option maxHeartbeats 400000 in
theorem W_WF_iron {G : MG} {Q : Option MV → MS → Prop} {L : List (Nat × Nat)} {R : Nat → Nat → Option MRef} (sl : Nat) (sd : Nat) (I : MI) (J : MJ) (v1 : Int32) (v2 : Int32) (hR : RF R) (h01 : R 0 1 = some (8, 0, sl)) (h02 : R 0 2 = some (8, 0, sd)) (hs : R 24 1 = some (8, 0, sl)) (hq : sl = 3 ∨ sl = 11) (hqd : sd = 3 ∨ sd = 11) {r : Int32 × MI} (hf : F_WF_iron sl sd I v1 v2 = some r) (hk : (fun r : Int32 × MI => Q (some (mI r.1)) (L, r.2, J, R)) r) : m_B G (m_rm 5 0 0) M_WF_iron Q 0 0 0 [some (mR (11, 0, 0)), some (mI v1), some (mI v2)] [] (L, I, J, R) := by
  unfold F_WF_iron at hf
  refine b_blk (pc' := 6) (ls' := [some (mR (11, 0, 0)), some (mI v1), some (mI v2)]) (st' := [mI v2, mI v1, mR (8, 0, sl)]) (S' := (L, I, J, R)) (P := (True ∧ R 0 1 = some (8, 0, sl))) [(.aload_n 0, (0, 0, 0, 0, 0)), (.getfield 19, (11, 1, 3, 0, 0)), (.iload_n 1, (0, 0, 0, 0, 0)), (.iload_n 2, (0, 0, 0, 0, 0))] [some (8, 0, sl)] (by decide +kernel) rfl ⟨trivial, h01⟩ ?_
  refine b_cV (as := [mI v1, mI v2]) (st := []) (by decide +kernel) k_11_170 n_Slope_hasPlace rfl (by decide) v_Slope_hasPlace (c_Slope_hasPlace sl v1 v2 ) (Nat.le_of_ble_eq_true rfl) (by decide) rfl rfl (fun _ h => h) ?_
  show m_B _ _ _ _ _ _ 9 [some (mR (11, 0, 0)), some (mI v1), some (mI v2)] [mI (f_Slope_hasPlace I sl v1 v2)] (L, I, J, R)
  refine b_if_eq (off := 27) (tgt := 36) (by decide +kernel) (by decide) (fun h1 => ?_) (fun h1 => ?_)
  · have hf := if_t h1 hf
    refine b_blk (pc' := 38) (ls' := [some (mR (11, 0, 0)), some (mI v1), some (mI v2)]) (st' := [mI 2, mR (11, 0, 0)]) (S' := (L, I, J, R)) (P := True) [(.aload_n 0, (0, 0, 0, 0, 0)), (.iconst 2, (0, 0, 0, 2, 0))] [] (by decide +kernel) rfl trivial ?_
    obtain ⟨r2, hc2, hf⟩ := bnd_o hf
    refine b_cV (as := [mI 2]) (st := []) (by decide +kernel) k_11_99 n_WF_refuse rfl (by decide) v_WF_refuse (C_WF_refuse sl sd I J (2 : Int32) hR h01 h02 hs hq hqd hc2) (Nat.le_of_ble_eq_true rfl) (by decide) rfl rfl (fun _ h => h) ?_
    show m_B G (m_rm 5 0 0) M_WF_iron Q 0 0 41 [some (mR (11, 0, 0)), some (mI v1), some (mI v2)] [mI r2.1] (L, r2.2, J, R)
    cases hf
    exact b_iret (by decide +kernel) rfl hk
  · have hf := if_f h1 hf
    refine b_blk (pc' := 18) (ls' := [some (mR (11, 0, 0)), some (mI v1), some (mI v2)]) (st' := [mI v2, mI v1, mR (3, 0, 20)]) (S' := (L, I, J, R)) (P := (True ∧ R 0 4 = some (3, 0, 20))) [(.aload_n 0, (0, 0, 0, 0, 0)), (.getfield 38, (11, 4, 3, 0, 0)), (.iload_n 1, (0, 0, 0, 0, 0)), (.iload_n 2, (0, 0, 0, 0, 0))] [some (3, 0, 20)] (by decide +kernel) rfl ⟨trivial, (r_0_4 hR)⟩ ?_
    refine b_cV (as := [mI v1, mI v2]) (st := []) (by decide +kernel) k_11_178 n_Lay_hasPost rfl (by decide) v_Lay_hasPost (c_Lay_hasPost 20 v1 v2 (ly_20 hR)) (Nat.le_of_ble_eq_true rfl) (by decide) rfl rfl (fun _ h => h) ?_
    show m_B _ _ _ _ _ _ 21 [some (mR (11, 0, 0)), some (mI v1), some (mI v2)] [mI (f_Lay_hasPost I 20 v1 v2)] (L, I, J, R)
    refine b_if_ne (off := 15) (tgt := 36) (by decide +kernel) (by decide) (fun h3 => ?_) (fun h3 => ?_)
    · have hf := if_f h3 hf
      refine b_blk (pc' := 38) (ls' := [some (mR (11, 0, 0)), some (mI v1), some (mI v2)]) (st' := [mI 2, mR (11, 0, 0)]) (S' := (L, I, J, R)) (P := True) [(.aload_n 0, (0, 0, 0, 0, 0)), (.iconst 2, (0, 0, 0, 2, 0))] [] (by decide +kernel) rfl trivial ?_
      obtain ⟨r4, hc4, hf⟩ := bnd_o hf
      refine b_cV (as := [mI 2]) (st := []) (by decide +kernel) k_11_99 n_WF_refuse rfl (by decide) v_WF_refuse (C_WF_refuse sl sd I J (2 : Int32) hR h01 h02 hs hq hqd hc4) (Nat.le_of_ble_eq_true rfl) (by decide) rfl rfl (fun _ h => h) ?_
      show m_B G (m_rm 5 0 0) M_WF_iron Q 0 0 41 [some (mR (11, 0, 0)), some (mI v1), some (mI v2)] [mI r4.1] (L, r4.2, J, R)
      cases hf
      exact b_iret (by decide +kernel) rfl hk
    · have hf := if_t h3 hf
      refine b_blk (pc' := 28) (ls' := [some (mR (11, 0, 0)), some (mI v1), some (mI v2)]) (st' := [mR (3, 0, 20)]) (S' := (L, I, J, R)) (P := (True ∧ R 0 4 = some (3, 0, 20))) [(.aload_n 0, (0, 0, 0, 0, 0)), (.getfield 38, (11, 4, 3, 0, 0))] [some (3, 0, 20)] (by decide +kernel) rfl ⟨trivial, (r_0_4 hR)⟩ ?_
      refine b_cV (as := []) (st := []) (by decide +kernel) k_11_143 n_Lay_countPosts rfl (by decide) v_Lay_countPosts (c_Lay_countPosts 20 (ly_20 hR)) (Nat.le_of_ble_eq_true rfl) (by decide) rfl rfl (fun _ h => h) ?_
      show m_B _ _ _ _ _ _ 31 [some (mR (11, 0, 0)), some (mI v1), some (mI v2)] [mI (l_posts I 20 6)] (L, I, J, R)
      refine b_blk (pc' := 33) (ls' := [some (mR (11, 0, 0)), some (mI v1), some (mI v2)]) (st' := [mI 24, mI (l_posts I 20 6)]) (S' := (L, I, J, R)) (P := True) [(.bipush 24, (0, 0, 0, 24, 0))] [] (by decide +kernel) rfl trivial ?_
      refine b_icmp_lt (off := 9) (tgt := 42) (by decide +kernel) (by decide) (fun h5 => ?_) (fun h5 => ?_)
      · have hf := if_t h5 hf
        refine b_blk (pc' := 43) (ls' := [some (mR (11, 0, 0)), some (mI v1), some (mI v2)]) (st' := [mR (11, 0, 0)]) (S' := (L, I, J, R)) (P := True) [(.aload_n 0, (0, 0, 0, 0, 0))] [] (by decide +kernel) rfl trivial ?_
        obtain ⟨r6, hc6, hf⟩ := bnd_o hf
        refine b_cV (as := []) (st := []) (by decide +kernel) k_11_278 n_WF_beginAct rfl (by decide) v_WF_beginAct (C_WF_beginAct sl sd I J hR h01 h02 hs hq hqd hc6) (Nat.le_of_ble_eq_true rfl) (by decide) rfl rfl (fun _ h => h) ?_
        show m_B G (m_rm 5 0 0) M_WF_iron Q 0 0 46 [some (mR (11, 0, 0)), some (mI v1), some (mI v2)] [] (L, r6, J, R)
        refine b_blk (pc' := 52) (ls' := [some (mR (11, 0, 0)), some (mI v1), some (mI v2)]) (st' := [mI v2, mI v1, mR (3, 0, 20)]) (S' := (L, r6, J, R)) (P := (True ∧ R 0 4 = some (3, 0, 20))) [(.aload_n 0, (0, 0, 0, 0, 0)), (.getfield 38, (11, 4, 3, 0, 0)), (.iload_n 1, (0, 0, 0, 0, 0)), (.iload_n 2, (0, 0, 0, 0, 0))] [some (3, 0, 20)] (by decide +kernel) rfl ⟨trivial, (r_0_4 hR)⟩ ?_
        refine b_cV (as := [mI v1, mI v2]) (st := []) (by decide +kernel) k_11_284 n_Lay_drive rfl (by decide) v_Lay_drive (c_Lay_drive 20 v1 v2 (ly_20 hR)) (Nat.le_of_ble_eq_true rfl) (by decide) rfl rfl (fun _ h => h) ?_
        show m_B _ _ _ _ _ _ 55 [some (mR (11, 0, 0)), some (mI v1), some (mI v2)] [] (L, gI_Lay_drive r6 20 v1 v2, J, R)
        refine b_blk (pc' := 59) (ls' := [some (mR (11, 0, 0)), some (mI v1), some (mI v2)]) (st' := [mR (3, 0, 20)]) (S' := (L, gI_Lay_drive r6 20 v1 v2, J, R)) (P := (True ∧ R 0 4 = some (3, 0, 20))) [(.aload_n 0, (0, 0, 0, 0, 0)), (.getfield 38, (11, 4, 3, 0, 0))] [some (3, 0, 20)] (by decide +kernel) rfl ⟨trivial, (r_0_4 hR)⟩ ?_
        refine b_cV (as := []) (st := []) (by decide +kernel) k_11_143 n_Lay_countPosts rfl (by decide) v_Lay_countPosts (c_Lay_countPosts 20 (ly_20 hR)) (Nat.le_of_ble_eq_true rfl) (by decide) rfl rfl (fun _ h => h) ?_
        show m_B _ _ _ _ _ _ 62 [some (mR (11, 0, 0)), some (mI v1), some (mI v2)] [mI (l_posts (gI_Lay_drive r6 20 v1 v2) 20 6)] (L, (gI_Lay_drive r6 20 v1 v2), J, R)
        cases hf
        exact b_iret (by decide +kernel) rfl hk
      · have hf := if_f h5 hf
        refine b_blk (pc' := 38) (ls' := [some (mR (11, 0, 0)), some (mI v1), some (mI v2)]) (st' := [mI 2, mR (11, 0, 0)]) (S' := (L, I, J, R)) (P := True) [(.aload_n 0, (0, 0, 0, 0, 0)), (.iconst 2, (0, 0, 0, 2, 0))] [] (by decide +kernel) rfl trivial ?_
        obtain ⟨r7, hc7, hf⟩ := bnd_o hf
        refine b_cV (as := [mI 2]) (st := []) (by decide +kernel) k_11_99 n_WF_refuse rfl (by decide) v_WF_refuse (C_WF_refuse sl sd I J (2 : Int32) hR h01 h02 hs hq hqd hc7) (Nat.le_of_ble_eq_true rfl) (by decide) rfl rfl (fun _ h => h) ?_
        show m_B G (m_rm 5 0 0) M_WF_iron Q 0 0 41 [some (mR (11, 0, 0)), some (mI v1), some (mI v2)] [mI r7.1] (L, r7.2, J, R)
        cases hf
        exact b_iret (by decide +kernel) rfl hk
theorem C_WF_iron {G : MG} {L : List (Nat × Nat)} {R : Nat → Nat → Option MRef} (sl : Nat) (sd : Nat) (I : MI) (J : MJ) (v1 : Int32) (v2 : Int32) (hR : RF R) (h01 : R 0 1 = some (8, 0, sl)) (h02 : R 0 2 = some (8, 0, sd)) (hs : R 24 1 = some (8, 0, sl)) (hq : sl = 3 ∨ sl = 11) (hqd : sd = 3 ∨ sd = 11) {r : Int32 × MI} (hf : F_WF_iron sl sd I v1 v2 = some r) : m_met G 5 0 0 y_WF_iron M_WF_iron [mR (11, 0, 0), mI v1, mI v2] (L, I, J, R) (m_is (some (mI r.1)) (L, r.2, J, R)) :=
  m_met_in n_WF_iron (plainFor_of_name (by decide)) (by decide) (Nat.le_of_ble_eq_true rfl) (ls := [some (mR (11, 0, 0)), some (mI v1), some (mI v2)]) rfl (W_WF_iron sl sd I J v1 v2 hR h01 h02 hs hq hqd hf ⟨rfl, rfl⟩)
noncomputable def F_WF_years_39 (sl : Nat) (sd : Nat) (I : MI) (v1 : Int32) (v2 : Int32) (v3 : Int32) : Option ((Int32 × Int32 × MI) ⊕ (Int32 × MI)) :=
  if v1 ≤ v3 then (some (.inr ((v2 : Int32), I))) else (some (.inl ((v2 + (py_went (some 45) I 20 sl) : Int32), (v3 + 1 : Int32), py_year (some 45) I 20 sl)))
set_option maxRecDepth 100000 in
set_option maxHeartbeats 400000 in
theorem W_WF_years_39 {G : MG} {Q : Option MV → MS → Prop} {L : List (Nat × Nat)} {R : Nat → Nat → Option MRef} (sl : Nat) (sd : Nat) (I : MI) (J : MJ) (v1 : Int32) (v2 : Int32) (v3 : Int32) (hR : RF R) (h01 : R 0 1 = some (8, 0, sl)) (h02 : R 0 2 = some (8, 0, sd)) (hs : R 24 1 = some (8, 0, sl)) (hq : sl = 3 ∨ sl = 11) (hqd : sd = 3 ∨ sd = 11) {r : (Int32 × Int32 × MI) ⊕ (Int32 × MI)} (hf : F_WF_years_39 sl sd I v1 v2 v3 = some r) (hk : (Sum.elim (fun s : Int32 × Int32 × MI => m_B G (m_rm 7 0 0) M_WF_years Q 0 0 39 [some (mR (11, 0, 0)), some (mI v1), some (mI s.1), some (mI s.2.1)] [] (L, s.2.2, J, R)) (fun s : Int32 × MI => m_B G (m_rm 7 0 0) M_WF_years Q 0 0 68 [none, none, some (mI s.1), none] [] (L, s.2, J, R))) r) : m_B G (m_rm 7 0 0) M_WF_years Q 0 0 39 [some (mR (11, 0, 0)), some (mI v1), some (mI v2), some (mI v3)] [] (L, I, J, R) := by
  unfold F_WF_years_39 at hf
  refine b_blk (pc' := 41) (ls' := [some (mR (11, 0, 0)), some (mI v1), some (mI v2), some (mI v3)]) (st' := [mI v1, mI v3]) (S' := (L, I, J, R)) (P := True) [(.iload_n 3, (0, 0, 0, 0, 0)), (.iload_n 1, (0, 0, 0, 0, 0))] [] (by decide +kernel) rfl trivial ?_
  refine b_icmp_ge (off := 27) (tgt := 68) (by decide +kernel) (by decide) (fun h1 => ?_) (fun h1 => ?_)
  · have hf := if_t h1 hf
    refine b_frg 0 ?_
    refine b_frg 1 ?_
    refine b_frg 3 ?_
    cases hf
    exact hk
  · have hf := if_f h1 hf
    refine b_blk (pc' := 57) (ls' := [some (mR (11, 0, 0)), some (mI v1), some (mI v2), some (mI v3)]) (st' := [mR (4, 0, 45), mR (3, 0, 20), mR (10, 0, 24), mI v2]) (S' := (L, I, J, R)) (P := (((True ∧ R 0 5 = some (10, 0, 24)) ∧ R 0 4 = some (3, 0, 20)) ∧ R 0 7 = some (4, 0, 45))) [(.iload_n 2, (0, 0, 0, 0, 0)), (.aload_n 0, (0, 0, 0, 0, 0)), (.getfield 47, (11, 5, 3, 0, 0)), (.aload_n 0, (0, 0, 0, 0, 0)), (.getfield 38, (11, 4, 3, 0, 0)), (.aload_n 0, (0, 0, 0, 0, 0)), (.getfield 63, (11, 7, 3, 0, 0))] [some (10, 0, 24), some (3, 0, 20), some (4, 0, 45)] (by decide +kernel) rfl ⟨⟨⟨trivial, (r_0_5 hR)⟩, (r_0_4 hR)⟩, (r_0_7 hR)⟩ ?_
    refine b_cV (as := [mR (3, 0, 20), mR (4, 0, 45)]) (st := [mI v2]) (by decide +kernel) k_11_287 n_Walker_passYear rfl (by decide) v_Walker_passYear (c_Walker_passYear_L 20 45 sl hR hs (sl_of hR hq) (ly_20 hR) (lg_45 hR) (fp_noL hq)) (Nat.le_of_ble_eq_true rfl) (by decide) rfl rfl (fun _ h => h) ?_
    show m_B _ _ _ _ _ _ 60 [some (mR (11, 0, 0)), some (mI v1), some (mI v2), some (mI v3)] [mI (py_went (some 45) I 20 sl), mI v2] (L, py_year (some 45) I 20 sl, J, R)
    refine b_blk (pc' := 39) (ls' := [some (mR (11, 0, 0)), some (mI v1), some (mI (v2 + (py_went (some 45) I 20 sl))), some (mI (v3 + 1))]) (st' := []) (S' := (L, py_year (some 45) I 20 sl, J, R)) (P := True) [(.iadd, (0, 0, 0, 0, 0)), (.istore_n 2, (0, 0, 0, 0, 0)), (.iinc 3 1, (0, 0, 0, 1, 0)), (.goto (-26), (0, 39, 0, 0, 0))] [] (by decide +kernel) rfl trivial ?_
    cases hf
    exact hk
noncomputable def F_WF_years (sl : Nat) (sd : Nat) (I : MI) (v1 : Int32) : Option (Int32 × MI) :=
  if (f_Slope_isTold I sl) = (0 : Int32) then ((F_WF_refuse sl sd I (3 : Int32)).bind fun r2 => some ((r2.1 : Int32), r2.2)) else (if v1 < (1 : Int32) then ((F_WF_refuse sl sd I (3 : Int32)).bind fun r4 => some ((r4.1 : Int32), r4.2)) else ((F_WF_yearsAtMost sl sd I (100 : Int32)).bind fun r5 => if v1 ≤ r5 then ((F_WF_beginAct sl sd I).bind fun r7 => (wl (fun s : Int32 × Int32 × MI => F_WF_years_39 sl sd s.2.2 v1 s.1 s.2.1) ((0 : Int32), (0 : Int32), r7)).bind fun t8 => some ((t8.1 : Int32), t8.2)) else ((F_WF_refuse sl sd I (3 : Int32)).bind fun r9 => some ((r9.1 : Int32), r9.2))))
set_option maxRecDepth 100000 in
set_option maxHeartbeats 400000 in
theorem W_WF_years {G : MG} {Q : Option MV → MS → Prop} {L : List (Nat × Nat)} {R : Nat → Nat → Option MRef} (sl : Nat) (sd : Nat) (I : MI) (J : MJ) (v1 : Int32) (hR : RF R) (h01 : R 0 1 = some (8, 0, sl)) (h02 : R 0 2 = some (8, 0, sd)) (hs : R 24 1 = some (8, 0, sl)) (hq : sl = 3 ∨ sl = 11) (hqd : sd = 3 ∨ sd = 11) {r : Int32 × MI} (hf : F_WF_years sl sd I v1 = some r) (hk : (fun r : Int32 × MI => Q (some (mI r.1)) (L, r.2, J, R)) r) : m_B G (m_rm 7 0 0) M_WF_years Q 0 0 0 [some (mR (11, 0, 0)), some (mI v1), none, none] [] (L, I, J, R) := by
  unfold F_WF_years at hf
  refine b_blk (pc' := 4) (ls' := [some (mR (11, 0, 0)), some (mI v1), none, none]) (st' := [mR (8, 0, sl)]) (S' := (L, I, J, R)) (P := (True ∧ R 0 1 = some (8, 0, sl))) [(.aload_n 0, (0, 0, 0, 0, 0)), (.getfield 19, (11, 1, 3, 0, 0))] [some (8, 0, sl)] (by decide +kernel) rfl ⟨trivial, h01⟩ ?_
  refine b_cV (as := []) (st := []) (by decide +kernel) k_11_242 n_Slope_isTold rfl (by decide) v_Slope_isTold (c_Slope_isTold sl ) (Nat.le_of_ble_eq_true rfl) (by decide) rfl rfl (fun _ h => h) ?_
  show m_B _ _ _ _ _ _ 7 [some (mR (11, 0, 0)), some (mI v1), none, none] [mI (f_Slope_isTold I sl)] (L, I, J, R)
  refine b_if_eq (off := 18) (tgt := 25) (by decide +kernel) (by decide) (fun h1 => ?_) (fun h1 => ?_)
  · have hf := if_t h1 hf
    refine b_blk (pc' := 27) (ls' := [some (mR (11, 0, 0)), some (mI v1), none, none]) (st' := [mI 3, mR (11, 0, 0)]) (S' := (L, I, J, R)) (P := True) [(.aload_n 0, (0, 0, 0, 0, 0)), (.iconst 3, (0, 0, 0, 3, 0))] [] (by decide +kernel) rfl trivial ?_
    obtain ⟨r2, hc2, hf⟩ := bnd_o hf
    refine b_cV (as := [mI 3]) (st := []) (by decide +kernel) k_11_99 n_WF_refuse rfl (by decide) v_WF_refuse (C_WF_refuse sl sd I J (3 : Int32) hR h01 h02 hs hq hqd hc2) (Nat.le_of_ble_eq_true rfl) (by decide) rfl rfl (fun _ h => h) ?_
    show m_B G (m_rm 7 0 0) M_WF_years Q 0 0 30 [some (mR (11, 0, 0)), some (mI v1), none, none] [mI r2.1] (L, r2.2, J, R)
    cases hf
    exact b_iret (by decide +kernel) rfl hk
  · have hf := if_f h1 hf
    refine b_blk (pc' := 12) (ls' := [some (mR (11, 0, 0)), some (mI v1), none, none]) (st' := [mI 1, mI v1]) (S' := (L, I, J, R)) (P := True) [(.iload_n 1, (0, 0, 0, 0, 0)), (.iconst 1, (0, 0, 0, 1, 0))] [] (by decide +kernel) rfl trivial ?_
    refine b_icmp_lt (off := 13) (tgt := 25) (by decide +kernel) (by decide) (fun h3 => ?_) (fun h3 => ?_)
    · have hf := if_t h3 hf
      refine b_blk (pc' := 27) (ls' := [some (mR (11, 0, 0)), some (mI v1), none, none]) (st' := [mI 3, mR (11, 0, 0)]) (S' := (L, I, J, R)) (P := True) [(.aload_n 0, (0, 0, 0, 0, 0)), (.iconst 3, (0, 0, 0, 3, 0))] [] (by decide +kernel) rfl trivial ?_
      obtain ⟨r4, hc4, hf⟩ := bnd_o hf
      refine b_cV (as := [mI 3]) (st := []) (by decide +kernel) k_11_99 n_WF_refuse rfl (by decide) v_WF_refuse (C_WF_refuse sl sd I J (3 : Int32) hR h01 h02 hs hq hqd hc4) (Nat.le_of_ble_eq_true rfl) (by decide) rfl rfl (fun _ h => h) ?_
      show m_B G (m_rm 7 0 0) M_WF_years Q 0 0 30 [some (mR (11, 0, 0)), some (mI v1), none, none] [mI r4.1] (L, r4.2, J, R)
      cases hf
      exact b_iret (by decide +kernel) rfl hk
    · have hf := if_f h3 hf
      refine b_blk (pc' := 19) (ls' := [some (mR (11, 0, 0)), some (mI v1), none, none]) (st' := [mI 100, mR (11, 0, 0), mI v1]) (S' := (L, I, J, R)) (P := True) [(.iload_n 1, (0, 0, 0, 0, 0)), (.aload_n 0, (0, 0, 0, 0, 0)), (.bipush 100, (0, 0, 0, 100, 0))] [] (by decide +kernel) rfl trivial ?_
      obtain ⟨r5, hc5, hf⟩ := bnd_o hf
      refine b_cV (as := [mI 100]) (st := [mI v1]) (by decide +kernel) k_11_209 n_WF_yearsAtMost rfl (by decide) v_WF_yearsAtMost (C_WF_yearsAtMost sl sd I J (100 : Int32) hR h01 h02 hs hq hqd hc5) (Nat.le_of_ble_eq_true rfl) (by decide) rfl rfl (fun _ h => h) ?_
      show m_B G (m_rm 7 0 0) M_WF_years Q 0 0 22 [some (mR (11, 0, 0)), some (mI v1), none, none] [mI r5, mI v1] (L, I, J, R)
      refine b_icmp_le (off := 9) (tgt := 31) (by decide +kernel) (by decide) (fun h6 => ?_) (fun h6 => ?_)
      · have hf := if_t h6 hf
        refine b_blk (pc' := 32) (ls' := [some (mR (11, 0, 0)), some (mI v1), none, none]) (st' := [mR (11, 0, 0)]) (S' := (L, I, J, R)) (P := True) [(.aload_n 0, (0, 0, 0, 0, 0))] [] (by decide +kernel) rfl trivial ?_
        obtain ⟨r7, hc7, hf⟩ := bnd_o hf
        refine b_cV (as := []) (st := []) (by decide +kernel) k_11_278 n_WF_beginAct rfl (by decide) v_WF_beginAct (C_WF_beginAct sl sd I J hR h01 h02 hs hq hqd hc7) (Nat.le_of_ble_eq_true rfl) (by decide) rfl rfl (fun _ h => h) ?_
        show m_B G (m_rm 7 0 0) M_WF_years Q 0 0 35 [some (mR (11, 0, 0)), some (mI v1), none, none] [] (L, r7, J, R)
        refine b_blk (pc' := 39) (ls' := [some (mR (11, 0, 0)), some (mI v1), some (mI 0), some (mI 0)]) (st' := []) (S' := (L, r7, J, R)) (P := True) [(.iconst 0, (0, 0, 0, 0, 0)), (.istore_n 2, (0, 0, 0, 0, 0)), (.iconst 0, (0, 0, 0, 0, 0)), (.istore_n 3, (0, 0, 0, 0, 0))] [] (by decide +kernel) rfl trivial ?_
        obtain ⟨t8, hw, hf⟩ := bnd_o hf
        refine wl_B (A := fun s : Int32 × Int32 × MI => m_B G (m_rm 7 0 0) M_WF_years Q 0 0 39 [some (mR (11, 0, 0)), some (mI v1), some (mI s.1), some (mI s.2.1)] [] (L, s.2.2, J, R)) (B := (fun s : Int32 × MI => m_B G (m_rm 7 0 0) M_WF_years Q 0 0 68 [none, none, some (mI s.1), none] [] (L, s.2, J, R))) (fun s r hs_ hr => W_WF_years_39 sl sd s.2.2 J v1 s.1 s.2.1 hR h01 h02 hs hq hqd hs_ hr) hw ?_
        show m_B G (m_rm 7 0 0) M_WF_years Q 0 0 68 [none, none, some (mI t8.1), none] [] (L, t8.2, J, R)
        refine b_blk (pc' := 69) (ls' := [none, none, some (mI t8.1), none]) (st' := [mI t8.1]) (S' := (L, t8.2, J, R)) (P := True) [(.iload_n 2, (0, 0, 0, 0, 0))] [] (by decide +kernel) rfl trivial ?_
        cases hf
        exact b_iret (by decide +kernel) rfl hk
      · have hf := if_f h6 hf
        refine b_blk (pc' := 27) (ls' := [some (mR (11, 0, 0)), some (mI v1), none, none]) (st' := [mI 3, mR (11, 0, 0)]) (S' := (L, I, J, R)) (P := True) [(.aload_n 0, (0, 0, 0, 0, 0)), (.iconst 3, (0, 0, 0, 3, 0))] [] (by decide +kernel) rfl trivial ?_
        obtain ⟨r9, hc9, hf⟩ := bnd_o hf
        refine b_cV (as := [mI 3]) (st := []) (by decide +kernel) k_11_99 n_WF_refuse rfl (by decide) v_WF_refuse (C_WF_refuse sl sd I J (3 : Int32) hR h01 h02 hs hq hqd hc9) (Nat.le_of_ble_eq_true rfl) (by decide) rfl rfl (fun _ h => h) ?_
        show m_B G (m_rm 7 0 0) M_WF_years Q 0 0 30 [some (mR (11, 0, 0)), some (mI v1), none, none] [mI r9.1] (L, r9.2, J, R)
        cases hf
        exact b_iret (by decide +kernel) rfl hk
theorem C_WF_years {G : MG} {L : List (Nat × Nat)} {R : Nat → Nat → Option MRef} (sl : Nat) (sd : Nat) (I : MI) (J : MJ) (v1 : Int32) (hR : RF R) (h01 : R 0 1 = some (8, 0, sl)) (h02 : R 0 2 = some (8, 0, sd)) (hs : R 24 1 = some (8, 0, sl)) (hq : sl = 3 ∨ sl = 11) (hqd : sd = 3 ∨ sd = 11) {r : Int32 × MI} (hf : F_WF_years sl sd I v1 = some r) : m_met G 7 0 0 y_WF_years M_WF_years [mR (11, 0, 0), mI v1] (L, I, J, R) (m_is (some (mI r.1)) (L, r.2, J, R)) :=
  m_met_in n_WF_years (plainFor_of_name (by decide)) (by decide) (Nat.le_of_ble_eq_true rfl) (ls := [some (mR (11, 0, 0)), some (mI v1), none, none]) rfl (W_WF_years sl sd I J v1 hR h01 h02 hs hq hqd hf ⟨rfl, rfl⟩)
noncomputable def F_WF_chance_99 (sl : Nat) (sd : Nat) (I : MI) (v1 : Int32) (v2 : Int32) (v3 : Int32) : Option ((Int32 × Int32 × MI) ⊕ (Int32 × MI)) :=
  some (.inl ((v2 : Int32), (v3 + 1 : Int32), py_year (some 45) I 20 sl))
set_option maxRecDepth 100000 in
set_option maxHeartbeats 400000 in
theorem W_WF_chance_99 {G : MG} {Q : Option MV → MS → Prop} {L : List (Nat × Nat)} {R : Nat → Nat → Option MRef} (sl : Nat) (sd : Nat) (I : MI) (J : MJ) (v1 : Int32) (v2 : Int32) (v3 : Int32) (hR : RF R) (h01 : R 0 1 = some (8, 0, sl)) (h02 : R 0 2 = some (8, 0, sd)) (hs : R 24 1 = some (8, 0, sl)) (hq : sl = 3 ∨ sl = 11) (hqd : sd = 3 ∨ sd = 11) {r : (Int32 × Int32 × MI) ⊕ (Int32 × MI)} (hf : F_WF_chance_99 sl sd I v1 v2 v3 = some r) (hk : (Sum.elim (fun s : Int32 × Int32 × MI => m_B G (m_rm 7 0 0) M_WF_chance Q 0 0 39 [some (mR (11, 0, 0)), some (mI v1), some (mI s.1), some (mI s.2.1)] [] (L, s.2.2, J, R)) (fun s : Int32 × MI => m_B G (m_rm 7 0 0) M_WF_chance Q 0 0 121 [none, none, some (mI s.1), none] [] (L, s.2, J, R))) r) : m_B G (m_rm 7 0 0) M_WF_chance Q 0 0 99 [some (mR (11, 0, 0)), some (mI v1), some (mI v2), some (mI v3)] [] (L, I, J, R) := by
  unfold F_WF_chance_99 at hf
  refine b_blk (pc' := 111) (ls' := [some (mR (11, 0, 0)), some (mI v1), some (mI v2), some (mI v3)]) (st' := [mR (4, 0, 45), mR (3, 0, 20), mR (10, 0, 24)]) (S' := (L, I, J, R)) (P := (((True ∧ R 0 5 = some (10, 0, 24)) ∧ R 0 4 = some (3, 0, 20)) ∧ R 0 7 = some (4, 0, 45))) [(.aload_n 0, (0, 0, 0, 0, 0)), (.getfield 47, (11, 5, 3, 0, 0)), (.aload_n 0, (0, 0, 0, 0, 0)), (.getfield 38, (11, 4, 3, 0, 0)), (.aload_n 0, (0, 0, 0, 0, 0)), (.getfield 63, (11, 7, 3, 0, 0))] [some (10, 0, 24), some (3, 0, 20), some (4, 0, 45)] (by decide +kernel) rfl ⟨⟨⟨trivial, (r_0_5 hR)⟩, (r_0_4 hR)⟩, (r_0_7 hR)⟩ ?_
  refine b_cV (as := [mR (3, 0, 20), mR (4, 0, 45)]) (st := []) (by decide +kernel) k_11_287 n_Walker_passYear rfl (by decide) v_Walker_passYear (c_Walker_passYear_L 20 45 sl hR hs (sl_of hR hq) (ly_20 hR) (lg_45 hR) (fp_noL hq)) (Nat.le_of_ble_eq_true rfl) (by decide) rfl rfl (fun _ h => h) ?_
  show m_B _ _ _ _ _ _ 114 [some (mR (11, 0, 0)), some (mI v1), some (mI v2), some (mI v3)] [mI (py_went (some 45) I 20 sl)] (L, py_year (some 45) I 20 sl, J, R)
  refine b_blk (pc' := 39) (ls' := [some (mR (11, 0, 0)), some (mI v1), some (mI v2), some (mI (v3 + 1))]) (st' := []) (S' := (L, py_year (some 45) I 20 sl, J, R)) (P := True) [(.pop, (0, 0, 0, 0, 0)), (.iinc 3 1, (0, 0, 0, 1, 0)), (.goto (-79), (0, 39, 0, 0, 0))] [] (by decide +kernel) rfl trivial ?_
  cases hf
  exact hk
noncomputable def F_WF_chance_39 (sl : Nat) (sd : Nat) (I : MI) (v1 : Int32) (v2 : Int32) (v3 : Int32) : Option ((Int32 × Int32 × MI) ⊕ (Int32 × MI)) :=
  if v1 ≤ v3 then (some (.inr ((v2 : Int32), I))) else ((F_WF_draw sl sd I (100 : Int32)).bind fun r2 => if (r2.2 sl 4) ≤ r2.1 then (F_WF_chance_99 sl sd r2.2 v1 v2 v3) else (if (r2.2 sl 3) ≤ (0 : Int32) then (F_WF_chance_99 sl sd r2.2 v1 v2 v3) else ((F_WF_draw sl sd r2.2 (r2.2 sl 3)).bind fun r5 => (F_WF_draw sl sd r5.2 (r5.2 sl 1)).bind fun r6 => (F_WF_washOut sl sd r6.2 r5.1 r6.1).bind fun r7 => F_WF_chance_99 sl sd r7 v1 (v2 + 1) v3)))
set_option maxRecDepth 100000 in
set_option maxHeartbeats 400000 in
theorem W_WF_chance_39 {G : MG} {Q : Option MV → MS → Prop} {L : List (Nat × Nat)} {R : Nat → Nat → Option MRef} (sl : Nat) (sd : Nat) (I : MI) (J : MJ) (v1 : Int32) (v2 : Int32) (v3 : Int32) (hR : RF R) (h01 : R 0 1 = some (8, 0, sl)) (h02 : R 0 2 = some (8, 0, sd)) (hs : R 24 1 = some (8, 0, sl)) (hq : sl = 3 ∨ sl = 11) (hqd : sd = 3 ∨ sd = 11) {r : (Int32 × Int32 × MI) ⊕ (Int32 × MI)} (hf : F_WF_chance_39 sl sd I v1 v2 v3 = some r) (hk : (Sum.elim (fun s : Int32 × Int32 × MI => m_B G (m_rm 7 0 0) M_WF_chance Q 0 0 39 [some (mR (11, 0, 0)), some (mI v1), some (mI s.1), some (mI s.2.1)] [] (L, s.2.2, J, R)) (fun s : Int32 × MI => m_B G (m_rm 7 0 0) M_WF_chance Q 0 0 121 [none, none, some (mI s.1), none] [] (L, s.2, J, R))) r) : m_B G (m_rm 7 0 0) M_WF_chance Q 0 0 39 [some (mR (11, 0, 0)), some (mI v1), some (mI v2), some (mI v3)] [] (L, I, J, R) := by
  unfold F_WF_chance_39 at hf
  refine b_blk (pc' := 41) (ls' := [some (mR (11, 0, 0)), some (mI v1), some (mI v2), some (mI v3)]) (st' := [mI v1, mI v3]) (S' := (L, I, J, R)) (P := True) [(.iload_n 3, (0, 0, 0, 0, 0)), (.iload_n 1, (0, 0, 0, 0, 0))] [] (by decide +kernel) rfl trivial ?_
  refine b_icmp_ge (off := 80) (tgt := 121) (by decide +kernel) (by decide) (fun h1 => ?_) (fun h1 => ?_)
  · have hf := if_t h1 hf
    refine b_frg 0 ?_
    refine b_frg 1 ?_
    refine b_frg 3 ?_
    cases hf
    exact hk
  · have hf := if_f h1 hf
    refine b_blk (pc' := 47) (ls' := [some (mR (11, 0, 0)), some (mI v1), some (mI v2), some (mI v3)]) (st' := [mI 100, mR (11, 0, 0)]) (S' := (L, I, J, R)) (P := True) [(.aload_n 0, (0, 0, 0, 0, 0)), (.bipush 100, (0, 0, 0, 100, 0))] [] (by decide +kernel) rfl trivial ?_
    obtain ⟨r2, hc2, hf⟩ := bnd_o hf
    refine b_cV (as := [mI 100]) (st := []) (by decide +kernel) k_11_291 n_WF_draw rfl (by decide) v_WF_draw (C_WF_draw sl sd I J (100 : Int32) hR h01 h02 hs hq hqd hc2) (Nat.le_of_ble_eq_true rfl) (by decide) rfl rfl (fun _ h => h) ?_
    show m_B G (m_rm 7 0 0) M_WF_chance Q 0 0 50 [some (mR (11, 0, 0)), some (mI v1), some (mI v2), some (mI v3)] [mI r2.1] (L, r2.2, J, R)
    refine b_blk (pc' := 57) (ls' := [some (mR (11, 0, 0)), some (mI v1), some (mI v2), some (mI v3)]) (st' := [mI (r2.2 sl 4), mI r2.1]) (S' := (L, r2.2, J, R)) (P := (True ∧ R 0 1 = some (8, 0, sl))) [(.aload_n 0, (0, 0, 0, 0, 0)), (.getfield 19, (11, 1, 3, 0, 0)), (.getfield 294, (8, 4, 0, 0, 0))] [some (8, 0, sl)] (by decide +kernel) rfl ⟨trivial, h01⟩ ?_
    refine b_icmp_ge (off := 42) (tgt := 99) (by decide +kernel) (by decide) (fun h3 => ?_) (fun h3 => ?_)
    · have hf := if_t h3 hf
      exact m_B_cg rfl rfl rfl (W_WF_chance_99 sl sd r2.2 J v1 v2 v3 hR h01 h02 hs hq hqd hf hk)
    · have hf := if_f h3 hf
      refine b_blk (pc' := 67) (ls' := [some (mR (11, 0, 0)), some (mI v1), some (mI v2), some (mI v3)]) (st' := [mI (r2.2 sl 3)]) (S' := (L, r2.2, J, R)) (P := (True ∧ R 0 1 = some (8, 0, sl))) [(.aload_n 0, (0, 0, 0, 0, 0)), (.getfield 19, (11, 1, 3, 0, 0)), (.getfield 137, (8, 3, 0, 0, 0))] [some (8, 0, sl)] (by decide +kernel) rfl ⟨trivial, h01⟩ ?_
      refine b_if_le (off := 32) (tgt := 99) (by decide +kernel) (by decide) (fun h4 => ?_) (fun h4 => ?_)
      · have hf := if_t h4 hf
        exact m_B_cg rfl rfl rfl (W_WF_chance_99 sl sd r2.2 J v1 v2 v3 hR h01 h02 hs hq hqd hf hk)
      · have hf := if_f h4 hf
        refine b_blk (pc' := 82) (ls' := [some (mR (11, 0, 0)), some (mI v1), some (mI (v2 + 1)), some (mI v3)]) (st' := [mI (r2.2 sl 3), mR (11, 0, 0), mR (11, 0, 0)]) (S' := (L, r2.2, J, R)) (P := (True ∧ R 0 1 = some (8, 0, sl))) [(.iinc 2 1, (0, 0, 0, 1, 0)), (.aload_n 0, (0, 0, 0, 0, 0)), (.aload_n 0, (0, 0, 0, 0, 0)), (.aload_n 0, (0, 0, 0, 0, 0)), (.getfield 19, (11, 1, 3, 0, 0)), (.getfield 137, (8, 3, 0, 0, 0))] [some (8, 0, sl)] (by decide +kernel) rfl ⟨trivial, h01⟩ ?_
        obtain ⟨r5, hc5, hf⟩ := bnd_o hf
        refine b_cV (as := [mI (r2.2 sl 3)]) (st := [mR (11, 0, 0)]) (by decide +kernel) k_11_291 n_WF_draw rfl (by decide) v_WF_draw (C_WF_draw sl sd r2.2 J (r2.2 sl 3) hR h01 h02 hs hq hqd hc5) (Nat.le_of_ble_eq_true rfl) (by decide) rfl rfl (fun _ h => h) ?_
        show m_B G (m_rm 7 0 0) M_WF_chance Q 0 0 85 [some (mR (11, 0, 0)), some (mI v1), some (mI (v2 + 1)), some (mI v3)] [mI r5.1, mR (11, 0, 0)] (L, r5.2, J, R)
        refine b_blk (pc' := 93) (ls' := [some (mR (11, 0, 0)), some (mI v1), some (mI (v2 + 1)), some (mI v3)]) (st' := [mI (r5.2 sl 1), mR (11, 0, 0), mI r5.1, mR (11, 0, 0)]) (S' := (L, r5.2, J, R)) (P := (True ∧ R 0 1 = some (8, 0, sl))) [(.aload_n 0, (0, 0, 0, 0, 0)), (.aload_n 0, (0, 0, 0, 0, 0)), (.getfield 19, (11, 1, 3, 0, 0)), (.getfield 131, (8, 1, 0, 0, 0))] [some (8, 0, sl)] (by decide +kernel) rfl ⟨trivial, h01⟩ ?_
        obtain ⟨r6, hc6, hf⟩ := bnd_o hf
        refine b_cV (as := [mI (r5.2 sl 1)]) (st := [mI r5.1, mR (11, 0, 0)]) (by decide +kernel) k_11_291 n_WF_draw rfl (by decide) v_WF_draw (C_WF_draw sl sd r5.2 J (r5.2 sl 1) hR h01 h02 hs hq hqd hc6) (Nat.le_of_ble_eq_true rfl) (by decide) rfl rfl (fun _ h => h) ?_
        show m_B G (m_rm 7 0 0) M_WF_chance Q 0 0 96 [some (mR (11, 0, 0)), some (mI v1), some (mI (v2 + 1)), some (mI v3)] [mI r6.1, mI r5.1, mR (11, 0, 0)] (L, r6.2, J, R)
        obtain ⟨r7, hc7, hf⟩ := bnd_o hf
        refine b_cV (as := [mI r5.1, mI r6.1]) (st := []) (by decide +kernel) k_11_297 n_WF_washOut rfl (by decide) v_WF_washOut (C_WF_washOut sl sd r6.2 J r5.1 r6.1 hR h01 h02 hs hq hqd hc7) (Nat.le_of_ble_eq_true rfl) (by decide) rfl rfl (fun _ h => h) ?_
        show m_B G (m_rm 7 0 0) M_WF_chance Q 0 0 99 [some (mR (11, 0, 0)), some (mI v1), some (mI (v2 + 1)), some (mI v3)] [] (L, r7, J, R)
        exact m_B_cg rfl rfl rfl (W_WF_chance_99 sl sd r7 J v1 (v2 + 1) v3 hR h01 h02 hs hq hqd hf hk)
noncomputable def F_WF_chance (sl : Nat) (sd : Nat) (I : MI) (v1 : Int32) : Option (Int32 × MI) :=
  if (f_Slope_isTold I sl) = (0 : Int32) then ((F_WF_refuse sl sd I (3 : Int32)).bind fun r2 => some ((r2.1 : Int32), r2.2)) else (if v1 < (1 : Int32) then ((F_WF_refuse sl sd I (3 : Int32)).bind fun r4 => some ((r4.1 : Int32), r4.2)) else ((F_WF_yearsAtMost sl sd I (100 : Int32)).bind fun r5 => if v1 ≤ r5 then ((F_WF_beginAct sl sd I).bind fun r7 => (wl (fun s : Int32 × Int32 × MI => F_WF_chance_39 sl sd s.2.2 v1 s.1 s.2.1) ((0 : Int32), (0 : Int32), r7)).bind fun t8 => some ((t8.1 : Int32), t8.2)) else ((F_WF_refuse sl sd I (3 : Int32)).bind fun r9 => some ((r9.1 : Int32), r9.2))))
set_option maxRecDepth 100000 in
set_option maxHeartbeats 400000 in
theorem W_WF_chance {G : MG} {Q : Option MV → MS → Prop} {L : List (Nat × Nat)} {R : Nat → Nat → Option MRef} (sl : Nat) (sd : Nat) (I : MI) (J : MJ) (v1 : Int32) (hR : RF R) (h01 : R 0 1 = some (8, 0, sl)) (h02 : R 0 2 = some (8, 0, sd)) (hs : R 24 1 = some (8, 0, sl)) (hq : sl = 3 ∨ sl = 11) (hqd : sd = 3 ∨ sd = 11) {r : Int32 × MI} (hf : F_WF_chance sl sd I v1 = some r) (hk : (fun r : Int32 × MI => Q (some (mI r.1)) (L, r.2, J, R)) r) : m_B G (m_rm 7 0 0) M_WF_chance Q 0 0 0 [some (mR (11, 0, 0)), some (mI v1), none, none] [] (L, I, J, R) := by
  unfold F_WF_chance at hf
  refine b_blk (pc' := 4) (ls' := [some (mR (11, 0, 0)), some (mI v1), none, none]) (st' := [mR (8, 0, sl)]) (S' := (L, I, J, R)) (P := (True ∧ R 0 1 = some (8, 0, sl))) [(.aload_n 0, (0, 0, 0, 0, 0)), (.getfield 19, (11, 1, 3, 0, 0))] [some (8, 0, sl)] (by decide +kernel) rfl ⟨trivial, h01⟩ ?_
  refine b_cV (as := []) (st := []) (by decide +kernel) k_11_242 n_Slope_isTold rfl (by decide) v_Slope_isTold (c_Slope_isTold sl ) (Nat.le_of_ble_eq_true rfl) (by decide) rfl rfl (fun _ h => h) ?_
  show m_B _ _ _ _ _ _ 7 [some (mR (11, 0, 0)), some (mI v1), none, none] [mI (f_Slope_isTold I sl)] (L, I, J, R)
  refine b_if_eq (off := 18) (tgt := 25) (by decide +kernel) (by decide) (fun h1 => ?_) (fun h1 => ?_)
  · have hf := if_t h1 hf
    refine b_blk (pc' := 27) (ls' := [some (mR (11, 0, 0)), some (mI v1), none, none]) (st' := [mI 3, mR (11, 0, 0)]) (S' := (L, I, J, R)) (P := True) [(.aload_n 0, (0, 0, 0, 0, 0)), (.iconst 3, (0, 0, 0, 3, 0))] [] (by decide +kernel) rfl trivial ?_
    obtain ⟨r2, hc2, hf⟩ := bnd_o hf
    refine b_cV (as := [mI 3]) (st := []) (by decide +kernel) k_11_99 n_WF_refuse rfl (by decide) v_WF_refuse (C_WF_refuse sl sd I J (3 : Int32) hR h01 h02 hs hq hqd hc2) (Nat.le_of_ble_eq_true rfl) (by decide) rfl rfl (fun _ h => h) ?_
    show m_B G (m_rm 7 0 0) M_WF_chance Q 0 0 30 [some (mR (11, 0, 0)), some (mI v1), none, none] [mI r2.1] (L, r2.2, J, R)
    cases hf
    exact b_iret (by decide +kernel) rfl hk
  · have hf := if_f h1 hf
    refine b_blk (pc' := 12) (ls' := [some (mR (11, 0, 0)), some (mI v1), none, none]) (st' := [mI 1, mI v1]) (S' := (L, I, J, R)) (P := True) [(.iload_n 1, (0, 0, 0, 0, 0)), (.iconst 1, (0, 0, 0, 1, 0))] [] (by decide +kernel) rfl trivial ?_
    refine b_icmp_lt (off := 13) (tgt := 25) (by decide +kernel) (by decide) (fun h3 => ?_) (fun h3 => ?_)
    · have hf := if_t h3 hf
      refine b_blk (pc' := 27) (ls' := [some (mR (11, 0, 0)), some (mI v1), none, none]) (st' := [mI 3, mR (11, 0, 0)]) (S' := (L, I, J, R)) (P := True) [(.aload_n 0, (0, 0, 0, 0, 0)), (.iconst 3, (0, 0, 0, 3, 0))] [] (by decide +kernel) rfl trivial ?_
      obtain ⟨r4, hc4, hf⟩ := bnd_o hf
      refine b_cV (as := [mI 3]) (st := []) (by decide +kernel) k_11_99 n_WF_refuse rfl (by decide) v_WF_refuse (C_WF_refuse sl sd I J (3 : Int32) hR h01 h02 hs hq hqd hc4) (Nat.le_of_ble_eq_true rfl) (by decide) rfl rfl (fun _ h => h) ?_
      show m_B G (m_rm 7 0 0) M_WF_chance Q 0 0 30 [some (mR (11, 0, 0)), some (mI v1), none, none] [mI r4.1] (L, r4.2, J, R)
      cases hf
      exact b_iret (by decide +kernel) rfl hk
    · have hf := if_f h3 hf
      refine b_blk (pc' := 19) (ls' := [some (mR (11, 0, 0)), some (mI v1), none, none]) (st' := [mI 100, mR (11, 0, 0), mI v1]) (S' := (L, I, J, R)) (P := True) [(.iload_n 1, (0, 0, 0, 0, 0)), (.aload_n 0, (0, 0, 0, 0, 0)), (.bipush 100, (0, 0, 0, 100, 0))] [] (by decide +kernel) rfl trivial ?_
      obtain ⟨r5, hc5, hf⟩ := bnd_o hf
      refine b_cV (as := [mI 100]) (st := [mI v1]) (by decide +kernel) k_11_209 n_WF_yearsAtMost rfl (by decide) v_WF_yearsAtMost (C_WF_yearsAtMost sl sd I J (100 : Int32) hR h01 h02 hs hq hqd hc5) (Nat.le_of_ble_eq_true rfl) (by decide) rfl rfl (fun _ h => h) ?_
      show m_B G (m_rm 7 0 0) M_WF_chance Q 0 0 22 [some (mR (11, 0, 0)), some (mI v1), none, none] [mI r5, mI v1] (L, I, J, R)
      refine b_icmp_le (off := 9) (tgt := 31) (by decide +kernel) (by decide) (fun h6 => ?_) (fun h6 => ?_)
      · have hf := if_t h6 hf
        refine b_blk (pc' := 32) (ls' := [some (mR (11, 0, 0)), some (mI v1), none, none]) (st' := [mR (11, 0, 0)]) (S' := (L, I, J, R)) (P := True) [(.aload_n 0, (0, 0, 0, 0, 0))] [] (by decide +kernel) rfl trivial ?_
        obtain ⟨r7, hc7, hf⟩ := bnd_o hf
        refine b_cV (as := []) (st := []) (by decide +kernel) k_11_278 n_WF_beginAct rfl (by decide) v_WF_beginAct (C_WF_beginAct sl sd I J hR h01 h02 hs hq hqd hc7) (Nat.le_of_ble_eq_true rfl) (by decide) rfl rfl (fun _ h => h) ?_
        show m_B G (m_rm 7 0 0) M_WF_chance Q 0 0 35 [some (mR (11, 0, 0)), some (mI v1), none, none] [] (L, r7, J, R)
        refine b_blk (pc' := 39) (ls' := [some (mR (11, 0, 0)), some (mI v1), some (mI 0), some (mI 0)]) (st' := []) (S' := (L, r7, J, R)) (P := True) [(.iconst 0, (0, 0, 0, 0, 0)), (.istore_n 2, (0, 0, 0, 0, 0)), (.iconst 0, (0, 0, 0, 0, 0)), (.istore_n 3, (0, 0, 0, 0, 0))] [] (by decide +kernel) rfl trivial ?_
        obtain ⟨t8, hw, hf⟩ := bnd_o hf
        refine wl_B (A := fun s : Int32 × Int32 × MI => m_B G (m_rm 7 0 0) M_WF_chance Q 0 0 39 [some (mR (11, 0, 0)), some (mI v1), some (mI s.1), some (mI s.2.1)] [] (L, s.2.2, J, R)) (B := (fun s : Int32 × MI => m_B G (m_rm 7 0 0) M_WF_chance Q 0 0 121 [none, none, some (mI s.1), none] [] (L, s.2, J, R))) (fun s r hs_ hr => W_WF_chance_39 sl sd s.2.2 J v1 s.1 s.2.1 hR h01 h02 hs hq hqd hs_ hr) hw ?_
        show m_B G (m_rm 7 0 0) M_WF_chance Q 0 0 121 [none, none, some (mI t8.1), none] [] (L, t8.2, J, R)
        refine b_blk (pc' := 122) (ls' := [none, none, some (mI t8.1), none]) (st' := [mI t8.1]) (S' := (L, t8.2, J, R)) (P := True) [(.iload_n 2, (0, 0, 0, 0, 0))] [] (by decide +kernel) rfl trivial ?_
        cases hf
        exact b_iret (by decide +kernel) rfl hk
      · have hf := if_f h6 hf
        refine b_blk (pc' := 27) (ls' := [some (mR (11, 0, 0)), some (mI v1), none, none]) (st' := [mI 3, mR (11, 0, 0)]) (S' := (L, I, J, R)) (P := True) [(.aload_n 0, (0, 0, 0, 0, 0)), (.iconst 3, (0, 0, 0, 3, 0))] [] (by decide +kernel) rfl trivial ?_
        obtain ⟨r9, hc9, hf⟩ := bnd_o hf
        refine b_cV (as := [mI 3]) (st := []) (by decide +kernel) k_11_99 n_WF_refuse rfl (by decide) v_WF_refuse (C_WF_refuse sl sd I J (3 : Int32) hR h01 h02 hs hq hqd hc9) (Nat.le_of_ble_eq_true rfl) (by decide) rfl rfl (fun _ h => h) ?_
        show m_B G (m_rm 7 0 0) M_WF_chance Q 0 0 30 [some (mR (11, 0, 0)), some (mI v1), none, none] [mI r9.1] (L, r9.2, J, R)
        cases hf
        exact b_iret (by decide +kernel) rfl hk
theorem C_WF_chance {G : MG} {L : List (Nat × Nat)} {R : Nat → Nat → Option MRef} (sl : Nat) (sd : Nat) (I : MI) (J : MJ) (v1 : Int32) (hR : RF R) (h01 : R 0 1 = some (8, 0, sl)) (h02 : R 0 2 = some (8, 0, sd)) (hs : R 24 1 = some (8, 0, sl)) (hq : sl = 3 ∨ sl = 11) (hqd : sd = 3 ∨ sd = 11) {r : Int32 × MI} (hf : F_WF_chance sl sd I v1 = some r) : m_met G 7 0 0 y_WF_chance M_WF_chance [mR (11, 0, 0), mI v1] (L, I, J, R) (m_is (some (mI r.1)) (L, r.2, J, R)) :=
  m_met_in n_WF_chance (plainFor_of_name (by decide)) (by decide) (Nat.le_of_ble_eq_true rfl) (ls := [some (mR (11, 0, 0)), some (mI v1), none, none]) rfl (W_WF_chance sl sd I J v1 hR h01 h02 hs hq hqd hf ⟨rfl, rfl⟩)
noncomputable def F_WF_undo (sl : Nat) (sd : Nat) (I : MI) : Option (Int32 × MI) :=
  (F_History_giveBack I).bind fun r1 => if r1.1 = (0 : Int32) then ((F_WF_refuse sl sd r1.2 (4 : Int32)).bind fun r3 => some ((0 : Int32), r3.2)) else (some ((1 : Int32), m_up r1.2 30 7 (-1 : Int32)))
set_option maxRecDepth 100000 in
set_option maxHeartbeats 400000 in
theorem W_WF_undo {G : MG} {Q : Option MV → MS → Prop} {L : List (Nat × Nat)} {R : Nat → Nat → Option MRef} (sl : Nat) (sd : Nat) (I : MI) (J : MJ) (hR : RF R) (h01 : R 0 1 = some (8, 0, sl)) (h02 : R 0 2 = some (8, 0, sd)) (hs : R 24 1 = some (8, 0, sl)) (hq : sl = 3 ∨ sl = 11) (hqd : sd = 3 ∨ sd = 11) {r : Int32 × MI} (hf : F_WF_undo sl sd I = some r) (hk : (fun r : Int32 × MI => Q (some (mI r.1)) (L, r.2, J, R)) r) : m_B G (m_rm 4 0 0) M_WF_undo Q 0 0 0 [some (mR (11, 0, 0))] [] (L, I, J, R) := by
  unfold F_WF_undo at hf
  refine b_blk (pc' := 12) (ls' := [some (mR (11, 0, 0))]) (st' := [mR (4, 0, 45), mR (3, 0, 20), mR (1, 0, 47)]) (S' := (L, I, J, R)) (P := (((True ∧ R 0 8 = some (1, 0, 47)) ∧ R 0 4 = some (3, 0, 20)) ∧ R 0 7 = some (4, 0, 45))) [(.aload_n 0, (0, 0, 0, 0, 0)), (.getfield 70, (11, 8, 3, 0, 0)), (.aload_n 0, (0, 0, 0, 0, 0)), (.getfield 38, (11, 4, 3, 0, 0)), (.aload_n 0, (0, 0, 0, 0, 0)), (.getfield 63, (11, 7, 3, 0, 0))] [some (1, 0, 47), some (3, 0, 20), some (4, 0, 45)] (by decide +kernel) rfl ⟨⟨⟨trivial, (r_0_8 hR)⟩, (r_0_4 hR)⟩, (r_0_7 hR)⟩ ?_
  obtain ⟨r1, hc1, hf⟩ := bnd_o hf
  refine b_cV (as := [mR (3, 0, 20), mR (4, 0, 45)]) (st := []) (by decide +kernel) k_11_300 n_History_giveBack rfl (by decide) v_History_giveBack (C_History_giveBack I J hR hc1) (Nat.le_of_ble_eq_true rfl) (by decide) rfl rfl (fun _ h => h) ?_
  show m_B G (m_rm 4 0 0) M_WF_undo Q 0 0 15 [some (mR (11, 0, 0))] [mI r1.1] (L, r1.2, J, R)
  refine b_if_ne (off := 11) (tgt := 26) (by decide +kernel) (by decide) (fun h2 => ?_) (fun h2 => ?_)
  · have hf := if_f h2 hf
    refine b_blk (pc' := 30) (ls' := [some (mR (11, 0, 0))]) (st' := [mR (0, 0, 30)]) (S' := (L, r1.2, J, R)) (P := (True ∧ R 0 6 = some (0, 0, 30))) [(.aload_n 0, (0, 0, 0, 0, 0)), (.getfield 56, (11, 6, 3, 0, 0))] [some (0, 0, 30)] (by decide +kernel) rfl ⟨trivial, (r_0_6 hR)⟩ ?_
    refine b_cV (as := []) (st := []) (by decide +kernel) k_11_304 n_Foresight_forget rfl (by decide) v_Foresight_forget (c_Foresight_forget  ) (Nat.le_of_ble_eq_true rfl) (by decide) rfl rfl (fun _ h => h) ?_
    show m_B _ _ _ _ _ _ 33 [some (mR (11, 0, 0))] [] (L, m_up r1.2 30 7 (-1 : Int32), J, R)
    refine b_blk (pc' := 34) (ls' := [some (mR (11, 0, 0))]) (st' := [mI 1]) (S' := (L, m_up r1.2 30 7 (-1 : Int32), J, R)) (P := True) [(.iconst 1, (0, 0, 0, 1, 0))] [] (by decide +kernel) rfl trivial ?_
    cases hf
    exact b_zret (by decide +kernel) rfl (by decide) hk
  · have hf := if_t h2 hf
    refine b_blk (pc' := 20) (ls' := [some (mR (11, 0, 0))]) (st' := [mI 4, mR (11, 0, 0)]) (S' := (L, r1.2, J, R)) (P := True) [(.aload_n 0, (0, 0, 0, 0, 0)), (.iconst 4, (0, 0, 0, 4, 0))] [] (by decide +kernel) rfl trivial ?_
    obtain ⟨r3, hc3, hf⟩ := bnd_o hf
    refine b_cV (as := [mI 4]) (st := []) (by decide +kernel) k_11_99 n_WF_refuse rfl (by decide) v_WF_refuse (C_WF_refuse sl sd r1.2 J (4 : Int32) hR h01 h02 hs hq hqd hc3) (Nat.le_of_ble_eq_true rfl) (by decide) rfl rfl (fun _ h => h) ?_
    show m_B G (m_rm 4 0 0) M_WF_undo Q 0 0 23 [some (mR (11, 0, 0))] [mI r3.1] (L, r3.2, J, R)
    refine b_blk (pc' := 25) (ls' := [some (mR (11, 0, 0))]) (st' := [mI 0]) (S' := (L, r3.2, J, R)) (P := True) [(.pop, (0, 0, 0, 0, 0)), (.iconst 0, (0, 0, 0, 0, 0))] [] (by decide +kernel) rfl trivial ?_
    cases hf
    exact b_zret (by decide +kernel) rfl (by decide) hk
theorem C_WF_undo {G : MG} {L : List (Nat × Nat)} {R : Nat → Nat → Option MRef} (sl : Nat) (sd : Nat) (I : MI) (J : MJ) (hR : RF R) (h01 : R 0 1 = some (8, 0, sl)) (h02 : R 0 2 = some (8, 0, sd)) (hs : R 24 1 = some (8, 0, sl)) (hq : sl = 3 ∨ sl = 11) (hqd : sd = 3 ∨ sd = 11) {r : Int32 × MI} (hf : F_WF_undo sl sd I = some r) : m_met G 4 0 0 y_WF_undo M_WF_undo [mR (11, 0, 0)] (L, I, J, R) (m_is (some (mI r.1)) (L, r.2, J, R)) :=
  m_met_in n_WF_undo (plainFor_of_name (by decide)) (by decide) (Nat.le_of_ble_eq_true rfl) (ls := [some (mR (11, 0, 0))]) rfl (W_WF_undo sl sd I J hR h01 h02 hs hq hqd hf ⟨rfl, rfl⟩)
noncomputable def F_WF_seed (sl : Nat) (sd : Nat) (I : MI) (v1 : Int32) : Option (Int32 × MI) :=
  if (0 : Int32) ≤ v1 then (some ((1 : Int32), m_up I 0 12 v1)) else ((F_WF_refuse sl sd I (5 : Int32)).bind fun r2 => some ((0 : Int32), r2.2))
set_option maxRecDepth 100000 in
set_option maxHeartbeats 400000 in
theorem W_WF_seed {G : MG} {Q : Option MV → MS → Prop} {L : List (Nat × Nat)} {R : Nat → Nat → Option MRef} (sl : Nat) (sd : Nat) (I : MI) (J : MJ) (v1 : Int32) (hR : RF R) (h01 : R 0 1 = some (8, 0, sl)) (h02 : R 0 2 = some (8, 0, sd)) (hs : R 24 1 = some (8, 0, sl)) (hq : sl = 3 ∨ sl = 11) (hqd : sd = 3 ∨ sd = 11) {r : Int32 × MI} (hf : F_WF_seed sl sd I v1 = some r) (hk : (fun r : Int32 × MI => Q (some (mI r.1)) (L, r.2, J, R)) r) : m_B G (m_rm 2 0 0) M_WF_seed Q 0 0 0 [some (mR (11, 0, 0)), some (mI v1)] [] (L, I, J, R) := by
  unfold F_WF_seed at hf
  refine b_blk (pc' := 1) (ls' := [some (mR (11, 0, 0)), some (mI v1)]) (st' := [mI v1]) (S' := (L, I, J, R)) (P := True) [(.iload_n 1, (0, 0, 0, 0, 0))] [] (by decide +kernel) rfl trivial ?_
  refine b_if_ge (off := 11) (tgt := 12) (by decide +kernel) (by decide) (fun h1 => ?_) (fun h1 => ?_)
  · have hf := if_t h1 hf
    refine b_blk (pc' := 18) (ls' := [some (mR (11, 0, 0)), some (mI v1)]) (st' := [mI 1]) (S' := (L, m_up I 0 12 v1, J, R)) (P := True) [(.aload_n 0, (0, 0, 0, 0, 0)), (.iload_n 1, (0, 0, 0, 0, 0)), (.putfield 92, (11, 12, 0, 0, 0)), (.iconst 1, (0, 0, 0, 1, 0))] [] (by decide +kernel) rfl trivial ?_
    cases hf
    exact b_zret (by decide +kernel) rfl (by decide) hk
  · have hf := if_f h1 hf
    refine b_blk (pc' := 6) (ls' := [some (mR (11, 0, 0)), some (mI v1)]) (st' := [mI 5, mR (11, 0, 0)]) (S' := (L, I, J, R)) (P := True) [(.aload_n 0, (0, 0, 0, 0, 0)), (.iconst 5, (0, 0, 0, 5, 0))] [] (by decide +kernel) rfl trivial ?_
    obtain ⟨r2, hc2, hf⟩ := bnd_o hf
    refine b_cV (as := [mI 5]) (st := []) (by decide +kernel) k_11_99 n_WF_refuse rfl (by decide) v_WF_refuse (C_WF_refuse sl sd I J (5 : Int32) hR h01 h02 hs hq hqd hc2) (Nat.le_of_ble_eq_true rfl) (by decide) rfl rfl (fun _ h => h) ?_
    show m_B G (m_rm 2 0 0) M_WF_seed Q 0 0 9 [some (mR (11, 0, 0)), some (mI v1)] [mI r2.1] (L, r2.2, J, R)
    refine b_blk (pc' := 11) (ls' := [some (mR (11, 0, 0)), some (mI v1)]) (st' := [mI 0]) (S' := (L, r2.2, J, R)) (P := True) [(.pop, (0, 0, 0, 0, 0)), (.iconst 0, (0, 0, 0, 0, 0))] [] (by decide +kernel) rfl trivial ?_
    cases hf
    exact b_zret (by decide +kernel) rfl (by decide) hk
theorem C_WF_seed {G : MG} {L : List (Nat × Nat)} {R : Nat → Nat → Option MRef} (sl : Nat) (sd : Nat) (I : MI) (J : MJ) (v1 : Int32) (hR : RF R) (h01 : R 0 1 = some (8, 0, sl)) (h02 : R 0 2 = some (8, 0, sd)) (hs : R 24 1 = some (8, 0, sl)) (hq : sl = 3 ∨ sl = 11) (hqd : sd = 3 ∨ sd = 11) {r : Int32 × MI} (hf : F_WF_seed sl sd I v1 = some r) : m_met G 2 0 0 y_WF_seed M_WF_seed [mR (11, 0, 0), mI v1] (L, I, J, R) (m_is (some (mI r.1)) (L, r.2, J, R)) :=
  m_met_in n_WF_seed (plainFor_of_name (by decide)) (by decide) (Nat.le_of_ble_eq_true rfl) (ls := [some (mR (11, 0, 0)), some (mI v1)]) rfl (W_WF_seed sl sd I J v1 hR h01 h02 hs hq hqd hf ⟨rfl, rfl⟩)
noncomputable def F_WF_ask (sl : Nat) (sd : Nat) (R : MRR) (I : MI) : Option (Int64 × MI × MRR) :=
  if (f_Slope_isTold I sl) = (0 : Int32) then (some (((-1000000000000000) : Int64), m_up I 1 1 (0 : Int32), R)) else ((F_Reader_readQuestion sd I).bind fun r2 => if r2.1 = (0 : Int32) then (some (((-1000000000000000) : Int64), m_up r2.2 1 1 (0 : Int32), m_up R 19 4 (some (8, 0, sd)))) else ((F_WF_answer sl sd (m_up r2.2 1 1 (0 : Int32)) (r2.2 19 3)).bind fun r4 => some ((r4.1 : Int64), r4.2, m_up R 19 4 (some (8, 0, sd)))))
set_option maxRecDepth 100000 in
set_option maxHeartbeats 400000 in
theorem W_WF_ask {G : MG} {Q : Option MV → MS → Prop} {L : List (Nat × Nat)} (sl : Nat) (sd : Nat) (R : MRR) (I : MI) (J : MJ) (hR : RF R) (h01 : R 0 1 = some (8, 0, sl)) (h02 : R 0 2 = some (8, 0, sd)) (hs : R 24 1 = some (8, 0, sl)) (hq : sl = 3 ∨ sl = 11) (hqd : sd = 3 ∨ sd = 11) {r : Int64 × MI × MRR} (hf : F_WF_ask sl sd R I = some r) (hk : (fun r : Int64 × MI × MRR => Q (some (mJ r.1)) (L, r.2.1, J, r.2.2)) r) : m_B G (m_rm 70 0 0) M_WF_ask Q 0 0 0 [some (mR (11, 0, 0)), none] [] (L, I, J, R) := by
  unfold F_WF_ask at hf
  refine b_blk (pc' := 4) (ls' := [some (mR (11, 0, 0)), none]) (st' := [mR (8, 0, sl)]) (S' := (L, I, J, R)) (P := (True ∧ R 0 1 = some (8, 0, sl))) [(.aload_n 0, (0, 0, 0, 0, 0)), (.getfield 19, (11, 1, 3, 0, 0))] [some (8, 0, sl)] (by decide +kernel) rfl ⟨trivial, h01⟩ ?_
  refine b_cV (as := []) (st := []) (by decide +kernel) k_11_242 n_Slope_isTold rfl (by decide) v_Slope_isTold (c_Slope_isTold sl ) (Nat.le_of_ble_eq_true rfl) (by decide) rfl rfl (fun _ h => h) ?_
  show m_B _ _ _ _ _ _ 7 [some (mR (11, 0, 0)), none] [mI (f_Slope_isTold I sl)] (L, I, J, R)
  refine b_if_ne (off := 15) (tgt := 22) (by decide +kernel) (by decide) (fun h1 => ?_) (fun h1 => ?_)
  · have hf := if_f h1 hf
    refine b_blk (pc' := 30) (ls' := [some (mR (11, 0, 0)), none]) (st' := [mR (8, 0, sd), mR (5, 0, 19)]) (S' := (L, I, J, R)) (P := ((True ∧ R 0 3 = some (5, 0, 19)) ∧ R 0 2 = some (8, 0, sd))) [(.aload_n 0, (0, 0, 0, 0, 0)), (.getfield 31, (11, 3, 3, 0, 0)), (.aload_n 0, (0, 0, 0, 0, 0)), (.getfield 23, (11, 2, 3, 0, 0))] [some (5, 0, 19), some (8, 0, sd)] (by decide +kernel) rfl ⟨⟨trivial, (r_0_3 hR)⟩, h02⟩ ?_
    obtain ⟨r2, hc2, hf⟩ := bnd_o hf
    refine b_cV (as := [mR (8, 0, sd)]) (st := []) (by decide +kernel) k_11_309 n_Reader_readQuestion rfl (by decide) v_Reader_readQuestion (C_Reader_readQuestion sd I J hR hqd hc2) (Nat.le_of_ble_eq_true rfl) (by decide) rfl rfl (fun _ h => h) ?_
    show m_B G (m_rm 70 0 0) M_WF_ask Q 0 0 33 [some (mR (11, 0, 0)), none] [mI r2.1] (L, r2.2, J, m_up R 19 4 (some (8, 0, sd)))
    refine b_blk (pc' := 43) (ls' := [some (mR (11, 0, 0)), some (mI r2.1)]) (st' := [mI r2.1]) (S' := (L, m_up r2.2 1 1 (0 : Int32), J, m_up R 19 4 (some (8, 0, sd)))) (P := (True ∧ (m_up R 19 4 (some (8, 0, sd))) 0 0 = some (9, 0, 1))) [(.istore_n 1, (0, 0, 0, 0, 0)), (.aload_n 0, (0, 0, 0, 0, 0)), (.getfield 12, (11, 0, 3, 0, 0)), (.iconst 0, (0, 0, 0, 0, 0)), (.putfield 96, (9, 1, 0, 0, 0)), (.iload_n 1, (0, 0, 0, 0, 0))] [some (9, 0, 1)] (by decide +kernel) rfl ⟨trivial, (r_0_0 (R := R) hR)⟩ ?_
    refine b_if_eq (off := 17) (tgt := 60) (by decide +kernel) (by decide) (fun h3 => ?_) (fun h3 => ?_)
    · have hf := if_t h3 hf
      refine b_blk (pc' := 63) (ls' := [some (mR (11, 0, 0)), some (mI r2.1)]) (st' := [mJ (-1000000000000000)]) (S' := (L, m_up r2.2 1 1 (0 : Int32), J, m_up R 19 4 (some (8, 0, sd)))) (P := True) [(.ldc2_w 307, (0, 0, 0, 0, (-1000000000000000)))] [] (by decide +kernel) rfl trivial ?_
      cases hf
      exact b_lret (by decide +kernel) rfl hk
    · have hf := if_f h3 hf
      refine b_blk (pc' := 54) (ls' := [some (mR (11, 0, 0)), some (mI r2.1)]) (st' := [mI (r2.2 19 3), mR (11, 0, 0)]) (S' := (L, m_up r2.2 1 1 (0 : Int32), J, m_up R 19 4 (some (8, 0, sd)))) (P := (True ∧ (m_up R 19 4 (some (8, 0, sd))) 0 3 = some (5, 0, 19))) [(.aload_n 0, (0, 0, 0, 0, 0)), (.aload_n 0, (0, 0, 0, 0, 0)), (.getfield 31, (11, 3, 3, 0, 0)), (.getfield 312, (5, 3, 0, 0, 0))] [some (5, 0, 19)] (by decide +kernel) rfl ⟨trivial, (r_0_3 (R := R) hR)⟩ ?_
      obtain ⟨r4, hc4, hf⟩ := bnd_o hf
      refine b_cV (as := [mI (r2.2 19 3)]) (st := []) (by decide +kernel) k_11_315 n_WF_answer rfl (by decide) v_WF_answer (C_WF_answer sl sd (m_up r2.2 1 1 (0 : Int32)) J (r2.2 19 3) (rf_t hR) h01 h02 hs hq hqd hc4) (Nat.le_of_ble_eq_true rfl) (by decide) rfl rfl (fun _ h => h) ?_
      show m_B G (m_rm 70 0 0) M_WF_ask Q 0 0 57 [some (mR (11, 0, 0)), some (mI r2.1)] [mJ r4.1] (L, r4.2, J, m_up R 19 4 (some (8, 0, sd)))
      refine b_blk (pc' := 63) (ls' := [some (mR (11, 0, 0)), some (mI r2.1)]) (st' := [mJ r4.1]) (S' := (L, r4.2, J, m_up R 19 4 (some (8, 0, sd)))) (P := True) [(.goto 6, (0, 63, 0, 0, 0))] [] (by decide +kernel) rfl trivial ?_
      cases hf
      exact b_lret (by decide +kernel) rfl hk
  · have hf := if_t h1 hf
    refine b_blk (pc' := 21) (ls' := [some (mR (11, 0, 0)), none]) (st' := [mJ (-1000000000000000)]) (S' := (L, m_up I 1 1 (0 : Int32), J, R)) (P := (True ∧ R 0 0 = some (9, 0, 1))) [(.aload_n 0, (0, 0, 0, 0, 0)), (.getfield 12, (11, 0, 3, 0, 0)), (.iconst 0, (0, 0, 0, 0, 0)), (.putfield 96, (9, 1, 0, 0, 0)), (.ldc2_w 307, (0, 0, 0, 0, (-1000000000000000)))] [some (9, 0, 1)] (by decide +kernel) rfl ⟨trivial, (r_0_0 hR)⟩ ?_
    cases hf
    exact b_lret (by decide +kernel) rfl hk
theorem C_WF_ask {G : MG} {L : List (Nat × Nat)} (sl : Nat) (sd : Nat) (R : MRR) (I : MI) (J : MJ) (hR : RF R) (h01 : R 0 1 = some (8, 0, sl)) (h02 : R 0 2 = some (8, 0, sd)) (hs : R 24 1 = some (8, 0, sl)) (hq : sl = 3 ∨ sl = 11) (hqd : sd = 3 ∨ sd = 11) {r : Int64 × MI × MRR} (hf : F_WF_ask sl sd R I = some r) : m_met G 70 0 0 y_WF_ask M_WF_ask [mR (11, 0, 0)] (L, I, J, R) (m_is (some (mJ r.1)) (L, r.2.1, J, r.2.2)) :=
  m_met_in n_WF_ask (plainFor_of_name (by decide)) (by decide) (Nat.le_of_ble_eq_true rfl) (ls := [some (mR (11, 0, 0)), none]) rfl (W_WF_ask sl sd R I J hR h01 h02 hs hq hqd hf ⟨rfl, rfl⟩)
noncomputable def F_WF_image (sl : Nat) (sd : Nat) (I : MI) : Option (Int32 × MI) :=
  (F_Image_write sl I).bind fun r1 => some ((r1 174 1 : Int32), r1)
set_option maxRecDepth 100000 in
set_option maxHeartbeats 400000 in
theorem W_WF_image {G : MG} {Q : Option MV → MS → Prop} {L : List (Nat × Nat)} {R : Nat → Nat → Option MRef} (sl : Nat) (sd : Nat) (I : MI) (J : MJ) (hR : RF R) (h01 : R 0 1 = some (8, 0, sl)) (h02 : R 0 2 = some (8, 0, sd)) (hs : R 24 1 = some (8, 0, sl)) (hq : sl = 3 ∨ sl = 11) (hqd : sd = 3 ∨ sd = 11) {r : Int32 × MI} (hf : F_WF_image sl sd I = some r) (hk : (fun r : Int32 × MI => Q (some (mI r.1)) (L, r.2, J, R)) r) : m_B G (m_rm 4 0 0) M_WF_image Q 0 0 0 [some (mR (11, 0, 0))] [] (L, I, J, R) := by
  unfold F_WF_image at hf
  refine b_blk (pc' := 12) (ls' := [some (mR (11, 0, 0))]) (st' := [mR (8, 0, sl), mR (3, 0, 20), mR (2, 0, 174)]) (S' := (L, I, J, R)) (P := (((True ∧ R 0 10 = some (2, 0, 174)) ∧ R 0 4 = some (3, 0, 20)) ∧ R 0 1 = some (8, 0, sl))) [(.aload_n 0, (0, 0, 0, 0, 0)), (.getfield 84, (11, 10, 3, 0, 0)), (.aload_n 0, (0, 0, 0, 0, 0)), (.getfield 38, (11, 4, 3, 0, 0)), (.aload_n 0, (0, 0, 0, 0, 0)), (.getfield 19, (11, 1, 3, 0, 0))] [some (2, 0, 174), some (3, 0, 20), some (8, 0, sl)] (by decide +kernel) rfl ⟨⟨⟨trivial, (r_0_10 hR)⟩, (r_0_4 hR)⟩, h01⟩ ?_
  obtain ⟨r1, hc1, hf⟩ := bnd_o hf
  refine b_cV (as := [mR (3, 0, 20), mR (8, 0, sl)]) (st := []) (by decide +kernel) k_11_319 n_Image_write rfl (by decide) v_Image_write (C_Image_write sl I J hR hs hq hc1) (Nat.le_of_ble_eq_true rfl) (by decide) rfl rfl (fun _ h => h) ?_
  show m_B G (m_rm 4 0 0) M_WF_image Q 0 0 15 [some (mR (11, 0, 0))] [] (L, r1, J, R)
  refine b_blk (pc' := 22) (ls' := [some (mR (11, 0, 0))]) (st' := [mI (r1 174 1)]) (S' := (L, r1, J, R)) (P := (True ∧ R 0 10 = some (2, 0, 174))) [(.aload_n 0, (0, 0, 0, 0, 0)), (.getfield 84, (11, 10, 3, 0, 0)), (.getfield 323, (2, 1, 0, 0, 0))] [some (2, 0, 174)] (by decide +kernel) rfl ⟨trivial, (r_0_10 hR)⟩ ?_
  cases hf
  exact b_iret (by decide +kernel) rfl hk
theorem C_WF_image {G : MG} {L : List (Nat × Nat)} {R : Nat → Nat → Option MRef} (sl : Nat) (sd : Nat) (I : MI) (J : MJ) (hR : RF R) (h01 : R 0 1 = some (8, 0, sl)) (h02 : R 0 2 = some (8, 0, sd)) (hs : R 24 1 = some (8, 0, sl)) (hq : sl = 3 ∨ sl = 11) (hqd : sd = 3 ∨ sd = 11) {r : Int32 × MI} (hf : F_WF_image sl sd I = some r) : m_met G 4 0 0 y_WF_image M_WF_image [mR (11, 0, 0)] (L, I, J, R) (m_is (some (mI r.1)) (L, r.2, J, R)) :=
  m_met_in n_WF_image (plainFor_of_name (by decide)) (by decide) (Nat.le_of_ble_eq_true rfl) (ls := [some (mR (11, 0, 0))]) rfl (W_WF_image sl sd I J hR h01 h02 hs hq hqd hf ⟨rfl, rfl⟩)
noncomputable def F_WF_octet (sl : Nat) (sd : Nat) (I : MI) (v1 : Int32) : Option (Int32) :=
  if v1 < (0 : Int32) then (some ((-1) : Int32)) else (if (I 174 1) ≤ v1 then (some ((-1) : Int32)) else (gd v1 100 <| some ((I 175 v1.toNatClampNeg) &&& (255 : Int32) : Int32)))
set_option maxRecDepth 100000 in
set_option maxHeartbeats 400000 in
theorem W_WF_octet {G : MG} {Q : Option MV → MS → Prop} {L : List (Nat × Nat)} {R : Nat → Nat → Option MRef} (sl : Nat) (sd : Nat) (I : MI) (J : MJ) (v1 : Int32) (hR : RF R) (h01 : R 0 1 = some (8, 0, sl)) (h02 : R 0 2 = some (8, 0, sd)) (hs : R 24 1 = some (8, 0, sl)) (hq : sl = 3 ∨ sl = 11) (hqd : sd = 3 ∨ sd = 11) {r : Int32} (hf : F_WF_octet sl sd I v1 = some r) (hk : (fun r : Int32 => Q (some (mI r)) (L, I, J, R)) r) : m_B G (m_rm 1 0 0) M_WF_octet Q 0 0 0 [some (mR (11, 0, 0)), some (mI v1)] [] (L, I, J, R) := by
  unfold F_WF_octet at hf
  refine b_blk (pc' := 1) (ls' := [some (mR (11, 0, 0)), some (mI v1)]) (st' := [mI v1]) (S' := (L, I, J, R)) (P := True) [(.iload_n 1, (0, 0, 0, 0, 0))] [] (by decide +kernel) rfl trivial ?_
  refine b_if_lt (off := 30) (tgt := 31) (by decide +kernel) (by decide) (fun h1 => ?_) (fun h1 => ?_)
  · have hf := if_t h1 hf
    refine b_blk (pc' := 32) (ls' := [some (mR (11, 0, 0)), some (mI v1)]) (st' := [mI (-1)]) (S' := (L, I, J, R)) (P := True) [(.iconst (-1), (0, 0, 0, (-1), 0))] [] (by decide +kernel) rfl trivial ?_
    cases hf
    exact b_iret (by decide +kernel) rfl hk
  · have hf := if_f h1 hf
    refine b_blk (pc' := 12) (ls' := [some (mR (11, 0, 0)), some (mI v1)]) (st' := [mI (I 174 1), mI v1]) (S' := (L, I, J, R)) (P := (True ∧ R 0 10 = some (2, 0, 174))) [(.iload_n 1, (0, 0, 0, 0, 0)), (.aload_n 0, (0, 0, 0, 0, 0)), (.getfield 84, (11, 10, 3, 0, 0)), (.getfield 323, (2, 1, 0, 0, 0))] [some (2, 0, 174)] (by decide +kernel) rfl ⟨trivial, (r_0_10 hR)⟩ ?_
    refine b_icmp_ge (off := 19) (tgt := 31) (by decide +kernel) (by decide) (fun h2 => ?_) (fun h2 => ?_)
    · have hf := if_t h2 hf
      refine b_blk (pc' := 32) (ls' := [some (mR (11, 0, 0)), some (mI v1)]) (st' := [mI (-1)]) (S' := (L, I, J, R)) (P := True) [(.iconst (-1), (0, 0, 0, (-1), 0))] [] (by decide +kernel) rfl trivial ?_
      cases hf
      exact b_iret (by decide +kernel) rfl hk
    · have hf := if_f h2 hf
      obtain ⟨g3, hf⟩ := gd_s hf
      refine b_blk (pc' := 32) (ls' := [some (mR (11, 0, 0)), some (mI v1)]) (st' := [mI ((I 175 v1.toNatClampNeg) &&& (255 : Int32))]) (S' := (L, I, J, R)) (P := (((True ∧ R 0 10 = some (2, 0, 174)) ∧ R 174 0 = some (22, 100, 175)) ∧ vp_in v1 100)) [(.aload_n 0, (0, 0, 0, 0, 0)), (.getfield 84, (11, 10, 3, 0, 0)), (.getfield 324, (2, 0, 3, 0, 0)), (.iload_n 1, (0, 0, 0, 0, 0)), (.baload, (0, 0, 0, 0, 0)), (.sipush 255, (0, 0, 0, 255, 0)), (.iand, (0, 0, 0, 0, 0)), (.goto 4, (0, 32, 0, 0, 0))] [some (2, 0, 174), some (22, 100, 175)] (by decide +kernel) rfl ⟨⟨⟨trivial, (r_0_10 hR)⟩, (r_174_0 hR)⟩, (in_n (n := 100) (by decide) g3.1 g3.2)⟩ ?_
      cases hf
      exact b_iret (by decide +kernel) rfl hk
theorem C_WF_octet {G : MG} {L : List (Nat × Nat)} {R : Nat → Nat → Option MRef} (sl : Nat) (sd : Nat) (I : MI) (J : MJ) (v1 : Int32) (hR : RF R) (h01 : R 0 1 = some (8, 0, sl)) (h02 : R 0 2 = some (8, 0, sd)) (hs : R 24 1 = some (8, 0, sl)) (hq : sl = 3 ∨ sl = 11) (hqd : sd = 3 ∨ sd = 11) {r : Int32} (hf : F_WF_octet sl sd I v1 = some r) : m_met G 1 0 0 y_WF_octet M_WF_octet [mR (11, 0, 0), mI v1] (L, I, J, R) (m_is (some (mI r)) (L, I, J, R)) :=
  m_met_in n_WF_octet (plainFor_of_name (by decide)) (by decide) (Nat.le_of_ble_eq_true rfl) (ls := [some (mR (11, 0, 0)), some (mI v1)]) rfl (W_WF_octet sl sd I J v1 hR h01 h02 hs hq hqd hf ⟨rfl, rfl⟩)
noncomputable def F_WF_on_40 (sl : Nat) (sd : Nat) (I : MI) (y0 : Int32) : Option (Int32 × MI) :=
  if y0 = (0 : Int32) then ((F_WF_refuse sl sd (m_up I 1 1 (0 : Int32)) (5 : Int32)).bind fun r3 => some ((0 : Int32), r3.2)) else ((F_WF_beginAnew 31 (m_up I 1 1 (0 : Int32))).bind fun r2 => some ((1 : Int32), r2))
set_option maxRecDepth 100000 in
set_option maxHeartbeats 400000 in
theorem W_WF_on_40 {G : MG} {Q : Option MV → MS → Prop} {L : List (Nat × Nat)} {R : Nat → Nat → Option MRef} (sl : Nat) (sd : Nat) (I : MI) (J : MJ) (y0 : Int32) (hR : RF R) (h01 : R 0 1 = some (8, 0, sl)) (h02 : R 0 2 = some (8, 0, sd)) (hs : R 24 1 = some (8, 0, sl)) (hq : sl = 3 ∨ sl = 11) (hqd : sd = 3 ∨ sd = 11) {r : Int32 × MI} (hf : F_WF_on_40 sl sd I y0 = some r) (hk : (fun r : Int32 × MI => Q (some (mI r.1)) (L, r.2, J, R)) r) : m_B G (m_rm 5 0 0) M_WF_on Q 0 0 40 [some (mR (11, 0, 0)), none] [mI y0] (L, I, J, R) := by
  unfold F_WF_on_40 at hf
  refine b_blk (pc' := 50) (ls' := [some (mR (11, 0, 0)), some (mI y0)]) (st' := [mI y0]) (S' := (L, m_up I 1 1 (0 : Int32), J, R)) (P := (True ∧ R 0 0 = some (9, 0, 1))) [(.istore_n 1, (0, 0, 0, 0, 0)), (.aload_n 0, (0, 0, 0, 0, 0)), (.getfield 12, (11, 0, 3, 0, 0)), (.iconst 0, (0, 0, 0, 0, 0)), (.putfield 96, (9, 1, 0, 0, 0)), (.iload_n 1, (0, 0, 0, 0, 0))] [some (9, 0, 1)] (by decide +kernel) rfl ⟨trivial, (r_0_0 hR)⟩ ?_
  refine b_if_ne (off := 11) (tgt := 61) (by decide +kernel) (by decide) (fun h1 => ?_) (fun h1 => ?_)
  · have hf := if_f h1 hf
    refine b_blk (pc' := 69) (ls' := [some (mR (11, 0, 0)), some (mI y0)]) (st' := [mR (3, 0, 31), mR (11, 0, 0)]) (S' := (L, m_up I 1 1 (0 : Int32), J, R)) (P := ((True ∧ R 0 6 = some (0, 0, 30)) ∧ R 30 2 = some (3, 0, 31))) [(.aload_n 0, (0, 0, 0, 0, 0)), (.aload_n 0, (0, 0, 0, 0, 0)), (.getfield 56, (11, 6, 3, 0, 0)), (.getfield 328, (0, 2, 3, 0, 0))] [some (0, 0, 30), some (3, 0, 31)] (by decide +kernel) rfl ⟨⟨trivial, (r_0_6 hR)⟩, (r_30_2 hR)⟩ ?_
    obtain ⟨r2, hc2, hf⟩ := bnd_o hf
    refine b_cV (as := [mR (3, 0, 31)]) (st := []) (by decide +kernel) k_11_115 n_WF_beginAnew rfl (by decide) v_WF_beginAnew (C_WF_beginAnew 31 (m_up I 1 1 (0 : Int32)) J hR (ly_31 hR) hc2) (Nat.le_of_ble_eq_true rfl) (by decide) rfl rfl (fun _ h => h) ?_
    show m_B G (m_rm 5 0 0) M_WF_on Q 0 0 72 [some (mR (11, 0, 0)), some (mI y0)] [] (L, r2, J, R)
    refine b_blk (pc' := 73) (ls' := [some (mR (11, 0, 0)), some (mI y0)]) (st' := [mI 1]) (S' := (L, r2, J, R)) (P := True) [(.iconst 1, (0, 0, 0, 1, 0))] [] (by decide +kernel) rfl trivial ?_
    cases hf
    exact b_zret (by decide +kernel) rfl (by decide) hk
  · have hf := if_t h1 hf
    refine b_blk (pc' := 55) (ls' := [some (mR (11, 0, 0)), some (mI y0)]) (st' := [mI 5, mR (11, 0, 0)]) (S' := (L, m_up I 1 1 (0 : Int32), J, R)) (P := True) [(.aload_n 0, (0, 0, 0, 0, 0)), (.iconst 5, (0, 0, 0, 5, 0))] [] (by decide +kernel) rfl trivial ?_
    obtain ⟨r3, hc3, hf⟩ := bnd_o hf
    refine b_cV (as := [mI 5]) (st := []) (by decide +kernel) k_11_99 n_WF_refuse rfl (by decide) v_WF_refuse (C_WF_refuse sl sd (m_up I 1 1 (0 : Int32)) J (5 : Int32) hR h01 h02 hs hq hqd hc3) (Nat.le_of_ble_eq_true rfl) (by decide) rfl rfl (fun _ h => h) ?_
    show m_B G (m_rm 5 0 0) M_WF_on Q 0 0 58 [some (mR (11, 0, 0)), some (mI y0)] [mI r3.1] (L, r3.2, J, R)
    refine b_blk (pc' := 60) (ls' := [some (mR (11, 0, 0)), some (mI y0)]) (st' := [mI 0]) (S' := (L, r3.2, J, R)) (P := True) [(.pop, (0, 0, 0, 0, 0)), (.iconst 0, (0, 0, 0, 0, 0))] [] (by decide +kernel) rfl trivial ?_
    cases hf
    exact b_zret (by decide +kernel) rfl (by decide) hk
noncomputable def F_WF_on_39 (sl : Nat) (sd : Nat) (I : MI) : Option (Int32 × MI) :=
  F_WF_on_40 sl sd I (0 : Int32)
set_option maxRecDepth 100000 in
set_option maxHeartbeats 400000 in
theorem W_WF_on_39 {G : MG} {Q : Option MV → MS → Prop} {L : List (Nat × Nat)} {R : Nat → Nat → Option MRef} (sl : Nat) (sd : Nat) (I : MI) (J : MJ) (hR : RF R) (h01 : R 0 1 = some (8, 0, sl)) (h02 : R 0 2 = some (8, 0, sd)) (hs : R 24 1 = some (8, 0, sl)) (hq : sl = 3 ∨ sl = 11) (hqd : sd = 3 ∨ sd = 11) {r : Int32 × MI} (hf : F_WF_on_39 sl sd I = some r) (hk : (fun r : Int32 × MI => Q (some (mI r.1)) (L, r.2, J, R)) r) : m_B G (m_rm 5 0 0) M_WF_on Q 0 0 39 [some (mR (11, 0, 0)), none] [] (L, I, J, R) := by
  unfold F_WF_on_39 at hf
  refine b_blk (pc' := 40) (ls' := [some (mR (11, 0, 0)), none]) (st' := [mI 0]) (S' := (L, I, J, R)) (P := True) [(.iconst 0, (0, 0, 0, 0, 0))] [] (by decide +kernel) rfl trivial ?_
  exact m_B_cg rfl rfl rfl (W_WF_on_40 sl sd I J (0 : Int32) hR h01 h02 hs hq hqd hf hk)
noncomputable def F_WF_on (sl : Nat) (sd : Nat) (I : MI) : Option (Int32 × MI) :=
  if (f_Slope_isTold I sl) = (0 : Int32) then (F_WF_on_39 sl sd I) else ((F_Image_read sl I).bind fun r2 => if r2.1 = (0 : Int32) then (F_WF_on_39 sl sd r2.2) else (F_WF_on_40 sl sd r2.2 (1 : Int32)))
set_option maxRecDepth 100000 in
set_option maxHeartbeats 400000 in
theorem W_WF_on {G : MG} {Q : Option MV → MS → Prop} {L : List (Nat × Nat)} {R : Nat → Nat → Option MRef} (sl : Nat) (sd : Nat) (I : MI) (J : MJ) (hR : RF R) (h01 : R 0 1 = some (8, 0, sl)) (h02 : R 0 2 = some (8, 0, sd)) (hs : R 24 1 = some (8, 0, sl)) (hq : sl = 3 ∨ sl = 11) (hqd : sd = 3 ∨ sd = 11) {r : Int32 × MI} (hf : F_WF_on sl sd I = some r) (hk : (fun r : Int32 × MI => Q (some (mI r.1)) (L, r.2, J, R)) r) : m_B G (m_rm 5 0 0) M_WF_on Q 0 0 0 [some (mR (11, 0, 0)), none] [] (L, I, J, R) := by
  unfold F_WF_on at hf
  refine b_blk (pc' := 4) (ls' := [some (mR (11, 0, 0)), none]) (st' := [mR (8, 0, sl)]) (S' := (L, I, J, R)) (P := (True ∧ R 0 1 = some (8, 0, sl))) [(.aload_n 0, (0, 0, 0, 0, 0)), (.getfield 19, (11, 1, 3, 0, 0))] [some (8, 0, sl)] (by decide +kernel) rfl ⟨trivial, h01⟩ ?_
  refine b_cV (as := []) (st := []) (by decide +kernel) k_11_242 n_Slope_isTold rfl (by decide) v_Slope_isTold (c_Slope_isTold sl ) (Nat.le_of_ble_eq_true rfl) (by decide) rfl rfl (fun _ h => h) ?_
  show m_B _ _ _ _ _ _ 7 [some (mR (11, 0, 0)), none] [mI (f_Slope_isTold I sl)] (L, I, J, R)
  refine b_if_eq (off := 32) (tgt := 39) (by decide +kernel) (by decide) (fun h1 => ?_) (fun h1 => ?_)
  · have hf := if_t h1 hf
    exact m_B_cg rfl rfl rfl (W_WF_on_39 sl sd I J hR h01 h02 hs hq hqd hf hk)
  · have hf := if_f h1 hf
    refine b_blk (pc' := 29) (ls' := [some (mR (11, 0, 0)), none]) (st' := [mR (3, 0, 31), mR (8, 0, sl), mR (9, 0, 1), mR (2, 0, 174)]) (S' := (L, I, J, R)) (P := (((((True ∧ R 0 10 = some (2, 0, 174)) ∧ R 0 0 = some (9, 0, 1)) ∧ R 0 1 = some (8, 0, sl)) ∧ R 0 6 = some (0, 0, 30)) ∧ R 30 2 = some (3, 0, 31))) [(.aload_n 0, (0, 0, 0, 0, 0)), (.getfield 84, (11, 10, 3, 0, 0)), (.aload_n 0, (0, 0, 0, 0, 0)), (.getfield 12, (11, 0, 3, 0, 0)), (.aload_n 0, (0, 0, 0, 0, 0)), (.getfield 19, (11, 1, 3, 0, 0)), (.aload_n 0, (0, 0, 0, 0, 0)), (.getfield 56, (11, 6, 3, 0, 0)), (.getfield 328, (0, 2, 3, 0, 0))] [some (2, 0, 174), some (9, 0, 1), some (8, 0, sl), some (0, 0, 30), some (3, 0, 31)] (by decide +kernel) rfl ⟨⟨⟨⟨⟨trivial, (r_0_10 hR)⟩, (r_0_0 hR)⟩, h01⟩, (r_0_6 hR)⟩, (r_30_2 hR)⟩ ?_
    obtain ⟨r2, hc2, hf⟩ := bnd_o hf
    refine b_cV (as := [mR (9, 0, 1), mR (8, 0, sl), mR (3, 0, 31)]) (st := []) (by decide +kernel) k_11_331 n_Image_read rfl (by decide) v_Image_read (C_Image_read sl I J hR hs hq hc2) (Nat.le_of_ble_eq_true rfl) (by decide) rfl rfl (fun _ h => h) ?_
    show m_B G (m_rm 5 0 0) M_WF_on Q 0 0 32 [some (mR (11, 0, 0)), none] [mI r2.1] (L, r2.2, J, R)
    refine b_if_eq (off := 7) (tgt := 39) (by decide +kernel) (by decide) (fun h3 => ?_) (fun h3 => ?_)
    · have hf := if_t h3 hf
      exact m_B_cg rfl rfl rfl (W_WF_on_39 sl sd r2.2 J hR h01 h02 hs hq hqd hf hk)
    · have hf := if_f h3 hf
      refine b_blk (pc' := 40) (ls' := [some (mR (11, 0, 0)), none]) (st' := [mI 1]) (S' := (L, r2.2, J, R)) (P := True) [(.iconst 1, (0, 0, 0, 1, 0)), (.goto 4, (0, 40, 0, 0, 0))] [] (by decide +kernel) rfl trivial ?_
      exact m_B_cg rfl rfl rfl (W_WF_on_40 sl sd r2.2 J (1 : Int32) hR h01 h02 hs hq hqd hf hk)
theorem C_WF_on {G : MG} {L : List (Nat × Nat)} {R : Nat → Nat → Option MRef} (sl : Nat) (sd : Nat) (I : MI) (J : MJ) (hR : RF R) (h01 : R 0 1 = some (8, 0, sl)) (h02 : R 0 2 = some (8, 0, sd)) (hs : R 24 1 = some (8, 0, sl)) (hq : sl = 3 ∨ sl = 11) (hqd : sd = 3 ∨ sd = 11) {r : Int32 × MI} (hf : F_WF_on sl sd I = some r) : m_met G 5 0 0 y_WF_on M_WF_on [mR (11, 0, 0)] (L, I, J, R) (m_is (some (mI r.1)) (L, r.2, J, R)) :=
  m_met_in n_WF_on (plainFor_of_name (by decide)) (by decide) (Nat.le_of_ble_eq_true rfl) (ls := [some (mR (11, 0, 0)), none]) rfl (W_WF_on sl sd I J hR h01 h02 hs hq hqd hf ⟨rfl, rfl⟩)
noncomputable def F_WF_status (sl : Nat) (sd : Nat) (I : MI) (v1 : Int32) : Option (Int32) :=
  if v1 < (0 : Int32) then (some ((-1) : Int32)) else (if (6 : Int32) ≤ v1 then (some ((-1) : Int32)) else (gd v1 6 <| some (I 176 v1.toNatClampNeg : Int32)))
set_option maxRecDepth 100000 in
set_option maxHeartbeats 400000 in
theorem W_WF_status {G : MG} {Q : Option MV → MS → Prop} {L : List (Nat × Nat)} {R : Nat → Nat → Option MRef} (sl : Nat) (sd : Nat) (I : MI) (J : MJ) (v1 : Int32) (hR : RF R) (h01 : R 0 1 = some (8, 0, sl)) (h02 : R 0 2 = some (8, 0, sd)) (hs : R 24 1 = some (8, 0, sl)) (hq : sl = 3 ∨ sl = 11) (hqd : sd = 3 ∨ sd = 11) {r : Int32} (hf : F_WF_status sl sd I v1 = some r) (hk : (fun r : Int32 => Q (some (mI r)) (L, I, J, R)) r) : m_B G (m_rm 1 0 0) M_WF_status Q 0 0 0 [some (mR (11, 0, 0)), some (mI v1)] [] (L, I, J, R) := by
  unfold F_WF_status at hf
  refine b_blk (pc' := 1) (ls' := [some (mR (11, 0, 0)), some (mI v1)]) (st' := [mI v1]) (S' := (L, I, J, R)) (P := True) [(.iload_n 1, (0, 0, 0, 0, 0))] [] (by decide +kernel) rfl trivial ?_
  refine b_if_lt (off := 18) (tgt := 19) (by decide +kernel) (by decide) (fun h1 => ?_) (fun h1 => ?_)
  · have hf := if_t h1 hf
    refine b_blk (pc' := 20) (ls' := [some (mR (11, 0, 0)), some (mI v1)]) (st' := [mI (-1)]) (S' := (L, I, J, R)) (P := True) [(.iconst (-1), (0, 0, 0, (-1), 0))] [] (by decide +kernel) rfl trivial ?_
    cases hf
    exact b_iret (by decide +kernel) rfl hk
  · have hf := if_f h1 hf
    refine b_blk (pc' := 7) (ls' := [some (mR (11, 0, 0)), some (mI v1)]) (st' := [mI 6, mI v1]) (S' := (L, I, J, R)) (P := True) [(.iload_n 1, (0, 0, 0, 0, 0)), (.bipush 6, (0, 0, 0, 6, 0))] [] (by decide +kernel) rfl trivial ?_
    refine b_icmp_ge (off := 12) (tgt := 19) (by decide +kernel) (by decide) (fun h2 => ?_) (fun h2 => ?_)
    · have hf := if_t h2 hf
      refine b_blk (pc' := 20) (ls' := [some (mR (11, 0, 0)), some (mI v1)]) (st' := [mI (-1)]) (S' := (L, I, J, R)) (P := True) [(.iconst (-1), (0, 0, 0, (-1), 0))] [] (by decide +kernel) rfl trivial ?_
      cases hf
      exact b_iret (by decide +kernel) rfl hk
    · have hf := if_f h2 hf
      obtain ⟨g3, hf⟩ := gd_s hf
      refine b_blk (pc' := 20) (ls' := [some (mR (11, 0, 0)), some (mI v1)]) (st' := [mI (I 176 v1.toNatClampNeg)]) (S' := (L, I, J, R)) (P := ((True ∧ R 0 11 = some (20, 6, 176)) ∧ vp_in v1 6)) [(.aload_n 0, (0, 0, 0, 0, 0)), (.getfield 88, (11, 11, 3, 0, 0)), (.iload_n 1, (0, 0, 0, 0, 0)), (.iaload, (0, 0, 0, 0, 0)), (.goto 4, (0, 20, 0, 0, 0))] [some (20, 6, 176)] (by decide +kernel) rfl ⟨⟨trivial, (r_0_11 hR)⟩, (in_n (n := 6) (by decide) g3.1 g3.2)⟩ ?_
      cases hf
      exact b_iret (by decide +kernel) rfl hk
theorem C_WF_status {G : MG} {L : List (Nat × Nat)} {R : Nat → Nat → Option MRef} (sl : Nat) (sd : Nat) (I : MI) (J : MJ) (v1 : Int32) (hR : RF R) (h01 : R 0 1 = some (8, 0, sl)) (h02 : R 0 2 = some (8, 0, sd)) (hs : R 24 1 = some (8, 0, sl)) (hq : sl = 3 ∨ sl = 11) (hqd : sd = 3 ∨ sd = 11) {r : Int32} (hf : F_WF_status sl sd I v1 = some r) : m_met G 1 0 0 y_WF_status M_WF_status [mR (11, 0, 0), mI v1] (L, I, J, R) (m_is (some (mI r)) (L, I, J, R)) :=
  m_met_in n_WF_status (plainFor_of_name (by decide)) (by decide) (Nat.le_of_ble_eq_true rfl) (ls := [some (mR (11, 0, 0)), some (mI v1)]) rfl (W_WF_status sl sd I J v1 hR h01 h02 hs hq hqd hf ⟨rfl, rfl⟩)
