/-! the reference: methods 7 -/
noncomputable def F_MD_years (I : MI) (J : MJ) (v1 : Int32) : Option (Int32 × MI × MJ) :=
  (F_MD_isAhead I v1 (1 : Int32) (100 : Int32)).bind fun r1 => if r1 = (0 : Int32) then ((F_MD_refuses I (3 : Int32)).bind fun r5 => some ((r5.1 : Int32), r5.2, J)) else ((F_MD_keeps I).bind fun r3 => (F_MD_yearsGo (m_up r3 177 56 (0 : Int32)) J v1).bind fun r4 => some ((r4.1 177 56 : Int32), r4.1, r4.2))
set_option maxRecDepth 100000 in
set_option maxHeartbeats 400000 in
theorem W_MD_years {G : MG} {Q : Option MV → MS → Prop} {L : List (Nat × Nat)} {R : Nat → Nat → Option MRef} (I : MI) (J : MJ) (v1 : Int32) (hR : RF R) {r : Int32 × MI × MJ} (hf : F_MD_years I J v1 = some r) (hk : (fun r : Int32 × MI × MJ => Q (some (mI r.1)) (L, r.2.1, r.2.2, R)) r) : m_B G (m_rm 9 0 0) M_MD_years Q 0 0 0 [some (mR (12, 0, 177)), some (mI v1)] [] (L, I, J, R) := by
  unfold F_MD_years at hf
  refine b_blk (pc' := 5) (ls' := [some (mR (12, 0, 177)), some (mI v1)]) (st' := [mI 100, mI 1, mI v1, mR (12, 0, 177)]) (S' := (L, I, J, R)) (P := True) [(.aload_n 0, (0, 0, 0, 0, 0)), (.iload_n 1, (0, 0, 0, 0, 0)), (.iconst 1, (0, 0, 0, 1, 0)), (.bipush 100, (0, 0, 0, 100, 0))] [] (by decide +kernel) rfl trivial ?_
  obtain ⟨r1, hc1, hf⟩ := bnd_o hf
  refine b_cV (as := [mI v1, mI 1, mI 100]) (st := []) (by decide +kernel) k_12_495 n_MD_isAhead rfl (by decide) v_MD_isAhead (C_MD_isAhead I J v1 (1 : Int32) (100 : Int32) hR hc1) (Nat.le_of_ble_eq_true rfl) (by decide) rfl rfl (fun _ h => h) ?_
  show m_B G (m_rm 9 0 0) M_MD_years Q 0 0 8 [some (mR (12, 0, 177)), some (mI v1)] [mI r1] (L, I, J, R)
  refine b_if_ne (off := 9) (tgt := 17) (by decide +kernel) (by decide) (fun h2 => ?_) (fun h2 => ?_)
  · have hf := if_f h2 hf
    refine b_blk (pc' := 18) (ls' := [some (mR (12, 0, 177)), some (mI v1)]) (st' := [mR (12, 0, 177)]) (S' := (L, I, J, R)) (P := True) [(.aload_n 0, (0, 0, 0, 0, 0))] [] (by decide +kernel) rfl trivial ?_
    obtain ⟨r3, hc3, hf⟩ := bnd_o hf
    refine b_cV (as := []) (st := []) (by decide +kernel) k_12_548 n_MD_keeps rfl (by decide) v_MD_keeps (C_MD_keeps I J hR hc3) (Nat.le_of_ble_eq_true rfl) (by decide) rfl rfl (fun _ h => h) ?_
    show m_B G (m_rm 9 0 0) M_MD_years Q 0 0 21 [some (mR (12, 0, 177)), some (mI v1)] [] (L, r3, J, R)
    refine b_blk (pc' := 28) (ls' := [some (mR (12, 0, 177)), some (mI v1)]) (st' := [mI v1, mR (12, 0, 177)]) (S' := (L, m_up r3 177 56 (0 : Int32), J, R)) (P := True) [(.aload_n 0, (0, 0, 0, 0, 0)), (.iconst 0, (0, 0, 0, 0, 0)), (.putfield 430, (12, 56, 0, 0, 0)), (.aload_n 0, (0, 0, 0, 0, 0)), (.iload_n 1, (0, 0, 0, 0, 0))] [] (by decide +kernel) rfl trivial ?_
    obtain ⟨r4, hc4, hf⟩ := bnd_o hf
    refine b_cV (as := [mI v1]) (st := []) (by decide +kernel) k_12_502 n_MD_yearsGo rfl (by decide) v_MD_yearsGo (C_MD_yearsGo (m_up r3 177 56 (0 : Int32)) J v1 hR hc4) (Nat.le_of_ble_eq_true rfl) (by decide) rfl rfl (fun _ h => h) ?_
    show m_B G (m_rm 9 0 0) M_MD_years Q 0 0 31 [some (mR (12, 0, 177)), some (mI v1)] [] (L, r4.1, r4.2, R)
    refine b_blk (pc' := 35) (ls' := [some (mR (12, 0, 177)), some (mI v1)]) (st' := [mI (r4.1 177 56)]) (S' := (L, r4.1, r4.2, R)) (P := True) [(.aload_n 0, (0, 0, 0, 0, 0)), (.getfield 430, (12, 56, 0, 0, 0))] [] (by decide +kernel) rfl trivial ?_
    cases hf
    exact b_iret (by decide +kernel) rfl hk
  · have hf := if_t h2 hf
    refine b_blk (pc' := 13) (ls' := [some (mR (12, 0, 177)), some (mI v1)]) (st' := [mI 3, mR (12, 0, 177)]) (S' := (L, I, J, R)) (P := True) [(.aload_n 0, (0, 0, 0, 0, 0)), (.iconst 3, (0, 0, 0, 3, 0))] [] (by decide +kernel) rfl trivial ?_
    obtain ⟨r5, hc5, hf⟩ := bnd_o hf
    refine b_cV (as := [mI 3]) (st := []) (by decide +kernel) k_12_527 n_MD_refuses rfl (by decide) v_MD_refuses (C_MD_refuses I J (3 : Int32) hR hc5) (Nat.le_of_ble_eq_true rfl) (by decide) rfl rfl (fun _ h => h) ?_
    show m_B G (m_rm 9 0 0) M_MD_years Q 0 0 16 [some (mR (12, 0, 177)), some (mI v1)] [mI r5.1] (L, r5.2, J, R)
    cases hf
    exact b_iret (by decide +kernel) rfl hk
theorem C_MD_years {G : MG} {L : List (Nat × Nat)} {R : Nat → Nat → Option MRef} (I : MI) (J : MJ) (v1 : Int32) (hR : RF R) {r : Int32 × MI × MJ} (hf : F_MD_years I J v1 = some r) : m_met G 9 0 0 y_MD_years M_MD_years [mR (12, 0, 177), mI v1] (L, I, J, R) (m_is (some (mI r.1)) (L, r.2.1, r.2.2, R)) :=
  m_met_in n_MD_years (plainFor_of_name (by decide)) (by decide) (Nat.le_of_ble_eq_true rfl) (ls := [some (mR (12, 0, 177)), some (mI v1)]) rfl (W_MD_years I J v1 hR hf ⟨rfl, rfl⟩)
noncomputable def F_MD_seed (I : MI) (J : MJ) (v1 : Int32) : Option (Int32 × MI × MJ) :=
  if (0 : Int32) ≤ v1 then (some ((1 : Int32), I, m_up J 177 68 v1.toInt64)) else (some ((0 : Int32), m_up I 179 5 ((I 179 5) + (1 : Int32)), J))
set_option maxRecDepth 100000 in
set_option maxHeartbeats 400000 in
theorem W_MD_seed {G : MG} {Q : Option MV → MS → Prop} {L : List (Nat × Nat)} {R : Nat → Nat → Option MRef} (I : MI) (J : MJ) (v1 : Int32) (hR : RF R) {r : Int32 × MI × MJ} (hf : F_MD_seed I J v1 = some r) (hk : (fun r : Int32 × MI × MJ => Q (some (mI r.1)) (L, r.2.1, r.2.2, R)) r) : m_B G (m_rm 1 0 0) M_MD_seed Q 0 0 0 [some (mR (12, 0, 177)), some (mI v1)] [] (L, I, J, R) := by
  unfold F_MD_seed at hf
  refine b_blk (pc' := 1) (ls' := [some (mR (12, 0, 177)), some (mI v1)]) (st' := [mI v1]) (S' := (L, I, J, R)) (P := True) [(.iload_n 1, (0, 0, 0, 0, 0))] [] (by decide +kernel) rfl trivial ?_
  refine b_if_ge (off := 15) (tgt := 16) (by decide +kernel) (by decide) (fun h1 => ?_) (fun h1 => ?_)
  · have hf := if_t h1 hf
    refine b_blk (pc' := 23) (ls' := [some (mR (12, 0, 177)), some (mI v1)]) (st' := [mI 1]) (S' := (L, I, m_up J 177 68 v1.toInt64, R)) (P := True) [(.aload_n 0, (0, 0, 0, 0, 0)), (.iload_n 1, (0, 0, 0, 0, 0)), (.i2l, (0, 0, 0, 0, 0)), (.putfield 149, (12, 68, 2, 0, 0)), (.iconst 1, (0, 0, 0, 1, 0))] [] (by decide +kernel) rfl trivial ?_
    cases hf
    exact b_zret (by decide +kernel) rfl (by decide) hk
  · have hf := if_f h1 hf
    refine b_blk (pc' := 15) (ls' := [some (mR (12, 0, 177)), some (mI v1)]) (st' := [mI 0]) (S' := (L, m_up I 179 5 ((I 179 5) + (1 : Int32)), J, R)) (P := (((True ∧ R 177 9 = some (20, 6, 179)) ∧ vp_in (5 : Int32) 6) ∧ vp_in (5 : Int32) 6)) [(.aload_n 0, (0, 0, 0, 0, 0)), (.getfield 17, (12, 9, 3, 0, 0)), (.iconst 5, (0, 0, 0, 5, 0)), (.dup2, (0, 0, 0, 0, 0)), (.iaload, (0, 0, 0, 0, 0)), (.iconst 1, (0, 0, 0, 1, 0)), (.iadd, (0, 0, 0, 0, 0)), (.iastore, (0, 0, 0, 0, 0)), (.iconst 0, (0, 0, 0, 0, 0))] [some (20, 6, 179)] (by decide +kernel) rfl ⟨⟨⟨trivial, (r_177_9 hR)⟩, (vp_in_nI (n := 5) (N := 6) (by decide) (by decide))⟩, (vp_in_nI (n := 5) (N := 6) (by decide) (by decide))⟩ ?_
    cases hf
    exact b_zret (by decide +kernel) rfl (by decide) hk
theorem C_MD_seed {G : MG} {L : List (Nat × Nat)} {R : Nat → Nat → Option MRef} (I : MI) (J : MJ) (v1 : Int32) (hR : RF R) {r : Int32 × MI × MJ} (hf : F_MD_seed I J v1 = some r) : m_met G 1 0 0 y_MD_seed M_MD_seed [mR (12, 0, 177), mI v1] (L, I, J, R) (m_is (some (mI r.1)) (L, r.2.1, r.2.2, R)) :=
  m_met_in n_MD_seed (plainFor_of_name (by decide)) (by decide) (Nat.le_of_ble_eq_true rfl) (ls := [some (mR (12, 0, 177)), some (mI v1)]) rfl (W_MD_seed I J v1 hR hf ⟨rfl, rfl⟩)
noncomputable def F_MD_drawOf (J : MJ) (v1 : Int32) : Option (Int32 × MJ) :=
  gq (¬ v1.toInt64 = 0) <| bnd (m_up J 177 68 ((((1103515245 : Int64) * (J 177 68)) + (12345 : Int64)) - (((1103515245 : Int64) * (J 177 68)) + (12345 : Int64)) / (2147483648 : Int64) * (2147483648 : Int64)) : MJ) fun x2 => some ((((((((1103515245 : Int64) * (J 177 68)) + (12345 : Int64)) - (((1103515245 : Int64) * (J 177 68)) + (12345 : Int64)) / (2147483648 : Int64) * (2147483648 : Int64)) / (64 : Int64)) - (((((1103515245 : Int64) * (J 177 68)) + (12345 : Int64)) - (((1103515245 : Int64) * (J 177 68)) + (12345 : Int64)) / (2147483648 : Int64) * (2147483648 : Int64)) / (64 : Int64)) / v1.toInt64 * v1.toInt64).toInt32 : Int32), x2)
set_option maxRecDepth 100000 in
set_option maxHeartbeats 400000 in
theorem W_MD_drawOf {G : MG} {Q : Option MV → MS → Prop} {L : List (Nat × Nat)} {R : Nat → Nat → Option MRef} (I : MI) (J : MJ) (v1 : Int32) (hR : RF R) {r : Int32 × MJ} (hf : F_MD_drawOf J v1 = some r) (hk : (fun r : Int32 × MJ => Q (some (mI r.1)) (L, I, r.2, R)) r) : m_B G (m_rm 1 0 0) M_MD_drawOf Q 0 0 0 [some (mR (12, 0, 177)), some (mI v1)] [] (L, I, J, R) := by
  unfold F_MD_drawOf at hf
  obtain ⟨g1, hf⟩ := gq_s hf
  refine b_blk (pc' := 32) (ls' := [some (mR (12, 0, 177)), some (mI v1)]) (st' := [mI (((((((1103515245 : Int64) * (J 177 68)) + (12345 : Int64)) - (((1103515245 : Int64) * (J 177 68)) + (12345 : Int64)) / (2147483648 : Int64) * (2147483648 : Int64)) / (64 : Int64)) - (((((1103515245 : Int64) * (J 177 68)) + (12345 : Int64)) - (((1103515245 : Int64) * (J 177 68)) + (12345 : Int64)) / (2147483648 : Int64) * (2147483648 : Int64)) / (64 : Int64)) / v1.toInt64 * v1.toInt64).toInt32)]) (S' := (L, I, m_up J 177 68 ((((1103515245 : Int64) * (J 177 68)) + (12345 : Int64)) - (((1103515245 : Int64) * (J 177 68)) + (12345 : Int64)) / (2147483648 : Int64) * (2147483648 : Int64)), R)) (P := (((True ∧ ¬ (2147483648 : Int64) = 0) ∧ ¬ (64 : Int64) = 0) ∧ ¬ v1.toInt64 = 0)) [(.aload_n 0, (0, 0, 0, 0, 0)), (.ldc2_w 551, (0, 0, 0, 0, 1103515245)), (.aload_n 0, (0, 0, 0, 0, 0)), (.getfield 149, (12, 68, 2, 0, 0)), (.lmul, (0, 0, 0, 0, 0)), (.ldc2_w 553, (0, 0, 0, 0, 12345)), (.ladd, (0, 0, 0, 0, 0)), (.ldc2_w 555, (0, 0, 0, 0, 2147483648)), (.lrem, (0, 0, 0, 0, 0)), (.putfield 149, (12, 68, 2, 0, 0)), (.aload_n 0, (0, 0, 0, 0, 0)), (.getfield 149, (12, 68, 2, 0, 0)), (.ldc2_w 557, (0, 0, 0, 0, 64)), (.ldiv, (0, 0, 0, 0, 0)), (.iload_n 1, (0, 0, 0, 0, 0)), (.i2l, (0, 0, 0, 0, 0)), (.lrem, (0, 0, 0, 0, 0)), (.l2i, (0, 0, 0, 0, 0))] [] (by decide +kernel) rfl ⟨⟨⟨trivial, (by decide)⟩, (by decide)⟩, g1⟩ ?_
  obtain ⟨x2, ex2, hf⟩ := bnd_s hf
  refine m_B_cg (ls' := [some (mR (12, 0, 177)), some (mI v1)]) (st' := [mI (((((((1103515245 : Int64) * (J 177 68)) + (12345 : Int64)) - (((1103515245 : Int64) * (J 177 68)) + (12345 : Int64)) / (2147483648 : Int64) * (2147483648 : Int64)) / (64 : Int64)) - (((((1103515245 : Int64) * (J 177 68)) + (12345 : Int64)) - (((1103515245 : Int64) * (J 177 68)) + (12345 : Int64)) / (2147483648 : Int64) * (2147483648 : Int64)) / (64 : Int64)) / v1.toInt64 * v1.toInt64).toInt32)]) (S' := (L, I, x2, R)) (by first | with_reducible rfl | rw [ex2]) (by first | with_reducible rfl | rw [ex2]) (by first | with_reducible rfl | rw [ex2]) ?_
  cases hf
  exact b_iret (by decide +kernel) rfl hk
theorem C_MD_drawOf {G : MG} {L : List (Nat × Nat)} {R : Nat → Nat → Option MRef} (I : MI) (J : MJ) (v1 : Int32) (hR : RF R) {r : Int32 × MJ} (hf : F_MD_drawOf J v1 = some r) : m_met G 1 0 0 y_MD_drawOf M_MD_drawOf [mR (12, 0, 177), mI v1] (L, I, J, R) (m_is (some (mI r.1)) (L, I, r.2, R)) :=
  m_met_in n_MD_drawOf (plainFor_of_name (by decide)) (by decide) (Nat.le_of_ble_eq_true rfl) (ls := [some (mR (12, 0, 177)), some (mI v1)]) rfl (W_MD_drawOf I J v1 hR hf ⟨rfl, rfl⟩)
noncomputable def F_MD_chance_25 (I : MI) (J : MJ) (v1 : Int32) (v2 : Int32) (v3 : Int32) : Option ((Int32 × Int32 × MI × MJ) ⊕ (Int32 × MI × MJ)) :=
  if v1 ≤ v3 then (some (.inr ((v2 : Int32), I, J))) else ((F_MD_drawOf J (100 : Int32)).bind fun r2 => if (I 177 43) ≤ r2.1 then ((F_MD_yearGoes I r2.2).bind fun r4 => some (.inl ((v2 : Int32), (v3 + 1 : Int32), r4.1, r4.2))) else ((F_MD_fenceMany I).bind fun r5 => if r5 ≤ (0 : Int32) then ((F_MD_yearGoes I r2.2).bind fun r7 => some (.inl ((v2 : Int32), (v3 + 1 : Int32), r7.1, r7.2))) else ((F_MD_fenceMany I).bind fun r8 => (F_MD_drawOf r2.2 r8).bind fun r9 => (F_MD_drawOf r9.2 (I 204 2)).bind fun r10 => (F_MD_rowOf I r9.1 r10.1).bind fun r11 => if r11 = (-1 : Int32) then ((F_MD_yearGoes I r10.2).bind fun r13 => some (.inl ((v2 + 1 : Int32), (v3 + 1 : Int32), r13.1, r13.2))) else ((F_MD_isGone I r9.1 r10.1).bind fun r14 => (F_MD_yearGoes r14 r10.2).bind fun r15 => some (.inl ((v2 + 1 : Int32), (v3 + 1 : Int32), r15.1, r15.2))))))
set_option maxRecDepth 100000 in
set_option maxHeartbeats 400000 in
theorem W_MD_chance_25 {G : MG} {Q : Option MV → MS → Prop} {L : List (Nat × Nat)} {R : Nat → Nat → Option MRef} (I : MI) (J : MJ) (v1 : Int32) (v2 : Int32) (v3 : Int32) (hR : RF R) {r : (Int32 × Int32 × MI × MJ) ⊕ (Int32 × MI × MJ)} (hf : F_MD_chance_25 I J v1 v2 v3 = some r) (hk : (Sum.elim (fun s : Int32 × Int32 × MI × MJ => m_B G (m_rm 8 0 0) M_MD_chance Q 0 0 25 [some (mR (12, 0, 177)), some (mI v1), some (mI s.1), some (mI s.2.1), none, none] [] (L, s.2.2.1, s.2.2.2, R)) (fun s : Int32 × MI × MJ => m_B G (m_rm 8 0 0) M_MD_chance Q 0 0 105 [none, none, some (mI s.1), none, none, none] [] (L, s.2.1, s.2.2, R))) r) : m_B G (m_rm 8 0 0) M_MD_chance Q 0 0 25 [some (mR (12, 0, 177)), some (mI v1), some (mI v2), some (mI v3), none, none] [] (L, I, J, R) := by
  unfold F_MD_chance_25 at hf
  refine b_blk (pc' := 27) (ls' := [some (mR (12, 0, 177)), some (mI v1), some (mI v2), some (mI v3), none, none]) (st' := [mI v1, mI v3]) (S' := (L, I, J, R)) (P := True) [(.iload_n 3, (0, 0, 0, 0, 0)), (.iload_n 1, (0, 0, 0, 0, 0))] [] (by decide +kernel) rfl trivial ?_
  refine b_icmp_ge (off := 78) (tgt := 105) (by decide +kernel) (by decide) (fun h1 => ?_) (fun h1 => ?_)
  · have hf := if_t h1 hf
    refine b_frg 0 ?_
    refine b_frg 1 ?_
    refine b_frg 3 ?_
    cases hf
    exact hk
  · have hf := if_f h1 hf
    refine b_blk (pc' := 33) (ls' := [some (mR (12, 0, 177)), some (mI v1), some (mI v2), some (mI v3), none, none]) (st' := [mI 100, mR (12, 0, 177)]) (S' := (L, I, J, R)) (P := True) [(.aload_n 0, (0, 0, 0, 0, 0)), (.bipush 100, (0, 0, 0, 100, 0))] [] (by decide +kernel) rfl trivial ?_
    obtain ⟨r2, hc2, hf⟩ := bnd_o hf
    refine b_cV (as := [mI 100]) (st := []) (by decide +kernel) k_12_559 n_MD_drawOf rfl (by decide) v_MD_drawOf (C_MD_drawOf I J (100 : Int32) hR hc2) (Nat.le_of_ble_eq_true rfl) (by decide) rfl rfl (fun _ h => h) ?_
    show m_B G (m_rm 8 0 0) M_MD_chance Q 0 0 36 [some (mR (12, 0, 177)), some (mI v1), some (mI v2), some (mI v3), none, none] [mI r2.1] (L, I, r2.2, R)
    refine b_blk (pc' := 40) (ls' := [some (mR (12, 0, 177)), some (mI v1), some (mI v2), some (mI v3), none, none]) (st' := [mI (I 177 43), mI r2.1]) (S' := (L, I, r2.2, R)) (P := True) [(.aload_n 0, (0, 0, 0, 0, 0)), (.getfield 373, (12, 43, 0, 0, 0))] [] (by decide +kernel) rfl trivial ?_
    refine b_icmp_ge (off := 55) (tgt := 95) (by decide +kernel) (by decide) (fun h3 => ?_) (fun h3 => ?_)
    · have hf := if_t h3 hf
      refine b_blk (pc' := 96) (ls' := [some (mR (12, 0, 177)), some (mI v1), some (mI v2), some (mI v3), none, none]) (st' := [mR (12, 0, 177)]) (S' := (L, I, r2.2, R)) (P := True) [(.aload_n 0, (0, 0, 0, 0, 0))] [] (by decide +kernel) rfl trivial ?_
      obtain ⟨r4, hc4, hf⟩ := bnd_o hf
      refine b_cV (as := []) (st := []) (by decide +kernel) k_12_461 n_MD_yearGoes rfl (by decide) v_MD_yearGoes (C_MD_yearGoes I r2.2 hR hc4) (Nat.le_of_ble_eq_true rfl) (by decide) rfl rfl (fun _ h => h) ?_
      show m_B G (m_rm 8 0 0) M_MD_chance Q 0 0 99 [some (mR (12, 0, 177)), some (mI v1), some (mI v2), some (mI v3), none, none] [] (L, r4.1, r4.2, R)
      refine b_blk (pc' := 25) (ls' := [some (mR (12, 0, 177)), some (mI v1), some (mI v2), some (mI (v3 + 1)), none, none]) (st' := []) (S' := (L, r4.1, r4.2, R)) (P := True) [(.iinc 3 1, (0, 0, 0, 1, 0)), (.goto (-77), (0, 25, 0, 0, 0))] [] (by decide +kernel) rfl trivial ?_
      cases hf
      exact hk
    · have hf := if_f h3 hf
      refine b_blk (pc' := 44) (ls' := [some (mR (12, 0, 177)), some (mI v1), some (mI v2), some (mI v3), none, none]) (st' := [mR (12, 0, 177)]) (S' := (L, I, r2.2, R)) (P := True) [(.aload_n 0, (0, 0, 0, 0, 0))] [] (by decide +kernel) rfl trivial ?_
      obtain ⟨r5, hc5, hf⟩ := bnd_o hf
      refine b_cV (as := []) (st := []) (by decide +kernel) k_12_382 n_MD_fenceMany rfl (by decide) v_MD_fenceMany (C_MD_fenceMany I r2.2 hR hc5) (Nat.le_of_ble_eq_true rfl) (by decide) rfl rfl (fun _ h => h) ?_
      show m_B G (m_rm 8 0 0) M_MD_chance Q 0 0 47 [some (mR (12, 0, 177)), some (mI v1), some (mI v2), some (mI v3), none, none] [mI r5] (L, I, r2.2, R)
      refine b_if_le (off := 48) (tgt := 95) (by decide +kernel) (by decide) (fun h6 => ?_) (fun h6 => ?_)
      · have hf := if_t h6 hf
        refine b_blk (pc' := 96) (ls' := [some (mR (12, 0, 177)), some (mI v1), some (mI v2), some (mI v3), none, none]) (st' := [mR (12, 0, 177)]) (S' := (L, I, r2.2, R)) (P := True) [(.aload_n 0, (0, 0, 0, 0, 0))] [] (by decide +kernel) rfl trivial ?_
        obtain ⟨r7, hc7, hf⟩ := bnd_o hf
        refine b_cV (as := []) (st := []) (by decide +kernel) k_12_461 n_MD_yearGoes rfl (by decide) v_MD_yearGoes (C_MD_yearGoes I r2.2 hR hc7) (Nat.le_of_ble_eq_true rfl) (by decide) rfl rfl (fun _ h => h) ?_
        show m_B G (m_rm 8 0 0) M_MD_chance Q 0 0 99 [some (mR (12, 0, 177)), some (mI v1), some (mI v2), some (mI v3), none, none] [] (L, r7.1, r7.2, R)
        refine b_blk (pc' := 25) (ls' := [some (mR (12, 0, 177)), some (mI v1), some (mI v2), some (mI (v3 + 1)), none, none]) (st' := []) (S' := (L, r7.1, r7.2, R)) (P := True) [(.iinc 3 1, (0, 0, 0, 1, 0)), (.goto (-77), (0, 25, 0, 0, 0))] [] (by decide +kernel) rfl trivial ?_
        cases hf
        exact hk
      · have hf := if_f h6 hf
        refine b_blk (pc' := 52) (ls' := [some (mR (12, 0, 177)), some (mI v1), some (mI v2), some (mI v3), none, none]) (st' := [mR (12, 0, 177), mR (12, 0, 177)]) (S' := (L, I, r2.2, R)) (P := True) [(.aload_n 0, (0, 0, 0, 0, 0)), (.aload_n 0, (0, 0, 0, 0, 0))] [] (by decide +kernel) rfl trivial ?_
        obtain ⟨r8, hc8, hf⟩ := bnd_o hf
        refine b_cV (as := []) (st := [mR (12, 0, 177)]) (by decide +kernel) k_12_382 n_MD_fenceMany rfl (by decide) v_MD_fenceMany (C_MD_fenceMany I r2.2 hR hc8) (Nat.le_of_ble_eq_true rfl) (by decide) rfl rfl (fun _ h => h) ?_
        show m_B G (m_rm 8 0 0) M_MD_chance Q 0 0 55 [some (mR (12, 0, 177)), some (mI v1), some (mI v2), some (mI v3), none, none] [mI r8, mR (12, 0, 177)] (L, I, r2.2, R)
        obtain ⟨r9, hc9, hf⟩ := bnd_o hf
        refine b_cV (as := [mI r8]) (st := []) (by decide +kernel) k_12_559 n_MD_drawOf rfl (by decide) v_MD_drawOf (C_MD_drawOf I r2.2 r8 hR hc9) (Nat.le_of_ble_eq_true rfl) (by decide) rfl rfl (fun _ h => h) ?_
        show m_B G (m_rm 8 0 0) M_MD_chance Q 0 0 58 [some (mR (12, 0, 177)), some (mI v1), some (mI v2), some (mI v3), none, none] [mI r9.1] (L, I, r9.2, R)
        refine b_blk (pc' := 67) (ls' := [some (mR (12, 0, 177)), some (mI v1), some (mI v2), some (mI v3), some (mI r9.1), none]) (st' := [mI (I 204 2), mR (12, 0, 177)]) (S' := (L, I, r9.2, R)) (P := ((True ∧ R 177 36 = some (20, 4, 204)) ∧ vp_in (2 : Int32) 4)) [(.istore 4, (0, 0, 0, 0, 0)), (.aload_n 0, (0, 0, 0, 0, 0)), (.aload_n 0, (0, 0, 0, 0, 0)), (.getfield 93, (12, 36, 3, 0, 0)), (.iconst 2, (0, 0, 0, 2, 0)), (.iaload, (0, 0, 0, 0, 0))] [some (20, 4, 204)] (by decide +kernel) rfl ⟨⟨trivial, (r_177_36 hR)⟩, (vp_in_nI (n := 2) (N := 4) (by decide) (by decide))⟩ ?_
        obtain ⟨r10, hc10, hf⟩ := bnd_o hf
        refine b_cV (as := [mI (I 204 2)]) (st := []) (by decide +kernel) k_12_559 n_MD_drawOf rfl (by decide) v_MD_drawOf (C_MD_drawOf I r9.2 (I 204 2) hR hc10) (Nat.le_of_ble_eq_true rfl) (by decide) rfl rfl (fun _ h => h) ?_
        show m_B G (m_rm 8 0 0) M_MD_chance Q 0 0 70 [some (mR (12, 0, 177)), some (mI v1), some (mI v2), some (mI v3), some (mI r9.1), none] [mI r10.1] (L, I, r10.2, R)
        refine b_blk (pc' := 77) (ls' := [some (mR (12, 0, 177)), some (mI v1), some (mI v2), some (mI v3), some (mI r9.1), some (mI r10.1)]) (st' := [mI r10.1, mI r9.1, mR (12, 0, 177)]) (S' := (L, I, r10.2, R)) (P := True) [(.istore 5, (0, 0, 0, 0, 0)), (.aload_n 0, (0, 0, 0, 0, 0)), (.iload 4, (0, 0, 0, 0, 0)), (.iload 5, (0, 0, 0, 0, 0))] [] (by decide +kernel) rfl trivial ?_
        obtain ⟨r11, hc11, hf⟩ := bnd_o hf
        refine b_cV (as := [mI r9.1, mI r10.1]) (st := []) (by decide +kernel) k_12_392 n_MD_rowOf rfl (by decide) v_MD_rowOf (C_MD_rowOf I r10.2 r9.1 r10.1 hR hc11) (Nat.le_of_ble_eq_true rfl) (by decide) rfl rfl (fun _ h => h) ?_
        show m_B G (m_rm 8 0 0) M_MD_chance Q 0 0 80 [some (mR (12, 0, 177)), some (mI v1), some (mI v2), some (mI v3), some (mI r9.1), some (mI r10.1)] [mI r11] (L, I, r10.2, R)
        refine b_blk (pc' := 81) (ls' := [some (mR (12, 0, 177)), some (mI v1), some (mI v2), some (mI v3), some (mI r9.1), some (mI r10.1)]) (st' := [mI (-1), mI r11]) (S' := (L, I, r10.2, R)) (P := True) [(.iconst (-1), (0, 0, 0, (-1), 0))] [] (by decide +kernel) rfl trivial ?_
        refine b_icmp_eq (off := 11) (tgt := 92) (by decide +kernel) (by decide) (fun h12 => ?_) (fun h12 => ?_)
        · have hf := if_t h12 hf
          refine b_blk (pc' := 96) (ls' := [some (mR (12, 0, 177)), some (mI v1), some (mI (v2 + 1)), some (mI v3), some (mI r9.1), some (mI r10.1)]) (st' := [mR (12, 0, 177)]) (S' := (L, I, r10.2, R)) (P := True) [(.iinc 2 1, (0, 0, 0, 1, 0)), (.aload_n 0, (0, 0, 0, 0, 0))] [] (by decide +kernel) rfl trivial ?_
          obtain ⟨r13, hc13, hf⟩ := bnd_o hf
          refine b_cV (as := []) (st := []) (by decide +kernel) k_12_461 n_MD_yearGoes rfl (by decide) v_MD_yearGoes (C_MD_yearGoes I r10.2 hR hc13) (Nat.le_of_ble_eq_true rfl) (by decide) rfl rfl (fun _ h => h) ?_
          show m_B G (m_rm 8 0 0) M_MD_chance Q 0 0 99 [some (mR (12, 0, 177)), some (mI v1), some (mI (v2 + 1)), some (mI v3), some (mI r9.1), some (mI r10.1)] [] (L, r13.1, r13.2, R)
          refine b_blk (pc' := 25) (ls' := [some (mR (12, 0, 177)), some (mI v1), some (mI (v2 + 1)), some (mI (v3 + 1)), some (mI r9.1), some (mI r10.1)]) (st' := []) (S' := (L, r13.1, r13.2, R)) (P := True) [(.iinc 3 1, (0, 0, 0, 1, 0)), (.goto (-77), (0, 25, 0, 0, 0))] [] (by decide +kernel) rfl trivial ?_
          refine b_frg 4 ?_
          refine b_frg 5 ?_
          cases hf
          exact hk
        · have hf := if_f h12 hf
          refine b_blk (pc' := 89) (ls' := [some (mR (12, 0, 177)), some (mI v1), some (mI v2), some (mI v3), some (mI r9.1), some (mI r10.1)]) (st' := [mI r10.1, mI r9.1, mR (12, 0, 177)]) (S' := (L, I, r10.2, R)) (P := True) [(.aload_n 0, (0, 0, 0, 0, 0)), (.iload 4, (0, 0, 0, 0, 0)), (.iload 5, (0, 0, 0, 0, 0))] [] (by decide +kernel) rfl trivial ?_
          obtain ⟨r14, hc14, hf⟩ := bnd_o hf
          refine b_cV (as := [mI r9.1, mI r10.1]) (st := []) (by decide +kernel) k_12_440 n_MD_isGone rfl (by decide) v_MD_isGone (C_MD_isGone I r10.2 r9.1 r10.1 hR hc14) (Nat.le_of_ble_eq_true rfl) (by decide) rfl rfl (fun _ h => h) ?_
          show m_B G (m_rm 8 0 0) M_MD_chance Q 0 0 92 [some (mR (12, 0, 177)), some (mI v1), some (mI v2), some (mI v3), some (mI r9.1), some (mI r10.1)] [] (L, r14, r10.2, R)
          refine b_blk (pc' := 96) (ls' := [some (mR (12, 0, 177)), some (mI v1), some (mI (v2 + 1)), some (mI v3), some (mI r9.1), some (mI r10.1)]) (st' := [mR (12, 0, 177)]) (S' := (L, r14, r10.2, R)) (P := True) [(.iinc 2 1, (0, 0, 0, 1, 0)), (.aload_n 0, (0, 0, 0, 0, 0))] [] (by decide +kernel) rfl trivial ?_
          obtain ⟨r15, hc15, hf⟩ := bnd_o hf
          refine b_cV (as := []) (st := []) (by decide +kernel) k_12_461 n_MD_yearGoes rfl (by decide) v_MD_yearGoes (C_MD_yearGoes r14 r10.2 hR hc15) (Nat.le_of_ble_eq_true rfl) (by decide) rfl rfl (fun _ h => h) ?_
          show m_B G (m_rm 8 0 0) M_MD_chance Q 0 0 99 [some (mR (12, 0, 177)), some (mI v1), some (mI (v2 + 1)), some (mI v3), some (mI r9.1), some (mI r10.1)] [] (L, r15.1, r15.2, R)
          refine b_blk (pc' := 25) (ls' := [some (mR (12, 0, 177)), some (mI v1), some (mI (v2 + 1)), some (mI (v3 + 1)), some (mI r9.1), some (mI r10.1)]) (st' := []) (S' := (L, r15.1, r15.2, R)) (P := True) [(.iinc 3 1, (0, 0, 0, 1, 0)), (.goto (-77), (0, 25, 0, 0, 0))] [] (by decide +kernel) rfl trivial ?_
          refine b_frg 4 ?_
          refine b_frg 5 ?_
          cases hf
          exact hk
noncomputable def F_MD_chance (I : MI) (J : MJ) (v1 : Int32) : Option (Int32 × MI × MJ) :=
  (F_MD_isAhead I v1 (1 : Int32) (100 : Int32)).bind fun r1 => if r1 = (0 : Int32) then ((F_MD_refuses I (3 : Int32)).bind fun r5 => some ((r5.1 : Int32), r5.2, J)) else ((F_MD_keeps I).bind fun r3 => (wl (fun s : Int32 × Int32 × MI × MJ => F_MD_chance_25 s.2.2.1 s.2.2.2 v1 s.1 s.2.1) ((0 : Int32), (0 : Int32), r3, J)).bind fun t4 => some ((t4.1 : Int32), t4.2.1, t4.2.2))
set_option maxRecDepth 100000 in
set_option maxHeartbeats 400000 in
theorem W_MD_chance {G : MG} {Q : Option MV → MS → Prop} {L : List (Nat × Nat)} {R : Nat → Nat → Option MRef} (I : MI) (J : MJ) (v1 : Int32) (hR : RF R) {r : Int32 × MI × MJ} (hf : F_MD_chance I J v1 = some r) (hk : (fun r : Int32 × MI × MJ => Q (some (mI r.1)) (L, r.2.1, r.2.2, R)) r) : m_B G (m_rm 8 0 0) M_MD_chance Q 0 0 0 [some (mR (12, 0, 177)), some (mI v1), none, none, none, none] [] (L, I, J, R) := by
  unfold F_MD_chance at hf
  refine b_blk (pc' := 5) (ls' := [some (mR (12, 0, 177)), some (mI v1), none, none, none, none]) (st' := [mI 100, mI 1, mI v1, mR (12, 0, 177)]) (S' := (L, I, J, R)) (P := True) [(.aload_n 0, (0, 0, 0, 0, 0)), (.iload_n 1, (0, 0, 0, 0, 0)), (.iconst 1, (0, 0, 0, 1, 0)), (.bipush 100, (0, 0, 0, 100, 0))] [] (by decide +kernel) rfl trivial ?_
  obtain ⟨r1, hc1, hf⟩ := bnd_o hf
  refine b_cV (as := [mI v1, mI 1, mI 100]) (st := []) (by decide +kernel) k_12_495 n_MD_isAhead rfl (by decide) v_MD_isAhead (C_MD_isAhead I J v1 (1 : Int32) (100 : Int32) hR hc1) (Nat.le_of_ble_eq_true rfl) (by decide) rfl rfl (fun _ h => h) ?_
  show m_B G (m_rm 8 0 0) M_MD_chance Q 0 0 8 [some (mR (12, 0, 177)), some (mI v1), none, none, none, none] [mI r1] (L, I, J, R)
  refine b_if_ne (off := 9) (tgt := 17) (by decide +kernel) (by decide) (fun h2 => ?_) (fun h2 => ?_)
  · have hf := if_f h2 hf
    refine b_blk (pc' := 18) (ls' := [some (mR (12, 0, 177)), some (mI v1), none, none, none, none]) (st' := [mR (12, 0, 177)]) (S' := (L, I, J, R)) (P := True) [(.aload_n 0, (0, 0, 0, 0, 0))] [] (by decide +kernel) rfl trivial ?_
    obtain ⟨r3, hc3, hf⟩ := bnd_o hf
    refine b_cV (as := []) (st := []) (by decide +kernel) k_12_548 n_MD_keeps rfl (by decide) v_MD_keeps (C_MD_keeps I J hR hc3) (Nat.le_of_ble_eq_true rfl) (by decide) rfl rfl (fun _ h => h) ?_
    show m_B G (m_rm 8 0 0) M_MD_chance Q 0 0 21 [some (mR (12, 0, 177)), some (mI v1), none, none, none, none] [] (L, r3, J, R)
    refine b_blk (pc' := 25) (ls' := [some (mR (12, 0, 177)), some (mI v1), some (mI 0), some (mI 0), none, none]) (st' := []) (S' := (L, r3, J, R)) (P := True) [(.iconst 0, (0, 0, 0, 0, 0)), (.istore_n 2, (0, 0, 0, 0, 0)), (.iconst 0, (0, 0, 0, 0, 0)), (.istore_n 3, (0, 0, 0, 0, 0))] [] (by decide +kernel) rfl trivial ?_
    obtain ⟨t4, hw, hf⟩ := bnd_o hf
    refine wl_B (A := fun s : Int32 × Int32 × MI × MJ => m_B G (m_rm 8 0 0) M_MD_chance Q 0 0 25 [some (mR (12, 0, 177)), some (mI v1), some (mI s.1), some (mI s.2.1), none, none] [] (L, s.2.2.1, s.2.2.2, R)) (B := (fun s : Int32 × MI × MJ => m_B G (m_rm 8 0 0) M_MD_chance Q 0 0 105 [none, none, some (mI s.1), none, none, none] [] (L, s.2.1, s.2.2, R))) (fun s r hs hr => W_MD_chance_25 s.2.2.1 s.2.2.2 v1 s.1 s.2.1 hR hs hr) hw ?_
    show m_B G (m_rm 8 0 0) M_MD_chance Q 0 0 105 [none, none, some (mI t4.1), none, none, none] [] (L, t4.2.1, t4.2.2, R)
    refine b_blk (pc' := 106) (ls' := [none, none, some (mI t4.1), none, none, none]) (st' := [mI t4.1]) (S' := (L, t4.2.1, t4.2.2, R)) (P := True) [(.iload_n 2, (0, 0, 0, 0, 0))] [] (by decide +kernel) rfl trivial ?_
    cases hf
    exact b_iret (by decide +kernel) rfl hk
  · have hf := if_t h2 hf
    refine b_blk (pc' := 13) (ls' := [some (mR (12, 0, 177)), some (mI v1), none, none, none, none]) (st' := [mI 3, mR (12, 0, 177)]) (S' := (L, I, J, R)) (P := True) [(.aload_n 0, (0, 0, 0, 0, 0)), (.iconst 3, (0, 0, 0, 3, 0))] [] (by decide +kernel) rfl trivial ?_
    obtain ⟨r5, hc5, hf⟩ := bnd_o hf
    refine b_cV (as := [mI 3]) (st := []) (by decide +kernel) k_12_527 n_MD_refuses rfl (by decide) v_MD_refuses (C_MD_refuses I J (3 : Int32) hR hc5) (Nat.le_of_ble_eq_true rfl) (by decide) rfl rfl (fun _ h => h) ?_
    show m_B G (m_rm 8 0 0) M_MD_chance Q 0 0 16 [some (mR (12, 0, 177)), some (mI v1), none, none, none, none] [mI r5.1] (L, r5.2, J, R)
    cases hf
    exact b_iret (by decide +kernel) rfl hk
theorem C_MD_chance {G : MG} {L : List (Nat × Nat)} {R : Nat → Nat → Option MRef} (I : MI) (J : MJ) (v1 : Int32) (hR : RF R) {r : Int32 × MI × MJ} (hf : F_MD_chance I J v1 = some r) : m_met G 8 0 0 y_MD_chance M_MD_chance [mR (12, 0, 177), mI v1] (L, I, J, R) (m_is (some (mI r.1)) (L, r.2.1, r.2.2, R)) :=
  m_met_in n_MD_chance (plainFor_of_name (by decide)) (by decide) (Nat.le_of_ble_eq_true rfl) (ls := [some (mR (12, 0, 177)), some (mI v1), none, none, none, none]) rfl (W_MD_chance I J v1 hR hf ⟨rfl, rfl⟩)
noncomputable def F_MD_qKind_76 (I : MI) (y0 : Int32) : Option (Int32 × MI) :=
  if y0 = (5 : Int32) then ((F_MD_asks 227 5 I).bind fun r2 => some ((y0 : Int32), r2)) else (some ((y0 : Int32), I))
set_option maxRecDepth 100000 in
set_option maxHeartbeats 400000 in
theorem W_MD_qKind_76 {G : MG} {Q : Option MV → MS → Prop} {L : List (Nat × Nat)} {R : Nat → Nat → Option MRef} (I : MI) (J : MJ) (y0 : Int32) (hR : RF R) {r : Int32 × MI} (hf : F_MD_qKind_76 I y0 = some r) (hk : (fun r : Int32 × MI => Q (some (mI r.1)) (L, r.2, J, R)) r) : m_B G (m_rm 5 0 0) M_MD_qKind Q 0 0 76 [some (mR (12, 0, 177)), none] [mI y0] (L, I, J, R) := by
  unfold F_MD_qKind_76 at hf
  refine b_blk (pc' := 79) (ls' := [some (mR (12, 0, 177)), some (mI y0)]) (st' := [mI 5, mI y0]) (S' := (L, I, J, R)) (P := True) [(.istore_n 1, (0, 0, 0, 0, 0)), (.iload_n 1, (0, 0, 0, 0, 0)), (.iconst 5, (0, 0, 0, 5, 0))] [] (by decide +kernel) rfl trivial ?_
  refine b_icmp_ne (off := 11) (tgt := 90) (by decide +kernel) (by decide) (fun h1 => ?_) (fun h1 => ?_)
  · have hf := if_f h1 hf
    refine b_blk (pc' := 91) (ls' := [some (mR (12, 0, 177)), some (mI y0)]) (st' := [mI y0]) (S' := (L, I, J, R)) (P := True) [(.iload_n 1, (0, 0, 0, 0, 0))] [] (by decide +kernel) rfl trivial ?_
    cases hf
    exact b_iret (by decide +kernel) rfl hk
  · have hf := if_t h1 hf
    refine b_blk (pc' := 87) (ls' := [some (mR (12, 0, 177)), some (mI y0)]) (st' := [mR (23, 5, 227), mR (12, 0, 177)]) (S' := (L, I, J, R)) (P := (True ∧ R 177 74 = some (23, 5, 227))) [(.aload_n 0, (0, 0, 0, 0, 0)), (.aload_n 0, (0, 0, 0, 0, 0)), (.getfield 168, (12, 74, 3, 0, 0))] [some (23, 5, 227)] (by decide +kernel) rfl ⟨trivial, (r_177_74 hR)⟩ ?_
    obtain ⟨r2, hc2, hf⟩ := bnd_o hf
    refine b_cV (as := [mR (23, 5, 227)]) (st := []) (by decide +kernel) k_12_295 n_MD_asks rfl (by decide) v_MD_asks (C_MD_asks 227 5 I J hR (by decide) hc2) (Nat.le_of_ble_eq_true rfl) (by decide) rfl rfl (fun _ h => h) ?_
    show m_B G (m_rm 5 0 0) M_MD_qKind Q 0 0 90 [some (mR (12, 0, 177)), some (mI y0)] [] (L, r2, J, R)
    refine b_blk (pc' := 91) (ls' := [some (mR (12, 0, 177)), some (mI y0)]) (st' := [mI y0]) (S' := (L, r2, J, R)) (P := True) [(.iload_n 1, (0, 0, 0, 0, 0))] [] (by decide +kernel) rfl trivial ?_
    cases hf
    exact b_iret (by decide +kernel) rfl hk
noncomputable def F_MD_qKind (I : MI) : Option (Int32 × MI) :=
  (F_MD_takes 222 5 I).bind fun r1 => if r1.1 = (0 : Int32) then ((F_MD_takes 223 4 r1.2).bind fun r3 => if r3.1 = (0 : Int32) then ((F_MD_takes 224 5 r3.2).bind fun r5 => if r5.1 = (0 : Int32) then ((F_MD_takes 225 5 r5.2).bind fun r7 => if r7.1 = (0 : Int32) then ((F_MD_takes 226 4 r7.2).bind fun r9 => if r9.1 = (0 : Int32) then (F_MD_qKind_76 r9.2 (5 : Int32)) else (F_MD_qKind_76 r9.2 (4 : Int32))) else (F_MD_qKind_76 r7.2 (3 : Int32))) else (F_MD_qKind_76 r5.2 (2 : Int32))) else (F_MD_qKind_76 r3.2 (1 : Int32))) else (F_MD_qKind_76 r1.2 (0 : Int32))
set_option maxRecDepth 100000 in
set_option maxHeartbeats 400000 in
theorem W_MD_qKind {G : MG} {Q : Option MV → MS → Prop} {L : List (Nat × Nat)} {R : Nat → Nat → Option MRef} (I : MI) (J : MJ) (hR : RF R) {r : Int32 × MI} (hf : F_MD_qKind I = some r) (hk : (fun r : Int32 × MI => Q (some (mI r.1)) (L, r.2, J, R)) r) : m_B G (m_rm 5 0 0) M_MD_qKind Q 0 0 0 [some (mR (12, 0, 177)), none] [] (L, I, J, R) := by
  unfold F_MD_qKind at hf
  refine b_blk (pc' := 5) (ls' := [some (mR (12, 0, 177)), none]) (st' := [mR (23, 5, 222), mR (12, 0, 177)]) (S' := (L, I, J, R)) (P := (True ∧ R 177 69 = some (23, 5, 222))) [(.aload_n 0, (0, 0, 0, 0, 0)), (.aload_n 0, (0, 0, 0, 0, 0)), (.getfield 153, (12, 69, 3, 0, 0))] [some (23, 5, 222)] (by decide +kernel) rfl ⟨trivial, (r_177_69 hR)⟩ ?_
  obtain ⟨r1, hc1, hf⟩ := bnd_o hf
  refine b_cV (as := [mR (23, 5, 222)]) (st := []) (by decide +kernel) k_12_261 n_MD_takes rfl (by decide) v_MD_takes (C_MD_takes 222 5 I J hR (by decide) hc1) (Nat.le_of_ble_eq_true rfl) (by decide) rfl rfl (fun _ h => h) ?_
  show m_B G (m_rm 5 0 0) M_MD_qKind Q 0 0 8 [some (mR (12, 0, 177)), none] [mI r1.1] (L, r1.2, J, R)
  refine b_if_eq (off := 7) (tgt := 15) (by decide +kernel) (by decide) (fun h2 => ?_) (fun h2 => ?_)
  · have hf := if_t h2 hf
    refine b_blk (pc' := 20) (ls' := [some (mR (12, 0, 177)), none]) (st' := [mR (23, 4, 223), mR (12, 0, 177)]) (S' := (L, r1.2, J, R)) (P := (True ∧ R 177 70 = some (23, 4, 223))) [(.aload_n 0, (0, 0, 0, 0, 0)), (.aload_n 0, (0, 0, 0, 0, 0)), (.getfield 156, (12, 70, 3, 0, 0))] [some (23, 4, 223)] (by decide +kernel) rfl ⟨trivial, (r_177_70 hR)⟩ ?_
    obtain ⟨r3, hc3, hf⟩ := bnd_o hf
    refine b_cV (as := [mR (23, 4, 223)]) (st := []) (by decide +kernel) k_12_261 n_MD_takes rfl (by decide) v_MD_takes (C_MD_takes 223 4 r1.2 J hR (by decide) hc3) (Nat.le_of_ble_eq_true rfl) (by decide) rfl rfl (fun _ h => h) ?_
    show m_B G (m_rm 5 0 0) M_MD_qKind Q 0 0 23 [some (mR (12, 0, 177)), none] [mI r3.1] (L, r3.2, J, R)
    refine b_if_eq (off := 7) (tgt := 30) (by decide +kernel) (by decide) (fun h4 => ?_) (fun h4 => ?_)
    · have hf := if_t h4 hf
      refine b_blk (pc' := 35) (ls' := [some (mR (12, 0, 177)), none]) (st' := [mR (23, 5, 224), mR (12, 0, 177)]) (S' := (L, r3.2, J, R)) (P := (True ∧ R 177 71 = some (23, 5, 224))) [(.aload_n 0, (0, 0, 0, 0, 0)), (.aload_n 0, (0, 0, 0, 0, 0)), (.getfield 159, (12, 71, 3, 0, 0))] [some (23, 5, 224)] (by decide +kernel) rfl ⟨trivial, (r_177_71 hR)⟩ ?_
      obtain ⟨r5, hc5, hf⟩ := bnd_o hf
      refine b_cV (as := [mR (23, 5, 224)]) (st := []) (by decide +kernel) k_12_261 n_MD_takes rfl (by decide) v_MD_takes (C_MD_takes 224 5 r3.2 J hR (by decide) hc5) (Nat.le_of_ble_eq_true rfl) (by decide) rfl rfl (fun _ h => h) ?_
      show m_B G (m_rm 5 0 0) M_MD_qKind Q 0 0 38 [some (mR (12, 0, 177)), none] [mI r5.1] (L, r5.2, J, R)
      refine b_if_eq (off := 7) (tgt := 45) (by decide +kernel) (by decide) (fun h6 => ?_) (fun h6 => ?_)
      · have hf := if_t h6 hf
        refine b_blk (pc' := 50) (ls' := [some (mR (12, 0, 177)), none]) (st' := [mR (23, 5, 225), mR (12, 0, 177)]) (S' := (L, r5.2, J, R)) (P := (True ∧ R 177 72 = some (23, 5, 225))) [(.aload_n 0, (0, 0, 0, 0, 0)), (.aload_n 0, (0, 0, 0, 0, 0)), (.getfield 162, (12, 72, 3, 0, 0))] [some (23, 5, 225)] (by decide +kernel) rfl ⟨trivial, (r_177_72 hR)⟩ ?_
        obtain ⟨r7, hc7, hf⟩ := bnd_o hf
        refine b_cV (as := [mR (23, 5, 225)]) (st := []) (by decide +kernel) k_12_261 n_MD_takes rfl (by decide) v_MD_takes (C_MD_takes 225 5 r5.2 J hR (by decide) hc7) (Nat.le_of_ble_eq_true rfl) (by decide) rfl rfl (fun _ h => h) ?_
        show m_B G (m_rm 5 0 0) M_MD_qKind Q 0 0 53 [some (mR (12, 0, 177)), none] [mI r7.1] (L, r7.2, J, R)
        refine b_if_eq (off := 7) (tgt := 60) (by decide +kernel) (by decide) (fun h8 => ?_) (fun h8 => ?_)
        · have hf := if_t h8 hf
          refine b_blk (pc' := 65) (ls' := [some (mR (12, 0, 177)), none]) (st' := [mR (23, 4, 226), mR (12, 0, 177)]) (S' := (L, r7.2, J, R)) (P := (True ∧ R 177 73 = some (23, 4, 226))) [(.aload_n 0, (0, 0, 0, 0, 0)), (.aload_n 0, (0, 0, 0, 0, 0)), (.getfield 165, (12, 73, 3, 0, 0))] [some (23, 4, 226)] (by decide +kernel) rfl ⟨trivial, (r_177_73 hR)⟩ ?_
          obtain ⟨r9, hc9, hf⟩ := bnd_o hf
          refine b_cV (as := [mR (23, 4, 226)]) (st := []) (by decide +kernel) k_12_261 n_MD_takes rfl (by decide) v_MD_takes (C_MD_takes 226 4 r7.2 J hR (by decide) hc9) (Nat.le_of_ble_eq_true rfl) (by decide) rfl rfl (fun _ h => h) ?_
          show m_B G (m_rm 5 0 0) M_MD_qKind Q 0 0 68 [some (mR (12, 0, 177)), none] [mI r9.1] (L, r9.2, J, R)
          refine b_if_eq (off := 7) (tgt := 75) (by decide +kernel) (by decide) (fun h10 => ?_) (fun h10 => ?_)
          · have hf := if_t h10 hf
            refine b_blk (pc' := 76) (ls' := [some (mR (12, 0, 177)), none]) (st' := [mI 5]) (S' := (L, r9.2, J, R)) (P := True) [(.iconst 5, (0, 0, 0, 5, 0))] [] (by decide +kernel) rfl trivial ?_
            exact m_B_cg rfl rfl rfl (W_MD_qKind_76 r9.2 J (5 : Int32) hR hf hk)
          · have hf := if_f h10 hf
            refine b_blk (pc' := 76) (ls' := [some (mR (12, 0, 177)), none]) (st' := [mI 4]) (S' := (L, r9.2, J, R)) (P := True) [(.iconst 4, (0, 0, 0, 4, 0)), (.goto 4, (0, 76, 0, 0, 0))] [] (by decide +kernel) rfl trivial ?_
            exact m_B_cg rfl rfl rfl (W_MD_qKind_76 r9.2 J (4 : Int32) hR hf hk)
        · have hf := if_f h8 hf
          refine b_blk (pc' := 76) (ls' := [some (mR (12, 0, 177)), none]) (st' := [mI 3]) (S' := (L, r7.2, J, R)) (P := True) [(.iconst 3, (0, 0, 0, 3, 0)), (.goto 19, (0, 76, 0, 0, 0))] [] (by decide +kernel) rfl trivial ?_
          exact m_B_cg rfl rfl rfl (W_MD_qKind_76 r7.2 J (3 : Int32) hR hf hk)
      · have hf := if_f h6 hf
        refine b_blk (pc' := 76) (ls' := [some (mR (12, 0, 177)), none]) (st' := [mI 2]) (S' := (L, r5.2, J, R)) (P := True) [(.iconst 2, (0, 0, 0, 2, 0)), (.goto 34, (0, 76, 0, 0, 0))] [] (by decide +kernel) rfl trivial ?_
        exact m_B_cg rfl rfl rfl (W_MD_qKind_76 r5.2 J (2 : Int32) hR hf hk)
    · have hf := if_f h4 hf
      refine b_blk (pc' := 76) (ls' := [some (mR (12, 0, 177)), none]) (st' := [mI 1]) (S' := (L, r3.2, J, R)) (P := True) [(.iconst 1, (0, 0, 0, 1, 0)), (.goto 49, (0, 76, 0, 0, 0))] [] (by decide +kernel) rfl trivial ?_
      exact m_B_cg rfl rfl rfl (W_MD_qKind_76 r3.2 J (1 : Int32) hR hf hk)
  · have hf := if_f h2 hf
    refine b_blk (pc' := 76) (ls' := [some (mR (12, 0, 177)), none]) (st' := [mI 0]) (S' := (L, r1.2, J, R)) (P := True) [(.iconst 0, (0, 0, 0, 0, 0)), (.goto 64, (0, 76, 0, 0, 0))] [] (by decide +kernel) rfl trivial ?_
    exact m_B_cg rfl rfl rfl (W_MD_qKind_76 r1.2 J (0 : Int32) hR hf hk)
theorem C_MD_qKind {G : MG} {L : List (Nat × Nat)} {R : Nat → Nat → Option MRef} (I : MI) (J : MJ) (hR : RF R) {r : Int32 × MI} (hf : F_MD_qKind I = some r) : m_met G 5 0 0 y_MD_qKind M_MD_qKind [mR (12, 0, 177)] (L, I, J, R) (m_is (some (mI r.1)) (L, r.2, J, R)) :=
  m_met_in n_MD_qKind (plainFor_of_name (by decide)) (by decide) (Nat.le_of_ble_eq_true rfl) (ls := [some (mR (12, 0, 177)), none]) rfl (W_MD_qKind I J hR hf ⟨rfl, rfl⟩)
noncomputable def F_MD_qTakes_90 (I : MI) (J : MJ) (v1 : Int32) (v2 : Int64) : Option (MI × MJ) :=
  if v1 ≤ (3 : Int32) then (some (m_up I 177 100 (0 : Int32), J)) else (if (I 177 100) = (0 : Int32) then (if v1 = (4 : Int32) then (if (lg_cmp v2 (J 177 99)) ≤ (0 : Int32) then (some (m_up I 177 100 (0 : Int32), J)) else (some (m_up I 177 100 (0 : Int32), m_up J 177 99 v2))) else (if (0 : Int32) ≤ (lg_cmp v2 (J 177 99)) then (some (m_up I 177 100 (0 : Int32), J)) else (some (m_up I 177 100 (0 : Int32), m_up J 177 99 v2)))) else (some (m_up I 177 100 (0 : Int32), m_up J 177 99 v2)))
set_option maxRecDepth 100000 in
set_option maxHeartbeats 400000 in
theorem W_MD_qTakes_90 {G : MG} {Q : Option MV → MS → Prop} {L : List (Nat × Nat)} {R : Nat → Nat → Option MRef} (I : MI) (J : MJ) (v1 : Int32) (v2 : Int64) (hR : RF R) {r : MI × MJ} (hf : F_MD_qTakes_90 I J v1 v2 = some r) (hk : (fun r : MI × MJ => Q (none) (L, r.1, r.2, R)) r) : m_B G (m_rm 1 0 0) M_MD_qTakes Q 0 0 90 [some (mR (12, 0, 177)), some (mI v1), some (mJ v2), none, none, none] [] (L, I, J, R) := by
  unfold F_MD_qTakes_90 at hf
  refine b_blk (pc' := 92) (ls' := [some (mR (12, 0, 177)), some (mI v1), some (mJ v2), none, none, none]) (st' := [mI 3, mI v1]) (S' := (L, I, J, R)) (P := True) [(.iload_n 1, (0, 0, 0, 0, 0)), (.iconst 3, (0, 0, 0, 3, 0))] [] (by decide +kernel) rfl trivial ?_
  refine b_icmp_le (off := 41) (tgt := 133) (by decide +kernel) (by decide) (fun h1 => ?_) (fun h1 => ?_)
  · have hf := if_t h1 hf
    refine b_blk (pc' := 138) (ls' := [some (mR (12, 0, 177)), some (mI v1), some (mJ v2), none, none, none]) (st' := []) (S' := (L, m_up I 177 100 (0 : Int32), J, R)) (P := (True ∧ ((0 : Int32) = 0 ∨ (0 : Int32) = 1))) [(.aload_n 0, (0, 0, 0, 0, 0)), (.iconst 0, (0, 0, 0, 0, 0)), (.putfield 637, (12, 100, 1, 0, 0))] [] (by decide +kernel) rfl ⟨trivial, (by decide)⟩ ?_
    cases hf
    exact b_vret (by decide +kernel) rfl hk
  · have hf := if_f h1 hf
    refine b_blk (pc' := 99) (ls' := [some (mR (12, 0, 177)), some (mI v1), some (mJ v2), none, none, none]) (st' := [mI (I 177 100)]) (S' := (L, I, J, R)) (P := True) [(.aload_n 0, (0, 0, 0, 0, 0)), (.getfield 637, (12, 100, 1, 0, 0))] [] (by decide +kernel) rfl trivial ?_
    refine b_if_ne (off := 29) (tgt := 128) (by decide +kernel) (by decide) (fun h2 => ?_) (fun h2 => ?_)
    · have hf := if_f h2 hf
      refine b_blk (pc' := 138) (ls' := [some (mR (12, 0, 177)), some (mI v1), some (mJ v2), none, none, none]) (st' := []) (S' := (L, m_up I 177 100 (0 : Int32), m_up J 177 99 v2, R)) (P := (True ∧ ((0 : Int32) = 0 ∨ (0 : Int32) = 1))) [(.aload_n 0, (0, 0, 0, 0, 0)), (.lload_n 2, (0, 0, 0, 0, 0)), (.putfield 634, (12, 99, 2, 0, 0)), (.aload_n 0, (0, 0, 0, 0, 0)), (.iconst 0, (0, 0, 0, 0, 0)), (.putfield 637, (12, 100, 1, 0, 0))] [] (by decide +kernel) rfl ⟨trivial, (by decide)⟩ ?_
      cases hf
      exact b_vret (by decide +kernel) rfl hk
    · have hf := if_t h2 hf
      refine b_blk (pc' := 104) (ls' := [some (mR (12, 0, 177)), some (mI v1), some (mJ v2), none, none, none]) (st' := [mI 4, mI v1]) (S' := (L, I, J, R)) (P := True) [(.iload_n 1, (0, 0, 0, 0, 0)), (.iconst 4, (0, 0, 0, 4, 0))] [] (by decide +kernel) rfl trivial ?_
      refine b_icmp_ne (off := 15) (tgt := 119) (by decide +kernel) (by decide) (fun h3 => ?_) (fun h3 => ?_)
      · have hf := if_f h3 hf
        refine b_blk (pc' := 125) (ls' := [some (mR (12, 0, 177)), some (mI v1), some (mJ v2), none, none, none]) (st' := [mI (lg_cmp v2 (J 177 99))]) (S' := (L, I, J, R)) (P := True) [(.lload_n 2, (0, 0, 0, 0, 0)), (.aload_n 0, (0, 0, 0, 0, 0)), (.getfield 634, (12, 99, 2, 0, 0)), (.lcmp, (0, 0, 0, 0, 0))] [] (by decide +kernel) rfl trivial ?_
        refine b_if_ge (off := 8) (tgt := 133) (by decide +kernel) (by decide) (fun h4 => ?_) (fun h4 => ?_)
        · have hf := if_t h4 hf
          refine b_blk (pc' := 138) (ls' := [some (mR (12, 0, 177)), some (mI v1), some (mJ v2), none, none, none]) (st' := []) (S' := (L, m_up I 177 100 (0 : Int32), J, R)) (P := (True ∧ ((0 : Int32) = 0 ∨ (0 : Int32) = 1))) [(.aload_n 0, (0, 0, 0, 0, 0)), (.iconst 0, (0, 0, 0, 0, 0)), (.putfield 637, (12, 100, 1, 0, 0))] [] (by decide +kernel) rfl ⟨trivial, (by decide)⟩ ?_
          cases hf
          exact b_vret (by decide +kernel) rfl hk
        · have hf := if_f h4 hf
          refine b_blk (pc' := 138) (ls' := [some (mR (12, 0, 177)), some (mI v1), some (mJ v2), none, none, none]) (st' := []) (S' := (L, m_up I 177 100 (0 : Int32), m_up J 177 99 v2, R)) (P := (True ∧ ((0 : Int32) = 0 ∨ (0 : Int32) = 1))) [(.aload_n 0, (0, 0, 0, 0, 0)), (.lload_n 2, (0, 0, 0, 0, 0)), (.putfield 634, (12, 99, 2, 0, 0)), (.aload_n 0, (0, 0, 0, 0, 0)), (.iconst 0, (0, 0, 0, 0, 0)), (.putfield 637, (12, 100, 1, 0, 0))] [] (by decide +kernel) rfl ⟨trivial, (by decide)⟩ ?_
          cases hf
          exact b_vret (by decide +kernel) rfl hk
      · have hf := if_t h3 hf
        refine b_blk (pc' := 113) (ls' := [some (mR (12, 0, 177)), some (mI v1), some (mJ v2), none, none, none]) (st' := [mI (lg_cmp v2 (J 177 99))]) (S' := (L, I, J, R)) (P := True) [(.lload_n 2, (0, 0, 0, 0, 0)), (.aload_n 0, (0, 0, 0, 0, 0)), (.getfield 634, (12, 99, 2, 0, 0)), (.lcmp, (0, 0, 0, 0, 0))] [] (by decide +kernel) rfl trivial ?_
        refine b_if_le (off := 20) (tgt := 133) (by decide +kernel) (by decide) (fun h5 => ?_) (fun h5 => ?_)
        · have hf := if_t h5 hf
          refine b_blk (pc' := 138) (ls' := [some (mR (12, 0, 177)), some (mI v1), some (mJ v2), none, none, none]) (st' := []) (S' := (L, m_up I 177 100 (0 : Int32), J, R)) (P := (True ∧ ((0 : Int32) = 0 ∨ (0 : Int32) = 1))) [(.aload_n 0, (0, 0, 0, 0, 0)), (.iconst 0, (0, 0, 0, 0, 0)), (.putfield 637, (12, 100, 1, 0, 0))] [] (by decide +kernel) rfl ⟨trivial, (by decide)⟩ ?_
          cases hf
          exact b_vret (by decide +kernel) rfl hk
        · have hf := if_f h5 hf
          refine b_blk (pc' := 128) (ls' := [some (mR (12, 0, 177)), some (mI v1), some (mJ v2), none, none, none]) (st' := []) (S' := (L, I, J, R)) (P := True) [(.goto 12, (0, 128, 0, 0, 0))] [] (by decide +kernel) rfl trivial ?_
          refine b_blk (pc' := 138) (ls' := [some (mR (12, 0, 177)), some (mI v1), some (mJ v2), none, none, none]) (st' := []) (S' := (L, m_up I 177 100 (0 : Int32), m_up J 177 99 v2, R)) (P := (True ∧ ((0 : Int32) = 0 ∨ (0 : Int32) = 1))) [(.aload_n 0, (0, 0, 0, 0, 0)), (.lload_n 2, (0, 0, 0, 0, 0)), (.putfield 634, (12, 99, 2, 0, 0)), (.aload_n 0, (0, 0, 0, 0, 0)), (.iconst 0, (0, 0, 0, 0, 0)), (.putfield 637, (12, 100, 1, 0, 0))] [] (by decide +kernel) rfl ⟨trivial, (by decide)⟩ ?_
          cases hf
          exact b_vret (by decide +kernel) rfl hk
noncomputable def F_MD_qTakes_75 (I : MI) (J : MJ) (v1 : Int32) (v2 : Int64) : Option (MI × MJ) :=
  if v1 = (3 : Int32) then (F_MD_qTakes_90 I (m_up J 177 99 ((J 177 99) + v2)) v1 v2) else (F_MD_qTakes_90 I J v1 v2)
set_option maxRecDepth 100000 in
set_option maxHeartbeats 400000 in
theorem W_MD_qTakes_75 {G : MG} {Q : Option MV → MS → Prop} {L : List (Nat × Nat)} {R : Nat → Nat → Option MRef} (I : MI) (J : MJ) (v1 : Int32) (v2 : Int64) (hR : RF R) {r : MI × MJ} (hf : F_MD_qTakes_75 I J v1 v2 = some r) (hk : (fun r : MI × MJ => Q (none) (L, r.1, r.2, R)) r) : m_B G (m_rm 1 0 0) M_MD_qTakes Q 0 0 75 [some (mR (12, 0, 177)), some (mI v1), some (mJ v2), none, none, none] [] (L, I, J, R) := by
  unfold F_MD_qTakes_75 at hf
  refine b_blk (pc' := 77) (ls' := [some (mR (12, 0, 177)), some (mI v1), some (mJ v2), none, none, none]) (st' := [mI 3, mI v1]) (S' := (L, I, J, R)) (P := True) [(.iload_n 1, (0, 0, 0, 0, 0)), (.iconst 3, (0, 0, 0, 3, 0))] [] (by decide +kernel) rfl trivial ?_
  refine b_icmp_ne (off := 13) (tgt := 90) (by decide +kernel) (by decide) (fun h1 => ?_) (fun h1 => ?_)
  · have hf := if_f h1 hf
    exact m_B_cg rfl rfl rfl (W_MD_qTakes_90 I J v1 v2 hR hf hk)
  · have hf := if_t h1 hf
    refine b_blk (pc' := 90) (ls' := [some (mR (12, 0, 177)), some (mI v1), some (mJ v2), none, none, none]) (st' := []) (S' := (L, I, m_up J 177 99 ((J 177 99) + v2), R)) (P := True) [(.aload_n 0, (0, 0, 0, 0, 0)), (.dup, (0, 0, 0, 0, 0)), (.getfield 634, (12, 99, 2, 0, 0)), (.lload_n 2, (0, 0, 0, 0, 0)), (.ladd, (0, 0, 0, 0, 0)), (.putfield 634, (12, 99, 2, 0, 0))] [] (by decide +kernel) rfl trivial ?_
    exact m_B_cg rfl rfl rfl (W_MD_qTakes_90 I (m_up J 177 99 ((J 177 99) + v2)) v1 v2 hR hf hk)
noncomputable def F_MD_qTakes_55 (I : MI) (J : MJ) (v1 : Int32) (v2 : Int64) (v5 : Int32) : Option (MI × MJ) :=
  if v1 = (2 : Int32) then (if v5 = (0 : Int32) then (F_MD_qTakes_75 I J v1 v2) else (F_MD_qTakes_75 I (m_up J 177 99 ((J 177 99) + (1 : Int64))) v1 v2)) else (F_MD_qTakes_75 I J v1 v2)
set_option maxRecDepth 100000 in
set_option maxHeartbeats 400000 in
theorem W_MD_qTakes_55 {G : MG} {Q : Option MV → MS → Prop} {L : List (Nat × Nat)} {R : Nat → Nat → Option MRef} (I : MI) (J : MJ) (v1 : Int32) (v2 : Int64) (v5 : Int32) (hR : RF R) {r : MI × MJ} (hf : F_MD_qTakes_55 I J v1 v2 v5 = some r) (hk : (fun r : MI × MJ => Q (none) (L, r.1, r.2, R)) r) : m_B G (m_rm 1 0 0) M_MD_qTakes Q 0 0 55 [some (mR (12, 0, 177)), some (mI v1), some (mJ v2), none, none, some (mI v5)] [] (L, I, J, R) := by
  unfold F_MD_qTakes_55 at hf
  refine b_blk (pc' := 57) (ls' := [some (mR (12, 0, 177)), some (mI v1), some (mJ v2), none, none, some (mI v5)]) (st' := [mI 2, mI v1]) (S' := (L, I, J, R)) (P := True) [(.iload_n 1, (0, 0, 0, 0, 0)), (.iconst 2, (0, 0, 0, 2, 0))] [] (by decide +kernel) rfl trivial ?_
  refine b_icmp_ne (off := 18) (tgt := 75) (by decide +kernel) (by decide) (fun h1 => ?_) (fun h1 => ?_)
  · have hf := if_f h1 hf
    refine b_frg 5 ?_
    exact m_B_cg rfl rfl rfl (W_MD_qTakes_75 I J v1 v2 hR hf hk)
  · have hf := if_t h1 hf
    refine b_blk (pc' := 62) (ls' := [some (mR (12, 0, 177)), some (mI v1), some (mJ v2), none, none, some (mI v5)]) (st' := [mI v5]) (S' := (L, I, J, R)) (P := True) [(.iload 5, (0, 0, 0, 0, 0))] [] (by decide +kernel) rfl trivial ?_
    refine b_if_eq (off := 13) (tgt := 75) (by decide +kernel) (by decide) (fun h2 => ?_) (fun h2 => ?_)
    · have hf := if_t h2 hf
      refine b_frg 5 ?_
      exact m_B_cg rfl rfl rfl (W_MD_qTakes_75 I J v1 v2 hR hf hk)
    · have hf := if_f h2 hf
      refine b_blk (pc' := 75) (ls' := [some (mR (12, 0, 177)), some (mI v1), some (mJ v2), none, none, some (mI v5)]) (st' := []) (S' := (L, I, m_up J 177 99 ((J 177 99) + (1 : Int64)), R)) (P := True) [(.aload_n 0, (0, 0, 0, 0, 0)), (.dup, (0, 0, 0, 0, 0)), (.getfield 634, (12, 99, 2, 0, 0)), (.lconst 1, (0, 0, 0, 0, 1)), (.ladd, (0, 0, 0, 0, 0)), (.putfield 634, (12, 99, 2, 0, 0))] [] (by decide +kernel) rfl trivial ?_
      refine b_frg 5 ?_
      exact m_B_cg rfl rfl rfl (W_MD_qTakes_75 I (m_up J 177 99 ((J 177 99) + (1 : Int64))) v1 v2 hR hf hk)
noncomputable def F_MD_qTakes_48 (I : MI) (J : MJ) (v1 : Int32) (v2 : Int64) (v4 : Int32) (v5 : Int32) : Option (MI × MJ) :=
  F_MD_qTakes_55 I (m_up J 177 99 v4.toInt64) v1 v2 v5
set_option maxRecDepth 100000 in
set_option maxHeartbeats 400000 in
theorem W_MD_qTakes_48 {G : MG} {Q : Option MV → MS → Prop} {L : List (Nat × Nat)} {R : Nat → Nat → Option MRef} (I : MI) (J : MJ) (v1 : Int32) (v2 : Int64) (v4 : Int32) (v5 : Int32) (hR : RF R) {r : MI × MJ} (hf : F_MD_qTakes_48 I J v1 v2 v4 v5 = some r) (hk : (fun r : MI × MJ => Q (none) (L, r.1, r.2, R)) r) : m_B G (m_rm 1 0 0) M_MD_qTakes Q 0 0 48 [some (mR (12, 0, 177)), some (mI v1), some (mJ v2), none, some (mI v4), some (mI v5)] [] (L, I, J, R) := by
  unfold F_MD_qTakes_48 at hf
  refine b_blk (pc' := 55) (ls' := [some (mR (12, 0, 177)), some (mI v1), some (mJ v2), none, some (mI v4), some (mI v5)]) (st' := []) (S' := (L, I, m_up J 177 99 v4.toInt64, R)) (P := True) [(.aload_n 0, (0, 0, 0, 0, 0)), (.iload 4, (0, 0, 0, 0, 0)), (.i2l, (0, 0, 0, 0, 0)), (.putfield 634, (12, 99, 2, 0, 0))] [] (by decide +kernel) rfl trivial ?_
  refine b_frg 4 ?_
  exact m_B_cg rfl rfl rfl (W_MD_qTakes_55 I (m_up J 177 99 v4.toInt64) v1 v2 v5 hR hf hk)
noncomputable def F_MD_qTakes_38 (I : MI) (J : MJ) (v1 : Int32) (v2 : Int64) (v4 : Int32) (v5 : Int32) : Option (MI × MJ) :=
  if v1 = (1 : Int32) then (if v5 = (0 : Int32) then (F_MD_qTakes_55 I J v1 v2 v5) else (F_MD_qTakes_48 I J v1 v2 v4 v5)) else (F_MD_qTakes_55 I J v1 v2 v5)
set_option maxRecDepth 100000 in
set_option maxHeartbeats 400000 in
theorem W_MD_qTakes_38 {G : MG} {Q : Option MV → MS → Prop} {L : List (Nat × Nat)} {R : Nat → Nat → Option MRef} (I : MI) (J : MJ) (v1 : Int32) (v2 : Int64) (v4 : Int32) (v5 : Int32) (hR : RF R) {r : MI × MJ} (hf : F_MD_qTakes_38 I J v1 v2 v4 v5 = some r) (hk : (fun r : MI × MJ => Q (none) (L, r.1, r.2, R)) r) : m_B G (m_rm 1 0 0) M_MD_qTakes Q 0 0 38 [some (mR (12, 0, 177)), some (mI v1), some (mJ v2), none, some (mI v4), some (mI v5)] [] (L, I, J, R) := by
  unfold F_MD_qTakes_38 at hf
  refine b_blk (pc' := 40) (ls' := [some (mR (12, 0, 177)), some (mI v1), some (mJ v2), none, some (mI v4), some (mI v5)]) (st' := [mI 1, mI v1]) (S' := (L, I, J, R)) (P := True) [(.iload_n 1, (0, 0, 0, 0, 0)), (.iconst 1, (0, 0, 0, 1, 0))] [] (by decide +kernel) rfl trivial ?_
  refine b_icmp_ne (off := 15) (tgt := 55) (by decide +kernel) (by decide) (fun h1 => ?_) (fun h1 => ?_)
  · have hf := if_f h1 hf
    refine b_frg 4 ?_
    exact m_B_cg rfl rfl rfl (W_MD_qTakes_55 I J v1 v2 v5 hR hf hk)
  · have hf := if_t h1 hf
    refine b_blk (pc' := 45) (ls' := [some (mR (12, 0, 177)), some (mI v1), some (mJ v2), none, some (mI v4), some (mI v5)]) (st' := [mI v5]) (S' := (L, I, J, R)) (P := True) [(.iload 5, (0, 0, 0, 0, 0))] [] (by decide +kernel) rfl trivial ?_
    refine b_if_eq (off := 10) (tgt := 55) (by decide +kernel) (by decide) (fun h2 => ?_) (fun h2 => ?_)
    · have hf := if_t h2 hf
      refine b_frg 4 ?_
      exact m_B_cg rfl rfl rfl (W_MD_qTakes_55 I J v1 v2 v5 hR hf hk)
    · have hf := if_f h2 hf
      exact m_B_cg rfl rfl rfl (W_MD_qTakes_48 I J v1 v2 v4 v5 hR hf hk)
noncomputable def F_MD_qTakes_16 (I : MI) (J : MJ) (v1 : Int32) (v2 : Int64) (v4 : Int32) (y0 : Int32) : Option (MI × MJ) :=
  if v1 = (0 : Int32) then (if y0 = (0 : Int32) then (F_MD_qTakes_38 I J v1 v2 v4 y0) else (if (lg_cmp (J 177 99) (-1 : Int64)) = (0 : Int32) then (F_MD_qTakes_48 I J v1 v2 v4 y0) else (F_MD_qTakes_38 I J v1 v2 v4 y0))) else (F_MD_qTakes_38 I J v1 v2 v4 y0)
set_option maxRecDepth 100000 in
set_option maxHeartbeats 400000 in
theorem W_MD_qTakes_16 {G : MG} {Q : Option MV → MS → Prop} {L : List (Nat × Nat)} {R : Nat → Nat → Option MRef} (I : MI) (J : MJ) (v1 : Int32) (v2 : Int64) (v4 : Int32) (y0 : Int32) (hR : RF R) {r : MI × MJ} (hf : F_MD_qTakes_16 I J v1 v2 v4 y0 = some r) (hk : (fun r : MI × MJ => Q (none) (L, r.1, r.2, R)) r) : m_B G (m_rm 1 0 0) M_MD_qTakes Q 0 0 16 [some (mR (12, 0, 177)), some (mI v1), some (mJ v2), none, some (mI v4), none] [mI y0] (L, I, J, R) := by
  unfold F_MD_qTakes_16 at hf
  refine b_blk (pc' := 19) (ls' := [some (mR (12, 0, 177)), some (mI v1), some (mJ v2), none, some (mI v4), some (mI y0)]) (st' := [mI v1]) (S' := (L, I, J, R)) (P := True) [(.istore 5, (0, 0, 0, 0, 0)), (.iload_n 1, (0, 0, 0, 0, 0))] [] (by decide +kernel) rfl trivial ?_
  refine b_if_ne (off := 19) (tgt := 38) (by decide +kernel) (by decide) (fun h1 => ?_) (fun h1 => ?_)
  · have hf := if_f h1 hf
    exact m_B_cg rfl rfl rfl (W_MD_qTakes_38 I J v1 v2 v4 y0 hR hf hk)
  · have hf := if_t h1 hf
    refine b_blk (pc' := 24) (ls' := [some (mR (12, 0, 177)), some (mI v1), some (mJ v2), none, some (mI v4), some (mI y0)]) (st' := [mI y0]) (S' := (L, I, J, R)) (P := True) [(.iload 5, (0, 0, 0, 0, 0))] [] (by decide +kernel) rfl trivial ?_
    refine b_if_eq (off := 14) (tgt := 38) (by decide +kernel) (by decide) (fun h2 => ?_) (fun h2 => ?_)
    · have hf := if_t h2 hf
      exact m_B_cg rfl rfl rfl (W_MD_qTakes_38 I J v1 v2 v4 y0 hR hf hk)
    · have hf := if_f h2 hf
      refine b_blk (pc' := 35) (ls' := [some (mR (12, 0, 177)), some (mI v1), some (mJ v2), none, some (mI v4), some (mI y0)]) (st' := [mI (lg_cmp (J 177 99) (-1 : Int64))]) (S' := (L, I, J, R)) (P := True) [(.aload_n 0, (0, 0, 0, 0, 0)), (.getfield 634, (12, 99, 2, 0, 0)), (.ldc2_w 628, (0, 0, 0, 0, (-1))), (.lcmp, (0, 0, 0, 0, 0))] [] (by decide +kernel) rfl trivial ?_
      refine b_if_eq (off := 13) (tgt := 48) (by decide +kernel) (by decide) (fun h3 => ?_) (fun h3 => ?_)
      · have hf := if_t h3 hf
        exact m_B_cg rfl rfl rfl (W_MD_qTakes_48 I J v1 v2 v4 y0 hR hf hk)
      · have hf := if_f h3 hf
        exact m_B_cg rfl rfl rfl (W_MD_qTakes_38 I J v1 v2 v4 y0 hR hf hk)
noncomputable def F_MD_qTakes_15 (I : MI) (J : MJ) (v1 : Int32) (v2 : Int64) (v4 : Int32) : Option (MI × MJ) :=
  F_MD_qTakes_16 I J v1 v2 v4 (0 : Int32)
set_option maxRecDepth 100000 in
set_option maxHeartbeats 400000 in
theorem W_MD_qTakes_15 {G : MG} {Q : Option MV → MS → Prop} {L : List (Nat × Nat)} {R : Nat → Nat → Option MRef} (I : MI) (J : MJ) (v1 : Int32) (v2 : Int64) (v4 : Int32) (hR : RF R) {r : MI × MJ} (hf : F_MD_qTakes_15 I J v1 v2 v4 = some r) (hk : (fun r : MI × MJ => Q (none) (L, r.1, r.2, R)) r) : m_B G (m_rm 1 0 0) M_MD_qTakes Q 0 0 15 [some (mR (12, 0, 177)), some (mI v1), some (mJ v2), none, some (mI v4), none] [] (L, I, J, R) := by
  unfold F_MD_qTakes_15 at hf
  refine b_blk (pc' := 16) (ls' := [some (mR (12, 0, 177)), some (mI v1), some (mJ v2), none, some (mI v4), none]) (st' := [mI 0]) (S' := (L, I, J, R)) (P := True) [(.iconst 0, (0, 0, 0, 0, 0))] [] (by decide +kernel) rfl trivial ?_
  exact m_B_cg rfl rfl rfl (W_MD_qTakes_16 I J v1 v2 v4 (0 : Int32) hR hf hk)
noncomputable def F_MD_qTakes (I : MI) (J : MJ) (v1 : Int32) (v2 : Int64) (v4 : Int32) : Option (MI × MJ) :=
  if (3 : Int32) ≤ v1 then (F_MD_qTakes_15 I J v1 v2 v4) else (if (lg_cmp v2 (1 : Int64)) = (0 : Int32) then (F_MD_qTakes_16 I J v1 v2 v4 (1 : Int32)) else (F_MD_qTakes_15 I J v1 v2 v4))
set_option maxRecDepth 100000 in
set_option maxHeartbeats 400000 in
theorem W_MD_qTakes {G : MG} {Q : Option MV → MS → Prop} {L : List (Nat × Nat)} {R : Nat → Nat → Option MRef} (I : MI) (J : MJ) (v1 : Int32) (v2 : Int64) (v4 : Int32) (hR : RF R) {r : MI × MJ} (hf : F_MD_qTakes I J v1 v2 v4 = some r) (hk : (fun r : MI × MJ => Q (none) (L, r.1, r.2, R)) r) : m_B G (m_rm 1 0 0) M_MD_qTakes Q 0 0 0 [some (mR (12, 0, 177)), some (mI v1), some (mJ v2), none, some (mI v4), none] [] (L, I, J, R) := by
  unfold F_MD_qTakes at hf
  refine b_blk (pc' := 2) (ls' := [some (mR (12, 0, 177)), some (mI v1), some (mJ v2), none, some (mI v4), none]) (st' := [mI 3, mI v1]) (S' := (L, I, J, R)) (P := True) [(.iload_n 1, (0, 0, 0, 0, 0)), (.iconst 3, (0, 0, 0, 3, 0))] [] (by decide +kernel) rfl trivial ?_
  refine b_icmp_ge (off := 13) (tgt := 15) (by decide +kernel) (by decide) (fun h1 => ?_) (fun h1 => ?_)
  · have hf := if_t h1 hf
    exact m_B_cg rfl rfl rfl (W_MD_qTakes_15 I J v1 v2 v4 hR hf hk)
  · have hf := if_f h1 hf
    refine b_blk (pc' := 8) (ls' := [some (mR (12, 0, 177)), some (mI v1), some (mJ v2), none, some (mI v4), none]) (st' := [mI (lg_cmp v2 (1 : Int64))]) (S' := (L, I, J, R)) (P := True) [(.lload_n 2, (0, 0, 0, 0, 0)), (.lconst 1, (0, 0, 0, 0, 1)), (.lcmp, (0, 0, 0, 0, 0))] [] (by decide +kernel) rfl trivial ?_
    refine b_if_ne (off := 7) (tgt := 15) (by decide +kernel) (by decide) (fun h2 => ?_) (fun h2 => ?_)
    · have hf := if_f h2 hf
      exact m_B_cg rfl rfl rfl (W_MD_qTakes_15 I J v1 v2 v4 hR hf hk)
    · have hf := if_t h2 hf
      refine b_blk (pc' := 16) (ls' := [some (mR (12, 0, 177)), some (mI v1), some (mJ v2), none, some (mI v4), none]) (st' := [mI 1]) (S' := (L, I, J, R)) (P := True) [(.iconst 1, (0, 0, 0, 1, 0)), (.goto 4, (0, 16, 0, 0, 0))] [] (by decide +kernel) rfl trivial ?_
      exact m_B_cg rfl rfl rfl (W_MD_qTakes_16 I J v1 v2 v4 (1 : Int32) hR hf hk)
theorem C_MD_qTakes {G : MG} {L : List (Nat × Nat)} {R : Nat → Nat → Option MRef} (I : MI) (J : MJ) (v1 : Int32) (v2 : Int64) (v4 : Int32) (hR : RF R) {r : MI × MJ} (hf : F_MD_qTakes I J v1 v2 v4 = some r) : m_met G 1 0 0 y_MD_qTakes M_MD_qTakes [mR (12, 0, 177), mI v1, mJ v2, mI v4] (L, I, J, R) (m_is (none) (L, r.1, r.2, R)) :=
  m_met_in n_MD_qTakes (plainFor_of_name (by decide)) (by decide) (Nat.le_of_ble_eq_true rfl) (ls := [some (mR (12, 0, 177)), some (mI v1), some (mJ v2), none, some (mI v4), none]) rfl (W_MD_qTakes I J v1 v2 v4 hR hf ⟨rfl, rfl⟩)
noncomputable def F_MD_qOf (I : MI) (v1 : Int32) (v2 : Int64) (v4 : Int32) : Option (Int64) :=
  if v1 = 0 then ((F_MD_isIn v2 (0 : Int64) (((I 204 2) - (1 : Int32)).toInt64)).bind fun r2 => if r2 = (0 : Int32) then (some ((-1) : Int64)) else ((F_MD_rowOf I v4 v2.toInt32).bind fun r4 => some (r4.toInt64 : Int64))) else ((F_MD_fenceMany I).bind fun r5 => (F_MD_isIn v2 (0 : Int64) ((r5 - (1 : Int32)).toInt64)).bind fun r6 => if r6 = (0 : Int32) then (some (0 : Int64)) else ((F_MD_belows I v4 v2.toInt32).bind fun r8 => some (r8.toInt64 : Int64)))
set_option maxRecDepth 100000 in
set_option maxHeartbeats 400000 in
theorem W_MD_qOf {G : MG} {Q : Option MV → MS → Prop} {L : List (Nat × Nat)} {R : Nat → Nat → Option MRef} (I : MI) (J : MJ) (v1 : Int32) (v2 : Int64) (v4 : Int32) (hR : RF R) {r : Int64} (hf : F_MD_qOf I v1 v2 v4 = some r) (hk : (fun r : Int64 => Q (some (mJ r)) (L, I, J, R)) r) : m_B G (m_rm 3 0 0) M_MD_qOf Q 0 0 0 [some (mR (12, 0, 177)), some (mI v1), some (mJ v2), none, some (mI v4)] [] (L, I, J, R) := by
  unfold F_MD_qOf at hf
  refine b_blk (pc' := 1) (ls' := [some (mR (12, 0, 177)), some (mI v1), some (mJ v2), none, some (mI v4)]) (st' := [mI v1]) (S' := (L, I, J, R)) (P := True) [(.iload_n 1, (0, 0, 0, 0, 0))] [] (by decide +kernel) rfl trivial ?_
  by_cases h1 : v1 = 0
  · refine b_lswV (tgt := 20) (off := 19) (dflt := 52) (ps := #[(0, 19)]) (len := 19) h1 (by decide +kernel) (by decide) (by decide) (by decide) ?_
    have hf := if_t h1 hf
    refine b_blk (pc' := 31) (ls' := [some (mR (12, 0, 177)), some (mI v1), some (mJ v2), none, some (mI v4)]) (st' := [mJ (((I 204 2) - (1 : Int32)).toInt64), mJ 0, mJ v2]) (S' := (L, I, J, R)) (P := ((True ∧ R 177 36 = some (20, 4, 204)) ∧ vp_in (2 : Int32) 4)) [(.lload_n 2, (0, 0, 0, 0, 0)), (.lconst 0, (0, 0, 0, 0, 0)), (.aload_n 0, (0, 0, 0, 0, 0)), (.getfield 93, (12, 36, 3, 0, 0)), (.iconst 2, (0, 0, 0, 2, 0)), (.iaload, (0, 0, 0, 0, 0)), (.iconst 1, (0, 0, 0, 1, 0)), (.isub, (0, 0, 0, 0, 0)), (.i2l, (0, 0, 0, 0, 0))] [some (20, 4, 204)] (by decide +kernel) rfl ⟨⟨trivial, (r_177_36 hR)⟩, (vp_in_nI (n := 2) (N := 4) (by decide) (by decide))⟩ ?_
    obtain ⟨r2, hc2, hf⟩ := bnd_o hf
    refine b_cS (as := [mJ v2, mJ 0, mJ (((I 204 2) - (1 : Int32)).toInt64)]) (st := []) (by decide +kernel) k_12_277 n_MD_isIn s_MD_isIn (C_MD_isIn I J v2 (0 : Int64) (((I 204 2) - (1 : Int32)).toInt64) hR hc2) (Nat.le_of_ble_eq_true rfl) (by decide) rfl rfl (fun _ h => h) ?_
    show m_B G (m_rm 3 0 0) M_MD_qOf Q 0 0 34 [some (mR (12, 0, 177)), some (mI v1), some (mJ v2), none, some (mI v4)] [mI r2] (L, I, J, R)
    refine b_if_eq (off := 15) (tgt := 49) (by decide +kernel) (by decide) (fun h3 => ?_) (fun h3 => ?_)
    · have hf := if_t h3 hf
      refine b_blk (pc' := 52) (ls' := [some (mR (12, 0, 177)), some (mI v1), some (mJ v2), none, some (mI v4)]) (st' := [mJ (-1)]) (S' := (L, I, J, R)) (P := True) [(.ldc2_w 628, (0, 0, 0, 0, (-1)))] [] (by decide +kernel) rfl trivial ?_
      cases hf
      exact b_lret (by decide +kernel) rfl hk
    · have hf := if_f h3 hf
      refine b_blk (pc' := 42) (ls' := [some (mR (12, 0, 177)), some (mI v1), some (mJ v2), none, some (mI v4)]) (st' := [mI v2.toInt32, mI v4, mR (12, 0, 177)]) (S' := (L, I, J, R)) (P := True) [(.aload_n 0, (0, 0, 0, 0, 0)), (.iload 4, (0, 0, 0, 0, 0)), (.lload_n 2, (0, 0, 0, 0, 0)), (.l2i, (0, 0, 0, 0, 0))] [] (by decide +kernel) rfl trivial ?_
      obtain ⟨r4, hc4, hf⟩ := bnd_o hf
      refine b_cV (as := [mI v4, mI v2.toInt32]) (st := []) (by decide +kernel) k_12_392 n_MD_rowOf rfl (by decide) v_MD_rowOf (C_MD_rowOf I J v4 v2.toInt32 hR hc4) (Nat.le_of_ble_eq_true rfl) (by decide) rfl rfl (fun _ h => h) ?_
      show m_B G (m_rm 3 0 0) M_MD_qOf Q 0 0 45 [some (mR (12, 0, 177)), some (mI v1), some (mJ v2), none, some (mI v4)] [mI r4] (L, I, J, R)
      refine b_blk (pc' := 52) (ls' := [some (mR (12, 0, 177)), some (mI v1), some (mJ v2), none, some (mI v4)]) (st' := [mJ r4.toInt64]) (S' := (L, I, J, R)) (P := True) [(.i2l, (0, 0, 0, 0, 0)), (.goto 6, (0, 52, 0, 0, 0))] [] (by decide +kernel) rfl trivial ?_
      cases hf
      exact b_lret (by decide +kernel) rfl hk
  have hf := if_f h1 hf
  refine b_lsw (tgt := 53) (off := 52) (dflt := 52) (ps := #[(0, 19)]) (len := 19) (by decide +kernel) (by decide) (by rw [lv_osw h1 (by decide)]; rfl) (by decide) ?_
  refine b_blk (pc' := 56) (ls' := [some (mR (12, 0, 177)), some (mI v1), some (mJ v2), none, some (mI v4)]) (st' := [mR (12, 0, 177), mJ 0, mJ v2]) (S' := (L, I, J, R)) (P := True) [(.lload_n 2, (0, 0, 0, 0, 0)), (.lconst 0, (0, 0, 0, 0, 0)), (.aload_n 0, (0, 0, 0, 0, 0))] [] (by decide +kernel) rfl trivial ?_
  obtain ⟨r5, hc5, hf⟩ := bnd_o hf
  refine b_cV (as := []) (st := [mJ 0, mJ v2]) (by decide +kernel) k_12_382 n_MD_fenceMany rfl (by decide) v_MD_fenceMany (C_MD_fenceMany I J hR hc5) (Nat.le_of_ble_eq_true rfl) (by decide) rfl rfl (fun _ h => h) ?_
  show m_B G (m_rm 3 0 0) M_MD_qOf Q 0 0 59 [some (mR (12, 0, 177)), some (mI v1), some (mJ v2), none, some (mI v4)] [mI r5, mJ 0, mJ v2] (L, I, J, R)
  refine b_blk (pc' := 62) (ls' := [some (mR (12, 0, 177)), some (mI v1), some (mJ v2), none, some (mI v4)]) (st' := [mJ ((r5 - (1 : Int32)).toInt64), mJ 0, mJ v2]) (S' := (L, I, J, R)) (P := True) [(.iconst 1, (0, 0, 0, 1, 0)), (.isub, (0, 0, 0, 0, 0)), (.i2l, (0, 0, 0, 0, 0))] [] (by decide +kernel) rfl trivial ?_
  obtain ⟨r6, hc6, hf⟩ := bnd_o hf
  refine b_cS (as := [mJ v2, mJ 0, mJ ((r5 - (1 : Int32)).toInt64)]) (st := []) (by decide +kernel) k_12_277 n_MD_isIn s_MD_isIn (C_MD_isIn I J v2 (0 : Int64) ((r5 - (1 : Int32)).toInt64) hR hc6) (Nat.le_of_ble_eq_true rfl) (by decide) rfl rfl (fun _ h => h) ?_
  show m_B G (m_rm 3 0 0) M_MD_qOf Q 0 0 65 [some (mR (12, 0, 177)), some (mI v1), some (mJ v2), none, some (mI v4)] [mI r6] (L, I, J, R)
  refine b_if_eq (off := 15) (tgt := 80) (by decide +kernel) (by decide) (fun h7 => ?_) (fun h7 => ?_)
  · have hf := if_t h7 hf
    refine b_blk (pc' := 81) (ls' := [some (mR (12, 0, 177)), some (mI v1), some (mJ v2), none, some (mI v4)]) (st' := [mJ 0]) (S' := (L, I, J, R)) (P := True) [(.lconst 0, (0, 0, 0, 0, 0))] [] (by decide +kernel) rfl trivial ?_
    cases hf
    exact b_lret (by decide +kernel) rfl hk
  · have hf := if_f h7 hf
    refine b_blk (pc' := 73) (ls' := [some (mR (12, 0, 177)), some (mI v1), some (mJ v2), none, some (mI v4)]) (st' := [mI v2.toInt32, mI v4, mR (12, 0, 177)]) (S' := (L, I, J, R)) (P := True) [(.aload_n 0, (0, 0, 0, 0, 0)), (.iload 4, (0, 0, 0, 0, 0)), (.lload_n 2, (0, 0, 0, 0, 0)), (.l2i, (0, 0, 0, 0, 0))] [] (by decide +kernel) rfl trivial ?_
    obtain ⟨r8, hc8, hf⟩ := bnd_o hf
    refine b_cV (as := [mI v4, mI v2.toInt32]) (st := []) (by decide +kernel) k_12_514 n_MD_belows rfl (by decide) v_MD_belows (C_MD_belows I J v4 v2.toInt32 hR hc8) (Nat.le_of_ble_eq_true rfl) (by decide) rfl rfl (fun _ h => h) ?_
    show m_B G (m_rm 3 0 0) M_MD_qOf Q 0 0 76 [some (mR (12, 0, 177)), some (mI v1), some (mJ v2), none, some (mI v4)] [mI r8] (L, I, J, R)
    refine b_blk (pc' := 81) (ls' := [some (mR (12, 0, 177)), some (mI v1), some (mJ v2), none, some (mI v4)]) (st' := [mJ r8.toInt64]) (S' := (L, I, J, R)) (P := True) [(.i2l, (0, 0, 0, 0, 0)), (.goto 4, (0, 81, 0, 0, 0))] [] (by decide +kernel) rfl trivial ?_
    cases hf
    exact b_lret (by decide +kernel) rfl hk
theorem C_MD_qOf {G : MG} {L : List (Nat × Nat)} {R : Nat → Nat → Option MRef} (I : MI) (J : MJ) (v1 : Int32) (v2 : Int64) (v4 : Int32) (hR : RF R) {r : Int64} (hf : F_MD_qOf I v1 v2 v4 = some r) : m_met G 3 0 0 y_MD_qOf M_MD_qOf [mR (12, 0, 177), mI v1, mJ v2, mI v4] (L, I, J, R) (m_is (some (mJ r)) (L, I, J, R)) :=
  m_met_in n_MD_qOf (plainFor_of_name (by decide)) (by decide) (Nat.le_of_ble_eq_true rfl) (ls := [some (mR (12, 0, 177)), some (mI v1), some (mJ v2), none, some (mI v4)]) rfl (W_MD_qOf I J v1 v2 v4 hR hf ⟨rfl, rfl⟩)
noncomputable def F_MD_qTold_7 (I : MI) (J : MJ) (v1 : Int32) (v2 : Int32) : Option ((Int32 × MI × MJ) ⊕ (MI × MJ)) :=
  if (I 177 92) ≤ v2 then (some (.inr (I, J))) else (gd v2 1700 <| if (I 244 v2.toNatClampNeg) < (1000 : Int32) then (if (I 244 v2.toNatClampNeg) < (60 : Int32) then (if (I 244 v2.toNatClampNeg) < (40 : Int32) then (if (I 244 v2.toNatClampNeg) = (13 : Int32) then ((F_MD_qPuts I J (1 : Int64)).bind fun r12 => some (.inl ((v2 + 1 : Int32), r12.1, r12.2))) else (if (I 244 v2.toNatClampNeg) = (12 : Int32) then (gd ((I 177 98) - (1 : Int32)) 1700 <| gd ((I 177 98) - (1 : Int32)) 1700 <| bnd (m_up J 246 (((I 177 98) - (1 : Int32)).toNatClampNeg) ((1 : Int64) - (J 246 ((I 177 98) - (1 : Int32)).toNatClampNeg)) : MJ) fun x11 => some (.inl ((v2 + 1 : Int32), I, x11))) else ((F_MD_qJoins I J (I 244 v2.toNatClampNeg)).bind fun r8 => some (.inl ((v2 + 1 : Int32), r8.1, r8.2))))) else ((F_MD_qPartOf I ((I 244 v2.toNatClampNeg) - (40 : Int32)) v1).bind fun r13 => (F_MD_qClip r13).bind fun r14 => (F_MD_qPuts I J r14).bind fun r15 => some (.inl ((v2 + 1 : Int32), r15.1, r15.2)))) else (gd ((I 177 98) - (1 : Int32)) 1700 <| (F_MD_qOf I ((I 244 v2.toNatClampNeg) - (60 : Int32)) (J 246 ((I 177 98) - (1 : Int32)).toNatClampNeg) v1).bind fun r17 => (F_MD_qClip r17).bind fun r18 => gd ((I 177 98) - (1 : Int32)) 1700 <| some (.inl ((v2 + 1 : Int32), I, m_up J 246 (((I 177 98) - (1 : Int32)).toNatClampNeg) r18)))) else ((F_MD_qPuts I J (((I 244 v2.toNatClampNeg) - (1000 : Int32)).toInt64)).bind fun r20 => some (.inl ((v2 + 1 : Int32), r20.1, r20.2))))
set_option maxRecDepth 100000 in
set_option maxHeartbeats 400000 in
theorem W_MD_qTold_7 {G : MG} {Q : Option MV → MS → Prop} {L : List (Nat × Nat)} {R : Nat → Nat → Option MRef} (I : MI) (J : MJ) (v1 : Int32) (v2 : Int32) (hR : RF R) {r : (Int32 × MI × MJ) ⊕ (MI × MJ)} (hf : F_MD_qTold_7 I J v1 v2 = some r) (hk : (Sum.elim (fun s : Int32 × MI × MJ => m_B G (m_rm 5 0 0) M_MD_qTold Q 0 0 7 [some (mR (12, 0, 177)), some (mI v1), some (mI s.1), none] [] (L, s.2.1, s.2.2, R)) (fun s : MI × MJ => m_B G (m_rm 5 0 0) M_MD_qTold Q 0 0 168 [some (mR (12, 0, 177)), none, none, none] [] (L, s.1, s.2, R))) r) : m_B G (m_rm 5 0 0) M_MD_qTold Q 0 0 7 [some (mR (12, 0, 177)), some (mI v1), some (mI v2), none] [] (L, I, J, R) := by
  unfold F_MD_qTold_7 at hf
  refine b_blk (pc' := 12) (ls' := [some (mR (12, 0, 177)), some (mI v1), some (mI v2), none]) (st' := [mI (I 177 92), mI v2]) (S' := (L, I, J, R)) (P := True) [(.iload_n 2, (0, 0, 0, 0, 0)), (.aload_n 0, (0, 0, 0, 0, 0)), (.getfield 315, (12, 92, 0, 0, 0))] [] (by decide +kernel) rfl trivial ?_
  refine b_icmp_ge (off := 156) (tgt := 168) (by decide +kernel) (by decide) (fun h1 => ?_) (fun h1 => ?_)
  · have hf := if_t h1 hf
    refine b_frg 1 ?_
    refine b_frg 2 ?_
    cases hf
    exact hk
  · have hf := if_f h1 hf
    obtain ⟨g2, hf⟩ := gd_s hf
    refine b_blk (pc' := 26) (ls' := [some (mR (12, 0, 177)), some (mI v1), some (mI v2), some (mI (I 244 v2.toNatClampNeg))]) (st' := [mI 1000, mI (I 244 v2.toNatClampNeg)]) (S' := (L, I, J, R)) (P := ((True ∧ R 177 91 = some (20, 1700, 244)) ∧ vp_in v2 1700)) [(.aload_n 0, (0, 0, 0, 0, 0)), (.getfield 219, (12, 91, 3, 0, 0)), (.iload_n 2, (0, 0, 0, 0, 0)), (.iaload, (0, 0, 0, 0, 0)), (.istore_n 3, (0, 0, 0, 0, 0)), (.iload_n 3, (0, 0, 0, 0, 0)), (.sipush 1000, (0, 0, 0, 1000, 0))] [some (20, 1700, 244)] (by decide +kernel) rfl ⟨⟨trivial, (r_177_91 hR)⟩, (in_n (n := 1700) (by decide) g2.1 g2.2)⟩ ?_
    refine b_icmp_lt (off := 16) (tgt := 42) (by decide +kernel) (by decide) (fun h3 => ?_) (fun h3 => ?_)
    · have hf := if_t h3 hf
      refine b_blk (pc' := 45) (ls' := [some (mR (12, 0, 177)), some (mI v1), some (mI v2), some (mI (I 244 v2.toNatClampNeg))]) (st' := [mI 60, mI (I 244 v2.toNatClampNeg)]) (S' := (L, I, J, R)) (P := True) [(.iload_n 3, (0, 0, 0, 0, 0)), (.bipush 60, (0, 0, 0, 60, 0))] [] (by decide +kernel) rfl trivial ?_
      refine b_icmp_lt (off := 40) (tgt := 85) (by decide +kernel) (by decide) (fun h4 => ?_) (fun h4 => ?_)
      · have hf := if_t h4 hf
        refine b_blk (pc' := 88) (ls' := [some (mR (12, 0, 177)), some (mI v1), some (mI v2), some (mI (I 244 v2.toNatClampNeg))]) (st' := [mI 40, mI (I 244 v2.toNatClampNeg)]) (S' := (L, I, J, R)) (P := True) [(.iload_n 3, (0, 0, 0, 0, 0)), (.bipush 40, (0, 0, 0, 40, 0))] [] (by decide +kernel) rfl trivial ?_
        refine b_icmp_lt (off := 22) (tgt := 110) (by decide +kernel) (by decide) (fun h5 => ?_) (fun h5 => ?_)
        · have hf := if_t h5 hf
          refine b_blk (pc' := 113) (ls' := [some (mR (12, 0, 177)), some (mI v1), some (mI v2), some (mI (I 244 v2.toNatClampNeg))]) (st' := [mI 13, mI (I 244 v2.toNatClampNeg)]) (S' := (L, I, J, R)) (P := True) [(.iload_n 3, (0, 0, 0, 0, 0)), (.bipush 13, (0, 0, 0, 13, 0))] [] (by decide +kernel) rfl trivial ?_
          refine b_icmp_ne (off := 11) (tgt := 124) (by decide +kernel) (by decide) (fun h6 => ?_) (fun h6 => ?_)
          · have hf := if_f h6 hf
            refine b_blk (pc' := 127) (ls' := [some (mR (12, 0, 177)), some (mI v1), some (mI v2), some (mI (I 244 v2.toNatClampNeg))]) (st' := [mI 12, mI (I 244 v2.toNatClampNeg)]) (S' := (L, I, J, R)) (P := True) [(.iload_n 3, (0, 0, 0, 0, 0)), (.bipush 12, (0, 0, 0, 12, 0))] [] (by decide +kernel) rfl trivial ?_
            refine b_icmp_ne (off := 30) (tgt := 157) (by decide +kernel) (by decide) (fun h7 => ?_) (fun h7 => ?_)
            · have hf := if_f h7 hf
              refine b_blk (pc' := 159) (ls' := [some (mR (12, 0, 177)), some (mI v1), some (mI v2), some (mI (I 244 v2.toNatClampNeg))]) (st' := [mI (I 244 v2.toNatClampNeg), mR (12, 0, 177)]) (S' := (L, I, J, R)) (P := True) [(.aload_n 0, (0, 0, 0, 0, 0)), (.iload_n 3, (0, 0, 0, 0, 0))] [] (by decide +kernel) rfl trivial ?_
              obtain ⟨r8, hc8, hf⟩ := bnd_o hf
              refine b_cV (as := [mI (I 244 v2.toNatClampNeg)]) (st := []) (by decide +kernel) k_12_409 n_MD_qJoins rfl (by decide) v_MD_qJoins (C_MD_qJoins I J (I 244 v2.toNatClampNeg) hR hc8) (Nat.le_of_ble_eq_true rfl) (by decide) rfl rfl (fun _ h => h) ?_
              show m_B G (m_rm 5 0 0) M_MD_qTold Q 0 0 162 [some (mR (12, 0, 177)), some (mI v1), some (mI v2), some (mI (I 244 v2.toNatClampNeg))] [] (L, r8.1, r8.2, R)
              refine b_blk (pc' := 7) (ls' := [some (mR (12, 0, 177)), some (mI v1), some (mI (v2 + 1)), some (mI (I 244 v2.toNatClampNeg))]) (st' := []) (S' := (L, r8.1, r8.2, R)) (P := True) [(.iinc 2 1, (0, 0, 0, 1, 0)), (.goto (-158), (0, 7, 0, 0, 0))] [] (by decide +kernel) rfl trivial ?_
              refine b_frg 3 ?_
              cases hf
              exact hk
            · have hf := if_t h7 hf
              obtain ⟨g9, hf⟩ := gd_s hf
              obtain ⟨g10, hf⟩ := gd_s hf
              refine b_blk (pc' := 162) (ls' := [some (mR (12, 0, 177)), some (mI v1), some (mI v2), some (mI (I 244 v2.toNatClampNeg))]) (st' := []) (S' := (L, I, m_up J 246 (((I 177 98) - (1 : Int32)).toNatClampNeg) ((1 : Int64) - (J 246 ((I 177 98) - (1 : Int32)).toNatClampNeg)), R)) (P := ((((True ∧ R 177 97 = some (21, 1700, 246)) ∧ R 177 97 = some (21, 1700, 246)) ∧ vp_in ((I 177 98) - (1 : Int32)) 1700) ∧ vp_in ((I 177 98) - (1 : Int32)) 1700)) [(.aload_n 0, (0, 0, 0, 0, 0)), (.getfield 225, (12, 97, 3, 0, 0)), (.aload_n 0, (0, 0, 0, 0, 0)), (.getfield 398, (12, 98, 0, 0, 0)), (.iconst 1, (0, 0, 0, 1, 0)), (.isub, (0, 0, 0, 0, 0)), (.lconst 1, (0, 0, 0, 0, 1)), (.aload_n 0, (0, 0, 0, 0, 0)), (.getfield 225, (12, 97, 3, 0, 0)), (.aload_n 0, (0, 0, 0, 0, 0)), (.getfield 398, (12, 98, 0, 0, 0)), (.iconst 1, (0, 0, 0, 1, 0)), (.isub, (0, 0, 0, 0, 0)), (.laload, (0, 0, 0, 0, 0)), (.lsub, (0, 0, 0, 0, 0)), (.lastore, (0, 0, 0, 0, 0)), (.goto 8, (0, 162, 0, 0, 0))] [some (21, 1700, 246), some (21, 1700, 246)] (by decide +kernel) rfl ⟨⟨⟨⟨trivial, (r_177_97 hR)⟩, (r_177_97 hR)⟩, (in_n (n := 1700) (by decide) g9.1 g9.2)⟩, (in_n (n := 1700) (by decide) g10.1 g10.2)⟩ ?_
              obtain ⟨x11, ex11, hf⟩ := bnd_s hf
              refine m_B_cg (ls' := [some (mR (12, 0, 177)), some (mI v1), some (mI v2), some (mI (I 244 v2.toNatClampNeg))]) (st' := []) (S' := (L, I, x11, R)) (by first | with_reducible rfl | rw [ex11]) (by first | with_reducible rfl | rw [ex11]) (by first | with_reducible rfl | rw [ex11]) ?_
              refine b_blk (pc' := 7) (ls' := [some (mR (12, 0, 177)), some (mI v1), some (mI (v2 + 1)), some (mI (I 244 v2.toNatClampNeg))]) (st' := []) (S' := (L, I, x11, R)) (P := True) [(.iinc 2 1, (0, 0, 0, 1, 0)), (.goto (-158), (0, 7, 0, 0, 0))] [] (by decide +kernel) rfl trivial ?_
              refine b_frg 3 ?_
              cases hf
              exact hk
          · have hf := if_t h6 hf
            refine b_blk (pc' := 118) (ls' := [some (mR (12, 0, 177)), some (mI v1), some (mI v2), some (mI (I 244 v2.toNatClampNeg))]) (st' := [mJ 1, mR (12, 0, 177)]) (S' := (L, I, J, R)) (P := True) [(.aload_n 0, (0, 0, 0, 0, 0)), (.lconst 1, (0, 0, 0, 0, 1))] [] (by decide +kernel) rfl trivial ?_
            obtain ⟨r12, hc12, hf⟩ := bnd_o hf
            refine b_cV (as := [mJ 1]) (st := []) (by decide +kernel) k_12_401 n_MD_qPuts rfl (by decide) v_MD_qPuts (C_MD_qPuts I J (1 : Int64) hR hc12) (Nat.le_of_ble_eq_true rfl) (by decide) rfl rfl (fun _ h => h) ?_
            show m_B G (m_rm 5 0 0) M_MD_qTold Q 0 0 121 [some (mR (12, 0, 177)), some (mI v1), some (mI v2), some (mI (I 244 v2.toNatClampNeg))] [] (L, r12.1, r12.2, R)
            refine b_blk (pc' := 162) (ls' := [some (mR (12, 0, 177)), some (mI v1), some (mI v2), some (mI (I 244 v2.toNatClampNeg))]) (st' := []) (S' := (L, r12.1, r12.2, R)) (P := True) [(.goto 41, (0, 162, 0, 0, 0))] [] (by decide +kernel) rfl trivial ?_
            refine b_blk (pc' := 7) (ls' := [some (mR (12, 0, 177)), some (mI v1), some (mI (v2 + 1)), some (mI (I 244 v2.toNatClampNeg))]) (st' := []) (S' := (L, r12.1, r12.2, R)) (P := True) [(.iinc 2 1, (0, 0, 0, 1, 0)), (.goto (-158), (0, 7, 0, 0, 0))] [] (by decide +kernel) rfl trivial ?_
            refine b_frg 3 ?_
            cases hf
            exact hk
        · have hf := if_f h5 hf
          refine b_blk (pc' := 98) (ls' := [some (mR (12, 0, 177)), some (mI v1), some (mI v2), some (mI (I 244 v2.toNatClampNeg))]) (st' := [mI v1, mI ((I 244 v2.toNatClampNeg) - (40 : Int32)), mR (12, 0, 177), mR (12, 0, 177)]) (S' := (L, I, J, R)) (P := True) [(.aload_n 0, (0, 0, 0, 0, 0)), (.aload_n 0, (0, 0, 0, 0, 0)), (.iload_n 3, (0, 0, 0, 0, 0)), (.bipush 40, (0, 0, 0, 40, 0)), (.isub, (0, 0, 0, 0, 0)), (.iload_n 1, (0, 0, 0, 0, 0))] [] (by decide +kernel) rfl trivial ?_
          obtain ⟨r13, hc13, hf⟩ := bnd_o hf
          refine b_cV (as := [mI ((I 244 v2.toNatClampNeg) - (40 : Int32)), mI v1]) (st := [mR (12, 0, 177)]) (by decide +kernel) k_12_405 n_MD_qPartOf rfl (by decide) v_MD_qPartOf (C_MD_qPartOf I J ((I 244 v2.toNatClampNeg) - (40 : Int32)) v1 hR hc13) (Nat.le_of_ble_eq_true rfl) (by decide) rfl rfl (fun _ h => h) ?_
          show m_B G (m_rm 5 0 0) M_MD_qTold Q 0 0 101 [some (mR (12, 0, 177)), some (mI v1), some (mI v2), some (mI (I 244 v2.toNatClampNeg))] [mJ r13, mR (12, 0, 177)] (L, I, J, R)
          obtain ⟨r14, hc14, hf⟩ := bnd_o hf
          refine b_cS (as := [mJ r13]) (st := [mR (12, 0, 177)]) (by decide +kernel) k_12_620 n_MD_qClip s_MD_qClip (C_MD_qClip I J r13 hR hc14) (Nat.le_of_ble_eq_true rfl) (by decide) rfl rfl (fun _ h => h) ?_
          show m_B G (m_rm 5 0 0) M_MD_qTold Q 0 0 104 [some (mR (12, 0, 177)), some (mI v1), some (mI v2), some (mI (I 244 v2.toNatClampNeg))] [mJ r14, mR (12, 0, 177)] (L, I, J, R)
          obtain ⟨r15, hc15, hf⟩ := bnd_o hf
          refine b_cV (as := [mJ r14]) (st := []) (by decide +kernel) k_12_401 n_MD_qPuts rfl (by decide) v_MD_qPuts (C_MD_qPuts I J r14 hR hc15) (Nat.le_of_ble_eq_true rfl) (by decide) rfl rfl (fun _ h => h) ?_
          show m_B G (m_rm 5 0 0) M_MD_qTold Q 0 0 107 [some (mR (12, 0, 177)), some (mI v1), some (mI v2), some (mI (I 244 v2.toNatClampNeg))] [] (L, r15.1, r15.2, R)
          refine b_blk (pc' := 162) (ls' := [some (mR (12, 0, 177)), some (mI v1), some (mI v2), some (mI (I 244 v2.toNatClampNeg))]) (st' := []) (S' := (L, r15.1, r15.2, R)) (P := True) [(.goto 55, (0, 162, 0, 0, 0))] [] (by decide +kernel) rfl trivial ?_
          refine b_blk (pc' := 7) (ls' := [some (mR (12, 0, 177)), some (mI v1), some (mI (v2 + 1)), some (mI (I 244 v2.toNatClampNeg))]) (st' := []) (S' := (L, r15.1, r15.2, R)) (P := True) [(.iinc 2 1, (0, 0, 0, 1, 0)), (.goto (-158), (0, 7, 0, 0, 0))] [] (by decide +kernel) rfl trivial ?_
          refine b_frg 3 ?_
          cases hf
          exact hk
      · have hf := if_f h4 hf
        obtain ⟨g16, hf⟩ := gd_s hf
        refine b_blk (pc' := 75) (ls' := [some (mR (12, 0, 177)), some (mI v1), some (mI v2), some (mI (I 244 v2.toNatClampNeg))]) (st' := [mI v1, mJ (J 246 ((I 177 98) - (1 : Int32)).toNatClampNeg), mI ((I 244 v2.toNatClampNeg) - (60 : Int32)), mR (12, 0, 177), mI ((I 177 98) - (1 : Int32)), mR (21, 1700, 246)]) (S' := (L, I, J, R)) (P := (((True ∧ R 177 97 = some (21, 1700, 246)) ∧ R 177 97 = some (21, 1700, 246)) ∧ vp_in ((I 177 98) - (1 : Int32)) 1700)) [(.aload_n 0, (0, 0, 0, 0, 0)), (.getfield 225, (12, 97, 3, 0, 0)), (.aload_n 0, (0, 0, 0, 0, 0)), (.getfield 398, (12, 98, 0, 0, 0)), (.iconst 1, (0, 0, 0, 1, 0)), (.isub, (0, 0, 0, 0, 0)), (.aload_n 0, (0, 0, 0, 0, 0)), (.iload_n 3, (0, 0, 0, 0, 0)), (.bipush 60, (0, 0, 0, 60, 0)), (.isub, (0, 0, 0, 0, 0)), (.aload_n 0, (0, 0, 0, 0, 0)), (.getfield 225, (12, 97, 3, 0, 0)), (.aload_n 0, (0, 0, 0, 0, 0)), (.getfield 398, (12, 98, 0, 0, 0)), (.iconst 1, (0, 0, 0, 1, 0)), (.isub, (0, 0, 0, 0, 0)), (.laload, (0, 0, 0, 0, 0)), (.iload_n 1, (0, 0, 0, 0, 0))] [some (21, 1700, 246), some (21, 1700, 246)] (by decide +kernel) rfl ⟨⟨⟨trivial, (r_177_97 hR)⟩, (r_177_97 hR)⟩, (in_n (n := 1700) (by decide) g16.1 g16.2)⟩ ?_
        obtain ⟨r17, hc17, hf⟩ := bnd_o hf
        refine b_cV (as := [mI ((I 244 v2.toNatClampNeg) - (60 : Int32)), mJ (J 246 ((I 177 98) - (1 : Int32)).toNatClampNeg), mI v1]) (st := [mI ((I 177 98) - (1 : Int32)), mR (21, 1700, 246)]) (by decide +kernel) k_12_630 n_MD_qOf rfl (by decide) v_MD_qOf (C_MD_qOf I J ((I 244 v2.toNatClampNeg) - (60 : Int32)) (J 246 ((I 177 98) - (1 : Int32)).toNatClampNeg) v1 hR hc17) (Nat.le_of_ble_eq_true rfl) (by decide) rfl rfl (fun _ h => h) ?_
        show m_B G (m_rm 5 0 0) M_MD_qTold Q 0 0 78 [some (mR (12, 0, 177)), some (mI v1), some (mI v2), some (mI (I 244 v2.toNatClampNeg))] [mJ r17, mI ((I 177 98) - (1 : Int32)), mR (21, 1700, 246)] (L, I, J, R)
        obtain ⟨r18, hc18, hf⟩ := bnd_o hf
        refine b_cS (as := [mJ r17]) (st := [mI ((I 177 98) - (1 : Int32)), mR (21, 1700, 246)]) (by decide +kernel) k_12_620 n_MD_qClip s_MD_qClip (C_MD_qClip I J r17 hR hc18) (Nat.le_of_ble_eq_true rfl) (by decide) rfl rfl (fun _ h => h) ?_
        show m_B G (m_rm 5 0 0) M_MD_qTold Q 0 0 81 [some (mR (12, 0, 177)), some (mI v1), some (mI v2), some (mI (I 244 v2.toNatClampNeg))] [mJ r18, mI ((I 177 98) - (1 : Int32)), mR (21, 1700, 246)] (L, I, J, R)
        obtain ⟨g19, hf⟩ := gd_s hf
        refine b_blk (pc' := 162) (ls' := [some (mR (12, 0, 177)), some (mI v1), some (mI v2), some (mI (I 244 v2.toNatClampNeg))]) (st' := []) (S' := (L, I, m_up J 246 (((I 177 98) - (1 : Int32)).toNatClampNeg) r18, R)) (P := (True ∧ vp_in ((I 177 98) - (1 : Int32)) 1700)) [(.lastore, (0, 0, 0, 0, 0)), (.goto 80, (0, 162, 0, 0, 0))] [] (by decide +kernel) rfl ⟨trivial, (in_n (n := 1700) (by decide) g19.1 g19.2)⟩ ?_
        refine b_blk (pc' := 7) (ls' := [some (mR (12, 0, 177)), some (mI v1), some (mI (v2 + 1)), some (mI (I 244 v2.toNatClampNeg))]) (st' := []) (S' := (L, I, m_up J 246 (((I 177 98) - (1 : Int32)).toNatClampNeg) r18, R)) (P := True) [(.iinc 2 1, (0, 0, 0, 1, 0)), (.goto (-158), (0, 7, 0, 0, 0))] [] (by decide +kernel) rfl trivial ?_
        refine b_frg 3 ?_
        cases hf
        exact hk
    · have hf := if_f h3 hf
      refine b_blk (pc' := 36) (ls' := [some (mR (12, 0, 177)), some (mI v1), some (mI v2), some (mI (I 244 v2.toNatClampNeg))]) (st' := [mJ (((I 244 v2.toNatClampNeg) - (1000 : Int32)).toInt64), mR (12, 0, 177)]) (S' := (L, I, J, R)) (P := True) [(.aload_n 0, (0, 0, 0, 0, 0)), (.iload_n 3, (0, 0, 0, 0, 0)), (.sipush 1000, (0, 0, 0, 1000, 0)), (.isub, (0, 0, 0, 0, 0)), (.i2l, (0, 0, 0, 0, 0))] [] (by decide +kernel) rfl trivial ?_
      obtain ⟨r20, hc20, hf⟩ := bnd_o hf
      refine b_cV (as := [mJ (((I 244 v2.toNatClampNeg) - (1000 : Int32)).toInt64)]) (st := []) (by decide +kernel) k_12_401 n_MD_qPuts rfl (by decide) v_MD_qPuts (C_MD_qPuts I J (((I 244 v2.toNatClampNeg) - (1000 : Int32)).toInt64) hR hc20) (Nat.le_of_ble_eq_true rfl) (by decide) rfl rfl (fun _ h => h) ?_
      show m_B G (m_rm 5 0 0) M_MD_qTold Q 0 0 39 [some (mR (12, 0, 177)), some (mI v1), some (mI v2), some (mI (I 244 v2.toNatClampNeg))] [] (L, r20.1, r20.2, R)
      refine b_blk (pc' := 162) (ls' := [some (mR (12, 0, 177)), some (mI v1), some (mI v2), some (mI (I 244 v2.toNatClampNeg))]) (st' := []) (S' := (L, r20.1, r20.2, R)) (P := True) [(.goto 123, (0, 162, 0, 0, 0))] [] (by decide +kernel) rfl trivial ?_
      refine b_blk (pc' := 7) (ls' := [some (mR (12, 0, 177)), some (mI v1), some (mI (v2 + 1)), some (mI (I 244 v2.toNatClampNeg))]) (st' := []) (S' := (L, r20.1, r20.2, R)) (P := True) [(.iinc 2 1, (0, 0, 0, 1, 0)), (.goto (-158), (0, 7, 0, 0, 0))] [] (by decide +kernel) rfl trivial ?_
      refine b_frg 3 ?_
      cases hf
      exact hk
noncomputable def F_MD_qTold (I : MI) (J : MJ) (v1 : Int32) : Option (Int64 × MI × MJ) :=
  (wl (fun s : Int32 × MI × MJ => F_MD_qTold_7 s.2.1 s.2.2 v1 s.1) ((0 : Int32), m_up I 177 98 (0 : Int32), J)).bind fun t1 => some ((t1.2 246 0 : Int64), t1.1, t1.2)
set_option maxRecDepth 100000 in
set_option maxHeartbeats 400000 in
theorem W_MD_qTold {G : MG} {Q : Option MV → MS → Prop} {L : List (Nat × Nat)} {R : Nat → Nat → Option MRef} (I : MI) (J : MJ) (v1 : Int32) (hR : RF R) {r : Int64 × MI × MJ} (hf : F_MD_qTold I J v1 = some r) (hk : (fun r : Int64 × MI × MJ => Q (some (mJ r.1)) (L, r.2.1, r.2.2, R)) r) : m_B G (m_rm 5 0 0) M_MD_qTold Q 0 0 0 [some (mR (12, 0, 177)), some (mI v1), none, none] [] (L, I, J, R) := by
  unfold F_MD_qTold at hf
  refine b_blk (pc' := 7) (ls' := [some (mR (12, 0, 177)), some (mI v1), some (mI 0), none]) (st' := []) (S' := (L, m_up I 177 98 (0 : Int32), J, R)) (P := True) [(.aload_n 0, (0, 0, 0, 0, 0)), (.iconst 0, (0, 0, 0, 0, 0)), (.putfield 398, (12, 98, 0, 0, 0)), (.iconst 0, (0, 0, 0, 0, 0)), (.istore_n 2, (0, 0, 0, 0, 0))] [] (by decide +kernel) rfl trivial ?_
  obtain ⟨t1, hw, hf⟩ := bnd_o hf
  refine wl_B (A := fun s : Int32 × MI × MJ => m_B G (m_rm 5 0 0) M_MD_qTold Q 0 0 7 [some (mR (12, 0, 177)), some (mI v1), some (mI s.1), none] [] (L, s.2.1, s.2.2, R)) (B := (fun s : MI × MJ => m_B G (m_rm 5 0 0) M_MD_qTold Q 0 0 168 [some (mR (12, 0, 177)), none, none, none] [] (L, s.1, s.2, R))) (fun s r hs hr => W_MD_qTold_7 s.2.1 s.2.2 v1 s.1 hR hs hr) hw ?_
  show m_B G (m_rm 5 0 0) M_MD_qTold Q 0 0 168 [some (mR (12, 0, 177)), none, none, none] [] (L, t1.1, t1.2, R)
  refine b_blk (pc' := 174) (ls' := [some (mR (12, 0, 177)), none, none, none]) (st' := [mJ (t1.2 246 0)]) (S' := (L, t1.1, t1.2, R)) (P := ((True ∧ R 177 97 = some (21, 1700, 246)) ∧ vp_in (0 : Int32) 1700)) [(.aload_n 0, (0, 0, 0, 0, 0)), (.getfield 225, (12, 97, 3, 0, 0)), (.iconst 0, (0, 0, 0, 0, 0)), (.laload, (0, 0, 0, 0, 0))] [some (21, 1700, 246)] (by decide +kernel) rfl ⟨⟨trivial, (r_177_97 hR)⟩, (vp_in_nI (n := 0) (N := 1700) (by decide) (by decide))⟩ ?_
  cases hf
  exact b_lret (by decide +kernel) rfl hk
theorem C_MD_qTold {G : MG} {L : List (Nat × Nat)} {R : Nat → Nat → Option MRef} (I : MI) (J : MJ) (v1 : Int32) (hR : RF R) {r : Int64 × MI × MJ} (hf : F_MD_qTold I J v1 = some r) : m_met G 5 0 0 y_MD_qTold M_MD_qTold [mR (12, 0, 177), mI v1] (L, I, J, R) (m_is (some (mJ r.1)) (L, r.2.1, r.2.2, R)) :=
  m_met_in n_MD_qTold (plainFor_of_name (by decide)) (by decide) (Nat.le_of_ble_eq_true rfl) (ls := [some (mR (12, 0, 177)), some (mI v1), none, none]) rfl (W_MD_qTold I J v1 hR hf ⟨rfl, rfl⟩)
noncomputable def F_MD_ask_188 (I : MI) (J : MJ) (v1 : Int32) (v2 : Int32) : Option ((Int32 × MI × MJ) ⊕ (MI × MJ)) :=
  (F_MD_fenceMany I).bind fun r1 => if r1 ≤ v2 then (some (.inr (I, J))) else ((F_MD_qTold I J v2).bind fun r3 => (F_MD_qTakes r3.2.1 r3.2.2 v1 r3.1 v2).bind fun r4 => some (.inl ((v2 + 1 : Int32), r4.1, r4.2)))
set_option maxRecDepth 100000 in
set_option maxHeartbeats 400000 in
theorem W_MD_ask_188 {G : MG} {Q : Option MV → MS → Prop} {L : List (Nat × Nat)} {R : Nat → Nat → Option MRef} (I : MI) (J : MJ) (v1 : Int32) (v2 : Int32) (hR : RF R) {r : (Int32 × MI × MJ) ⊕ (MI × MJ)} (hf : F_MD_ask_188 I J v1 v2 = some r) (hk : (Sum.elim (fun s : Int32 × MI × MJ => m_B G (m_rm 10 0 0) M_MD_ask Q 0 0 188 [some (mR (12, 0, 177)), some (mI v1), some (mI s.1)] [] (L, s.2.1, s.2.2, R)) (fun s : MI × MJ => m_B G (m_rm 10 0 0) M_MD_ask Q 0 0 213 [some (mR (12, 0, 177)), none, none] [] (L, s.1, s.2, R))) r) : m_B G (m_rm 10 0 0) M_MD_ask Q 0 0 188 [some (mR (12, 0, 177)), some (mI v1), some (mI v2)] [] (L, I, J, R) := by
  unfold F_MD_ask_188 at hf
  refine b_blk (pc' := 190) (ls' := [some (mR (12, 0, 177)), some (mI v1), some (mI v2)]) (st' := [mR (12, 0, 177), mI v2]) (S' := (L, I, J, R)) (P := True) [(.iload_n 2, (0, 0, 0, 0, 0)), (.aload_n 0, (0, 0, 0, 0, 0))] [] (by decide +kernel) rfl trivial ?_
  obtain ⟨r1, hc1, hf⟩ := bnd_o hf
  refine b_cV (as := []) (st := [mI v2]) (by decide +kernel) k_12_382 n_MD_fenceMany rfl (by decide) v_MD_fenceMany (C_MD_fenceMany I J hR hc1) (Nat.le_of_ble_eq_true rfl) (by decide) rfl rfl (fun _ h => h) ?_
  show m_B G (m_rm 10 0 0) M_MD_ask Q 0 0 193 [some (mR (12, 0, 177)), some (mI v1), some (mI v2)] [mI r1, mI v2] (L, I, J, R)
  refine b_icmp_ge (off := 20) (tgt := 213) (by decide +kernel) (by decide) (fun h2 => ?_) (fun h2 => ?_)
  · have hf := if_t h2 hf
    refine b_frg 1 ?_
    refine b_frg 2 ?_
    cases hf
    exact hk
  · have hf := if_f h2 hf
    refine b_blk (pc' := 200) (ls' := [some (mR (12, 0, 177)), some (mI v1), some (mI v2)]) (st' := [mI v2, mR (12, 0, 177), mI v1, mR (12, 0, 177)]) (S' := (L, I, J, R)) (P := True) [(.aload_n 0, (0, 0, 0, 0, 0)), (.iload_n 1, (0, 0, 0, 0, 0)), (.aload_n 0, (0, 0, 0, 0, 0)), (.iload_n 2, (0, 0, 0, 0, 0))] [] (by decide +kernel) rfl trivial ?_
    obtain ⟨r3, hc3, hf⟩ := bnd_o hf
    refine b_cV (as := [mI v2]) (st := [mI v1, mR (12, 0, 177)]) (by decide +kernel) k_12_645 n_MD_qTold rfl (by decide) v_MD_qTold (C_MD_qTold I J v2 hR hc3) (Nat.le_of_ble_eq_true rfl) (by decide) rfl rfl (fun _ h => h) ?_
    show m_B G (m_rm 10 0 0) M_MD_ask Q 0 0 203 [some (mR (12, 0, 177)), some (mI v1), some (mI v2)] [mJ r3.1, mI v1, mR (12, 0, 177)] (L, r3.2.1, r3.2.2, R)
    refine b_blk (pc' := 204) (ls' := [some (mR (12, 0, 177)), some (mI v1), some (mI v2)]) (st' := [mI v2, mJ r3.1, mI v1, mR (12, 0, 177)]) (S' := (L, r3.2.1, r3.2.2, R)) (P := True) [(.iload_n 2, (0, 0, 0, 0, 0))] [] (by decide +kernel) rfl trivial ?_
    obtain ⟨r4, hc4, hf⟩ := bnd_o hf
    refine b_cV (as := [mI v1, mJ r3.1, mI v2]) (st := []) (by decide +kernel) k_12_649 n_MD_qTakes rfl (by decide) v_MD_qTakes (C_MD_qTakes r3.2.1 r3.2.2 v1 r3.1 v2 hR hc4) (Nat.le_of_ble_eq_true rfl) (by decide) rfl rfl (fun _ h => h) ?_
    show m_B G (m_rm 10 0 0) M_MD_ask Q 0 0 207 [some (mR (12, 0, 177)), some (mI v1), some (mI v2)] [] (L, r4.1, r4.2, R)
    refine b_blk (pc' := 188) (ls' := [some (mR (12, 0, 177)), some (mI v1), some (mI (v2 + 1))]) (st' := []) (S' := (L, r4.1, r4.2, R)) (P := True) [(.iinc 2 1, (0, 0, 0, 1, 0)), (.goto (-22), (0, 188, 0, 0, 0))] [] (by decide +kernel) rfl trivial ?_
    cases hf
    exact hk
noncomputable def F_MD_ask_173 (I : MI) (J : MJ) (v1 : Int32) (y0 : Int64) : Option (Int64 × MI × MJ) :=
  (wl (fun s : Int32 × MI × MJ => F_MD_ask_188 s.2.1 s.2.2 v1 s.1) ((0 : Int32), m_up (m_up I 177 100 (1 : Int32)) 177 50 (2 : Int32), m_up J 177 99 y0)).bind fun t1 => some ((t1.2 177 99 : Int64), t1.1, t1.2)
set_option maxRecDepth 100000 in
set_option maxHeartbeats 400000 in
theorem W_MD_ask_173 {G : MG} {Q : Option MV → MS → Prop} {L : List (Nat × Nat)} {R : Nat → Nat → Option MRef} (I : MI) (J : MJ) (v1 : Int32) (y0 : Int64) (hR : RF R) {r : Int64 × MI × MJ} (hf : F_MD_ask_173 I J v1 y0 = some r) (hk : (fun r : Int64 × MI × MJ => Q (some (mJ r.1)) (L, r.2.1, r.2.2, R)) r) : m_B G (m_rm 10 0 0) M_MD_ask Q 0 0 173 [some (mR (12, 0, 177)), some (mI v1), none] [mJ y0, mR (12, 0, 177)] (L, I, J, R) := by
  unfold F_MD_ask_173 at hf
  refine b_blk (pc' := 188) (ls' := [some (mR (12, 0, 177)), some (mI v1), some (mI 0)]) (st' := []) (S' := (L, m_up (m_up I 177 100 (1 : Int32)) 177 50 (2 : Int32), m_up J 177 99 y0, R)) (P := (True ∧ ((1 : Int32) = 0 ∨ (1 : Int32) = 1))) [(.putfield 634, (12, 99, 2, 0, 0)), (.aload_n 0, (0, 0, 0, 0, 0)), (.iconst 1, (0, 0, 0, 1, 0)), (.putfield 637, (12, 100, 1, 0, 0)), (.aload_n 0, (0, 0, 0, 0, 0)), (.iconst 2, (0, 0, 0, 2, 0)), (.putfield 292, (12, 50, 0, 0, 0)), (.iconst 0, (0, 0, 0, 0, 0)), (.istore_n 2, (0, 0, 0, 0, 0))] [] (by decide +kernel) rfl ⟨trivial, (by decide)⟩ ?_
  obtain ⟨t1, hw, hf⟩ := bnd_o hf
  refine wl_B (A := fun s : Int32 × MI × MJ => m_B G (m_rm 10 0 0) M_MD_ask Q 0 0 188 [some (mR (12, 0, 177)), some (mI v1), some (mI s.1)] [] (L, s.2.1, s.2.2, R)) (B := (fun s : MI × MJ => m_B G (m_rm 10 0 0) M_MD_ask Q 0 0 213 [some (mR (12, 0, 177)), none, none] [] (L, s.1, s.2, R))) (fun s r hs hr => W_MD_ask_188 s.2.1 s.2.2 v1 s.1 hR hs hr) hw ?_
  show m_B G (m_rm 10 0 0) M_MD_ask Q 0 0 213 [some (mR (12, 0, 177)), none, none] [] (L, t1.1, t1.2, R)
  refine b_blk (pc' := 217) (ls' := [some (mR (12, 0, 177)), none, none]) (st' := [mJ (t1.2 177 99)]) (S' := (L, t1.1, t1.2, R)) (P := True) [(.aload_n 0, (0, 0, 0, 0, 0)), (.getfield 634, (12, 99, 2, 0, 0))] [] (by decide +kernel) rfl trivial ?_
  cases hf
  exact b_lret (by decide +kernel) rfl hk
noncomputable def F_MD_ask_133 (I : MI) (J : MJ) (v1 : Int32) : Option (Int64 × MI × MJ) :=
  if (I 177 5) = (0 : Int32) then (if (2 : Int32) ≤ v1 then (F_MD_ask_173 (m_up (m_up I 177 7 (I 177 5)) 177 8 (I 177 6)) J v1 (0 : Int64)) else (F_MD_ask_173 (m_up (m_up I 177 7 (I 177 5)) 177 8 (I 177 6)) J v1 (-1 : Int64))) else (some (((-1000000000000000) : Int64), m_up (m_up I 177 7 (I 177 5)) 177 8 (I 177 6), J))
set_option maxRecDepth 100000 in
set_option maxHeartbeats 400000 in
theorem W_MD_ask_133 {G : MG} {Q : Option MV → MS → Prop} {L : List (Nat × Nat)} {R : Nat → Nat → Option MRef} (I : MI) (J : MJ) (v1 : Int32) (hR : RF R) {r : Int64 × MI × MJ} (hf : F_MD_ask_133 I J v1 = some r) (hk : (fun r : Int64 × MI × MJ => Q (some (mJ r.1)) (L, r.2.1, r.2.2, R)) r) : m_B G (m_rm 10 0 0) M_MD_ask Q 0 0 133 [some (mR (12, 0, 177)), some (mI v1), none] [] (L, I, J, R) := by
  unfold F_MD_ask_133 at hf
  refine b_blk (pc' := 153) (ls' := [some (mR (12, 0, 177)), some (mI v1), none]) (st' := [mI (I 177 5)]) (S' := (L, m_up (m_up I 177 7 (I 177 5)) 177 8 (I 177 6), J, R)) (P := True) [(.aload_n 0, (0, 0, 0, 0, 0)), (.aload_n 0, (0, 0, 0, 0, 0)), (.getfield 234, (12, 5, 0, 0, 0)), (.putfield 363, (12, 7, 0, 0, 0)), (.aload_n 0, (0, 0, 0, 0, 0)), (.aload_n 0, (0, 0, 0, 0, 0)), (.getfield 237, (12, 6, 0, 0, 0)), (.putfield 13, (12, 8, 0, 0, 0)), (.aload_n 0, (0, 0, 0, 0, 0)), (.getfield 234, (12, 5, 0, 0, 0))] [] (by decide +kernel) rfl trivial ?_
  refine b_if_eq (off := 7) (tgt := 160) (by decide +kernel) (by decide) (fun h1 => ?_) (fun h1 => ?_)
  · have hf := if_t h1 hf
    refine b_blk (pc' := 163) (ls' := [some (mR (12, 0, 177)), some (mI v1), none]) (st' := [mI 2, mI v1, mR (12, 0, 177)]) (S' := (L, m_up (m_up I 177 7 (I 177 5)) 177 8 (I 177 6), J, R)) (P := True) [(.aload_n 0, (0, 0, 0, 0, 0)), (.iload_n 1, (0, 0, 0, 0, 0)), (.iconst 2, (0, 0, 0, 2, 0))] [] (by decide +kernel) rfl trivial ?_
    refine b_icmp_ge (off := 9) (tgt := 172) (by decide +kernel) (by decide) (fun h2 => ?_) (fun h2 => ?_)
    · have hf := if_t h2 hf
      refine b_blk (pc' := 173) (ls' := [some (mR (12, 0, 177)), some (mI v1), none]) (st' := [mJ 0, mR (12, 0, 177)]) (S' := (L, m_up (m_up I 177 7 (I 177 5)) 177 8 (I 177 6), J, R)) (P := True) [(.lconst 0, (0, 0, 0, 0, 0))] [] (by decide +kernel) rfl trivial ?_
      exact m_B_cg rfl rfl rfl (W_MD_ask_173 (m_up (m_up I 177 7 (I 177 5)) 177 8 (I 177 6)) J v1 (0 : Int64) hR hf hk)
    · have hf := if_f h2 hf
      refine b_blk (pc' := 173) (ls' := [some (mR (12, 0, 177)), some (mI v1), none]) (st' := [mJ (-1), mR (12, 0, 177)]) (S' := (L, m_up (m_up I 177 7 (I 177 5)) 177 8 (I 177 6), J, R)) (P := True) [(.ldc2_w 628, (0, 0, 0, 0, (-1))), (.goto 4, (0, 173, 0, 0, 0))] [] (by decide +kernel) rfl trivial ?_
      exact m_B_cg rfl rfl rfl (W_MD_ask_173 (m_up (m_up I 177 7 (I 177 5)) 177 8 (I 177 6)) J v1 (-1 : Int64) hR hf hk)
  · have hf := if_f h1 hf
    refine b_blk (pc' := 159) (ls' := [some (mR (12, 0, 177)), some (mI v1), none]) (st' := [mJ (-1000000000000000)]) (S' := (L, m_up (m_up I 177 7 (I 177 5)) 177 8 (I 177 6), J, R)) (P := True) [(.ldc2_w 640, (0, 0, 0, 0, (-1000000000000000)))] [] (by decide +kernel) rfl trivial ?_
    cases hf
    exact b_lret (by decide +kernel) rfl hk
noncomputable def F_MD_ask_109 (I : MI) (J : MJ) (v1 : Int32) : Option (Int64 × MI × MJ) :=
  if (I 177 5) = (0 : Int32) then ((F_MD_look I).bind fun r2 => if r2.1 = (-1 : Int32) then (F_MD_ask_133 r2.2 J v1) else ((F_MD_fail r2.2 (1 : Int32) (r2.2 177 2)).bind fun r4 => F_MD_ask_133 r4 J v1)) else (F_MD_ask_133 I J v1)
set_option maxRecDepth 100000 in
set_option maxHeartbeats 400000 in
theorem W_MD_ask_109 {G : MG} {Q : Option MV → MS → Prop} {L : List (Nat × Nat)} {R : Nat → Nat → Option MRef} (I : MI) (J : MJ) (v1 : Int32) (hR : RF R) {r : Int64 × MI × MJ} (hf : F_MD_ask_109 I J v1 = some r) (hk : (fun r : Int64 × MI × MJ => Q (some (mJ r.1)) (L, r.2.1, r.2.2, R)) r) : m_B G (m_rm 10 0 0) M_MD_ask Q 0 0 109 [some (mR (12, 0, 177)), some (mI v1), none] [] (L, I, J, R) := by
  unfold F_MD_ask_109 at hf
  refine b_blk (pc' := 113) (ls' := [some (mR (12, 0, 177)), some (mI v1), none]) (st' := [mI (I 177 5)]) (S' := (L, I, J, R)) (P := True) [(.aload_n 0, (0, 0, 0, 0, 0)), (.getfield 234, (12, 5, 0, 0, 0))] [] (by decide +kernel) rfl trivial ?_
  refine b_if_ne (off := 20) (tgt := 133) (by decide +kernel) (by decide) (fun h1 => ?_) (fun h1 => ?_)
  · have hf := if_f h1 hf
    exact m_B_cg rfl rfl rfl (W_MD_ask_133 I J v1 hR hf hk)
  · have hf := if_t h1 hf
    refine b_blk (pc' := 117) (ls' := [some (mR (12, 0, 177)), some (mI v1), none]) (st' := [mR (12, 0, 177)]) (S' := (L, I, J, R)) (P := True) [(.aload_n 0, (0, 0, 0, 0, 0))] [] (by decide +kernel) rfl trivial ?_
    obtain ⟨r2, hc2, hf⟩ := bnd_o hf
    refine b_cV (as := []) (st := []) (by decide +kernel) k_12_246 n_MD_look rfl (by decide) v_MD_look (C_MD_look I J hR hc2) (Nat.le_of_ble_eq_true rfl) (by decide) rfl rfl (fun _ h => h) ?_
    show m_B G (m_rm 10 0 0) M_MD_ask Q 0 0 120 [some (mR (12, 0, 177)), some (mI v1), none] [mI r2.1] (L, r2.2, J, R)
    refine b_blk (pc' := 121) (ls' := [some (mR (12, 0, 177)), some (mI v1), none]) (st' := [mI (-1), mI r2.1]) (S' := (L, r2.2, J, R)) (P := True) [(.iconst (-1), (0, 0, 0, (-1), 0))] [] (by decide +kernel) rfl trivial ?_
    refine b_icmp_eq (off := 12) (tgt := 133) (by decide +kernel) (by decide) (fun h3 => ?_) (fun h3 => ?_)
    · have hf := if_t h3 hf
      exact m_B_cg rfl rfl rfl (W_MD_ask_133 r2.2 J v1 hR hf hk)
    · have hf := if_f h3 hf
      refine b_blk (pc' := 130) (ls' := [some (mR (12, 0, 177)), some (mI v1), none]) (st' := [mI (r2.2 177 2), mI 1, mR (12, 0, 177)]) (S' := (L, r2.2, J, R)) (P := True) [(.aload_n 0, (0, 0, 0, 0, 0)), (.iconst 1, (0, 0, 0, 1, 0)), (.aload_n 0, (0, 0, 0, 0, 0)), (.getfield 240, (12, 2, 0, 0, 0))] [] (by decide +kernel) rfl trivial ?_
      obtain ⟨r4, hc4, hf⟩ := bnd_o hf
      refine b_cV (as := [mI 1, mI (r2.2 177 2)]) (st := []) (by decide +kernel) k_12_264 n_MD_fail rfl (by decide) v_MD_fail (C_MD_fail r2.2 J (1 : Int32) (r2.2 177 2) hR hc4) (Nat.le_of_ble_eq_true rfl) (by decide) rfl rfl (fun _ h => h) ?_
      show m_B G (m_rm 10 0 0) M_MD_ask Q 0 0 133 [some (mR (12, 0, 177)), some (mI v1), none] [] (L, r4, J, R)
      exact m_B_cg rfl rfl rfl (W_MD_ask_133 r4 J v1 hR hf hk)
noncomputable def F_MD_ask_98 (I : MI) (J : MJ) (v1 : Int32) : Option (Int64 × MI × MJ) :=
  if (I 177 5) = (0 : Int32) then ((F_MD_qSums I).bind fun r2 => F_MD_ask_109 r2 J v1) else (F_MD_ask_109 I J v1)
set_option maxRecDepth 100000 in
set_option maxHeartbeats 400000 in
theorem W_MD_ask_98 {G : MG} {Q : Option MV → MS → Prop} {L : List (Nat × Nat)} {R : Nat → Nat → Option MRef} (I : MI) (J : MJ) (v1 : Int32) (hR : RF R) {r : Int64 × MI × MJ} (hf : F_MD_ask_98 I J v1 = some r) (hk : (fun r : Int64 × MI × MJ => Q (some (mJ r.1)) (L, r.2.1, r.2.2, R)) r) : m_B G (m_rm 10 0 0) M_MD_ask Q 0 0 98 [some (mR (12, 0, 177)), some (mI v1), none] [] (L, I, J, R) := by
  unfold F_MD_ask_98 at hf
  refine b_blk (pc' := 102) (ls' := [some (mR (12, 0, 177)), some (mI v1), none]) (st' := [mI (I 177 5)]) (S' := (L, I, J, R)) (P := True) [(.aload_n 0, (0, 0, 0, 0, 0)), (.getfield 234, (12, 5, 0, 0, 0))] [] (by decide +kernel) rfl trivial ?_
  refine b_if_ne (off := 7) (tgt := 109) (by decide +kernel) (by decide) (fun h1 => ?_) (fun h1 => ?_)
  · have hf := if_f h1 hf
    exact m_B_cg rfl rfl rfl (W_MD_ask_109 I J v1 hR hf hk)
  · have hf := if_t h1 hf
    refine b_blk (pc' := 106) (ls' := [some (mR (12, 0, 177)), some (mI v1), none]) (st' := [mR (12, 0, 177)]) (S' := (L, I, J, R)) (P := True) [(.aload_n 0, (0, 0, 0, 0, 0))] [] (by decide +kernel) rfl trivial ?_
    obtain ⟨r2, hc2, hf⟩ := bnd_o hf
    refine b_cV (as := []) (st := []) (by decide +kernel) k_12_330 n_MD_qSums rfl (by decide) v_MD_qSums (C_MD_qSums I J hR hc2) (Nat.le_of_ble_eq_true rfl) (by decide) rfl rfl (fun _ h => h) ?_
    show m_B G (m_rm 10 0 0) M_MD_ask Q 0 0 109 [some (mR (12, 0, 177)), some (mI v1), none] [] (L, r2, J, R)
    exact m_B_cg rfl rfl rfl (W_MD_ask_109 r2 J v1 hR hf hk)
noncomputable def F_MD_ask (I : MI) (J : MJ) : Option (Int64 × MI × MJ) :=
  if (I 177 49) = (0 : Int32) then (some (((-1000000000000000) : Int64), m_up I 177 1 (0 : Int32), J)) else (bnd (m_up (m_up (m_up (m_up (m_up (m_up (m_up I 177 3 (I 177 1)) 177 1 (0 : Int32)) 177 2 (0 : Int32)) 177 4 (-1 : Int32)) 177 5 (0 : Int32)) 177 6 (-1 : Int32)) 177 50 (2 : Int32) : MI) fun x2 => (F_MD_qKind (m_up (m_up (m_up (m_up x2 177 92 (0 : Int32)) 177 94 (0 : Int32)) 177 95 (0 : Int32)) 177 96 (0 : Int32))).bind fun r3 => if (r3.2 177 5) = (0 : Int32) then (if (3 : Int32) ≤ r3.1 then (F_MD_ask_98 r3.2 J r3.1) else ((F_MD_qTest r3.2).bind fun r6 => F_MD_ask_109 r6 J r3.1)) else (F_MD_ask_98 r3.2 J r3.1))
set_option maxRecDepth 100000 in
set_option maxHeartbeats 400000 in
theorem W_MD_ask {G : MG} {Q : Option MV → MS → Prop} {L : List (Nat × Nat)} {R : Nat → Nat → Option MRef} (I : MI) (J : MJ) (hR : RF R) {r : Int64 × MI × MJ} (hf : F_MD_ask I J = some r) (hk : (fun r : Int64 × MI × MJ => Q (some (mJ r.1)) (L, r.2.1, r.2.2, R)) r) : m_B G (m_rm 10 0 0) M_MD_ask Q 0 0 0 [some (mR (12, 0, 177)), none, none] [] (L, I, J, R) := by
  unfold F_MD_ask at hf
  refine b_blk (pc' := 4) (ls' := [some (mR (12, 0, 177)), none, none]) (st' := [mI (I 177 49)]) (S' := (L, I, J, R)) (P := True) [(.aload_n 0, (0, 0, 0, 0, 0)), (.getfield 369, (12, 49, 1, 0, 0))] [] (by decide +kernel) rfl trivial ?_
  refine b_if_ne (off := 12) (tgt := 16) (by decide +kernel) (by decide) (fun h1 => ?_) (fun h1 => ?_)
  · have hf := if_f h1 hf
    refine b_blk (pc' := 56) (ls' := [some (mR (12, 0, 177)), none, none]) (st' := [mI 0, mR (12, 0, 177)]) (S' := (L, m_up (m_up (m_up (m_up (m_up (m_up (m_up I 177 3 (I 177 1)) 177 1 (0 : Int32)) 177 2 (0 : Int32)) 177 4 (-1 : Int32)) 177 5 (0 : Int32)) 177 6 (-1 : Int32)) 177 50 (2 : Int32), J, R)) (P := True) [(.aload_n 0, (0, 0, 0, 0, 0)), (.aload_n 0, (0, 0, 0, 0, 0)), (.getfield 231, (12, 1, 0, 0, 0)), (.putfield 243, (12, 3, 0, 0, 0)), (.aload_n 0, (0, 0, 0, 0, 0)), (.iconst 0, (0, 0, 0, 0, 0)), (.putfield 231, (12, 1, 0, 0, 0)), (.aload_n 0, (0, 0, 0, 0, 0)), (.iconst 0, (0, 0, 0, 0, 0)), (.putfield 240, (12, 2, 0, 0, 0)), (.aload_n 0, (0, 0, 0, 0, 0)), (.iconst (-1), (0, 0, 0, (-1), 0)), (.putfield 254, (12, 4, 0, 0, 0)), (.aload_n 0, (0, 0, 0, 0, 0)), (.iconst 0, (0, 0, 0, 0, 0)), (.putfield 234, (12, 5, 0, 0, 0)), (.aload_n 0, (0, 0, 0, 0, 0)), (.iconst (-1), (0, 0, 0, (-1), 0)), (.putfield 237, (12, 6, 0, 0, 0)), (.aload_n 0, (0, 0, 0, 0, 0)), (.iconst 2, (0, 0, 0, 2, 0)), (.putfield 292, (12, 50, 0, 0, 0)), (.aload_n 0, (0, 0, 0, 0, 0)), (.iconst 0, (0, 0, 0, 0, 0))] [] (by decide +kernel) rfl trivial ?_
    obtain ⟨x2, ex2, hf⟩ := bnd_s hf
    refine m_B_cg (ls' := [some (mR (12, 0, 177)), none, none]) (st' := [mI 0, mR (12, 0, 177)]) (S' := (L, x2, J, R)) (by first | with_reducible rfl | rw [ex2]) (by first | with_reducible rfl | rw [ex2]) (by first | with_reducible rfl | rw [ex2]) ?_
    refine b_blk (pc' := 75) (ls' := [some (mR (12, 0, 177)), none, none]) (st' := [mR (12, 0, 177)]) (S' := (L, m_up (m_up (m_up (m_up x2 177 92 (0 : Int32)) 177 94 (0 : Int32)) 177 95 (0 : Int32)) 177 96 (0 : Int32), J, R)) (P := True) [(.putfield 315, (12, 92, 0, 0, 0)), (.aload_n 0, (0, 0, 0, 0, 0)), (.iconst 0, (0, 0, 0, 0, 0)), (.putfield 318, (12, 94, 0, 0, 0)), (.aload_n 0, (0, 0, 0, 0, 0)), (.iconst 0, (0, 0, 0, 0, 0)), (.putfield 321, (12, 95, 0, 0, 0)), (.aload_n 0, (0, 0, 0, 0, 0)), (.iconst 0, (0, 0, 0, 0, 0)), (.putfield 324, (12, 96, 0, 0, 0)), (.aload_n 0, (0, 0, 0, 0, 0))] [] (by decide +kernel) rfl trivial ?_
    obtain ⟨r3, hc3, hf⟩ := bnd_o hf
    refine b_cV (as := []) (st := []) (by decide +kernel) k_12_642 n_MD_qKind rfl (by decide) v_MD_qKind (C_MD_qKind (m_up (m_up (m_up (m_up x2 177 92 (0 : Int32)) 177 94 (0 : Int32)) 177 95 (0 : Int32)) 177 96 (0 : Int32)) J hR hc3) (Nat.le_of_ble_eq_true rfl) (by decide) rfl rfl (fun _ h => h) ?_
    show m_B G (m_rm 10 0 0) M_MD_ask Q 0 0 78 [some (mR (12, 0, 177)), none, none] [mI r3.1] (L, r3.2, J, R)
    refine b_blk (pc' := 83) (ls' := [some (mR (12, 0, 177)), some (mI r3.1), none]) (st' := [mI (r3.2 177 5)]) (S' := (L, r3.2, J, R)) (P := True) [(.istore_n 1, (0, 0, 0, 0, 0)), (.aload_n 0, (0, 0, 0, 0, 0)), (.getfield 234, (12, 5, 0, 0, 0))] [] (by decide +kernel) rfl trivial ?_
    refine b_if_ne (off := 15) (tgt := 98) (by decide +kernel) (by decide) (fun h4 => ?_) (fun h4 => ?_)
    · have hf := if_f h4 hf
      exact m_B_cg rfl rfl rfl (W_MD_ask_98 r3.2 J r3.1 hR hf hk)
    · have hf := if_t h4 hf
      refine b_blk (pc' := 88) (ls' := [some (mR (12, 0, 177)), some (mI r3.1), none]) (st' := [mI 3, mI r3.1]) (S' := (L, r3.2, J, R)) (P := True) [(.iload_n 1, (0, 0, 0, 0, 0)), (.iconst 3, (0, 0, 0, 3, 0))] [] (by decide +kernel) rfl trivial ?_
      refine b_icmp_ge (off := 10) (tgt := 98) (by decide +kernel) (by decide) (fun h5 => ?_) (fun h5 => ?_)
      · have hf := if_t h5 hf
        exact m_B_cg rfl rfl rfl (W_MD_ask_98 r3.2 J r3.1 hR hf hk)
      · have hf := if_f h5 hf
        refine b_blk (pc' := 92) (ls' := [some (mR (12, 0, 177)), some (mI r3.1), none]) (st' := [mR (12, 0, 177)]) (S' := (L, r3.2, J, R)) (P := True) [(.aload_n 0, (0, 0, 0, 0, 0))] [] (by decide +kernel) rfl trivial ?_
        obtain ⟨r6, hc6, hf⟩ := bnd_o hf
        refine b_cV (as := []) (st := []) (by decide +kernel) k_12_327 n_MD_qTest rfl (by decide) v_MD_qTest (C_MD_qTest r3.2 J hR hc6) (Nat.le_of_ble_eq_true rfl) (by decide) rfl rfl (fun _ h => h) ?_
        show m_B G (m_rm 10 0 0) M_MD_ask Q 0 0 95 [some (mR (12, 0, 177)), some (mI r3.1), none] [] (L, r6, J, R)
        refine b_blk (pc' := 109) (ls' := [some (mR (12, 0, 177)), some (mI r3.1), none]) (st' := []) (S' := (L, r6, J, R)) (P := True) [(.goto 14, (0, 109, 0, 0, 0))] [] (by decide +kernel) rfl trivial ?_
        exact m_B_cg rfl rfl rfl (W_MD_ask_109 r6 J r3.1 hR hf hk)
  · have hf := if_t h1 hf
    refine b_blk (pc' := 15) (ls' := [some (mR (12, 0, 177)), none, none]) (st' := [mJ (-1000000000000000)]) (S' := (L, m_up I 177 1 (0 : Int32), J, R)) (P := True) [(.aload_n 0, (0, 0, 0, 0, 0)), (.iconst 0, (0, 0, 0, 0, 0)), (.putfield 231, (12, 1, 0, 0, 0)), (.ldc2_w 640, (0, 0, 0, 0, (-1000000000000000)))] [] (by decide +kernel) rfl trivial ?_
    cases hf
    exact b_lret (by decide +kernel) rfl hk
theorem C_MD_ask {G : MG} {L : List (Nat × Nat)} {R : Nat → Nat → Option MRef} (I : MI) (J : MJ) (hR : RF R) {r : Int64 × MI × MJ} (hf : F_MD_ask I J = some r) : m_met G 10 0 0 y_MD_ask M_MD_ask [mR (12, 0, 177)] (L, I, J, R) (m_is (some (mJ r.1)) (L, r.2.1, r.2.2, R)) :=
  m_met_in n_MD_ask (plainFor_of_name (by decide)) (by decide) (Nat.le_of_ble_eq_true rfl) (ls := [some (mR (12, 0, 177)), none, none]) rfl (W_MD_ask I J hR hf ⟨rfl, rfl⟩)
noncomputable def F_MD_checked_6 (w : Nat) (lw : Nat) (I : MI) (v1 : Int32) (v2 : Int32) (v3 : Int32) : Option ((Int32 × Int32) ⊕ (Int32)) :=
  if v1 ≤ v3 then (some (.inr (v2 : Int32))) else (gd v3 lw <| some (.inl ((m_rem (((3 : Int32) * v2) + (I w v3.toNatClampNeg)) (251 : Int32) : Int32), (v3 + 1 : Int32))))
set_option maxRecDepth 100000 in
set_option maxHeartbeats 400000 in
theorem W_MD_checked_6 {G : MG} {Q : Option MV → MS → Prop} {L : List (Nat × Nat)} {R : Nat → Nat → Option MRef} (w : Nat) (lw : Nat) (I : MI) (J : MJ) (v1 : Int32) (v2 : Int32) (v3 : Int32) (hR : RF R) (hlw : lw < 2 ^ 31) {r : (Int32 × Int32) ⊕ (Int32)} (hf : F_MD_checked_6 w lw I v1 v2 v3 = some r) (hk : (Sum.elim (fun s : Int32 × Int32 => m_B G (m_rm 1 0 0) M_MD_checked Q 0 0 6 [some (mR (20, lw, w)), some (mI v1), some (mI s.1), some (mI s.2)] [] (L, I, J, R)) (fun s : Int32 => m_B G (m_rm 1 0 0) M_MD_checked Q 0 0 29 [none, none, some (mI s), none] [] (L, I, J, R))) r) : m_B G (m_rm 1 0 0) M_MD_checked Q 0 0 6 [some (mR (20, lw, w)), some (mI v1), some (mI v2), some (mI v3)] [] (L, I, J, R) := by
  unfold F_MD_checked_6 at hf
  refine b_blk (pc' := 8) (ls' := [some (mR (20, lw, w)), some (mI v1), some (mI v2), some (mI v3)]) (st' := [mI v1, mI v3]) (S' := (L, I, J, R)) (P := True) [(.iload_n 3, (0, 0, 0, 0, 0)), (.iload_n 1, (0, 0, 0, 0, 0))] [] (by decide +kernel) rfl trivial ?_
  refine b_icmp_ge (off := 21) (tgt := 29) (by decide +kernel) (by decide) (fun h1 => ?_) (fun h1 => ?_)
  · have hf := if_t h1 hf
    refine b_frg 0 ?_
    refine b_frg 1 ?_
    refine b_frg 3 ?_
    cases hf
    exact hk
  · have hf := if_f h1 hf
    obtain ⟨g2, hf⟩ := gd_s hf
    refine b_blk (pc' := 6) (ls' := [some (mR (20, lw, w)), some (mI v1), some (mI (m_rem (((3 : Int32) * v2) + (I w v3.toNatClampNeg)) (251 : Int32))), some (mI (v3 + 1))]) (st' := []) (S' := (L, I, J, R)) (P := ((True ∧ vp_in v3 lw) ∧ ¬ (251 : Int32) = 0)) [(.iconst 3, (0, 0, 0, 3, 0)), (.iload_n 2, (0, 0, 0, 0, 0)), (.imul, (0, 0, 0, 0, 0)), (.aload_n 0, (0, 0, 0, 0, 0)), (.iload_n 3, (0, 0, 0, 0, 0)), (.iaload, (0, 0, 0, 0, 0)), (.iadd, (0, 0, 0, 0, 0)), (.sipush 251, (0, 0, 0, 251, 0)), (.irem, (0, 0, 0, 0, 0)), (.istore_n 2, (0, 0, 0, 0, 0)), (.iinc 3 1, (0, 0, 0, 1, 0)), (.goto (-20), (0, 6, 0, 0, 0))] [] (by decide +kernel) rfl ⟨⟨trivial, (in_n (n := lw) hlw g2.1 g2.2)⟩, (by decide)⟩ ?_
    cases hf
    exact hk
noncomputable def F_MD_checked (w : Nat) (lw : Nat) (I : MI) (v1 : Int32) : Option (Int32) :=
  (wl (fun s : Int32 × Int32 => F_MD_checked_6 w lw I v1 s.1 s.2) ((131 : Int32), (0 : Int32))).bind fun t1 => some (t1 : Int32)
set_option maxRecDepth 100000 in
set_option maxHeartbeats 400000 in
theorem W_MD_checked {G : MG} {Q : Option MV → MS → Prop} {L : List (Nat × Nat)} {R : Nat → Nat → Option MRef} (w : Nat) (lw : Nat) (I : MI) (J : MJ) (v1 : Int32) (hR : RF R) (hlw : lw < 2 ^ 31) {r : Int32} (hf : F_MD_checked w lw I v1 = some r) (hk : (fun r : Int32 => Q (some (mI r)) (L, I, J, R)) r) : m_B G (m_rm 1 0 0) M_MD_checked Q 0 0 0 [some (mR (20, lw, w)), some (mI v1), none, none] [] (L, I, J, R) := by
  unfold F_MD_checked at hf
  refine b_blk (pc' := 6) (ls' := [some (mR (20, lw, w)), some (mI v1), some (mI 131), some (mI 0)]) (st' := []) (S' := (L, I, J, R)) (P := True) [(.sipush 131, (0, 0, 0, 131, 0)), (.istore_n 2, (0, 0, 0, 0, 0)), (.iconst 0, (0, 0, 0, 0, 0)), (.istore_n 3, (0, 0, 0, 0, 0))] [] (by decide +kernel) rfl trivial ?_
  obtain ⟨t1, hw, hf⟩ := bnd_o hf
  refine wl_B (A := fun s : Int32 × Int32 => m_B G (m_rm 1 0 0) M_MD_checked Q 0 0 6 [some (mR (20, lw, w)), some (mI v1), some (mI s.1), some (mI s.2)] [] (L, I, J, R)) (B := (fun s : Int32 => m_B G (m_rm 1 0 0) M_MD_checked Q 0 0 29 [none, none, some (mI s), none] [] (L, I, J, R))) (fun s r hs hr => W_MD_checked_6 w lw I J v1 s.1 s.2 hR hlw hs hr) hw ?_
  show m_B G (m_rm 1 0 0) M_MD_checked Q 0 0 29 [none, none, some (mI t1), none] [] (L, I, J, R)
  refine b_blk (pc' := 30) (ls' := [none, none, some (mI t1), none]) (st' := [mI t1]) (S' := (L, I, J, R)) (P := True) [(.iload_n 2, (0, 0, 0, 0, 0))] [] (by decide +kernel) rfl trivial ?_
  cases hf
  exact b_iret (by decide +kernel) rfl hk
theorem C_MD_checked {G : MG} {L : List (Nat × Nat)} {R : Nat → Nat → Option MRef} (w : Nat) (lw : Nat) (I : MI) (J : MJ) (v1 : Int32) (hR : RF R) (hlw : lw < 2 ^ 31) {r : Int32} (hf : F_MD_checked w lw I v1 = some r) : m_met G 1 0 0 y_MD_checked M_MD_checked [mR (20, lw, w), mI v1] (L, I, J, R) (m_is (some (mI r)) (L, I, J, R)) :=
  m_met_in n_MD_checked (plainFor_of_name (by decide)) (by decide) (Nat.le_of_ble_eq_true rfl) (ls := [some (mR (20, lw, w)), some (mI v1), none, none]) rfl (W_MD_checked w lw I J v1 hR hlw hf ⟨rfl, rfl⟩)
noncomputable def F_MD_writes (I : MI) (v1 : Int32) : Option (MI) :=
  gd (I 177 102) 100 <| some (m_up (m_up I 247 ((I 177 102).toNatClampNeg) v1) 177 102 ((I 177 102) + (1 : Int32)))
set_option maxRecDepth 100000 in
set_option maxHeartbeats 400000 in
theorem W_MD_writes {G : MG} {Q : Option MV → MS → Prop} {L : List (Nat × Nat)} {R : Nat → Nat → Option MRef} (I : MI) (J : MJ) (v1 : Int32) (hR : RF R) {r : MI} (hf : F_MD_writes I v1 = some r) (hk : (fun r : MI => Q (none) (L, r, J, R)) r) : m_B G (m_rm 1 0 0) M_MD_writes Q 0 0 0 [some (mR (12, 0, 177)), some (mI v1)] [] (L, I, J, R) := by
  unfold F_MD_writes at hf
  obtain ⟨g1, hf⟩ := gd_s hf
  refine b_blk (pc' := 20) (ls' := [some (mR (12, 0, 177)), some (mI v1)]) (st' := []) (S' := (L, m_up (m_up I 247 ((I 177 102).toNatClampNeg) v1) 177 102 ((I 177 102) + (1 : Int32)), J, R)) (P := ((True ∧ R 177 101 = some (20, 100, 247)) ∧ vp_in (I 177 102) 100)) [(.aload_n 0, (0, 0, 0, 0, 0)), (.getfield 228, (12, 101, 3, 0, 0)), (.aload_n 0, (0, 0, 0, 0, 0)), (.getfield 653, (12, 102, 0, 0, 0)), (.iload_n 1, (0, 0, 0, 0, 0)), (.iastore, (0, 0, 0, 0, 0)), (.aload_n 0, (0, 0, 0, 0, 0)), (.dup, (0, 0, 0, 0, 0)), (.getfield 653, (12, 102, 0, 0, 0)), (.iconst 1, (0, 0, 0, 1, 0)), (.iadd, (0, 0, 0, 0, 0)), (.putfield 653, (12, 102, 0, 0, 0))] [some (20, 100, 247)] (by decide +kernel) rfl ⟨⟨trivial, (r_177_101 hR)⟩, (in_n (n := 100) (by decide) g1.1 g1.2)⟩ ?_
  cases hf
  exact b_vret (by decide +kernel) rfl hk
theorem C_MD_writes {G : MG} {L : List (Nat × Nat)} {R : Nat → Nat → Option MRef} (I : MI) (J : MJ) (v1 : Int32) (hR : RF R) {r : MI} (hf : F_MD_writes I v1 = some r) : m_met G 1 0 0 y_MD_writes M_MD_writes [mR (12, 0, 177), mI v1] (L, I, J, R) (m_is (none) (L, r, J, R)) :=
  m_met_in n_MD_writes (plainFor_of_name (by decide)) (by decide) (Nat.le_of_ble_eq_true rfl) (ls := [some (mR (12, 0, 177)), some (mI v1)]) rfl (W_MD_writes I J v1 hR hf ⟨rfl, rfl⟩)
noncomputable def F_MD_image_55 (I : MI) (v1 : Int32) (v2 : Int32) : Option ((Int32 × MI) ⊕ (MI)) :=
  if (I 204 3) ≤ v2 then (some (.inr I)) else ((F_MD_isPost I v1 v2).bind fun r2 => if r2 = (0 : Int32) then (some (.inl ((v2 + 1 : Int32), I))) else ((F_MD_writes I v1).bind fun r4 => (F_MD_writes r4 v2).bind fun r5 => some (.inl ((v2 + 1 : Int32), r5))))
set_option maxRecDepth 100000 in
set_option maxHeartbeats 400000 in
theorem W_MD_image_55 {G : MG} {Q : Option MV → MS → Prop} {L : List (Nat × Nat)} {R : Nat → Nat → Option MRef} (I : MI) (J : MJ) (v1 : Int32) (v2 : Int32) (hR : RF R) {r : (Int32 × MI) ⊕ (MI)} (hf : F_MD_image_55 I v1 v2 = some r) (hk : (Sum.elim (fun s : Int32 × MI => m_B G (m_rm 3 0 0) M_MD_image Q 0 0 55 [some (mR (12, 0, 177)), some (mI v1), some (mI s.1)] [] (L, s.2, J, R)) (fun s : MI => m_B G (m_rm 3 0 0) M_MD_image Q 0 0 90 [some (mR (12, 0, 177)), some (mI v1), none] [] (L, s, J, R))) r) : m_B G (m_rm 3 0 0) M_MD_image Q 0 0 55 [some (mR (12, 0, 177)), some (mI v1), some (mI v2)] [] (L, I, J, R) := by
  unfold F_MD_image_55 at hf
  refine b_blk (pc' := 62) (ls' := [some (mR (12, 0, 177)), some (mI v1), some (mI v2)]) (st' := [mI (I 204 3), mI v2]) (S' := (L, I, J, R)) (P := ((True ∧ R 177 36 = some (20, 4, 204)) ∧ vp_in (3 : Int32) 4)) [(.iload_n 2, (0, 0, 0, 0, 0)), (.aload_n 0, (0, 0, 0, 0, 0)), (.getfield 93, (12, 36, 3, 0, 0)), (.iconst 3, (0, 0, 0, 3, 0)), (.iaload, (0, 0, 0, 0, 0))] [some (20, 4, 204)] (by decide +kernel) rfl ⟨⟨trivial, (r_177_36 hR)⟩, (vp_in_nI (n := 3) (N := 4) (by decide) (by decide))⟩ ?_
  refine b_icmp_ge (off := 28) (tgt := 90) (by decide +kernel) (by decide) (fun h1 => ?_) (fun h1 => ?_)
  · have hf := if_t h1 hf
    refine b_frg 2 ?_
    cases hf
    exact hk
  · have hf := if_f h1 hf
    refine b_blk (pc' := 68) (ls' := [some (mR (12, 0, 177)), some (mI v1), some (mI v2)]) (st' := [mI v2, mI v1, mR (12, 0, 177)]) (S' := (L, I, J, R)) (P := True) [(.aload_n 0, (0, 0, 0, 0, 0)), (.iload_n 1, (0, 0, 0, 0, 0)), (.iload_n 2, (0, 0, 0, 0, 0))] [] (by decide +kernel) rfl trivial ?_
    obtain ⟨r2, hc2, hf⟩ := bnd_o hf
    refine b_cV (as := [mI v1, mI v2]) (st := []) (by decide +kernel) k_12_436 n_MD_isPost rfl (by decide) v_MD_isPost (C_MD_isPost I J v1 v2 hR hc2) (Nat.le_of_ble_eq_true rfl) (by decide) rfl rfl (fun _ h => h) ?_
    show m_B G (m_rm 3 0 0) M_MD_image Q 0 0 71 [some (mR (12, 0, 177)), some (mI v1), some (mI v2)] [mI r2] (L, I, J, R)
    refine b_if_eq (off := 13) (tgt := 84) (by decide +kernel) (by decide) (fun h3 => ?_) (fun h3 => ?_)
    · have hf := if_t h3 hf
      refine b_blk (pc' := 55) (ls' := [some (mR (12, 0, 177)), some (mI v1), some (mI (v2 + 1))]) (st' := []) (S' := (L, I, J, R)) (P := True) [(.iinc 2 1, (0, 0, 0, 1, 0)), (.goto (-32), (0, 55, 0, 0, 0))] [] (by decide +kernel) rfl trivial ?_
      cases hf
      exact hk
    · have hf := if_f h3 hf
      refine b_blk (pc' := 76) (ls' := [some (mR (12, 0, 177)), some (mI v1), some (mI v2)]) (st' := [mI v1, mR (12, 0, 177)]) (S' := (L, I, J, R)) (P := True) [(.aload_n 0, (0, 0, 0, 0, 0)), (.iload_n 1, (0, 0, 0, 0, 0))] [] (by decide +kernel) rfl trivial ?_
      obtain ⟨r4, hc4, hf⟩ := bnd_o hf
      refine b_cV (as := [mI v1]) (st := []) (by decide +kernel) k_12_656 n_MD_writes rfl (by decide) v_MD_writes (C_MD_writes I J v1 hR hc4) (Nat.le_of_ble_eq_true rfl) (by decide) rfl rfl (fun _ h => h) ?_
      show m_B G (m_rm 3 0 0) M_MD_image Q 0 0 79 [some (mR (12, 0, 177)), some (mI v1), some (mI v2)] [] (L, r4, J, R)
      refine b_blk (pc' := 81) (ls' := [some (mR (12, 0, 177)), some (mI v1), some (mI v2)]) (st' := [mI v2, mR (12, 0, 177)]) (S' := (L, r4, J, R)) (P := True) [(.aload_n 0, (0, 0, 0, 0, 0)), (.iload_n 2, (0, 0, 0, 0, 0))] [] (by decide +kernel) rfl trivial ?_
      obtain ⟨r5, hc5, hf⟩ := bnd_o hf
      refine b_cV (as := [mI v2]) (st := []) (by decide +kernel) k_12_656 n_MD_writes rfl (by decide) v_MD_writes (C_MD_writes r4 J v2 hR hc5) (Nat.le_of_ble_eq_true rfl) (by decide) rfl rfl (fun _ h => h) ?_
      show m_B G (m_rm 3 0 0) M_MD_image Q 0 0 84 [some (mR (12, 0, 177)), some (mI v1), some (mI v2)] [] (L, r5, J, R)
      refine b_blk (pc' := 55) (ls' := [some (mR (12, 0, 177)), some (mI v1), some (mI (v2 + 1))]) (st' := []) (S' := (L, r5, J, R)) (P := True) [(.iinc 2 1, (0, 0, 0, 1, 0)), (.goto (-32), (0, 55, 0, 0, 0))] [] (by decide +kernel) rfl trivial ?_
      cases hf
      exact hk
noncomputable def F_MD_image_43 (I : MI) (v1 : Int32) : Option ((Int32 × MI) ⊕ (MI)) :=
  if (I 204 2) ≤ v1 then (some (.inr I)) else ((wl (fun s : Int32 × MI => F_MD_image_55 s.2 v1 s.1) ((0 : Int32), I)).bind fun t2 => some (.inl ((v1 + 1 : Int32), t2)))
set_option maxRecDepth 100000 in
set_option maxHeartbeats 400000 in
theorem W_MD_image_43 {G : MG} {Q : Option MV → MS → Prop} {L : List (Nat × Nat)} {R : Nat → Nat → Option MRef} (I : MI) (J : MJ) (v1 : Int32) (hR : RF R) {r : (Int32 × MI) ⊕ (MI)} (hf : F_MD_image_43 I v1 = some r) (hk : (Sum.elim (fun s : Int32 × MI => m_B G (m_rm 3 0 0) M_MD_image Q 0 0 43 [some (mR (12, 0, 177)), some (mI s.1), none] [] (L, s.2, J, R)) (fun s : MI => m_B G (m_rm 3 0 0) M_MD_image Q 0 0 96 [some (mR (12, 0, 177)), none, none] [] (L, s, J, R))) r) : m_B G (m_rm 3 0 0) M_MD_image Q 0 0 43 [some (mR (12, 0, 177)), some (mI v1), none] [] (L, I, J, R) := by
  unfold F_MD_image_43 at hf
  refine b_blk (pc' := 50) (ls' := [some (mR (12, 0, 177)), some (mI v1), none]) (st' := [mI (I 204 2), mI v1]) (S' := (L, I, J, R)) (P := ((True ∧ R 177 36 = some (20, 4, 204)) ∧ vp_in (2 : Int32) 4)) [(.iload_n 1, (0, 0, 0, 0, 0)), (.aload_n 0, (0, 0, 0, 0, 0)), (.getfield 93, (12, 36, 3, 0, 0)), (.iconst 2, (0, 0, 0, 2, 0)), (.iaload, (0, 0, 0, 0, 0))] [some (20, 4, 204)] (by decide +kernel) rfl ⟨⟨trivial, (r_177_36 hR)⟩, (vp_in_nI (n := 2) (N := 4) (by decide) (by decide))⟩ ?_
  refine b_icmp_ge (off := 46) (tgt := 96) (by decide +kernel) (by decide) (fun h1 => ?_) (fun h1 => ?_)
  · have hf := if_t h1 hf
    refine b_frg 1 ?_
    cases hf
    exact hk
  · have hf := if_f h1 hf
    refine b_blk (pc' := 55) (ls' := [some (mR (12, 0, 177)), some (mI v1), some (mI 0)]) (st' := []) (S' := (L, I, J, R)) (P := True) [(.iconst 0, (0, 0, 0, 0, 0)), (.istore_n 2, (0, 0, 0, 0, 0))] [] (by decide +kernel) rfl trivial ?_
    obtain ⟨t2, hw, hf⟩ := bnd_o hf
    refine wl_B (A := fun s : Int32 × MI => m_B G (m_rm 3 0 0) M_MD_image Q 0 0 55 [some (mR (12, 0, 177)), some (mI v1), some (mI s.1)] [] (L, s.2, J, R)) (B := (fun s : MI => m_B G (m_rm 3 0 0) M_MD_image Q 0 0 90 [some (mR (12, 0, 177)), some (mI v1), none] [] (L, s, J, R))) (fun s r hs hr => W_MD_image_55 s.2 J v1 s.1 hR hs hr) hw ?_
    show m_B G (m_rm 3 0 0) M_MD_image Q 0 0 90 [some (mR (12, 0, 177)), some (mI v1), none] [] (L, t2, J, R)
    refine b_blk (pc' := 43) (ls' := [some (mR (12, 0, 177)), some (mI (v1 + 1)), none]) (st' := []) (S' := (L, t2, J, R)) (P := True) [(.iinc 1 1, (0, 0, 0, 1, 0)), (.goto (-50), (0, 43, 0, 0, 0))] [] (by decide +kernel) rfl trivial ?_
    cases hf
    exact hk
noncomputable def F_MD_image_134 (I : MI) (v1 : Int32) (v2 : Int32) : Option ((Int32 × MI) ⊕ (MI)) :=
  if (I 204 2) ≤ v2 then (some (.inr I)) else ((F_MD_rowOf I v1 v2).bind fun r2 => if r2 = (-1 : Int32) then ((F_MD_writes I (255 : Int32)).bind fun r6 => some (.inl ((v2 + 1 : Int32), r6))) else ((F_MD_rowOf I v1 v2).bind fun r4 => (F_MD_writes I r4).bind fun r5 => some (.inl ((v2 + 1 : Int32), r5))))
set_option maxRecDepth 100000 in
set_option maxHeartbeats 400000 in
theorem W_MD_image_134 {G : MG} {Q : Option MV → MS → Prop} {L : List (Nat × Nat)} {R : Nat → Nat → Option MRef} (I : MI) (J : MJ) (v1 : Int32) (v2 : Int32) (hR : RF R) {r : (Int32 × MI) ⊕ (MI)} (hf : F_MD_image_134 I v1 v2 = some r) (hk : (Sum.elim (fun s : Int32 × MI => m_B G (m_rm 3 0 0) M_MD_image Q 0 0 134 [some (mR (12, 0, 177)), some (mI v1), some (mI s.1)] [] (L, s.2, J, R)) (fun s : MI => m_B G (m_rm 3 0 0) M_MD_image Q 0 0 176 [some (mR (12, 0, 177)), some (mI v1), none] [] (L, s, J, R))) r) : m_B G (m_rm 3 0 0) M_MD_image Q 0 0 134 [some (mR (12, 0, 177)), some (mI v1), some (mI v2)] [] (L, I, J, R) := by
  unfold F_MD_image_134 at hf
  refine b_blk (pc' := 141) (ls' := [some (mR (12, 0, 177)), some (mI v1), some (mI v2)]) (st' := [mI (I 204 2), mI v2]) (S' := (L, I, J, R)) (P := ((True ∧ R 177 36 = some (20, 4, 204)) ∧ vp_in (2 : Int32) 4)) [(.iload_n 2, (0, 0, 0, 0, 0)), (.aload_n 0, (0, 0, 0, 0, 0)), (.getfield 93, (12, 36, 3, 0, 0)), (.iconst 2, (0, 0, 0, 2, 0)), (.iaload, (0, 0, 0, 0, 0))] [some (20, 4, 204)] (by decide +kernel) rfl ⟨⟨trivial, (r_177_36 hR)⟩, (vp_in_nI (n := 2) (N := 4) (by decide) (by decide))⟩ ?_
  refine b_icmp_ge (off := 35) (tgt := 176) (by decide +kernel) (by decide) (fun h1 => ?_) (fun h1 => ?_)
  · have hf := if_t h1 hf
    refine b_frg 2 ?_
    cases hf
    exact hk
  · have hf := if_f h1 hf
    refine b_blk (pc' := 148) (ls' := [some (mR (12, 0, 177)), some (mI v1), some (mI v2)]) (st' := [mI v2, mI v1, mR (12, 0, 177), mR (12, 0, 177)]) (S' := (L, I, J, R)) (P := True) [(.aload_n 0, (0, 0, 0, 0, 0)), (.aload_n 0, (0, 0, 0, 0, 0)), (.iload_n 1, (0, 0, 0, 0, 0)), (.iload_n 2, (0, 0, 0, 0, 0))] [] (by decide +kernel) rfl trivial ?_
    obtain ⟨r2, hc2, hf⟩ := bnd_o hf
    refine b_cV (as := [mI v1, mI v2]) (st := [mR (12, 0, 177)]) (by decide +kernel) k_12_392 n_MD_rowOf rfl (by decide) v_MD_rowOf (C_MD_rowOf I J v1 v2 hR hc2) (Nat.le_of_ble_eq_true rfl) (by decide) rfl rfl (fun _ h => h) ?_
    show m_B G (m_rm 3 0 0) M_MD_image Q 0 0 151 [some (mR (12, 0, 177)), some (mI v1), some (mI v2)] [mI r2, mR (12, 0, 177)] (L, I, J, R)
    refine b_blk (pc' := 152) (ls' := [some (mR (12, 0, 177)), some (mI v1), some (mI v2)]) (st' := [mI (-1), mI r2, mR (12, 0, 177)]) (S' := (L, I, J, R)) (P := True) [(.iconst (-1), (0, 0, 0, (-1), 0))] [] (by decide +kernel) rfl trivial ?_
    refine b_icmp_ne (off := 9) (tgt := 161) (by decide +kernel) (by decide) (fun h3 => ?_) (fun h3 => ?_)
    · have hf := if_f h3 hf
      refine b_blk (pc' := 164) (ls' := [some (mR (12, 0, 177)), some (mI v1), some (mI v2)]) (st' := [mI v2, mI v1, mR (12, 0, 177), mR (12, 0, 177)]) (S' := (L, I, J, R)) (P := True) [(.aload_n 0, (0, 0, 0, 0, 0)), (.iload_n 1, (0, 0, 0, 0, 0)), (.iload_n 2, (0, 0, 0, 0, 0))] [] (by decide +kernel) rfl trivial ?_
      obtain ⟨r4, hc4, hf⟩ := bnd_o hf
      refine b_cV (as := [mI v1, mI v2]) (st := [mR (12, 0, 177)]) (by decide +kernel) k_12_392 n_MD_rowOf rfl (by decide) v_MD_rowOf (C_MD_rowOf I J v1 v2 hR hc4) (Nat.le_of_ble_eq_true rfl) (by decide) rfl rfl (fun _ h => h) ?_
      show m_B G (m_rm 3 0 0) M_MD_image Q 0 0 167 [some (mR (12, 0, 177)), some (mI v1), some (mI v2)] [mI r4, mR (12, 0, 177)] (L, I, J, R)
      obtain ⟨r5, hc5, hf⟩ := bnd_o hf
      refine b_cV (as := [mI r4]) (st := []) (by decide +kernel) k_12_656 n_MD_writes rfl (by decide) v_MD_writes (C_MD_writes I J r4 hR hc5) (Nat.le_of_ble_eq_true rfl) (by decide) rfl rfl (fun _ h => h) ?_
      show m_B G (m_rm 3 0 0) M_MD_image Q 0 0 170 [some (mR (12, 0, 177)), some (mI v1), some (mI v2)] [] (L, r5, J, R)
      refine b_blk (pc' := 134) (ls' := [some (mR (12, 0, 177)), some (mI v1), some (mI (v2 + 1))]) (st' := []) (S' := (L, r5, J, R)) (P := True) [(.iinc 2 1, (0, 0, 0, 1, 0)), (.goto (-39), (0, 134, 0, 0, 0))] [] (by decide +kernel) rfl trivial ?_
      cases hf
      exact hk
    · have hf := if_t h3 hf
      refine b_blk (pc' := 167) (ls' := [some (mR (12, 0, 177)), some (mI v1), some (mI v2)]) (st' := [mI 255, mR (12, 0, 177)]) (S' := (L, I, J, R)) (P := True) [(.sipush 255, (0, 0, 0, 255, 0)), (.goto 9, (0, 167, 0, 0, 0))] [] (by decide +kernel) rfl trivial ?_
      obtain ⟨r6, hc6, hf⟩ := bnd_o hf
      refine b_cV (as := [mI 255]) (st := []) (by decide +kernel) k_12_656 n_MD_writes rfl (by decide) v_MD_writes (C_MD_writes I J (255 : Int32) hR hc6) (Nat.le_of_ble_eq_true rfl) (by decide) rfl rfl (fun _ h => h) ?_
      show m_B G (m_rm 3 0 0) M_MD_image Q 0 0 170 [some (mR (12, 0, 177)), some (mI v1), some (mI v2)] [] (L, r6, J, R)
      refine b_blk (pc' := 134) (ls' := [some (mR (12, 0, 177)), some (mI v1), some (mI (v2 + 1))]) (st' := []) (S' := (L, r6, J, R)) (P := True) [(.iinc 2 1, (0, 0, 0, 1, 0)), (.goto (-39), (0, 134, 0, 0, 0))] [] (by decide +kernel) rfl trivial ?_
      cases hf
      exact hk
noncomputable def F_MD_image_129 (I : MI) (v1 : Int32) (y0 : Int32) : Option ((Int32 × MI) ⊕ (MI)) :=
  (F_MD_writes I y0).bind fun r1 => (wl (fun s : Int32 × MI => F_MD_image_134 s.2 v1 s.1) ((0 : Int32), r1)).bind fun t2 => some (.inl ((v1 + 1 : Int32), t2))
set_option maxRecDepth 100000 in
set_option maxHeartbeats 400000 in
theorem W_MD_image_129 {G : MG} {Q : Option MV → MS → Prop} {L : List (Nat × Nat)} {R : Nat → Nat → Option MRef} (I : MI) (J : MJ) (v1 : Int32) (y0 : Int32) (hR : RF R) {r : (Int32 × MI) ⊕ (MI)} (hf : F_MD_image_129 I v1 y0 = some r) (hk : (Sum.elim (fun s : Int32 × MI => m_B G (m_rm 3 0 0) M_MD_image Q 0 0 98 [some (mR (12, 0, 177)), some (mI s.1), none] [] (L, s.2, J, R)) (fun s : MI => m_B G (m_rm 3 0 0) M_MD_image Q 0 0 182 [some (mR (12, 0, 177)), none, none] [] (L, s, J, R))) r) : m_B G (m_rm 3 0 0) M_MD_image Q 0 0 129 [some (mR (12, 0, 177)), some (mI v1), none] [mI y0, mR (12, 0, 177)] (L, I, J, R) := by
  unfold F_MD_image_129 at hf
  obtain ⟨r1, hc1, hf⟩ := bnd_o hf
  refine b_cV (as := [mI y0]) (st := []) (by decide +kernel) k_12_656 n_MD_writes rfl (by decide) v_MD_writes (C_MD_writes I J y0 hR hc1) (Nat.le_of_ble_eq_true rfl) (by decide) rfl rfl (fun _ h => h) ?_
  show m_B G (m_rm 3 0 0) M_MD_image Q 0 0 132 [some (mR (12, 0, 177)), some (mI v1), none] [] (L, r1, J, R)
  refine b_blk (pc' := 134) (ls' := [some (mR (12, 0, 177)), some (mI v1), some (mI 0)]) (st' := []) (S' := (L, r1, J, R)) (P := True) [(.iconst 0, (0, 0, 0, 0, 0)), (.istore_n 2, (0, 0, 0, 0, 0))] [] (by decide +kernel) rfl trivial ?_
  obtain ⟨t2, hw, hf⟩ := bnd_o hf
  refine wl_B (A := fun s : Int32 × MI => m_B G (m_rm 3 0 0) M_MD_image Q 0 0 134 [some (mR (12, 0, 177)), some (mI v1), some (mI s.1)] [] (L, s.2, J, R)) (B := (fun s : MI => m_B G (m_rm 3 0 0) M_MD_image Q 0 0 176 [some (mR (12, 0, 177)), some (mI v1), none] [] (L, s, J, R))) (fun s r hs hr => W_MD_image_134 s.2 J v1 s.1 hR hs hr) hw ?_
  show m_B G (m_rm 3 0 0) M_MD_image Q 0 0 176 [some (mR (12, 0, 177)), some (mI v1), none] [] (L, t2, J, R)
  refine b_blk (pc' := 98) (ls' := [some (mR (12, 0, 177)), some (mI (v1 + 1)), none]) (st' := []) (S' := (L, t2, J, R)) (P := True) [(.iinc 1 1, (0, 0, 0, 1, 0)), (.goto (-81), (0, 98, 0, 0, 0))] [] (by decide +kernel) rfl trivial ?_
  cases hf
  exact hk
noncomputable def F_MD_image_98 (I : MI) (v1 : Int32) : Option ((Int32 × MI) ⊕ (MI)) :=
  (F_MD_fenceMany I).bind fun r1 => if r1 ≤ v1 then (some (.inr I)) else ((F_MD_ageOf I v1).bind fun r3 => (F_MD_writes I r3).bind fun r4 => (F_MD_isCut r4 v1).bind fun r5 => if r5 = (0 : Int32) then (F_MD_image_129 r4 v1 (0 : Int32)) else (F_MD_image_129 r4 v1 (1 : Int32)))
set_option maxRecDepth 100000 in
set_option maxHeartbeats 400000 in
theorem W_MD_image_98 {G : MG} {Q : Option MV → MS → Prop} {L : List (Nat × Nat)} {R : Nat → Nat → Option MRef} (I : MI) (J : MJ) (v1 : Int32) (hR : RF R) {r : (Int32 × MI) ⊕ (MI)} (hf : F_MD_image_98 I v1 = some r) (hk : (Sum.elim (fun s : Int32 × MI => m_B G (m_rm 3 0 0) M_MD_image Q 0 0 98 [some (mR (12, 0, 177)), some (mI s.1), none] [] (L, s.2, J, R)) (fun s : MI => m_B G (m_rm 3 0 0) M_MD_image Q 0 0 182 [some (mR (12, 0, 177)), none, none] [] (L, s, J, R))) r) : m_B G (m_rm 3 0 0) M_MD_image Q 0 0 98 [some (mR (12, 0, 177)), some (mI v1), none] [] (L, I, J, R) := by
  unfold F_MD_image_98 at hf
  refine b_blk (pc' := 100) (ls' := [some (mR (12, 0, 177)), some (mI v1), none]) (st' := [mR (12, 0, 177), mI v1]) (S' := (L, I, J, R)) (P := True) [(.iload_n 1, (0, 0, 0, 0, 0)), (.aload_n 0, (0, 0, 0, 0, 0))] [] (by decide +kernel) rfl trivial ?_
  obtain ⟨r1, hc1, hf⟩ := bnd_o hf
  refine b_cV (as := []) (st := [mI v1]) (by decide +kernel) k_12_382 n_MD_fenceMany rfl (by decide) v_MD_fenceMany (C_MD_fenceMany I J hR hc1) (Nat.le_of_ble_eq_true rfl) (by decide) rfl rfl (fun _ h => h) ?_
  show m_B G (m_rm 3 0 0) M_MD_image Q 0 0 103 [some (mR (12, 0, 177)), some (mI v1), none] [mI r1, mI v1] (L, I, J, R)
  refine b_icmp_ge (off := 79) (tgt := 182) (by decide +kernel) (by decide) (fun h2 => ?_) (fun h2 => ?_)
  · have hf := if_t h2 hf
    refine b_frg 1 ?_
    cases hf
    exact hk
  · have hf := if_f h2 hf
    refine b_blk (pc' := 109) (ls' := [some (mR (12, 0, 177)), some (mI v1), none]) (st' := [mI v1, mR (12, 0, 177), mR (12, 0, 177)]) (S' := (L, I, J, R)) (P := True) [(.aload_n 0, (0, 0, 0, 0, 0)), (.aload_n 0, (0, 0, 0, 0, 0)), (.iload_n 1, (0, 0, 0, 0, 0))] [] (by decide +kernel) rfl trivial ?_
    obtain ⟨r3, hc3, hf⟩ := bnd_o hf
    refine b_cV (as := [mI v1]) (st := [mR (12, 0, 177)]) (by decide +kernel) k_12_452 n_MD_ageOf rfl (by decide) v_MD_ageOf (C_MD_ageOf I J v1 hR hc3) (Nat.le_of_ble_eq_true rfl) (by decide) rfl rfl (fun _ h => h) ?_
    show m_B G (m_rm 3 0 0) M_MD_image Q 0 0 112 [some (mR (12, 0, 177)), some (mI v1), none] [mI r3, mR (12, 0, 177)] (L, I, J, R)
    obtain ⟨r4, hc4, hf⟩ := bnd_o hf
    refine b_cV (as := [mI r3]) (st := []) (by decide +kernel) k_12_656 n_MD_writes rfl (by decide) v_MD_writes (C_MD_writes I J r3 hR hc4) (Nat.le_of_ble_eq_true rfl) (by decide) rfl rfl (fun _ h => h) ?_
    show m_B G (m_rm 3 0 0) M_MD_image Q 0 0 115 [some (mR (12, 0, 177)), some (mI v1), none] [] (L, r4, J, R)
    refine b_blk (pc' := 118) (ls' := [some (mR (12, 0, 177)), some (mI v1), none]) (st' := [mI v1, mR (12, 0, 177), mR (12, 0, 177)]) (S' := (L, r4, J, R)) (P := True) [(.aload_n 0, (0, 0, 0, 0, 0)), (.aload_n 0, (0, 0, 0, 0, 0)), (.iload_n 1, (0, 0, 0, 0, 0))] [] (by decide +kernel) rfl trivial ?_
    obtain ⟨r5, hc5, hf⟩ := bnd_o hf
    refine b_cV (as := [mI v1]) (st := [mR (12, 0, 177)]) (by decide +kernel) k_12_443 n_MD_isCut rfl (by decide) v_MD_isCut (C_MD_isCut r4 J v1 hR hc5) (Nat.le_of_ble_eq_true rfl) (by decide) rfl rfl (fun _ h => h) ?_
    show m_B G (m_rm 3 0 0) M_MD_image Q 0 0 121 [some (mR (12, 0, 177)), some (mI v1), none] [mI r5, mR (12, 0, 177)] (L, r4, J, R)
    refine b_if_eq (off := 7) (tgt := 128) (by decide +kernel) (by decide) (fun h6 => ?_) (fun h6 => ?_)
    · have hf := if_t h6 hf
      refine b_blk (pc' := 129) (ls' := [some (mR (12, 0, 177)), some (mI v1), none]) (st' := [mI 0, mR (12, 0, 177)]) (S' := (L, r4, J, R)) (P := True) [(.iconst 0, (0, 0, 0, 0, 0))] [] (by decide +kernel) rfl trivial ?_
      exact m_B_cg rfl rfl rfl (W_MD_image_129 r4 J v1 (0 : Int32) hR hf hk)
    · have hf := if_f h6 hf
      refine b_blk (pc' := 129) (ls' := [some (mR (12, 0, 177)), some (mI v1), none]) (st' := [mI 1, mR (12, 0, 177)]) (S' := (L, r4, J, R)) (P := True) [(.iconst 1, (0, 0, 0, 1, 0)), (.goto 4, (0, 129, 0, 0, 0))] [] (by decide +kernel) rfl trivial ?_
      exact m_B_cg rfl rfl rfl (W_MD_image_129 r4 J v1 (1 : Int32) hR hf hk)
noncomputable def F_MD_image (I : MI) : Option (Int32 × MI) :=
  (F_MD_writes (m_up I 177 102 (0 : Int32)) ((I 213 0) / (256 : Int32))).bind fun r1 => (F_MD_writes r1 (m_rem (r1 213 0) (256 : Int32))).bind fun r2 => (F_MD_postMany r2).bind fun r3 => (F_MD_writes r2 r3).bind fun r4 => (wl (fun s : Int32 × MI => F_MD_image_43 s.2 s.1) ((0 : Int32), r4)).bind fun t5 => (wl (fun s : Int32 × MI => F_MD_image_98 s.2 s.1) ((0 : Int32), t5)).bind fun t6 => (F_MD_checked 247 100 t6 (t6 177 102)).bind fun r7 => (F_MD_writes t6 r7).bind fun r8 => some ((r8 177 102 : Int32), r8)
set_option maxRecDepth 100000 in
set_option maxHeartbeats 400000 in
theorem W_MD_image {G : MG} {Q : Option MV → MS → Prop} {L : List (Nat × Nat)} {R : Nat → Nat → Option MRef} (I : MI) (J : MJ) (hR : RF R) {r : Int32 × MI} (hf : F_MD_image I = some r) (hk : (fun r : Int32 × MI => Q (some (mI r.1)) (L, r.2, J, R)) r) : m_B G (m_rm 3 0 0) M_MD_image Q 0 0 0 [some (mR (12, 0, 177)), none, none] [] (L, I, J, R) := by
  unfold F_MD_image at hf
  refine b_blk (pc' := 16) (ls' := [some (mR (12, 0, 177)), none, none]) (st' := [mI ((I 213 0) / (256 : Int32)), mR (12, 0, 177)]) (S' := (L, m_up I 177 102 (0 : Int32), J, R)) (P := (((True ∧ R 177 51 = some (20, 176, 213)) ∧ vp_in (0 : Int32) 176) ∧ ¬ (256 : Int32) = 0)) [(.aload_n 0, (0, 0, 0, 0, 0)), (.iconst 0, (0, 0, 0, 0, 0)), (.putfield 653, (12, 102, 0, 0, 0)), (.aload_n 0, (0, 0, 0, 0, 0)), (.aload_n 0, (0, 0, 0, 0, 0)), (.getfield 121, (12, 51, 3, 0, 0)), (.iconst 0, (0, 0, 0, 0, 0)), (.iaload, (0, 0, 0, 0, 0)), (.sipush 256, (0, 0, 0, 256, 0)), (.idiv, (0, 0, 0, 0, 0))] [some (20, 176, 213)] (by decide +kernel) rfl ⟨⟨⟨trivial, (r_177_51 hR)⟩, (vp_in_nI (n := 0) (N := 176) (by decide) (by decide))⟩, (by decide)⟩ ?_
  obtain ⟨r1, hc1, hf⟩ := bnd_o hf
  refine b_cV (as := [mI ((I 213 0) / (256 : Int32))]) (st := []) (by decide +kernel) k_12_656 n_MD_writes rfl (by decide) v_MD_writes (C_MD_writes (m_up I 177 102 (0 : Int32)) J ((I 213 0) / (256 : Int32)) hR hc1) (Nat.le_of_ble_eq_true rfl) (by decide) rfl rfl (fun _ h => h) ?_
  show m_B G (m_rm 3 0 0) M_MD_image Q 0 0 19 [some (mR (12, 0, 177)), none, none] [] (L, r1, J, R)
  refine b_blk (pc' := 30) (ls' := [some (mR (12, 0, 177)), none, none]) (st' := [mI (m_rem (r1 213 0) (256 : Int32)), mR (12, 0, 177)]) (S' := (L, r1, J, R)) (P := (((True ∧ R 177 51 = some (20, 176, 213)) ∧ vp_in (0 : Int32) 176) ∧ ¬ (256 : Int32) = 0)) [(.aload_n 0, (0, 0, 0, 0, 0)), (.aload_n 0, (0, 0, 0, 0, 0)), (.getfield 121, (12, 51, 3, 0, 0)), (.iconst 0, (0, 0, 0, 0, 0)), (.iaload, (0, 0, 0, 0, 0)), (.sipush 256, (0, 0, 0, 256, 0)), (.irem, (0, 0, 0, 0, 0))] [some (20, 176, 213)] (by decide +kernel) rfl ⟨⟨⟨trivial, (r_177_51 hR)⟩, (vp_in_nI (n := 0) (N := 176) (by decide) (by decide))⟩, (by decide)⟩ ?_
  obtain ⟨r2, hc2, hf⟩ := bnd_o hf
  refine b_cV (as := [mI (m_rem (r1 213 0) (256 : Int32))]) (st := []) (by decide +kernel) k_12_656 n_MD_writes rfl (by decide) v_MD_writes (C_MD_writes r1 J (m_rem (r1 213 0) (256 : Int32)) hR hc2) (Nat.le_of_ble_eq_true rfl) (by decide) rfl rfl (fun _ h => h) ?_
  show m_B G (m_rm 3 0 0) M_MD_image Q 0 0 33 [some (mR (12, 0, 177)), none, none] [] (L, r2, J, R)
  refine b_blk (pc' := 35) (ls' := [some (mR (12, 0, 177)), none, none]) (st' := [mR (12, 0, 177), mR (12, 0, 177)]) (S' := (L, r2, J, R)) (P := True) [(.aload_n 0, (0, 0, 0, 0, 0)), (.aload_n 0, (0, 0, 0, 0, 0))] [] (by decide +kernel) rfl trivial ?_
  obtain ⟨r3, hc3, hf⟩ := bnd_o hf
  refine b_cV (as := []) (st := [mR (12, 0, 177)]) (by decide +kernel) k_12_470 n_MD_postMany rfl (by decide) v_MD_postMany (C_MD_postMany r2 J hR hc3) (Nat.le_of_ble_eq_true rfl) (by decide) rfl rfl (fun _ h => h) ?_
  show m_B G (m_rm 3 0 0) M_MD_image Q 0 0 38 [some (mR (12, 0, 177)), none, none] [mI r3, mR (12, 0, 177)] (L, r2, J, R)
  obtain ⟨r4, hc4, hf⟩ := bnd_o hf
  refine b_cV (as := [mI r3]) (st := []) (by decide +kernel) k_12_656 n_MD_writes rfl (by decide) v_MD_writes (C_MD_writes r2 J r3 hR hc4) (Nat.le_of_ble_eq_true rfl) (by decide) rfl rfl (fun _ h => h) ?_
  show m_B G (m_rm 3 0 0) M_MD_image Q 0 0 41 [some (mR (12, 0, 177)), none, none] [] (L, r4, J, R)
  refine b_blk (pc' := 43) (ls' := [some (mR (12, 0, 177)), some (mI 0), none]) (st' := []) (S' := (L, r4, J, R)) (P := True) [(.iconst 0, (0, 0, 0, 0, 0)), (.istore_n 1, (0, 0, 0, 0, 0))] [] (by decide +kernel) rfl trivial ?_
  obtain ⟨t5, hw, hf⟩ := bnd_o hf
  refine wl_B (A := fun s : Int32 × MI => m_B G (m_rm 3 0 0) M_MD_image Q 0 0 43 [some (mR (12, 0, 177)), some (mI s.1), none] [] (L, s.2, J, R)) (B := (fun s : MI => m_B G (m_rm 3 0 0) M_MD_image Q 0 0 96 [some (mR (12, 0, 177)), none, none] [] (L, s, J, R))) (fun s r hs hr => W_MD_image_43 s.2 J s.1 hR hs hr) hw ?_
  show m_B G (m_rm 3 0 0) M_MD_image Q 0 0 96 [some (mR (12, 0, 177)), none, none] [] (L, t5, J, R)
  refine b_blk (pc' := 98) (ls' := [some (mR (12, 0, 177)), some (mI 0), none]) (st' := []) (S' := (L, t5, J, R)) (P := True) [(.iconst 0, (0, 0, 0, 0, 0)), (.istore_n 1, (0, 0, 0, 0, 0))] [] (by decide +kernel) rfl trivial ?_
  obtain ⟨t6, hw, hf⟩ := bnd_o hf
  refine wl_B (A := fun s : Int32 × MI => m_B G (m_rm 3 0 0) M_MD_image Q 0 0 98 [some (mR (12, 0, 177)), some (mI s.1), none] [] (L, s.2, J, R)) (B := (fun s : MI => m_B G (m_rm 3 0 0) M_MD_image Q 0 0 182 [some (mR (12, 0, 177)), none, none] [] (L, s, J, R))) (fun s r hs hr => W_MD_image_98 s.2 J s.1 hR hs hr) hw ?_
  show m_B G (m_rm 3 0 0) M_MD_image Q 0 0 182 [some (mR (12, 0, 177)), none, none] [] (L, t6, J, R)
  refine b_blk (pc' := 191) (ls' := [some (mR (12, 0, 177)), none, none]) (st' := [mI (t6 177 102), mR (20, 100, 247), mR (12, 0, 177)]) (S' := (L, t6, J, R)) (P := (True ∧ R 177 101 = some (20, 100, 247))) [(.aload_n 0, (0, 0, 0, 0, 0)), (.aload_n 0, (0, 0, 0, 0, 0)), (.getfield 228, (12, 101, 3, 0, 0)), (.aload_n 0, (0, 0, 0, 0, 0)), (.getfield 653, (12, 102, 0, 0, 0))] [some (20, 100, 247)] (by decide +kernel) rfl ⟨trivial, (r_177_101 hR)⟩ ?_
  obtain ⟨r7, hc7, hf⟩ := bnd_o hf
  refine b_cS (as := [mR (20, 100, 247), mI (t6 177 102)]) (st := [mR (12, 0, 177)]) (by decide +kernel) k_12_659 n_MD_checked s_MD_checked (C_MD_checked 247 100 t6 J (t6 177 102) hR (by decide) hc7) (Nat.le_of_ble_eq_true rfl) (by decide) rfl rfl (fun _ h => h) ?_
  show m_B G (m_rm 3 0 0) M_MD_image Q 0 0 194 [some (mR (12, 0, 177)), none, none] [mI r7, mR (12, 0, 177)] (L, t6, J, R)
  obtain ⟨r8, hc8, hf⟩ := bnd_o hf
  refine b_cV (as := [mI r7]) (st := []) (by decide +kernel) k_12_656 n_MD_writes rfl (by decide) v_MD_writes (C_MD_writes t6 J r7 hR hc8) (Nat.le_of_ble_eq_true rfl) (by decide) rfl rfl (fun _ h => h) ?_
  show m_B G (m_rm 3 0 0) M_MD_image Q 0 0 197 [some (mR (12, 0, 177)), none, none] [] (L, r8, J, R)
  refine b_blk (pc' := 201) (ls' := [some (mR (12, 0, 177)), none, none]) (st' := [mI (r8 177 102)]) (S' := (L, r8, J, R)) (P := True) [(.aload_n 0, (0, 0, 0, 0, 0)), (.getfield 653, (12, 102, 0, 0, 0))] [] (by decide +kernel) rfl trivial ?_
  cases hf
  exact b_iret (by decide +kernel) rfl hk
theorem C_MD_image {G : MG} {L : List (Nat × Nat)} {R : Nat → Nat → Option MRef} (I : MI) (J : MJ) (hR : RF R) {r : Int32 × MI} (hf : F_MD_image I = some r) : m_met G 3 0 0 y_MD_image M_MD_image [mR (12, 0, 177)] (L, I, J, R) (m_is (some (mI r.1)) (L, r.2, J, R)) :=
  m_met_in n_MD_image (plainFor_of_name (by decide)) (by decide) (Nat.le_of_ble_eq_true rfl) (ls := [some (mR (12, 0, 177)), none, none]) rfl (W_MD_image I J hR hf ⟨rfl, rfl⟩)
noncomputable def F_MD_octet (I : MI) (v1 : Int32) : Option (Int32) :=
  if v1 < (0 : Int32) then (some ((-1) : Int32)) else (if (I 177 102) ≤ v1 then (some ((-1) : Int32)) else (gd v1 100 <| some (I 247 v1.toNatClampNeg : Int32)))
set_option maxRecDepth 100000 in
set_option maxHeartbeats 400000 in
theorem W_MD_octet {G : MG} {Q : Option MV → MS → Prop} {L : List (Nat × Nat)} {R : Nat → Nat → Option MRef} (I : MI) (J : MJ) (v1 : Int32) (hR : RF R) {r : Int32} (hf : F_MD_octet I v1 = some r) (hk : (fun r : Int32 => Q (some (mI r)) (L, I, J, R)) r) : m_B G (m_rm 1 0 0) M_MD_octet Q 0 0 0 [some (mR (12, 0, 177)), some (mI v1)] [] (L, I, J, R) := by
  unfold F_MD_octet at hf
  refine b_blk (pc' := 1) (ls' := [some (mR (12, 0, 177)), some (mI v1)]) (st' := [mI v1]) (S' := (L, I, J, R)) (P := True) [(.iload_n 1, (0, 0, 0, 0, 0))] [] (by decide +kernel) rfl trivial ?_
  refine b_if_lt (off := 20) (tgt := 21) (by decide +kernel) (by decide) (fun h1 => ?_) (fun h1 => ?_)
  · have hf := if_t h1 hf
    refine b_blk (pc' := 22) (ls' := [some (mR (12, 0, 177)), some (mI v1)]) (st' := [mI (-1)]) (S' := (L, I, J, R)) (P := True) [(.iconst (-1), (0, 0, 0, (-1), 0))] [] (by decide +kernel) rfl trivial ?_
    cases hf
    exact b_iret (by decide +kernel) rfl hk
  · have hf := if_f h1 hf
    refine b_blk (pc' := 9) (ls' := [some (mR (12, 0, 177)), some (mI v1)]) (st' := [mI (I 177 102), mI v1]) (S' := (L, I, J, R)) (P := True) [(.iload_n 1, (0, 0, 0, 0, 0)), (.aload_n 0, (0, 0, 0, 0, 0)), (.getfield 653, (12, 102, 0, 0, 0))] [] (by decide +kernel) rfl trivial ?_
    refine b_icmp_ge (off := 12) (tgt := 21) (by decide +kernel) (by decide) (fun h2 => ?_) (fun h2 => ?_)
    · have hf := if_t h2 hf
      refine b_blk (pc' := 22) (ls' := [some (mR (12, 0, 177)), some (mI v1)]) (st' := [mI (-1)]) (S' := (L, I, J, R)) (P := True) [(.iconst (-1), (0, 0, 0, (-1), 0))] [] (by decide +kernel) rfl trivial ?_
      cases hf
      exact b_iret (by decide +kernel) rfl hk
    · have hf := if_f h2 hf
      obtain ⟨g3, hf⟩ := gd_s hf
      refine b_blk (pc' := 22) (ls' := [some (mR (12, 0, 177)), some (mI v1)]) (st' := [mI (I 247 v1.toNatClampNeg)]) (S' := (L, I, J, R)) (P := ((True ∧ R 177 101 = some (20, 100, 247)) ∧ vp_in v1 100)) [(.aload_n 0, (0, 0, 0, 0, 0)), (.getfield 228, (12, 101, 3, 0, 0)), (.iload_n 1, (0, 0, 0, 0, 0)), (.iaload, (0, 0, 0, 0, 0)), (.goto 4, (0, 22, 0, 0, 0))] [some (20, 100, 247)] (by decide +kernel) rfl ⟨⟨trivial, (r_177_101 hR)⟩, (in_n (n := 100) (by decide) g3.1 g3.2)⟩ ?_
      cases hf
      exact b_iret (by decide +kernel) rfl hk
theorem C_MD_octet {G : MG} {L : List (Nat × Nat)} {R : Nat → Nat → Option MRef} (I : MI) (J : MJ) (v1 : Int32) (hR : RF R) {r : Int32} (hf : F_MD_octet I v1 = some r) : m_met G 1 0 0 y_MD_octet M_MD_octet [mR (12, 0, 177), mI v1] (L, I, J, R) (m_is (some (mI r)) (L, I, J, R)) :=
  m_met_in n_MD_octet (plainFor_of_name (by decide)) (by decide) (Nat.le_of_ble_eq_true rfl) (ls := [some (mR (12, 0, 177)), some (mI v1)]) rfl (W_MD_octet I J v1 hR hf ⟨rfl, rfl⟩)
noncomputable def F_MD_arePostsTold_10 (I : MI) (v1 : Int32) (v2 : Int32) : Option ((Int32) ⊕ ((Unit) ⊕ (Int32))) :=
  if v1 ≤ v2 then (some (.inr (.inl ()))) else (gd ((3 : Int32) + ((2 : Int32) * v2)) 1600 <| gd (((3 : Int32) + ((2 : Int32) * v2)) + (1 : Int32)) 1600 <| (F_MD_isPlace I (I 178 ((3 : Int32) + ((2 : Int32) * v2)).toNatClampNeg) (I 178 (((3 : Int32) + ((2 : Int32) * v2)) + (1 : Int32)).toNatClampNeg)).bind fun r4 => if r4 = (0 : Int32) then (some (.inr (.inr (0 : Int32)))) else (if v2 ≤ (0 : Int32) then (some (.inl (v2 + 1 : Int32))) else (gd ((3 : Int32) + ((2 : Int32) * v2)) 1600 <| gd (((3 : Int32) + ((2 : Int32) * v2)) + (1 : Int32)) 1600 <| gd (((3 : Int32) + ((2 : Int32) * v2)) - (2 : Int32)) 1600 <| gd (((3 : Int32) + ((2 : Int32) * v2)) - (1 : Int32)) 1600 <| if (((30 : Int32) * (I 178 (((3 : Int32) + ((2 : Int32) * v2)) - (2 : Int32)).toNatClampNeg)) + (I 178 (((3 : Int32) + ((2 : Int32) * v2)) - (1 : Int32)).toNatClampNeg)) < (((30 : Int32) * (I 178 ((3 : Int32) + ((2 : Int32) * v2)).toNatClampNeg)) + (I 178 (((3 : Int32) + ((2 : Int32) * v2)) + (1 : Int32)).toNatClampNeg)) then (some (.inl (v2 + 1 : Int32))) else (some (.inr (.inr (0 : Int32)))))))
set_option maxRecDepth 100000 in
set_option maxHeartbeats 400000 in
theorem W_MD_arePostsTold_10 {G : MG} {Q : Option MV → MS → Prop} {L : List (Nat × Nat)} {R : Nat → Nat → Option MRef} (I : MI) (J : MJ) (v1 : Int32) (v2 : Int32) (hR : RF R) {r : (Int32) ⊕ ((Unit) ⊕ (Int32))} (hf : F_MD_arePostsTold_10 I v1 v2 = some r) (hk : (Sum.elim (fun s : Int32 => m_B G (m_rm 4 0 0) M_MD_arePostsTold Q 0 0 10 [some (mR (12, 0, 177)), some (mI v1), some (mI s), none] [] (L, I, J, R)) (Sum.elim (fun s : Unit => m_B G (m_rm 4 0 0) M_MD_arePostsTold Q 0 0 97 [none, none, none, none] [] (L, I, J, R)) (fun r : Int32 => Q (some (mI r)) (L, I, J, R)))) r) : m_B G (m_rm 4 0 0) M_MD_arePostsTold Q 0 0 10 [some (mR (12, 0, 177)), some (mI v1), some (mI v2), none] [] (L, I, J, R) := by
  unfold F_MD_arePostsTold_10 at hf
  refine b_blk (pc' := 12) (ls' := [some (mR (12, 0, 177)), some (mI v1), some (mI v2), none]) (st' := [mI v1, mI v2]) (S' := (L, I, J, R)) (P := True) [(.iload_n 2, (0, 0, 0, 0, 0)), (.iload_n 1, (0, 0, 0, 0, 0))] [] (by decide +kernel) rfl trivial ?_
  refine b_icmp_ge (off := 85) (tgt := 97) (by decide +kernel) (by decide) (fun h1 => ?_) (fun h1 => ?_)
  · have hf := if_t h1 hf
    refine b_frg 0 ?_
    refine b_frg 1 ?_
    refine b_frg 2 ?_
    cases hf
    exact hk
  · have hf := if_f h1 hf
    obtain ⟨g2, hf⟩ := gd_s hf
    obtain ⟨g3, hf⟩ := gd_s hf
    refine b_blk (pc' := 36) (ls' := [some (mR (12, 0, 177)), some (mI v1), some (mI v2), some (mI ((3 : Int32) + ((2 : Int32) * v2)))]) (st' := [mI (I 178 (((3 : Int32) + ((2 : Int32) * v2)) + (1 : Int32)).toNatClampNeg), mI (I 178 ((3 : Int32) + ((2 : Int32) * v2)).toNatClampNeg), mR (12, 0, 177)]) (S' := (L, I, J, R)) (P := ((((True ∧ R 177 0 = some (20, 1600, 178)) ∧ vp_in ((3 : Int32) + ((2 : Int32) * v2)) 1600) ∧ R 177 0 = some (20, 1600, 178)) ∧ vp_in (((3 : Int32) + ((2 : Int32) * v2)) + (1 : Int32)) 1600)) [(.iconst 3, (0, 0, 0, 3, 0)), (.iconst 2, (0, 0, 0, 2, 0)), (.iload_n 2, (0, 0, 0, 0, 0)), (.imul, (0, 0, 0, 0, 0)), (.iadd, (0, 0, 0, 0, 0)), (.istore_n 3, (0, 0, 0, 0, 0)), (.aload_n 0, (0, 0, 0, 0, 0)), (.aload_n 0, (0, 0, 0, 0, 0)), (.getfield 7, (12, 0, 3, 0, 0)), (.iload_n 3, (0, 0, 0, 0, 0)), (.iaload, (0, 0, 0, 0, 0)), (.aload_n 0, (0, 0, 0, 0, 0)), (.getfield 7, (12, 0, 3, 0, 0)), (.iload_n 3, (0, 0, 0, 0, 0)), (.iconst 1, (0, 0, 0, 1, 0)), (.iadd, (0, 0, 0, 0, 0)), (.iaload, (0, 0, 0, 0, 0))] [some (20, 1600, 178), some (20, 1600, 178)] (by decide +kernel) rfl ⟨⟨⟨⟨trivial, (r_177_0 hR)⟩, (in_n (n := 1600) (by decide) g2.1 g2.2)⟩, (r_177_0 hR)⟩, (in_n (n := 1600) (by decide) g3.1 g3.2)⟩ ?_
    obtain ⟨r4, hc4, hf⟩ := bnd_o hf
    refine b_cV (as := [mI (I 178 ((3 : Int32) + ((2 : Int32) * v2)).toNatClampNeg), mI (I 178 (((3 : Int32) + ((2 : Int32) * v2)) + (1 : Int32)).toNatClampNeg)]) (st := []) (by decide +kernel) k_12_487 n_MD_isPlace rfl (by decide) v_MD_isPlace (C_MD_isPlace I J (I 178 ((3 : Int32) + ((2 : Int32) * v2)).toNatClampNeg) (I 178 (((3 : Int32) + ((2 : Int32) * v2)) + (1 : Int32)).toNatClampNeg) hR hc4) (Nat.le_of_ble_eq_true rfl) (by decide) rfl rfl (fun _ h => h) ?_
    show m_B G (m_rm 4 0 0) M_MD_arePostsTold Q 0 0 39 [some (mR (12, 0, 177)), some (mI v1), some (mI v2), some (mI ((3 : Int32) + ((2 : Int32) * v2)))] [mI r4] (L, I, J, R)
    refine b_if_ne (off := 5) (tgt := 44) (by decide +kernel) (by decide) (fun h5 => ?_) (fun h5 => ?_)
    · have hf := if_f h5 hf
      refine b_blk (pc' := 45) (ls' := [some (mR (12, 0, 177)), some (mI v1), some (mI v2), some (mI ((3 : Int32) + ((2 : Int32) * v2)))]) (st' := [mI v2]) (S' := (L, I, J, R)) (P := True) [(.iload_n 2, (0, 0, 0, 0, 0))] [] (by decide +kernel) rfl trivial ?_
      refine b_if_le (off := 46) (tgt := 91) (by decide +kernel) (by decide) (fun h6 => ?_) (fun h6 => ?_)
      · have hf := if_t h6 hf
        refine b_blk (pc' := 10) (ls' := [some (mR (12, 0, 177)), some (mI v1), some (mI (v2 + 1)), some (mI ((3 : Int32) + ((2 : Int32) * v2)))]) (st' := []) (S' := (L, I, J, R)) (P := True) [(.iinc 2 1, (0, 0, 0, 1, 0)), (.goto (-84), (0, 10, 0, 0, 0))] [] (by decide +kernel) rfl trivial ?_
        refine b_frg 3 ?_
        cases hf
        exact hk
      · have hf := if_f h6 hf
        obtain ⟨g7, hf⟩ := gd_s hf
        obtain ⟨g8, hf⟩ := gd_s hf
        obtain ⟨g9, hf⟩ := gd_s hf
        refine b_blk (pc' := 82) (ls' := [some (mR (12, 0, 177)), some (mI v1), some (mI v2), some (mI ((3 : Int32) + ((2 : Int32) * v2)))]) (st' := [mI ((3 : Int32) + ((2 : Int32) * v2)), mR (20, 1600, 178), mI ((30 : Int32) * (I 178 (((3 : Int32) + ((2 : Int32) * v2)) - (2 : Int32)).toNatClampNeg)), mI (((30 : Int32) * (I 178 ((3 : Int32) + ((2 : Int32) * v2)).toNatClampNeg)) + (I 178 (((3 : Int32) + ((2 : Int32) * v2)) + (1 : Int32)).toNatClampNeg))]) (S' := (L, I, J, R)) (P := (((((((True ∧ R 177 0 = some (20, 1600, 178)) ∧ vp_in ((3 : Int32) + ((2 : Int32) * v2)) 1600) ∧ R 177 0 = some (20, 1600, 178)) ∧ vp_in (((3 : Int32) + ((2 : Int32) * v2)) + (1 : Int32)) 1600) ∧ R 177 0 = some (20, 1600, 178)) ∧ vp_in (((3 : Int32) + ((2 : Int32) * v2)) - (2 : Int32)) 1600) ∧ R 177 0 = some (20, 1600, 178))) [(.bipush 30, (0, 0, 0, 30, 0)), (.aload_n 0, (0, 0, 0, 0, 0)), (.getfield 7, (12, 0, 3, 0, 0)), (.iload_n 3, (0, 0, 0, 0, 0)), (.iaload, (0, 0, 0, 0, 0)), (.imul, (0, 0, 0, 0, 0)), (.aload_n 0, (0, 0, 0, 0, 0)), (.getfield 7, (12, 0, 3, 0, 0)), (.iload_n 3, (0, 0, 0, 0, 0)), (.iconst 1, (0, 0, 0, 1, 0)), (.iadd, (0, 0, 0, 0, 0)), (.iaload, (0, 0, 0, 0, 0)), (.iadd, (0, 0, 0, 0, 0)), (.bipush 30, (0, 0, 0, 30, 0)), (.aload_n 0, (0, 0, 0, 0, 0)), (.getfield 7, (12, 0, 3, 0, 0)), (.iload_n 3, (0, 0, 0, 0, 0)), (.iconst 2, (0, 0, 0, 2, 0)), (.isub, (0, 0, 0, 0, 0)), (.iaload, (0, 0, 0, 0, 0)), (.imul, (0, 0, 0, 0, 0)), (.aload_n 0, (0, 0, 0, 0, 0)), (.getfield 7, (12, 0, 3, 0, 0)), (.iload_n 3, (0, 0, 0, 0, 0))] [some (20, 1600, 178), some (20, 1600, 178), some (20, 1600, 178), some (20, 1600, 178)] (by decide +kernel) rfl ⟨⟨⟨⟨⟨⟨⟨trivial, (r_177_0 hR)⟩, (in_n (n := 1600) (by decide) g7.1 g7.2)⟩, (r_177_0 hR)⟩, (in_n (n := 1600) (by decide) g8.1 g8.2)⟩, (r_177_0 hR)⟩, (in_n (n := 1600) (by decide) g9.1 g9.2)⟩, (r_177_0 hR)⟩ ?_
        obtain ⟨g10, hf⟩ := gd_s hf
        refine b_blk (pc' := 86) (ls' := [some (mR (12, 0, 177)), some (mI v1), some (mI v2), some (mI ((3 : Int32) + ((2 : Int32) * v2)))]) (st' := [mI (((30 : Int32) * (I 178 (((3 : Int32) + ((2 : Int32) * v2)) - (2 : Int32)).toNatClampNeg)) + (I 178 (((3 : Int32) + ((2 : Int32) * v2)) - (1 : Int32)).toNatClampNeg)), mI (((30 : Int32) * (I 178 ((3 : Int32) + ((2 : Int32) * v2)).toNatClampNeg)) + (I 178 (((3 : Int32) + ((2 : Int32) * v2)) + (1 : Int32)).toNatClampNeg))]) (S' := (L, I, J, R)) (P := (True ∧ vp_in (((3 : Int32) + ((2 : Int32) * v2)) - (1 : Int32)) 1600)) [(.iconst 1, (0, 0, 0, 1, 0)), (.isub, (0, 0, 0, 0, 0)), (.iaload, (0, 0, 0, 0, 0)), (.iadd, (0, 0, 0, 0, 0))] [] (by decide +kernel) rfl ⟨trivial, (in_n (n := 1600) (by decide) g10.1 g10.2)⟩ ?_
        refine b_icmp_gt (off := 5) (tgt := 91) (by decide +kernel) (by decide) (fun h11 => ?_) (fun h11 => ?_)
        · have hf := if_t h11 hf
          refine b_blk (pc' := 10) (ls' := [some (mR (12, 0, 177)), some (mI v1), some (mI (v2 + 1)), some (mI ((3 : Int32) + ((2 : Int32) * v2)))]) (st' := []) (S' := (L, I, J, R)) (P := True) [(.iinc 2 1, (0, 0, 0, 1, 0)), (.goto (-84), (0, 10, 0, 0, 0))] [] (by decide +kernel) rfl trivial ?_
          refine b_frg 3 ?_
          cases hf
          exact hk
        · have hf := if_f h11 hf
          refine b_blk (pc' := 90) (ls' := [some (mR (12, 0, 177)), some (mI v1), some (mI v2), some (mI ((3 : Int32) + ((2 : Int32) * v2)))]) (st' := [mI 0]) (S' := (L, I, J, R)) (P := True) [(.iconst 0, (0, 0, 0, 0, 0))] [] (by decide +kernel) rfl trivial ?_
          cases hf
          exact b_zret (by decide +kernel) rfl (by decide) hk
    · have hf := if_t h5 hf
      refine b_blk (pc' := 43) (ls' := [some (mR (12, 0, 177)), some (mI v1), some (mI v2), some (mI ((3 : Int32) + ((2 : Int32) * v2)))]) (st' := [mI 0]) (S' := (L, I, J, R)) (P := True) [(.iconst 0, (0, 0, 0, 0, 0))] [] (by decide +kernel) rfl trivial ?_
      cases hf
      exact b_zret (by decide +kernel) rfl (by decide) hk
noncomputable def F_MD_arePostsTold (I : MI) (v1 : Int32) : Option (Int32) :=
  if v1 ≤ (24 : Int32) then ((wl (fun s : Int32 => F_MD_arePostsTold_10 I v1 s) (0 : Int32)).bind <| sel (fun q => some q) fun t2 => some (1 : Int32)) else (some (0 : Int32))
set_option maxRecDepth 100000 in
set_option maxHeartbeats 400000 in
theorem W_MD_arePostsTold {G : MG} {Q : Option MV → MS → Prop} {L : List (Nat × Nat)} {R : Nat → Nat → Option MRef} (I : MI) (J : MJ) (v1 : Int32) (hR : RF R) {r : Int32} (hf : F_MD_arePostsTold I v1 = some r) (hk : (fun r : Int32 => Q (some (mI r)) (L, I, J, R)) r) : m_B G (m_rm 4 0 0) M_MD_arePostsTold Q 0 0 0 [some (mR (12, 0, 177)), some (mI v1), none, none] [] (L, I, J, R) := by
  unfold F_MD_arePostsTold at hf
  refine b_blk (pc' := 3) (ls' := [some (mR (12, 0, 177)), some (mI v1), none, none]) (st' := [mI 24, mI v1]) (S' := (L, I, J, R)) (P := True) [(.iload_n 1, (0, 0, 0, 0, 0)), (.bipush 24, (0, 0, 0, 24, 0))] [] (by decide +kernel) rfl trivial ?_
  refine b_icmp_le (off := 5) (tgt := 8) (by decide +kernel) (by decide) (fun h1 => ?_) (fun h1 => ?_)
  · have hf := if_t h1 hf
    refine b_blk (pc' := 10) (ls' := [some (mR (12, 0, 177)), some (mI v1), some (mI 0), none]) (st' := []) (S' := (L, I, J, R)) (P := True) [(.iconst 0, (0, 0, 0, 0, 0)), (.istore_n 2, (0, 0, 0, 0, 0))] [] (by decide +kernel) rfl trivial ?_
    obtain ⟨t2, hw, hf⟩ := bnd_o hf
    refine wl_B (A := fun s : Int32 => m_B G (m_rm 4 0 0) M_MD_arePostsTold Q 0 0 10 [some (mR (12, 0, 177)), some (mI v1), some (mI s), none] [] (L, I, J, R)) (B := (Sum.elim (fun s : Unit => m_B G (m_rm 4 0 0) M_MD_arePostsTold Q 0 0 97 [none, none, none, none] [] (L, I, J, R)) (fun r : Int32 => Q (some (mI r)) (L, I, J, R)))) (fun s r hs hr => W_MD_arePostsTold_10 I J v1 s hR hs hr) hw ?_
    rcases t2 with t2 | q
    rotate_left
    · cases se_r hf; exact hk
    replace hf := se_l hf
    show m_B G (m_rm 4 0 0) M_MD_arePostsTold Q 0 0 97 [none, none, none, none] [] (L, I, J, R)
    refine b_blk (pc' := 98) (ls' := [none, none, none, none]) (st' := [mI 1]) (S' := (L, I, J, R)) (P := True) [(.iconst 1, (0, 0, 0, 1, 0))] [] (by decide +kernel) rfl trivial ?_
    cases hf
    exact b_zret (by decide +kernel) rfl (by decide) hk
  · have hf := if_f h1 hf
    refine b_blk (pc' := 7) (ls' := [some (mR (12, 0, 177)), some (mI v1), none, none]) (st' := [mI 0]) (S' := (L, I, J, R)) (P := True) [(.iconst 0, (0, 0, 0, 0, 0))] [] (by decide +kernel) rfl trivial ?_
    cases hf
    exact b_zret (by decide +kernel) rfl (by decide) hk
theorem C_MD_arePostsTold {G : MG} {L : List (Nat × Nat)} {R : Nat → Nat → Option MRef} (I : MI) (J : MJ) (v1 : Int32) (hR : RF R) {r : Int32} (hf : F_MD_arePostsTold I v1 = some r) : m_met G 4 0 0 y_MD_arePostsTold M_MD_arePostsTold [mR (12, 0, 177), mI v1] (L, I, J, R) (m_is (some (mI r)) (L, I, J, R)) :=
  m_met_in n_MD_arePostsTold (plainFor_of_name (by decide)) (by decide) (Nat.le_of_ble_eq_true rfl) (ls := [some (mR (12, 0, 177)), some (mI v1), none, none]) rfl (W_MD_arePostsTold I J v1 hR hf ⟨rfl, rfl⟩)
noncomputable def F_MD_isFenceTold_27 (I : MI) (v1 : Int32) (v2 : Int32) : Option ((Int32) ⊕ ((Unit) ⊕ (Int32))) :=
  if (I 204 2) ≤ v2 then (some (.inr (.inl ()))) else (gd ((v1 + (2 : Int32)) + v2) 1600 <| if (I 178 ((v1 + (2 : Int32)) + v2).toNatClampNeg) < (I 204 3) then (some (.inl (v2 + 1 : Int32))) else (gd ((v1 + (2 : Int32)) + v2) 1600 <| if (I 178 ((v1 + (2 : Int32)) + v2).toNatClampNeg) = (255 : Int32) then (some (.inl (v2 + 1 : Int32))) else (some (.inr (.inr (0 : Int32))))))
set_option maxRecDepth 100000 in
set_option maxHeartbeats 400000 in
theorem W_MD_isFenceTold_27 {G : MG} {Q : Option MV → MS → Prop} {L : List (Nat × Nat)} {R : Nat → Nat → Option MRef} (I : MI) (J : MJ) (v1 : Int32) (v2 : Int32) (hR : RF R) {r : (Int32) ⊕ ((Unit) ⊕ (Int32))} (hf : F_MD_isFenceTold_27 I v1 v2 = some r) (hk : (Sum.elim (fun s : Int32 => m_B G (m_rm 1 0 0) M_MD_isFenceTold Q 0 0 27 [some (mR (12, 0, 177)), some (mI v1), some (mI s)] [] (L, I, J, R)) (Sum.elim (fun s : Unit => m_B G (m_rm 1 0 0) M_MD_isFenceTold Q 0 0 80 [none, none, none] [] (L, I, J, R)) (fun r : Int32 => Q (some (mI r)) (L, I, J, R)))) r) : m_B G (m_rm 1 0 0) M_MD_isFenceTold Q 0 0 27 [some (mR (12, 0, 177)), some (mI v1), some (mI v2)] [] (L, I, J, R) := by
  unfold F_MD_isFenceTold_27 at hf
  refine b_blk (pc' := 34) (ls' := [some (mR (12, 0, 177)), some (mI v1), some (mI v2)]) (st' := [mI (I 204 2), mI v2]) (S' := (L, I, J, R)) (P := ((True ∧ R 177 36 = some (20, 4, 204)) ∧ vp_in (2 : Int32) 4)) [(.iload_n 2, (0, 0, 0, 0, 0)), (.aload_n 0, (0, 0, 0, 0, 0)), (.getfield 93, (12, 36, 3, 0, 0)), (.iconst 2, (0, 0, 0, 2, 0)), (.iaload, (0, 0, 0, 0, 0))] [some (20, 4, 204)] (by decide +kernel) rfl ⟨⟨trivial, (r_177_36 hR)⟩, (vp_in_nI (n := 2) (N := 4) (by decide) (by decide))⟩ ?_
  refine b_icmp_ge (off := 46) (tgt := 80) (by decide +kernel) (by decide) (fun h1 => ?_) (fun h1 => ?_)
  · have hf := if_t h1 hf
    refine b_frg 0 ?_
    refine b_frg 1 ?_
    refine b_frg 2 ?_
    cases hf
    exact hk
  · have hf := if_f h1 hf
    obtain ⟨g2, hf⟩ := gd_s hf
    refine b_blk (pc' := 53) (ls' := [some (mR (12, 0, 177)), some (mI v1), some (mI v2)]) (st' := [mI (I 204 3), mI (I 178 ((v1 + (2 : Int32)) + v2).toNatClampNeg)]) (S' := (L, I, J, R)) (P := ((((True ∧ R 177 0 = some (20, 1600, 178)) ∧ vp_in ((v1 + (2 : Int32)) + v2) 1600) ∧ R 177 36 = some (20, 4, 204)) ∧ vp_in (3 : Int32) 4)) [(.aload_n 0, (0, 0, 0, 0, 0)), (.getfield 7, (12, 0, 3, 0, 0)), (.iload_n 1, (0, 0, 0, 0, 0)), (.iconst 2, (0, 0, 0, 2, 0)), (.iadd, (0, 0, 0, 0, 0)), (.iload_n 2, (0, 0, 0, 0, 0)), (.iadd, (0, 0, 0, 0, 0)), (.iaload, (0, 0, 0, 0, 0)), (.aload_n 0, (0, 0, 0, 0, 0)), (.getfield 93, (12, 36, 3, 0, 0)), (.iconst 3, (0, 0, 0, 3, 0)), (.iaload, (0, 0, 0, 0, 0))] [some (20, 1600, 178), some (20, 4, 204)] (by decide +kernel) rfl ⟨⟨⟨⟨trivial, (r_177_0 hR)⟩, (in_n (n := 1600) (by decide) g2.1 g2.2)⟩, (r_177_36 hR)⟩, (vp_in_nI (n := 3) (N := 4) (by decide) (by decide))⟩ ?_
    refine b_icmp_lt (off := 21) (tgt := 74) (by decide +kernel) (by decide) (fun h3 => ?_) (fun h3 => ?_)
    · have hf := if_t h3 hf
      refine b_blk (pc' := 27) (ls' := [some (mR (12, 0, 177)), some (mI v1), some (mI (v2 + 1))]) (st' := []) (S' := (L, I, J, R)) (P := True) [(.iinc 2 1, (0, 0, 0, 1, 0)), (.goto (-50), (0, 27, 0, 0, 0))] [] (by decide +kernel) rfl trivial ?_
      cases hf
      exact hk
    · have hf := if_f h3 hf
      obtain ⟨g4, hf⟩ := gd_s hf
      refine b_blk (pc' := 69) (ls' := [some (mR (12, 0, 177)), some (mI v1), some (mI v2)]) (st' := [mI 255, mI (I 178 ((v1 + (2 : Int32)) + v2).toNatClampNeg)]) (S' := (L, I, J, R)) (P := ((True ∧ R 177 0 = some (20, 1600, 178)) ∧ vp_in ((v1 + (2 : Int32)) + v2) 1600)) [(.aload_n 0, (0, 0, 0, 0, 0)), (.getfield 7, (12, 0, 3, 0, 0)), (.iload_n 1, (0, 0, 0, 0, 0)), (.iconst 2, (0, 0, 0, 2, 0)), (.iadd, (0, 0, 0, 0, 0)), (.iload_n 2, (0, 0, 0, 0, 0)), (.iadd, (0, 0, 0, 0, 0)), (.iaload, (0, 0, 0, 0, 0)), (.sipush 255, (0, 0, 0, 255, 0))] [some (20, 1600, 178)] (by decide +kernel) rfl ⟨⟨trivial, (r_177_0 hR)⟩, (in_n (n := 1600) (by decide) g4.1 g4.2)⟩ ?_
      refine b_icmp_eq (off := 5) (tgt := 74) (by decide +kernel) (by decide) (fun h5 => ?_) (fun h5 => ?_)
      · have hf := if_t h5 hf
        refine b_blk (pc' := 27) (ls' := [some (mR (12, 0, 177)), some (mI v1), some (mI (v2 + 1))]) (st' := []) (S' := (L, I, J, R)) (P := True) [(.iinc 2 1, (0, 0, 0, 1, 0)), (.goto (-50), (0, 27, 0, 0, 0))] [] (by decide +kernel) rfl trivial ?_
        cases hf
        exact hk
      · have hf := if_f h5 hf
        refine b_blk (pc' := 73) (ls' := [some (mR (12, 0, 177)), some (mI v1), some (mI v2)]) (st' := [mI 0]) (S' := (L, I, J, R)) (P := True) [(.iconst 0, (0, 0, 0, 0, 0))] [] (by decide +kernel) rfl trivial ?_
        cases hf
        exact b_zret (by decide +kernel) rfl (by decide) hk
noncomputable def F_MD_isFenceTold (I : MI) (v1 : Int32) : Option (Int32) :=
  gd v1 1600 <| if (99 : Int32) < (I 178 v1.toNatClampNeg) then (some (0 : Int32)) else (gd (v1 + (1 : Int32)) 1600 <| if (I 178 (v1 + (1 : Int32)).toNatClampNeg) ≤ (1 : Int32) then ((wl (fun s : Int32 => F_MD_isFenceTold_27 I v1 s) (0 : Int32)).bind <| sel (fun q => some q) fun t5 => some (1 : Int32)) else (some (0 : Int32)))
set_option maxRecDepth 100000 in
set_option maxHeartbeats 400000 in
theorem W_MD_isFenceTold {G : MG} {Q : Option MV → MS → Prop} {L : List (Nat × Nat)} {R : Nat → Nat → Option MRef} (I : MI) (J : MJ) (v1 : Int32) (hR : RF R) {r : Int32} (hf : F_MD_isFenceTold I v1 = some r) (hk : (fun r : Int32 => Q (some (mI r)) (L, I, J, R)) r) : m_B G (m_rm 1 0 0) M_MD_isFenceTold Q 0 0 0 [some (mR (12, 0, 177)), some (mI v1), none] [] (L, I, J, R) := by
  unfold F_MD_isFenceTold at hf
  obtain ⟨g1, hf⟩ := gd_s hf
  refine b_blk (pc' := 8) (ls' := [some (mR (12, 0, 177)), some (mI v1), none]) (st' := [mI 99, mI (I 178 v1.toNatClampNeg)]) (S' := (L, I, J, R)) (P := ((True ∧ R 177 0 = some (20, 1600, 178)) ∧ vp_in v1 1600)) [(.aload_n 0, (0, 0, 0, 0, 0)), (.getfield 7, (12, 0, 3, 0, 0)), (.iload_n 1, (0, 0, 0, 0, 0)), (.iaload, (0, 0, 0, 0, 0)), (.bipush 99, (0, 0, 0, 99, 0))] [some (20, 1600, 178)] (by decide +kernel) rfl ⟨⟨trivial, (r_177_0 hR)⟩, (in_n (n := 1600) (by decide) g1.1 g1.2)⟩ ?_
  refine b_icmp_gt (off := 15) (tgt := 23) (by decide +kernel) (by decide) (fun h2 => ?_) (fun h2 => ?_)
  · have hf := if_t h2 hf
    refine b_blk (pc' := 24) (ls' := [some (mR (12, 0, 177)), some (mI v1), none]) (st' := [mI 0]) (S' := (L, I, J, R)) (P := True) [(.iconst 0, (0, 0, 0, 0, 0))] [] (by decide +kernel) rfl trivial ?_
    cases hf
    exact b_zret (by decide +kernel) rfl (by decide) hk
  · have hf := if_f h2 hf
    obtain ⟨g3, hf⟩ := gd_s hf
    refine b_blk (pc' := 20) (ls' := [some (mR (12, 0, 177)), some (mI v1), none]) (st' := [mI 1, mI (I 178 (v1 + (1 : Int32)).toNatClampNeg)]) (S' := (L, I, J, R)) (P := ((True ∧ R 177 0 = some (20, 1600, 178)) ∧ vp_in (v1 + (1 : Int32)) 1600)) [(.aload_n 0, (0, 0, 0, 0, 0)), (.getfield 7, (12, 0, 3, 0, 0)), (.iload_n 1, (0, 0, 0, 0, 0)), (.iconst 1, (0, 0, 0, 1, 0)), (.iadd, (0, 0, 0, 0, 0)), (.iaload, (0, 0, 0, 0, 0)), (.iconst 1, (0, 0, 0, 1, 0))] [some (20, 1600, 178)] (by decide +kernel) rfl ⟨⟨trivial, (r_177_0 hR)⟩, (in_n (n := 1600) (by decide) g3.1 g3.2)⟩ ?_
    refine b_icmp_le (off := 5) (tgt := 25) (by decide +kernel) (by decide) (fun h4 => ?_) (fun h4 => ?_)
    · have hf := if_t h4 hf
      refine b_blk (pc' := 27) (ls' := [some (mR (12, 0, 177)), some (mI v1), some (mI 0)]) (st' := []) (S' := (L, I, J, R)) (P := True) [(.iconst 0, (0, 0, 0, 0, 0)), (.istore_n 2, (0, 0, 0, 0, 0))] [] (by decide +kernel) rfl trivial ?_
      obtain ⟨t5, hw, hf⟩ := bnd_o hf
      refine wl_B (A := fun s : Int32 => m_B G (m_rm 1 0 0) M_MD_isFenceTold Q 0 0 27 [some (mR (12, 0, 177)), some (mI v1), some (mI s)] [] (L, I, J, R)) (B := (Sum.elim (fun s : Unit => m_B G (m_rm 1 0 0) M_MD_isFenceTold Q 0 0 80 [none, none, none] [] (L, I, J, R)) (fun r : Int32 => Q (some (mI r)) (L, I, J, R)))) (fun s r hs hr => W_MD_isFenceTold_27 I J v1 s hR hs hr) hw ?_
      rcases t5 with t5 | q
      rotate_left
      · cases se_r hf; exact hk
      replace hf := se_l hf
      show m_B G (m_rm 1 0 0) M_MD_isFenceTold Q 0 0 80 [none, none, none] [] (L, I, J, R)
      refine b_blk (pc' := 81) (ls' := [none, none, none]) (st' := [mI 1]) (S' := (L, I, J, R)) (P := True) [(.iconst 1, (0, 0, 0, 1, 0))] [] (by decide +kernel) rfl trivial ?_
      cases hf
      exact b_zret (by decide +kernel) rfl (by decide) hk
    · have hf := if_f h4 hf
      refine b_blk (pc' := 24) (ls' := [some (mR (12, 0, 177)), some (mI v1), none]) (st' := [mI 0]) (S' := (L, I, J, R)) (P := True) [(.iconst 0, (0, 0, 0, 0, 0))] [] (by decide +kernel) rfl trivial ?_
      cases hf
      exact b_zret (by decide +kernel) rfl (by decide) hk
theorem C_MD_isFenceTold {G : MG} {L : List (Nat × Nat)} {R : Nat → Nat → Option MRef} (I : MI) (J : MJ) (v1 : Int32) (hR : RF R) {r : Int32} (hf : F_MD_isFenceTold I v1 = some r) : m_met G 1 0 0 y_MD_isFenceTold M_MD_isFenceTold [mR (12, 0, 177), mI v1] (L, I, J, R) (m_is (some (mI r)) (L, I, J, R)) :=
  m_met_in n_MD_isFenceTold (plainFor_of_name (by decide)) (by decide) (Nat.le_of_ble_eq_true rfl) (ls := [some (mR (12, 0, 177)), some (mI v1), none]) rfl (W_MD_isFenceTold I J v1 hR hf ⟨rfl, rfl⟩)
noncomputable def F_MD_isImage_110 (I : MI) (v2 : Int32) (v3 : Int32) : Option ((Int32) ⊕ ((Unit) ⊕ (Int32))) :=
  (F_MD_fenceMany I).bind fun r1 => if r1 ≤ v3 then (some (.inr (.inl ()))) else ((F_MD_isFenceTold I (((3 : Int32) + ((2 : Int32) * (I 178 2))) + (v2 * v3))).bind fun r3 => if r3 = (0 : Int32) then (some (.inr (.inr (0 : Int32)))) else (some (.inl (v3 + 1 : Int32))))
set_option maxRecDepth 100000 in
set_option maxHeartbeats 400000 in
theorem W_MD_isImage_110 {G : MG} {Q : Option MV → MS → Prop} {L : List (Nat × Nat)} {R : Nat → Nat → Option MRef} (I : MI) (J : MJ) (v2 : Int32) (v3 : Int32) (hR : RF R) {r : (Int32) ⊕ ((Unit) ⊕ (Int32))} (hf : F_MD_isImage_110 I v2 v3 = some r) (hk : (Sum.elim (fun s : Int32 => m_B G (m_rm 5 0 0) M_MD_isImage Q 0 0 110 [some (mR (12, 0, 177)), none, some (mI v2), some (mI s)] [] (L, I, J, R)) (Sum.elim (fun s : Unit => m_B G (m_rm 5 0 0) M_MD_isImage Q 0 0 147 [none, none, none, none] [] (L, I, J, R)) (fun r : Int32 => Q (some (mI r)) (L, I, J, R)))) r) : m_B G (m_rm 5 0 0) M_MD_isImage Q 0 0 110 [some (mR (12, 0, 177)), none, some (mI v2), some (mI v3)] [] (L, I, J, R) := by
  unfold F_MD_isImage_110 at hf
  refine b_blk (pc' := 112) (ls' := [some (mR (12, 0, 177)), none, some (mI v2), some (mI v3)]) (st' := [mR (12, 0, 177), mI v3]) (S' := (L, I, J, R)) (P := True) [(.iload_n 3, (0, 0, 0, 0, 0)), (.aload_n 0, (0, 0, 0, 0, 0))] [] (by decide +kernel) rfl trivial ?_
  obtain ⟨r1, hc1, hf⟩ := bnd_o hf
  refine b_cV (as := []) (st := [mI v3]) (by decide +kernel) k_12_382 n_MD_fenceMany rfl (by decide) v_MD_fenceMany (C_MD_fenceMany I J hR hc1) (Nat.le_of_ble_eq_true rfl) (by decide) rfl rfl (fun _ h => h) ?_
  show m_B G (m_rm 5 0 0) M_MD_isImage Q 0 0 115 [some (mR (12, 0, 177)), none, some (mI v2), some (mI v3)] [mI r1, mI v3] (L, I, J, R)
  refine b_icmp_ge (off := 32) (tgt := 147) (by decide +kernel) (by decide) (fun h2 => ?_) (fun h2 => ?_)
  · have hf := if_t h2 hf
    refine b_frg 0 ?_
    refine b_frg 2 ?_
    refine b_frg 3 ?_
    cases hf
    exact hk
  · have hf := if_f h2 hf
    refine b_blk (pc' := 133) (ls' := [some (mR (12, 0, 177)), none, some (mI v2), some (mI v3)]) (st' := [mI (((3 : Int32) + ((2 : Int32) * (I 178 2))) + (v2 * v3)), mR (12, 0, 177)]) (S' := (L, I, J, R)) (P := ((True ∧ R 177 0 = some (20, 1600, 178)) ∧ vp_in (2 : Int32) 1600)) [(.aload_n 0, (0, 0, 0, 0, 0)), (.iconst 3, (0, 0, 0, 3, 0)), (.iconst 2, (0, 0, 0, 2, 0)), (.aload_n 0, (0, 0, 0, 0, 0)), (.getfield 7, (12, 0, 3, 0, 0)), (.iconst 2, (0, 0, 0, 2, 0)), (.iaload, (0, 0, 0, 0, 0)), (.imul, (0, 0, 0, 0, 0)), (.iadd, (0, 0, 0, 0, 0)), (.iload_n 2, (0, 0, 0, 0, 0)), (.iload_n 3, (0, 0, 0, 0, 0)), (.imul, (0, 0, 0, 0, 0)), (.iadd, (0, 0, 0, 0, 0))] [some (20, 1600, 178)] (by decide +kernel) rfl ⟨⟨trivial, (r_177_0 hR)⟩, (vp_in_nI (n := 2) (N := 1600) (by decide) (by decide))⟩ ?_
    obtain ⟨r3, hc3, hf⟩ := bnd_o hf
    refine b_cV (as := [mI (((3 : Int32) + ((2 : Int32) * (I 178 2))) + (v2 * v3))]) (st := []) (by decide +kernel) k_12_666 n_MD_isFenceTold rfl (by decide) v_MD_isFenceTold (C_MD_isFenceTold I J (((3 : Int32) + ((2 : Int32) * (I 178 2))) + (v2 * v3)) hR hc3) (Nat.le_of_ble_eq_true rfl) (by decide) rfl rfl (fun _ h => h) ?_
    show m_B G (m_rm 5 0 0) M_MD_isImage Q 0 0 136 [some (mR (12, 0, 177)), none, some (mI v2), some (mI v3)] [mI r3] (L, I, J, R)
    refine b_if_ne (off := 5) (tgt := 141) (by decide +kernel) (by decide) (fun h4 => ?_) (fun h4 => ?_)
    · have hf := if_f h4 hf
      refine b_blk (pc' := 110) (ls' := [some (mR (12, 0, 177)), none, some (mI v2), some (mI (v3 + 1))]) (st' := []) (S' := (L, I, J, R)) (P := True) [(.iinc 3 1, (0, 0, 0, 1, 0)), (.goto (-34), (0, 110, 0, 0, 0))] [] (by decide +kernel) rfl trivial ?_
      cases hf
      exact hk
    · have hf := if_t h4 hf
      refine b_blk (pc' := 140) (ls' := [some (mR (12, 0, 177)), none, some (mI v2), some (mI v3)]) (st' := [mI 0]) (S' := (L, I, J, R)) (P := True) [(.iconst 0, (0, 0, 0, 0, 0))] [] (by decide +kernel) rfl trivial ?_
      cases hf
      exact b_zret (by decide +kernel) rfl (by decide) hk
noncomputable def F_MD_isImage (I : MI) (v1 : Int32) : Option (Int32) :=
  if (I 177 49) = (0 : Int32) then (some (0 : Int32)) else ((F_MD_fenceMany I).bind fun r2 => if v1 < ((4 : Int32) + (((2 : Int32) + (I 204 2)) * r2)) then (some (0 : Int32)) else ((F_MD_fenceMany I).bind fun r4 => if v1 = (((4 : Int32) + ((2 : Int32) * (I 178 2))) + (((2 : Int32) + (I 204 2)) * r4)) then (gd (v1 - (1 : Int32)) 1600 <| (F_MD_checked 178 1600 I (v1 - (1 : Int32))).bind fun r7 => if (I 178 (v1 - (1 : Int32)).toNatClampNeg) = r7 then (if (999 : Int32) < (((256 : Int32) * (I 178 0)) + (I 178 1)) then (some (0 : Int32)) else ((F_MD_arePostsTold I (I 178 2)).bind fun r10 => if r10 = (0 : Int32) then (some (0 : Int32)) else ((wl (fun s : Int32 => F_MD_isImage_110 I ((2 : Int32) + (I 204 2)) s) (0 : Int32)).bind <| sel (fun q => some q) fun t12 => some (1 : Int32)))) else (some (0 : Int32))) else (some (0 : Int32))))
set_option maxRecDepth 100000 in
set_option maxHeartbeats 400000 in
theorem W_MD_isImage {G : MG} {Q : Option MV → MS → Prop} {L : List (Nat × Nat)} {R : Nat → Nat → Option MRef} (I : MI) (J : MJ) (v1 : Int32) (hR : RF R) {r : Int32} (hf : F_MD_isImage I v1 = some r) (hk : (fun r : Int32 => Q (some (mI r)) (L, I, J, R)) r) : m_B G (m_rm 5 0 0) M_MD_isImage Q 0 0 0 [some (mR (12, 0, 177)), some (mI v1), none, none] [] (L, I, J, R) := by
  unfold F_MD_isImage at hf
  refine b_blk (pc' := 13) (ls' := [some (mR (12, 0, 177)), some (mI v1), some (mI ((2 : Int32) + (I 204 2))), none]) (st' := [mI (I 177 49)]) (S' := (L, I, J, R)) (P := ((True ∧ R 177 36 = some (20, 4, 204)) ∧ vp_in (2 : Int32) 4)) [(.iconst 2, (0, 0, 0, 2, 0)), (.aload_n 0, (0, 0, 0, 0, 0)), (.getfield 93, (12, 36, 3, 0, 0)), (.iconst 2, (0, 0, 0, 2, 0)), (.iaload, (0, 0, 0, 0, 0)), (.iadd, (0, 0, 0, 0, 0)), (.istore_n 2, (0, 0, 0, 0, 0)), (.aload_n 0, (0, 0, 0, 0, 0)), (.getfield 369, (12, 49, 1, 0, 0))] [some (20, 4, 204)] (by decide +kernel) rfl ⟨⟨trivial, (r_177_36 hR)⟩, (vp_in_nI (n := 2) (N := 4) (by decide) (by decide))⟩ ?_
  refine b_if_eq (off := 93) (tgt := 106) (by decide +kernel) (by decide) (fun h1 => ?_) (fun h1 => ?_)
  · have hf := if_t h1 hf
    refine b_blk (pc' := 107) (ls' := [some (mR (12, 0, 177)), some (mI v1), some (mI ((2 : Int32) + (I 204 2))), none]) (st' := [mI 0]) (S' := (L, I, J, R)) (P := True) [(.iconst 0, (0, 0, 0, 0, 0))] [] (by decide +kernel) rfl trivial ?_
    cases hf
    exact b_zret (by decide +kernel) rfl (by decide) hk
  · have hf := if_f h1 hf
    refine b_blk (pc' := 20) (ls' := [some (mR (12, 0, 177)), some (mI v1), some (mI ((2 : Int32) + (I 204 2))), none]) (st' := [mR (12, 0, 177), mI ((2 : Int32) + (I 204 2)), mI 4, mI v1]) (S' := (L, I, J, R)) (P := True) [(.iload_n 1, (0, 0, 0, 0, 0)), (.iconst 4, (0, 0, 0, 4, 0)), (.iload_n 2, (0, 0, 0, 0, 0)), (.aload_n 0, (0, 0, 0, 0, 0))] [] (by decide +kernel) rfl trivial ?_
    obtain ⟨r2, hc2, hf⟩ := bnd_o hf
    refine b_cV (as := []) (st := [mI ((2 : Int32) + (I 204 2)), mI 4, mI v1]) (by decide +kernel) k_12_382 n_MD_fenceMany rfl (by decide) v_MD_fenceMany (C_MD_fenceMany I J hR hc2) (Nat.le_of_ble_eq_true rfl) (by decide) rfl rfl (fun _ h => h) ?_
    show m_B G (m_rm 5 0 0) M_MD_isImage Q 0 0 23 [some (mR (12, 0, 177)), some (mI v1), some (mI ((2 : Int32) + (I 204 2))), none] [mI r2, mI ((2 : Int32) + (I 204 2)), mI 4, mI v1] (L, I, J, R)
    refine b_blk (pc' := 25) (ls' := [some (mR (12, 0, 177)), some (mI v1), some (mI ((2 : Int32) + (I 204 2))), none]) (st' := [mI ((4 : Int32) + (((2 : Int32) + (I 204 2)) * r2)), mI v1]) (S' := (L, I, J, R)) (P := True) [(.imul, (0, 0, 0, 0, 0)), (.iadd, (0, 0, 0, 0, 0))] [] (by decide +kernel) rfl trivial ?_
    refine b_icmp_lt (off := 81) (tgt := 106) (by decide +kernel) (by decide) (fun h3 => ?_) (fun h3 => ?_)
    · have hf := if_t h3 hf
      refine b_blk (pc' := 107) (ls' := [some (mR (12, 0, 177)), some (mI v1), some (mI ((2 : Int32) + (I 204 2))), none]) (st' := [mI 0]) (S' := (L, I, J, R)) (P := True) [(.iconst 0, (0, 0, 0, 0, 0))] [] (by decide +kernel) rfl trivial ?_
      cases hf
      exact b_zret (by decide +kernel) rfl (by decide) hk
    · have hf := if_f h3 hf
      refine b_blk (pc' := 41) (ls' := [some (mR (12, 0, 177)), some (mI v1), some (mI ((2 : Int32) + (I 204 2))), none]) (st' := [mR (12, 0, 177), mI ((2 : Int32) + (I 204 2)), mI ((4 : Int32) + ((2 : Int32) * (I 178 2))), mI v1]) (S' := (L, I, J, R)) (P := ((True ∧ R 177 0 = some (20, 1600, 178)) ∧ vp_in (2 : Int32) 1600)) [(.iload_n 1, (0, 0, 0, 0, 0)), (.iconst 4, (0, 0, 0, 4, 0)), (.iconst 2, (0, 0, 0, 2, 0)), (.aload_n 0, (0, 0, 0, 0, 0)), (.getfield 7, (12, 0, 3, 0, 0)), (.iconst 2, (0, 0, 0, 2, 0)), (.iaload, (0, 0, 0, 0, 0)), (.imul, (0, 0, 0, 0, 0)), (.iadd, (0, 0, 0, 0, 0)), (.iload_n 2, (0, 0, 0, 0, 0)), (.aload_n 0, (0, 0, 0, 0, 0))] [some (20, 1600, 178)] (by decide +kernel) rfl ⟨⟨trivial, (r_177_0 hR)⟩, (vp_in_nI (n := 2) (N := 1600) (by decide) (by decide))⟩ ?_
      obtain ⟨r4, hc4, hf⟩ := bnd_o hf
      refine b_cV (as := []) (st := [mI ((2 : Int32) + (I 204 2)), mI ((4 : Int32) + ((2 : Int32) * (I 178 2))), mI v1]) (by decide +kernel) k_12_382 n_MD_fenceMany rfl (by decide) v_MD_fenceMany (C_MD_fenceMany I J hR hc4) (Nat.le_of_ble_eq_true rfl) (by decide) rfl rfl (fun _ h => h) ?_
      show m_B G (m_rm 5 0 0) M_MD_isImage Q 0 0 44 [some (mR (12, 0, 177)), some (mI v1), some (mI ((2 : Int32) + (I 204 2))), none] [mI r4, mI ((2 : Int32) + (I 204 2)), mI ((4 : Int32) + ((2 : Int32) * (I 178 2))), mI v1] (L, I, J, R)
      refine b_blk (pc' := 46) (ls' := [some (mR (12, 0, 177)), some (mI v1), some (mI ((2 : Int32) + (I 204 2))), none]) (st' := [mI (((4 : Int32) + ((2 : Int32) * (I 178 2))) + (((2 : Int32) + (I 204 2)) * r4)), mI v1]) (S' := (L, I, J, R)) (P := True) [(.imul, (0, 0, 0, 0, 0)), (.iadd, (0, 0, 0, 0, 0))] [] (by decide +kernel) rfl trivial ?_
      refine b_icmp_ne (off := 60) (tgt := 106) (by decide +kernel) (by decide) (fun h5 => ?_) (fun h5 => ?_)
      · have hf := if_f h5 hf
        refine b_blk (pc' := 107) (ls' := [some (mR (12, 0, 177)), some (mI v1), some (mI ((2 : Int32) + (I 204 2))), none]) (st' := [mI 0]) (S' := (L, I, J, R)) (P := True) [(.iconst 0, (0, 0, 0, 0, 0))] [] (by decide +kernel) rfl trivial ?_
        cases hf
        exact b_zret (by decide +kernel) rfl (by decide) hk
      · have hf := if_t h5 hf
        obtain ⟨g6, hf⟩ := gd_s hf
        refine b_blk (pc' := 64) (ls' := [some (mR (12, 0, 177)), some (mI v1), some (mI ((2 : Int32) + (I 204 2))), none]) (st' := [mI (v1 - (1 : Int32)), mR (20, 1600, 178), mI (I 178 (v1 - (1 : Int32)).toNatClampNeg)]) (S' := (L, I, J, R)) (P := (((True ∧ R 177 0 = some (20, 1600, 178)) ∧ vp_in (v1 - (1 : Int32)) 1600) ∧ R 177 0 = some (20, 1600, 178))) [(.aload_n 0, (0, 0, 0, 0, 0)), (.getfield 7, (12, 0, 3, 0, 0)), (.iload_n 1, (0, 0, 0, 0, 0)), (.iconst 1, (0, 0, 0, 1, 0)), (.isub, (0, 0, 0, 0, 0)), (.iaload, (0, 0, 0, 0, 0)), (.aload_n 0, (0, 0, 0, 0, 0)), (.getfield 7, (12, 0, 3, 0, 0)), (.iload_n 1, (0, 0, 0, 0, 0)), (.iconst 1, (0, 0, 0, 1, 0)), (.isub, (0, 0, 0, 0, 0))] [some (20, 1600, 178), some (20, 1600, 178)] (by decide +kernel) rfl ⟨⟨⟨trivial, (r_177_0 hR)⟩, (in_n (n := 1600) (by decide) g6.1 g6.2)⟩, (r_177_0 hR)⟩ ?_
        obtain ⟨r7, hc7, hf⟩ := bnd_o hf
        refine b_cS (as := [mR (20, 1600, 178), mI (v1 - (1 : Int32))]) (st := [mI (I 178 (v1 - (1 : Int32)).toNatClampNeg)]) (by decide +kernel) k_12_659 n_MD_checked s_MD_checked (C_MD_checked 178 1600 I J (v1 - (1 : Int32)) hR (by decide) hc7) (Nat.le_of_ble_eq_true rfl) (by decide) rfl rfl (fun _ h => h) ?_
        show m_B G (m_rm 5 0 0) M_MD_isImage Q 0 0 67 [some (mR (12, 0, 177)), some (mI v1), some (mI ((2 : Int32) + (I 204 2))), none] [mI r7, mI (I 178 (v1 - (1 : Int32)).toNatClampNeg)] (L, I, J, R)
        refine b_icmp_ne (off := 39) (tgt := 106) (by decide +kernel) (by decide) (fun h8 => ?_) (fun h8 => ?_)
        · have hf := if_f h8 hf
          refine b_blk (pc' := 107) (ls' := [some (mR (12, 0, 177)), some (mI v1), some (mI ((2 : Int32) + (I 204 2))), none]) (st' := [mI 0]) (S' := (L, I, J, R)) (P := True) [(.iconst 0, (0, 0, 0, 0, 0))] [] (by decide +kernel) rfl trivial ?_
          cases hf
          exact b_zret (by decide +kernel) rfl (by decide) hk
        · have hf := if_t h8 hf
          refine b_blk (pc' := 90) (ls' := [some (mR (12, 0, 177)), some (mI v1), some (mI ((2 : Int32) + (I 204 2))), none]) (st' := [mI 999, mI (((256 : Int32) * (I 178 0)) + (I 178 1))]) (S' := (L, I, J, R)) (P := ((((True ∧ R 177 0 = some (20, 1600, 178)) ∧ vp_in (0 : Int32) 1600) ∧ R 177 0 = some (20, 1600, 178)) ∧ vp_in (1 : Int32) 1600)) [(.sipush 256, (0, 0, 0, 256, 0)), (.aload_n 0, (0, 0, 0, 0, 0)), (.getfield 7, (12, 0, 3, 0, 0)), (.iconst 0, (0, 0, 0, 0, 0)), (.iaload, (0, 0, 0, 0, 0)), (.imul, (0, 0, 0, 0, 0)), (.aload_n 0, (0, 0, 0, 0, 0)), (.getfield 7, (12, 0, 3, 0, 0)), (.iconst 1, (0, 0, 0, 1, 0)), (.iaload, (0, 0, 0, 0, 0)), (.iadd, (0, 0, 0, 0, 0)), (.sipush 999, (0, 0, 0, 999, 0))] [some (20, 1600, 178), some (20, 1600, 178)] (by decide +kernel) rfl ⟨⟨⟨⟨trivial, (r_177_0 hR)⟩, (vp_in_nI (n := 0) (N := 1600) (by decide) (by decide))⟩, (r_177_0 hR)⟩, (vp_in_nI (n := 1) (N := 1600) (by decide) (by decide))⟩ ?_
          refine b_icmp_gt (off := 16) (tgt := 106) (by decide +kernel) (by decide) (fun h9 => ?_) (fun h9 => ?_)
          · have hf := if_t h9 hf
            refine b_blk (pc' := 107) (ls' := [some (mR (12, 0, 177)), some (mI v1), some (mI ((2 : Int32) + (I 204 2))), none]) (st' := [mI 0]) (S' := (L, I, J, R)) (P := True) [(.iconst 0, (0, 0, 0, 0, 0))] [] (by decide +kernel) rfl trivial ?_
            cases hf
            exact b_zret (by decide +kernel) rfl (by decide) hk
          · have hf := if_f h9 hf
            refine b_blk (pc' := 100) (ls' := [some (mR (12, 0, 177)), some (mI v1), some (mI ((2 : Int32) + (I 204 2))), none]) (st' := [mI (I 178 2), mR (12, 0, 177)]) (S' := (L, I, J, R)) (P := ((True ∧ R 177 0 = some (20, 1600, 178)) ∧ vp_in (2 : Int32) 1600)) [(.aload_n 0, (0, 0, 0, 0, 0)), (.aload_n 0, (0, 0, 0, 0, 0)), (.getfield 7, (12, 0, 3, 0, 0)), (.iconst 2, (0, 0, 0, 2, 0)), (.iaload, (0, 0, 0, 0, 0))] [some (20, 1600, 178)] (by decide +kernel) rfl ⟨⟨trivial, (r_177_0 hR)⟩, (vp_in_nI (n := 2) (N := 1600) (by decide) (by decide))⟩ ?_
            obtain ⟨r10, hc10, hf⟩ := bnd_o hf
            refine b_cV (as := [mI (I 178 2)]) (st := []) (by decide +kernel) k_12_663 n_MD_arePostsTold rfl (by decide) v_MD_arePostsTold (C_MD_arePostsTold I J (I 178 2) hR hc10) (Nat.le_of_ble_eq_true rfl) (by decide) rfl rfl (fun _ h => h) ?_
            show m_B G (m_rm 5 0 0) M_MD_isImage Q 0 0 103 [some (mR (12, 0, 177)), some (mI v1), some (mI ((2 : Int32) + (I 204 2))), none] [mI r10] (L, I, J, R)
            refine b_if_ne (off := 5) (tgt := 108) (by decide +kernel) (by decide) (fun h11 => ?_) (fun h11 => ?_)
            · have hf := if_f h11 hf
              refine b_blk (pc' := 110) (ls' := [some (mR (12, 0, 177)), some (mI v1), some (mI ((2 : Int32) + (I 204 2))), some (mI 0)]) (st' := []) (S' := (L, I, J, R)) (P := True) [(.iconst 0, (0, 0, 0, 0, 0)), (.istore_n 3, (0, 0, 0, 0, 0))] [] (by decide +kernel) rfl trivial ?_
              refine b_frg 1 ?_
              obtain ⟨t12, hw, hf⟩ := bnd_o hf
              refine wl_B (A := fun s : Int32 => m_B G (m_rm 5 0 0) M_MD_isImage Q 0 0 110 [some (mR (12, 0, 177)), none, some (mI ((2 : Int32) + (I 204 2))), some (mI s)] [] (L, I, J, R)) (B := (Sum.elim (fun s : Unit => m_B G (m_rm 5 0 0) M_MD_isImage Q 0 0 147 [none, none, none, none] [] (L, I, J, R)) (fun r : Int32 => Q (some (mI r)) (L, I, J, R)))) (fun s r hs hr => W_MD_isImage_110 I J ((2 : Int32) + (I 204 2)) s hR hs hr) hw ?_
              rcases t12 with t12 | q
              rotate_left
              · cases se_r hf; exact hk
              replace hf := se_l hf
              show m_B G (m_rm 5 0 0) M_MD_isImage Q 0 0 147 [none, none, none, none] [] (L, I, J, R)
              refine b_blk (pc' := 148) (ls' := [none, none, none, none]) (st' := [mI 1]) (S' := (L, I, J, R)) (P := True) [(.iconst 1, (0, 0, 0, 1, 0))] [] (by decide +kernel) rfl trivial ?_
              cases hf
              exact b_zret (by decide +kernel) rfl (by decide) hk
            · have hf := if_t h11 hf
              refine b_blk (pc' := 107) (ls' := [some (mR (12, 0, 177)), some (mI v1), some (mI ((2 : Int32) + (I 204 2))), none]) (st' := [mI 0]) (S' := (L, I, J, R)) (P := True) [(.iconst 0, (0, 0, 0, 0, 0))] [] (by decide +kernel) rfl trivial ?_
              cases hf
              exact b_zret (by decide +kernel) rfl (by decide) hk
theorem C_MD_isImage {G : MG} {L : List (Nat × Nat)} {R : Nat → Nat → Option MRef} (I : MI) (J : MJ) (v1 : Int32) (hR : RF R) {r : Int32} (hf : F_MD_isImage I v1 = some r) : m_met G 5 0 0 y_MD_isImage M_MD_isImage [mR (12, 0, 177), mI v1] (L, I, J, R) (m_is (some (mI r)) (L, I, J, R)) :=
  m_met_in n_MD_isImage (plainFor_of_name (by decide)) (by decide) (Nat.le_of_ble_eq_true rfl) (ls := [some (mR (12, 0, 177)), some (mI v1), none, none]) rfl (W_MD_isImage I J v1 hR hf ⟨rfl, rfl⟩)
noncomputable def F_MD_on_64 (I : MI) (v2 : Int32) (v3 : Int32) : Option ((Int32 × MI) ⊕ (MI)) :=
  if (6 : Int32) ≤ v3 then (some (.inr I)) else (gd ((1 : Int32) + v3) 176 <| some (.inl ((v3 + 1 : Int32), m_up I 213 (((1 : Int32) + v3).toNatClampNeg) (0 : Int32))))
set_option maxRecDepth 100000 in
set_option maxHeartbeats 400000 in
theorem W_MD_on_64 {G : MG} {Q : Option MV → MS → Prop} {L : List (Nat × Nat)} {R : Nat → Nat → Option MRef} (I : MI) (J : MJ) (v2 : Int32) (v3 : Int32) (hR : RF R) {r : (Int32 × MI) ⊕ (MI)} (hf : F_MD_on_64 I v2 v3 = some r) (hk : (Sum.elim (fun s : Int32 × MI => m_B G (m_rm 6 0 0) M_MD_on Q 0 0 64 [some (mR (12, 0, 177)), none, some (mI v2), some (mI s.1), none, none] [] (L, s.2, J, R)) (fun s : MI => m_B G (m_rm 6 0 0) M_MD_on Q 0 0 85 [some (mR (12, 0, 177)), none, some (mI v2), none, none, none] [] (L, s, J, R))) r) : m_B G (m_rm 6 0 0) M_MD_on Q 0 0 64 [some (mR (12, 0, 177)), none, some (mI v2), some (mI v3), none, none] [] (L, I, J, R) := by
  unfold F_MD_on_64 at hf
  refine b_blk (pc' := 67) (ls' := [some (mR (12, 0, 177)), none, some (mI v2), some (mI v3), none, none]) (st' := [mI 6, mI v3]) (S' := (L, I, J, R)) (P := True) [(.iload_n 3, (0, 0, 0, 0, 0)), (.bipush 6, (0, 0, 0, 6, 0))] [] (by decide +kernel) rfl trivial ?_
  refine b_icmp_ge (off := 18) (tgt := 85) (by decide +kernel) (by decide) (fun h1 => ?_) (fun h1 => ?_)
  · have hf := if_t h1 hf
    refine b_frg 3 ?_
    cases hf
    exact hk
  · have hf := if_f h1 hf
    obtain ⟨g2, hf⟩ := gd_s hf
    refine b_blk (pc' := 64) (ls' := [some (mR (12, 0, 177)), none, some (mI v2), some (mI (v3 + 1)), none, none]) (st' := []) (S' := (L, m_up I 213 (((1 : Int32) + v3).toNatClampNeg) (0 : Int32), J, R)) (P := ((True ∧ R 177 51 = some (20, 176, 213)) ∧ vp_in ((1 : Int32) + v3) 176)) [(.aload_n 0, (0, 0, 0, 0, 0)), (.getfield 121, (12, 51, 3, 0, 0)), (.iconst 1, (0, 0, 0, 1, 0)), (.iload_n 3, (0, 0, 0, 0, 0)), (.iadd, (0, 0, 0, 0, 0)), (.iconst 0, (0, 0, 0, 0, 0)), (.iastore, (0, 0, 0, 0, 0)), (.iinc 3 1, (0, 0, 0, 1, 0)), (.goto (-18), (0, 64, 0, 0, 0))] [some (20, 176, 213)] (by decide +kernel) rfl ⟨⟨trivial, (r_177_51 hR)⟩, (in_n (n := 176) (by decide) g2.1 g2.2)⟩ ?_
    cases hf
    exact hk
noncomputable def F_MD_on_87 (I : MI) (v2 : Int32) (v3 : Int32) : Option ((Int32 × MI) ⊕ (MI)) :=
  if (I 178 2) ≤ v3 then (some (.inr I)) else (gd ((3 : Int32) + ((2 : Int32) * v3)) 1600 <| gd ((1 : Int32) + (I 178 ((3 : Int32) + ((2 : Int32) * v3)).toNatClampNeg)) 176 <| gd ((4 : Int32) + ((2 : Int32) * v3)) 1600 <| gd ((1 : Int32) + (I 178 ((3 : Int32) + ((2 : Int32) * v3)).toNatClampNeg)) 176 <| bnd (m_up I 213 (((1 : Int32) + (I 178 ((3 : Int32) + ((2 : Int32) * v3)).toNatClampNeg)).toNatClampNeg) ((I 213 ((1 : Int32) + (I 178 ((3 : Int32) + ((2 : Int32) * v3)).toNatClampNeg)).toNatClampNeg) ||| ((1 : Int32) <<< ((I 178 ((4 : Int32) + ((2 : Int32) * v3)).toNatClampNeg) &&& 31))) : MI) fun x6 => some (.inl ((v3 + 1 : Int32), x6)))
set_option maxRecDepth 100000 in
set_option maxHeartbeats 400000 in
theorem W_MD_on_87 {G : MG} {Q : Option MV → MS → Prop} {L : List (Nat × Nat)} {R : Nat → Nat → Option MRef} (I : MI) (J : MJ) (v2 : Int32) (v3 : Int32) (hR : RF R) {r : (Int32 × MI) ⊕ (MI)} (hf : F_MD_on_87 I v2 v3 = some r) (hk : (Sum.elim (fun s : Int32 × MI => m_B G (m_rm 6 0 0) M_MD_on Q 0 0 87 [some (mR (12, 0, 177)), none, some (mI v2), some (mI s.1), none, none] [] (L, s.2, J, R)) (fun s : MI => m_B G (m_rm 6 0 0) M_MD_on Q 0 0 135 [some (mR (12, 0, 177)), none, some (mI v2), none, none, none] [] (L, s, J, R))) r) : m_B G (m_rm 6 0 0) M_MD_on Q 0 0 87 [some (mR (12, 0, 177)), none, some (mI v2), some (mI v3), none, none] [] (L, I, J, R) := by
  unfold F_MD_on_87 at hf
  refine b_blk (pc' := 94) (ls' := [some (mR (12, 0, 177)), none, some (mI v2), some (mI v3), none, none]) (st' := [mI (I 178 2), mI v3]) (S' := (L, I, J, R)) (P := ((True ∧ R 177 0 = some (20, 1600, 178)) ∧ vp_in (2 : Int32) 1600)) [(.iload_n 3, (0, 0, 0, 0, 0)), (.aload_n 0, (0, 0, 0, 0, 0)), (.getfield 7, (12, 0, 3, 0, 0)), (.iconst 2, (0, 0, 0, 2, 0)), (.iaload, (0, 0, 0, 0, 0))] [some (20, 1600, 178)] (by decide +kernel) rfl ⟨⟨trivial, (r_177_0 hR)⟩, (vp_in_nI (n := 2) (N := 1600) (by decide) (by decide))⟩ ?_
  refine b_icmp_ge (off := 41) (tgt := 135) (by decide +kernel) (by decide) (fun h1 => ?_) (fun h1 => ?_)
  · have hf := if_t h1 hf
    refine b_frg 3 ?_
    cases hf
    exact hk
  · have hf := if_f h1 hf
    obtain ⟨g2, hf⟩ := gd_s hf
    obtain ⟨g3, hf⟩ := gd_s hf
    obtain ⟨g4, hf⟩ := gd_s hf
    refine b_blk (pc' := 127) (ls' := [some (mR (12, 0, 177)), none, some (mI v2), some (mI v3), none, none]) (st' := [mI ((1 : Int32) <<< ((I 178 ((4 : Int32) + ((2 : Int32) * v3)).toNatClampNeg) &&& 31)), mI (I 213 ((1 : Int32) + (I 178 ((3 : Int32) + ((2 : Int32) * v3)).toNatClampNeg)).toNatClampNeg), mI ((1 : Int32) + (I 178 ((3 : Int32) + ((2 : Int32) * v3)).toNatClampNeg)), mR (20, 176, 213)]) (S' := (L, I, J, R)) (P := ((((((True ∧ R 177 51 = some (20, 176, 213)) ∧ R 177 0 = some (20, 1600, 178)) ∧ vp_in ((3 : Int32) + ((2 : Int32) * v3)) 1600) ∧ vp_in ((1 : Int32) + (I 178 ((3 : Int32) + ((2 : Int32) * v3)).toNatClampNeg)) 176) ∧ R 177 0 = some (20, 1600, 178)) ∧ vp_in ((4 : Int32) + ((2 : Int32) * v3)) 1600)) [(.aload_n 0, (0, 0, 0, 0, 0)), (.getfield 121, (12, 51, 3, 0, 0)), (.iconst 1, (0, 0, 0, 1, 0)), (.aload_n 0, (0, 0, 0, 0, 0)), (.getfield 7, (12, 0, 3, 0, 0)), (.iconst 3, (0, 0, 0, 3, 0)), (.iconst 2, (0, 0, 0, 2, 0)), (.iload_n 3, (0, 0, 0, 0, 0)), (.imul, (0, 0, 0, 0, 0)), (.iadd, (0, 0, 0, 0, 0)), (.iaload, (0, 0, 0, 0, 0)), (.iadd, (0, 0, 0, 0, 0)), (.dup2, (0, 0, 0, 0, 0)), (.iaload, (0, 0, 0, 0, 0)), (.iconst 1, (0, 0, 0, 1, 0)), (.aload_n 0, (0, 0, 0, 0, 0)), (.getfield 7, (12, 0, 3, 0, 0)), (.iconst 4, (0, 0, 0, 4, 0)), (.iconst 2, (0, 0, 0, 2, 0)), (.iload_n 3, (0, 0, 0, 0, 0)), (.imul, (0, 0, 0, 0, 0)), (.iadd, (0, 0, 0, 0, 0)), (.iaload, (0, 0, 0, 0, 0)), (.ishl, (0, 0, 0, 0, 0))] [some (20, 176, 213), some (20, 1600, 178), some (20, 1600, 178)] (by decide +kernel) rfl ⟨⟨⟨⟨⟨⟨trivial, (r_177_51 hR)⟩, (r_177_0 hR)⟩, (in_n (n := 1600) (by decide) g2.1 g2.2)⟩, (in_n (n := 176) (by decide) g3.1 g3.2)⟩, (r_177_0 hR)⟩, (in_n (n := 1600) (by decide) g4.1 g4.2)⟩ ?_
    obtain ⟨g5, hf⟩ := gd_s hf
    refine b_blk (pc' := 87) (ls' := [some (mR (12, 0, 177)), none, some (mI v2), some (mI (v3 + 1)), none, none]) (st' := []) (S' := (L, m_up I 213 (((1 : Int32) + (I 178 ((3 : Int32) + ((2 : Int32) * v3)).toNatClampNeg)).toNatClampNeg) ((I 213 ((1 : Int32) + (I 178 ((3 : Int32) + ((2 : Int32) * v3)).toNatClampNeg)).toNatClampNeg) ||| ((1 : Int32) <<< ((I 178 ((4 : Int32) + ((2 : Int32) * v3)).toNatClampNeg) &&& 31))), J, R)) (P := (True ∧ vp_in ((1 : Int32) + (I 178 ((3 : Int32) + ((2 : Int32) * v3)).toNatClampNeg)) 176)) [(.ior, (0, 0, 0, 0, 0)), (.iastore, (0, 0, 0, 0, 0)), (.iinc 3 1, (0, 0, 0, 1, 0)), (.goto (-45), (0, 87, 0, 0, 0))] [] (by decide +kernel) rfl ⟨trivial, (in_n (n := 176) (by decide) g5.1 g5.2)⟩ ?_
    obtain ⟨x6, ex6, hf⟩ := bnd_s hf
    refine m_B_cg (ls' := [some (mR (12, 0, 177)), none, some (mI v2), some (mI (v3 + 1)), none, none]) (st' := []) (S' := (L, x6, J, R)) (by first | with_reducible rfl | rw [ex6]) (by first | with_reducible rfl | rw [ex6]) (by first | with_reducible rfl | rw [ex6]) ?_
    cases hf
    exact hk
noncomputable def F_MD_on_206 (I : MI) (v2 : Int32) (v3 : Int32) (v4 : Int32) (v5 : Int32) : Option ((Int32 × MI) ⊕ (MI)) :=
  if (I 204 2) ≤ v5 then (some (.inr I)) else (gd ((v4 + (2 : Int32)) + v5) 1600 <| if (I 178 ((v4 + (2 : Int32)) + v5).toNatClampNeg) = (255 : Int32) then ((F_MD_rowIs I v3 v5 (-1 : Int32)).bind fun r6 => some (.inl ((v5 + 1 : Int32), r6))) else (gd ((v4 + (2 : Int32)) + v5) 1600 <| (F_MD_rowIs I v3 v5 (I 178 ((v4 + (2 : Int32)) + v5).toNatClampNeg)).bind fun r5 => some (.inl ((v5 + 1 : Int32), r5))))
set_option maxRecDepth 100000 in
set_option maxHeartbeats 400000 in
theorem W_MD_on_206 {G : MG} {Q : Option MV → MS → Prop} {L : List (Nat × Nat)} {R : Nat → Nat → Option MRef} (I : MI) (J : MJ) (v2 : Int32) (v3 : Int32) (v4 : Int32) (v5 : Int32) (hR : RF R) {r : (Int32 × MI) ⊕ (MI)} (hf : F_MD_on_206 I v2 v3 v4 v5 = some r) (hk : (Sum.elim (fun s : Int32 × MI => m_B G (m_rm 6 0 0) M_MD_on Q 0 0 206 [some (mR (12, 0, 177)), none, some (mI v2), some (mI v3), some (mI v4), some (mI s.1)] [] (L, s.2, J, R)) (fun s : MI => m_B G (m_rm 6 0 0) M_MD_on Q 0 0 264 [some (mR (12, 0, 177)), none, some (mI v2), some (mI v3), none, none] [] (L, s, J, R))) r) : m_B G (m_rm 6 0 0) M_MD_on Q 0 0 206 [some (mR (12, 0, 177)), none, some (mI v2), some (mI v3), some (mI v4), some (mI v5)] [] (L, I, J, R) := by
  unfold F_MD_on_206 at hf
  refine b_blk (pc' := 214) (ls' := [some (mR (12, 0, 177)), none, some (mI v2), some (mI v3), some (mI v4), some (mI v5)]) (st' := [mI (I 204 2), mI v5]) (S' := (L, I, J, R)) (P := ((True ∧ R 177 36 = some (20, 4, 204)) ∧ vp_in (2 : Int32) 4)) [(.iload 5, (0, 0, 0, 0, 0)), (.aload_n 0, (0, 0, 0, 0, 0)), (.getfield 93, (12, 36, 3, 0, 0)), (.iconst 2, (0, 0, 0, 2, 0)), (.iaload, (0, 0, 0, 0, 0))] [some (20, 4, 204)] (by decide +kernel) rfl ⟨⟨trivial, (r_177_36 hR)⟩, (vp_in_nI (n := 2) (N := 4) (by decide) (by decide))⟩ ?_
  refine b_icmp_ge (off := 50) (tgt := 264) (by decide +kernel) (by decide) (fun h1 => ?_) (fun h1 => ?_)
  · have hf := if_t h1 hf
    refine b_frg 4 ?_
    refine b_frg 5 ?_
    cases hf
    exact hk
  · have hf := if_f h1 hf
    obtain ⟨g2, hf⟩ := gd_s hf
    refine b_blk (pc' := 236) (ls' := [some (mR (12, 0, 177)), none, some (mI v2), some (mI v3), some (mI v4), some (mI v5)]) (st' := [mI 255, mI (I 178 ((v4 + (2 : Int32)) + v5).toNatClampNeg), mI v5, mI v3, mR (12, 0, 177)]) (S' := (L, I, J, R)) (P := ((True ∧ R 177 0 = some (20, 1600, 178)) ∧ vp_in ((v4 + (2 : Int32)) + v5) 1600)) [(.aload_n 0, (0, 0, 0, 0, 0)), (.iload_n 3, (0, 0, 0, 0, 0)), (.iload 5, (0, 0, 0, 0, 0)), (.aload_n 0, (0, 0, 0, 0, 0)), (.getfield 7, (12, 0, 3, 0, 0)), (.iload 4, (0, 0, 0, 0, 0)), (.iconst 2, (0, 0, 0, 2, 0)), (.iadd, (0, 0, 0, 0, 0)), (.iload 5, (0, 0, 0, 0, 0)), (.iadd, (0, 0, 0, 0, 0)), (.iaload, (0, 0, 0, 0, 0)), (.sipush 255, (0, 0, 0, 255, 0))] [some (20, 1600, 178)] (by decide +kernel) rfl ⟨⟨trivial, (r_177_0 hR)⟩, (in_n (n := 1600) (by decide) g2.1 g2.2)⟩ ?_
    refine b_icmp_ne (off := 7) (tgt := 243) (by decide +kernel) (by decide) (fun h3 => ?_) (fun h3 => ?_)
    · have hf := if_f h3 hf
      obtain ⟨g4, hf⟩ := gd_s hf
      refine b_blk (pc' := 255) (ls' := [some (mR (12, 0, 177)), none, some (mI v2), some (mI v3), some (mI v4), some (mI v5)]) (st' := [mI (I 178 ((v4 + (2 : Int32)) + v5).toNatClampNeg), mI v5, mI v3, mR (12, 0, 177)]) (S' := (L, I, J, R)) (P := ((True ∧ R 177 0 = some (20, 1600, 178)) ∧ vp_in ((v4 + (2 : Int32)) + v5) 1600)) [(.aload_n 0, (0, 0, 0, 0, 0)), (.getfield 7, (12, 0, 3, 0, 0)), (.iload 4, (0, 0, 0, 0, 0)), (.iconst 2, (0, 0, 0, 2, 0)), (.iadd, (0, 0, 0, 0, 0)), (.iload 5, (0, 0, 0, 0, 0)), (.iadd, (0, 0, 0, 0, 0)), (.iaload, (0, 0, 0, 0, 0))] [some (20, 1600, 178)] (by decide +kernel) rfl ⟨⟨trivial, (r_177_0 hR)⟩, (in_n (n := 1600) (by decide) g4.1 g4.2)⟩ ?_
      obtain ⟨r5, hc5, hf⟩ := bnd_o hf
      refine b_cV (as := [mI v3, mI v5, mI (I 178 ((v4 + (2 : Int32)) + v5).toNatClampNeg)]) (st := []) (by decide +kernel) k_12_426 n_MD_rowIs rfl (by decide) v_MD_rowIs (C_MD_rowIs I J v3 v5 (I 178 ((v4 + (2 : Int32)) + v5).toNatClampNeg) hR hc5) (Nat.le_of_ble_eq_true rfl) (by decide) rfl rfl (fun _ h => h) ?_
      show m_B G (m_rm 6 0 0) M_MD_on Q 0 0 258 [some (mR (12, 0, 177)), none, some (mI v2), some (mI v3), some (mI v4), some (mI v5)] [] (L, r5, J, R)
      refine b_blk (pc' := 206) (ls' := [some (mR (12, 0, 177)), none, some (mI v2), some (mI v3), some (mI v4), some (mI (v5 + 1))]) (st' := []) (S' := (L, r5, J, R)) (P := True) [(.iinc 5 1, (0, 0, 0, 1, 0)), (.goto (-55), (0, 206, 0, 0, 0))] [] (by decide +kernel) rfl trivial ?_
      cases hf
      exact hk
    · have hf := if_t h3 hf
      refine b_blk (pc' := 255) (ls' := [some (mR (12, 0, 177)), none, some (mI v2), some (mI v3), some (mI v4), some (mI v5)]) (st' := [mI (-1), mI v5, mI v3, mR (12, 0, 177)]) (S' := (L, I, J, R)) (P := True) [(.iconst (-1), (0, 0, 0, (-1), 0)), (.goto 15, (0, 255, 0, 0, 0))] [] (by decide +kernel) rfl trivial ?_
      obtain ⟨r6, hc6, hf⟩ := bnd_o hf
      refine b_cV (as := [mI v3, mI v5, mI (-1)]) (st := []) (by decide +kernel) k_12_426 n_MD_rowIs rfl (by decide) v_MD_rowIs (C_MD_rowIs I J v3 v5 (-1 : Int32) hR hc6) (Nat.le_of_ble_eq_true rfl) (by decide) rfl rfl (fun _ h => h) ?_
      show m_B G (m_rm 6 0 0) M_MD_on Q 0 0 258 [some (mR (12, 0, 177)), none, some (mI v2), some (mI v3), some (mI v4), some (mI v5)] [] (L, r6, J, R)
      refine b_blk (pc' := 206) (ls' := [some (mR (12, 0, 177)), none, some (mI v2), some (mI v3), some (mI v4), some (mI (v5 + 1))]) (st' := []) (S' := (L, r6, J, R)) (P := True) [(.iinc 5 1, (0, 0, 0, 1, 0)), (.goto (-55), (0, 206, 0, 0, 0))] [] (by decide +kernel) rfl trivial ?_
      cases hf
      exact hk
noncomputable def F_MD_on_137 (I : MI) (v2 : Int32) (v3 : Int32) : Option ((Int32 × MI) ⊕ (MI)) :=
  (F_MD_fenceMany I).bind fun r1 => if r1 ≤ v3 then (some (.inr I)) else (gd (((3 : Int32) + ((2 : Int32) * (I 178 2))) + (v2 * v3)) 1600 <| gd ((7 : Int32) + ((8 : Int32) * v3)) 176 <| gd ((((3 : Int32) + ((2 : Int32) * (I 178 2))) + (v2 * v3)) + (1 : Int32)) 1600 <| gd (((7 : Int32) + ((8 : Int32) * v3)) + (1 : Int32)) 176 <| bnd (m_up (m_up I 213 (((7 : Int32) + ((8 : Int32) * v3)).toNatClampNeg) (I 178 (((3 : Int32) + ((2 : Int32) * (I 178 2))) + (v2 * v3)).toNatClampNeg)) 213 ((((7 : Int32) + ((8 : Int32) * v3)) + (1 : Int32)).toNatClampNeg) (I 178 ((((3 : Int32) + ((2 : Int32) * (I 178 2))) + (v2 * v3)) + (1 : Int32)).toNatClampNeg) : MI) fun x7 => (wl (fun s : Int32 × MI => F_MD_on_206 s.2 v2 v3 (((3 : Int32) + ((2 : Int32) * (I 178 2))) + (v2 * v3)) s.1) ((0 : Int32), x7)).bind fun t8 => some (.inl ((v3 + 1 : Int32), t8)))
set_option maxRecDepth 100000 in
set_option maxHeartbeats 400000 in
theorem W_MD_on_137 {G : MG} {Q : Option MV → MS → Prop} {L : List (Nat × Nat)} {R : Nat → Nat → Option MRef} (I : MI) (J : MJ) (v2 : Int32) (v3 : Int32) (hR : RF R) {r : (Int32 × MI) ⊕ (MI)} (hf : F_MD_on_137 I v2 v3 = some r) (hk : (Sum.elim (fun s : Int32 × MI => m_B G (m_rm 6 0 0) M_MD_on Q 0 0 137 [some (mR (12, 0, 177)), none, some (mI v2), some (mI s.1), none, none] [] (L, s.2, J, R)) (fun s : MI => m_B G (m_rm 6 0 0) M_MD_on Q 0 0 270 [some (mR (12, 0, 177)), none, none, none, none, none] [] (L, s, J, R))) r) : m_B G (m_rm 6 0 0) M_MD_on Q 0 0 137 [some (mR (12, 0, 177)), none, some (mI v2), some (mI v3), none, none] [] (L, I, J, R) := by
  unfold F_MD_on_137 at hf
  refine b_blk (pc' := 139) (ls' := [some (mR (12, 0, 177)), none, some (mI v2), some (mI v3), none, none]) (st' := [mR (12, 0, 177), mI v3]) (S' := (L, I, J, R)) (P := True) [(.iload_n 3, (0, 0, 0, 0, 0)), (.aload_n 0, (0, 0, 0, 0, 0))] [] (by decide +kernel) rfl trivial ?_
  obtain ⟨r1, hc1, hf⟩ := bnd_o hf
  refine b_cV (as := []) (st := [mI v3]) (by decide +kernel) k_12_382 n_MD_fenceMany rfl (by decide) v_MD_fenceMany (C_MD_fenceMany I J hR hc1) (Nat.le_of_ble_eq_true rfl) (by decide) rfl rfl (fun _ h => h) ?_
  show m_B G (m_rm 6 0 0) M_MD_on Q 0 0 142 [some (mR (12, 0, 177)), none, some (mI v2), some (mI v3), none, none] [mI r1, mI v3] (L, I, J, R)
  refine b_icmp_ge (off := 128) (tgt := 270) (by decide +kernel) (by decide) (fun h2 => ?_) (fun h2 => ?_)
  · have hf := if_t h2 hf
    refine b_frg 2 ?_
    refine b_frg 3 ?_
    cases hf
    exact hk
  · have hf := if_f h2 hf
    obtain ⟨g3, hf⟩ := gd_s hf
    refine b_blk (pc' := 179) (ls' := [some (mR (12, 0, 177)), none, some (mI v2), some (mI v3), some (mI (((3 : Int32) + ((2 : Int32) * (I 178 2))) + (v2 * v3))), none]) (st' := [mI (I 178 (((3 : Int32) + ((2 : Int32) * (I 178 2))) + (v2 * v3)).toNatClampNeg), mI ((7 : Int32) + ((8 : Int32) * v3)), mR (20, 176, 213)]) (S' := (L, I, J, R)) (P := (((((True ∧ R 177 0 = some (20, 1600, 178)) ∧ vp_in (2 : Int32) 1600) ∧ R 177 51 = some (20, 176, 213)) ∧ R 177 0 = some (20, 1600, 178)) ∧ vp_in (((3 : Int32) + ((2 : Int32) * (I 178 2))) + (v2 * v3)) 1600)) [(.iconst 3, (0, 0, 0, 3, 0)), (.iconst 2, (0, 0, 0, 2, 0)), (.aload_n 0, (0, 0, 0, 0, 0)), (.getfield 7, (12, 0, 3, 0, 0)), (.iconst 2, (0, 0, 0, 2, 0)), (.iaload, (0, 0, 0, 0, 0)), (.imul, (0, 0, 0, 0, 0)), (.iadd, (0, 0, 0, 0, 0)), (.iload_n 2, (0, 0, 0, 0, 0)), (.iload_n 3, (0, 0, 0, 0, 0)), (.imul, (0, 0, 0, 0, 0)), (.iadd, (0, 0, 0, 0, 0)), (.istore 4, (0, 0, 0, 0, 0)), (.aload_n 0, (0, 0, 0, 0, 0)), (.getfield 121, (12, 51, 3, 0, 0)), (.bipush 7, (0, 0, 0, 7, 0)), (.bipush 8, (0, 0, 0, 8, 0)), (.iload_n 3, (0, 0, 0, 0, 0)), (.imul, (0, 0, 0, 0, 0)), (.iadd, (0, 0, 0, 0, 0)), (.aload_n 0, (0, 0, 0, 0, 0)), (.getfield 7, (12, 0, 3, 0, 0)), (.iload 4, (0, 0, 0, 0, 0)), (.iaload, (0, 0, 0, 0, 0))] [some (20, 1600, 178), some (20, 176, 213), some (20, 1600, 178)] (by decide +kernel) rfl ⟨⟨⟨⟨⟨trivial, (r_177_0 hR)⟩, (vp_in_nI (n := 2) (N := 1600) (by decide) (by decide))⟩, (r_177_51 hR)⟩, (r_177_0 hR)⟩, (in_n (n := 1600) (by decide) g3.1 g3.2)⟩ ?_
    obtain ⟨g4, hf⟩ := gd_s hf
    obtain ⟨g5, hf⟩ := gd_s hf
    obtain ⟨g6, hf⟩ := gd_s hf
    refine b_blk (pc' := 206) (ls' := [some (mR (12, 0, 177)), none, some (mI v2), some (mI v3), some (mI (((3 : Int32) + ((2 : Int32) * (I 178 2))) + (v2 * v3))), some (mI 0)]) (st' := []) (S' := (L, m_up (m_up I 213 (((7 : Int32) + ((8 : Int32) * v3)).toNatClampNeg) (I 178 (((3 : Int32) + ((2 : Int32) * (I 178 2))) + (v2 * v3)).toNatClampNeg)) 213 ((((7 : Int32) + ((8 : Int32) * v3)) + (1 : Int32)).toNatClampNeg) (I 178 ((((3 : Int32) + ((2 : Int32) * (I 178 2))) + (v2 * v3)) + (1 : Int32)).toNatClampNeg), J, R)) (P := (((((True ∧ vp_in ((7 : Int32) + ((8 : Int32) * v3)) 176) ∧ R 177 51 = some (20, 176, 213)) ∧ R 177 0 = some (20, 1600, 178)) ∧ vp_in ((((3 : Int32) + ((2 : Int32) * (I 178 2))) + (v2 * v3)) + (1 : Int32)) 1600) ∧ vp_in (((7 : Int32) + ((8 : Int32) * v3)) + (1 : Int32)) 176)) [(.iastore, (0, 0, 0, 0, 0)), (.aload_n 0, (0, 0, 0, 0, 0)), (.getfield 121, (12, 51, 3, 0, 0)), (.bipush 7, (0, 0, 0, 7, 0)), (.bipush 8, (0, 0, 0, 8, 0)), (.iload_n 3, (0, 0, 0, 0, 0)), (.imul, (0, 0, 0, 0, 0)), (.iadd, (0, 0, 0, 0, 0)), (.iconst 1, (0, 0, 0, 1, 0)), (.iadd, (0, 0, 0, 0, 0)), (.aload_n 0, (0, 0, 0, 0, 0)), (.getfield 7, (12, 0, 3, 0, 0)), (.iload 4, (0, 0, 0, 0, 0)), (.iconst 1, (0, 0, 0, 1, 0)), (.iadd, (0, 0, 0, 0, 0)), (.iaload, (0, 0, 0, 0, 0)), (.iastore, (0, 0, 0, 0, 0)), (.iconst 0, (0, 0, 0, 0, 0)), (.istore 5, (0, 0, 0, 0, 0))] [some (20, 176, 213), some (20, 1600, 178)] (by decide +kernel) rfl ⟨⟨⟨⟨⟨trivial, (in_n (n := 176) (by decide) g4.1 g4.2)⟩, (r_177_51 hR)⟩, (r_177_0 hR)⟩, (in_n (n := 1600) (by decide) g5.1 g5.2)⟩, (in_n (n := 176) (by decide) g6.1 g6.2)⟩ ?_
    obtain ⟨x7, ex7, hf⟩ := bnd_s hf
    refine m_B_cg (ls' := [some (mR (12, 0, 177)), none, some (mI v2), some (mI v3), some (mI (((3 : Int32) + ((2 : Int32) * (I 178 2))) + (v2 * v3))), some (mI 0)]) (st' := []) (S' := (L, x7, J, R)) (by first | with_reducible rfl | rw [ex7]) (by first | with_reducible rfl | rw [ex7]) (by first | with_reducible rfl | rw [ex7]) ?_
    obtain ⟨t8, hw, hf⟩ := bnd_o hf
    refine wl_B (A := fun s : Int32 × MI => m_B G (m_rm 6 0 0) M_MD_on Q 0 0 206 [some (mR (12, 0, 177)), none, some (mI v2), some (mI v3), some (mI (((3 : Int32) + ((2 : Int32) * (I 178 2))) + (v2 * v3))), some (mI s.1)] [] (L, s.2, J, R)) (B := (fun s : MI => m_B G (m_rm 6 0 0) M_MD_on Q 0 0 264 [some (mR (12, 0, 177)), none, some (mI v2), some (mI v3), none, none] [] (L, s, J, R))) (fun s r hs hr => W_MD_on_206 s.2 J v2 v3 (((3 : Int32) + ((2 : Int32) * (I 178 2))) + (v2 * v3)) s.1 hR hs hr) hw ?_
    show m_B G (m_rm 6 0 0) M_MD_on Q 0 0 264 [some (mR (12, 0, 177)), none, some (mI v2), some (mI v3), none, none] [] (L, t8, J, R)
    refine b_blk (pc' := 137) (ls' := [some (mR (12, 0, 177)), none, some (mI v2), some (mI (v3 + 1)), none, none]) (st' := []) (S' := (L, t8, J, R)) (P := True) [(.iinc 3 1, (0, 0, 0, 1, 0)), (.goto (-130), (0, 137, 0, 0, 0))] [] (by decide +kernel) rfl trivial ?_
    cases hf
    exact hk
noncomputable def F_MD_on (I : MI) : Option (Int32 × MI) :=
  (F_MD_isImage (m_up I 177 1 (0 : Int32)) (I 177 1)).bind fun r1 => if r1 = (0 : Int32) then (some ((0 : Int32), m_up (m_up I 177 1 (0 : Int32)) 179 5 ((I 179 5) + (1 : Int32)))) else ((wl (fun s : Int32 × MI => F_MD_on_64 s.2 ((2 : Int32) + (I 204 2)) s.1) ((0 : Int32), m_up (m_up I 177 1 (0 : Int32)) 213 0 (((256 : Int32) * (I 178 0)) + (I 178 1)))).bind fun t3 => (wl (fun s : Int32 × MI => F_MD_on_87 s.2 ((2 : Int32) + (I 204 2)) s.1) ((0 : Int32), t3)).bind fun t4 => (wl (fun s : Int32 × MI => F_MD_on_137 s.2 ((2 : Int32) + (I 204 2)) s.1) ((0 : Int32), t4)).bind fun t5 => some ((1 : Int32), m_up (m_up t5 213 55 (0 : Int32)) 177 66 (0 : Int32)))
set_option maxRecDepth 100000 in
set_option maxHeartbeats 400000 in
theorem W_MD_on {G : MG} {Q : Option MV → MS → Prop} {L : List (Nat × Nat)} {R : Nat → Nat → Option MRef} (I : MI) (J : MJ) (hR : RF R) {r : Int32 × MI} (hf : F_MD_on I = some r) (hk : (fun r : Int32 × MI => Q (some (mI r.1)) (L, r.2, J, R)) r) : m_B G (m_rm 6 0 0) M_MD_on Q 0 0 0 [some (mR (12, 0, 177)), none, none, none, none, none] [] (L, I, J, R) := by
  unfold F_MD_on at hf
  refine b_blk (pc' := 12) (ls' := [some (mR (12, 0, 177)), some (mI (I 177 1)), none, none, none, none]) (st' := [mI (I 177 1), mR (12, 0, 177)]) (S' := (L, m_up I 177 1 (0 : Int32), J, R)) (P := True) [(.aload_n 0, (0, 0, 0, 0, 0)), (.getfield 231, (12, 1, 0, 0, 0)), (.istore_n 1, (0, 0, 0, 0, 0)), (.aload_n 0, (0, 0, 0, 0, 0)), (.iconst 0, (0, 0, 0, 0, 0)), (.putfield 231, (12, 1, 0, 0, 0)), (.aload_n 0, (0, 0, 0, 0, 0)), (.iload_n 1, (0, 0, 0, 0, 0))] [] (by decide +kernel) rfl trivial ?_
  obtain ⟨r1, hc1, hf⟩ := bnd_o hf
  refine b_cV (as := [mI (I 177 1)]) (st := []) (by decide +kernel) k_12_669 n_MD_isImage rfl (by decide) v_MD_isImage (C_MD_isImage (m_up I 177 1 (0 : Int32)) J (I 177 1) hR hc1) (Nat.le_of_ble_eq_true rfl) (by decide) rfl rfl (fun _ h => h) ?_
  show m_B G (m_rm 6 0 0) M_MD_on Q 0 0 15 [some (mR (12, 0, 177)), some (mI (I 177 1)), none, none, none, none] [mI r1] (L, m_up I 177 1 (0 : Int32), J, R)
  refine b_if_ne (off := 15) (tgt := 30) (by decide +kernel) (by decide) (fun h2 => ?_) (fun h2 => ?_)
  · have hf := if_f h2 hf
    refine b_blk (pc' := 64) (ls' := [some (mR (12, 0, 177)), some (mI (I 177 1)), some (mI ((2 : Int32) + (I 204 2))), some (mI 0), none, none]) (st' := []) (S' := (L, m_up (m_up I 177 1 (0 : Int32)) 213 0 (((256 : Int32) * (I 178 0)) + (I 178 1)), J, R)) (P := ((((((((True ∧ R 177 36 = some (20, 4, 204)) ∧ vp_in (2 : Int32) 4) ∧ R 177 51 = some (20, 176, 213)) ∧ R 177 0 = some (20, 1600, 178)) ∧ vp_in (0 : Int32) 1600) ∧ R 177 0 = some (20, 1600, 178)) ∧ vp_in (1 : Int32) 1600) ∧ vp_in (0 : Int32) 176)) [(.iconst 2, (0, 0, 0, 2, 0)), (.aload_n 0, (0, 0, 0, 0, 0)), (.getfield 93, (12, 36, 3, 0, 0)), (.iconst 2, (0, 0, 0, 2, 0)), (.iaload, (0, 0, 0, 0, 0)), (.iadd, (0, 0, 0, 0, 0)), (.istore_n 2, (0, 0, 0, 0, 0)), (.aload_n 0, (0, 0, 0, 0, 0)), (.getfield 121, (12, 51, 3, 0, 0)), (.iconst 0, (0, 0, 0, 0, 0)), (.sipush 256, (0, 0, 0, 256, 0)), (.aload_n 0, (0, 0, 0, 0, 0)), (.getfield 7, (12, 0, 3, 0, 0)), (.iconst 0, (0, 0, 0, 0, 0)), (.iaload, (0, 0, 0, 0, 0)), (.imul, (0, 0, 0, 0, 0)), (.aload_n 0, (0, 0, 0, 0, 0)), (.getfield 7, (12, 0, 3, 0, 0)), (.iconst 1, (0, 0, 0, 1, 0)), (.iaload, (0, 0, 0, 0, 0)), (.iadd, (0, 0, 0, 0, 0)), (.iastore, (0, 0, 0, 0, 0)), (.iconst 0, (0, 0, 0, 0, 0)), (.istore_n 3, (0, 0, 0, 0, 0))] [some (20, 4, 204), some (20, 176, 213), some (20, 1600, 178), some (20, 1600, 178)] (by decide +kernel) rfl ⟨⟨⟨⟨⟨⟨⟨⟨trivial, (r_177_36 hR)⟩, (vp_in_nI (n := 2) (N := 4) (by decide) (by decide))⟩, (r_177_51 hR)⟩, (r_177_0 hR)⟩, (vp_in_nI (n := 0) (N := 1600) (by decide) (by decide))⟩, (r_177_0 hR)⟩, (vp_in_nI (n := 1) (N := 1600) (by decide) (by decide))⟩, (vp_in_nI (n := 0) (N := 176) (by decide) (by decide))⟩ ?_
    refine b_frg 1 ?_
    obtain ⟨t3, hw, hf⟩ := bnd_o hf
    refine wl_B (A := fun s : Int32 × MI => m_B G (m_rm 6 0 0) M_MD_on Q 0 0 64 [some (mR (12, 0, 177)), none, some (mI ((2 : Int32) + (I 204 2))), some (mI s.1), none, none] [] (L, s.2, J, R)) (B := (fun s : MI => m_B G (m_rm 6 0 0) M_MD_on Q 0 0 85 [some (mR (12, 0, 177)), none, some (mI ((2 : Int32) + (I 204 2))), none, none, none] [] (L, s, J, R))) (fun s r hs hr => W_MD_on_64 s.2 J ((2 : Int32) + (I 204 2)) s.1 hR hs hr) hw ?_
    show m_B G (m_rm 6 0 0) M_MD_on Q 0 0 85 [some (mR (12, 0, 177)), none, some (mI ((2 : Int32) + (I 204 2))), none, none, none] [] (L, t3, J, R)
    refine b_blk (pc' := 87) (ls' := [some (mR (12, 0, 177)), none, some (mI ((2 : Int32) + (I 204 2))), some (mI 0), none, none]) (st' := []) (S' := (L, t3, J, R)) (P := True) [(.iconst 0, (0, 0, 0, 0, 0)), (.istore_n 3, (0, 0, 0, 0, 0))] [] (by decide +kernel) rfl trivial ?_
    obtain ⟨t4, hw, hf⟩ := bnd_o hf
    refine wl_B (A := fun s : Int32 × MI => m_B G (m_rm 6 0 0) M_MD_on Q 0 0 87 [some (mR (12, 0, 177)), none, some (mI ((2 : Int32) + (I 204 2))), some (mI s.1), none, none] [] (L, s.2, J, R)) (B := (fun s : MI => m_B G (m_rm 6 0 0) M_MD_on Q 0 0 135 [some (mR (12, 0, 177)), none, some (mI ((2 : Int32) + (I 204 2))), none, none, none] [] (L, s, J, R))) (fun s r hs hr => W_MD_on_87 s.2 J ((2 : Int32) + (I 204 2)) s.1 hR hs hr) hw ?_
    show m_B G (m_rm 6 0 0) M_MD_on Q 0 0 135 [some (mR (12, 0, 177)), none, some (mI ((2 : Int32) + (I 204 2))), none, none, none] [] (L, t4, J, R)
    refine b_blk (pc' := 137) (ls' := [some (mR (12, 0, 177)), none, some (mI ((2 : Int32) + (I 204 2))), some (mI 0), none, none]) (st' := []) (S' := (L, t4, J, R)) (P := True) [(.iconst 0, (0, 0, 0, 0, 0)), (.istore_n 3, (0, 0, 0, 0, 0))] [] (by decide +kernel) rfl trivial ?_
    obtain ⟨t5, hw, hf⟩ := bnd_o hf
    refine wl_B (A := fun s : Int32 × MI => m_B G (m_rm 6 0 0) M_MD_on Q 0 0 137 [some (mR (12, 0, 177)), none, some (mI ((2 : Int32) + (I 204 2))), some (mI s.1), none, none] [] (L, s.2, J, R)) (B := (fun s : MI => m_B G (m_rm 6 0 0) M_MD_on Q 0 0 270 [some (mR (12, 0, 177)), none, none, none, none, none] [] (L, s, J, R))) (fun s r hs hr => W_MD_on_137 s.2 J ((2 : Int32) + (I 204 2)) s.1 hR hs hr) hw ?_
    show m_B G (m_rm 6 0 0) M_MD_on Q 0 0 270 [some (mR (12, 0, 177)), none, none, none, none, none] [] (L, t5, J, R)
    refine b_blk (pc' := 284) (ls' := [some (mR (12, 0, 177)), none, none, none, none, none]) (st' := [mI 1]) (S' := (L, m_up (m_up t5 213 55 (0 : Int32)) 177 66 (0 : Int32), J, R)) (P := ((True ∧ R 177 51 = some (20, 176, 213)) ∧ vp_in (55 : Int32) 176)) [(.aload_n 0, (0, 0, 0, 0, 0)), (.getfield 121, (12, 51, 3, 0, 0)), (.bipush 55, (0, 0, 0, 55, 0)), (.iconst 0, (0, 0, 0, 0, 0)), (.iastore, (0, 0, 0, 0, 0)), (.aload_n 0, (0, 0, 0, 0, 0)), (.iconst 0, (0, 0, 0, 0, 0)), (.putfield 376, (12, 66, 0, 0, 0)), (.iconst 1, (0, 0, 0, 1, 0))] [some (20, 176, 213)] (by decide +kernel) rfl ⟨⟨trivial, (r_177_51 hR)⟩, (vp_in_nI (n := 55) (N := 176) (by decide) (by decide))⟩ ?_
    cases hf
    exact b_zret (by decide +kernel) rfl (by decide) hk
  · have hf := if_t h2 hf
    refine b_blk (pc' := 29) (ls' := [some (mR (12, 0, 177)), some (mI (I 177 1)), none, none, none, none]) (st' := [mI 0]) (S' := (L, m_up (m_up I 177 1 (0 : Int32)) 179 5 ((I 179 5) + (1 : Int32)), J, R)) (P := (((True ∧ R 177 9 = some (20, 6, 179)) ∧ vp_in (5 : Int32) 6) ∧ vp_in (5 : Int32) 6)) [(.aload_n 0, (0, 0, 0, 0, 0)), (.getfield 17, (12, 9, 3, 0, 0)), (.iconst 5, (0, 0, 0, 5, 0)), (.dup2, (0, 0, 0, 0, 0)), (.iaload, (0, 0, 0, 0, 0)), (.iconst 1, (0, 0, 0, 1, 0)), (.iadd, (0, 0, 0, 0, 0)), (.iastore, (0, 0, 0, 0, 0)), (.iconst 0, (0, 0, 0, 0, 0))] [some (20, 6, 179)] (by decide +kernel) rfl ⟨⟨⟨trivial, (r_177_9 hR)⟩, (vp_in_nI (n := 5) (N := 6) (by decide) (by decide))⟩, (vp_in_nI (n := 5) (N := 6) (by decide) (by decide))⟩ ?_
    cases hf
    exact b_zret (by decide +kernel) rfl (by decide) hk
theorem C_MD_on {G : MG} {L : List (Nat × Nat)} {R : Nat → Nat → Option MRef} (I : MI) (J : MJ) (hR : RF R) {r : Int32 × MI} (hf : F_MD_on I = some r) : m_met G 6 0 0 y_MD_on M_MD_on [mR (12, 0, 177)] (L, I, J, R) (m_is (some (mI r.1)) (L, r.2, J, R)) :=
  m_met_in n_MD_on (plainFor_of_name (by decide)) (by decide) (Nat.le_of_ble_eq_true rfl) (ls := [some (mR (12, 0, 177)), none, none, none, none, none]) rfl (W_MD_on I J hR hf ⟨rfl, rfl⟩)
noncomputable def F_MD_status (I : MI) (v1 : Int32) : Option (Int32) :=
  (F_MD_isIn v1.toInt64 (0 : Int64) (5 : Int64)).bind fun r1 => if r1 = (0 : Int32) then (some ((-1) : Int32)) else (gd v1 6 <| some (I 179 v1.toNatClampNeg : Int32))
set_option maxRecDepth 100000 in
set_option maxHeartbeats 400000 in
theorem W_MD_status {G : MG} {Q : Option MV → MS → Prop} {L : List (Nat × Nat)} {R : Nat → Nat → Option MRef} (I : MI) (J : MJ) (v1 : Int32) (hR : RF R) {r : Int32} (hf : F_MD_status I v1 = some r) (hk : (fun r : Int32 => Q (some (mI r)) (L, I, J, R)) r) : m_B G (m_rm 2 0 0) M_MD_status Q 0 0 0 [some (mR (12, 0, 177)), some (mI v1)] [] (L, I, J, R) := by
  unfold F_MD_status at hf
  refine b_blk (pc' := 6) (ls' := [some (mR (12, 0, 177)), some (mI v1)]) (st' := [mJ 5, mJ 0, mJ v1.toInt64]) (S' := (L, I, J, R)) (P := True) [(.iload_n 1, (0, 0, 0, 0, 0)), (.i2l, (0, 0, 0, 0, 0)), (.lconst 0, (0, 0, 0, 0, 0)), (.ldc2_w 485, (0, 0, 0, 0, 5))] [] (by decide +kernel) rfl trivial ?_
  obtain ⟨r1, hc1, hf⟩ := bnd_o hf
  refine b_cS (as := [mJ v1.toInt64, mJ 0, mJ 5]) (st := []) (by decide +kernel) k_12_277 n_MD_isIn s_MD_isIn (C_MD_isIn I J v1.toInt64 (0 : Int64) (5 : Int64) hR hc1) (Nat.le_of_ble_eq_true rfl) (by decide) rfl rfl (fun _ h => h) ?_
  show m_B G (m_rm 2 0 0) M_MD_status Q 0 0 9 [some (mR (12, 0, 177)), some (mI v1)] [mI r1] (L, I, J, R)
  refine b_if_eq (off := 12) (tgt := 21) (by decide +kernel) (by decide) (fun h2 => ?_) (fun h2 => ?_)
  · have hf := if_t h2 hf
    refine b_blk (pc' := 22) (ls' := [some (mR (12, 0, 177)), some (mI v1)]) (st' := [mI (-1)]) (S' := (L, I, J, R)) (P := True) [(.iconst (-1), (0, 0, 0, (-1), 0))] [] (by decide +kernel) rfl trivial ?_
    cases hf
    exact b_iret (by decide +kernel) rfl hk
  · have hf := if_f h2 hf
    obtain ⟨g3, hf⟩ := gd_s hf
    refine b_blk (pc' := 22) (ls' := [some (mR (12, 0, 177)), some (mI v1)]) (st' := [mI (I 179 v1.toNatClampNeg)]) (S' := (L, I, J, R)) (P := ((True ∧ R 177 9 = some (20, 6, 179)) ∧ vp_in v1 6)) [(.aload_n 0, (0, 0, 0, 0, 0)), (.getfield 17, (12, 9, 3, 0, 0)), (.iload_n 1, (0, 0, 0, 0, 0)), (.iaload, (0, 0, 0, 0, 0)), (.goto 4, (0, 22, 0, 0, 0))] [some (20, 6, 179)] (by decide +kernel) rfl ⟨⟨trivial, (r_177_9 hR)⟩, (in_n (n := 6) (by decide) g3.1 g3.2)⟩ ?_
    cases hf
    exact b_iret (by decide +kernel) rfl hk
theorem C_MD_status {G : MG} {L : List (Nat × Nat)} {R : Nat → Nat → Option MRef} (I : MI) (J : MJ) (v1 : Int32) (hR : RF R) {r : Int32} (hf : F_MD_status I v1 = some r) : m_met G 2 0 0 y_MD_status M_MD_status [mR (12, 0, 177), mI v1] (L, I, J, R) (m_is (some (mI r)) (L, I, J, R)) :=
  m_met_in n_MD_status (plainFor_of_name (by decide)) (by decide) (Nat.le_of_ble_eq_true rfl) (ls := [some (mR (12, 0, 177)), some (mI v1)]) rfl (W_MD_status I J v1 hR hf ⟨rfl, rfl⟩)
