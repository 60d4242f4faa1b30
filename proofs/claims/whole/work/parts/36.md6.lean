/-! the reference: methods 6 -/
noncomputable def F_MD_leastField_23 (I : MI) (J : MJ) (v1 : Int32) (v2 : Int32) (v3 : Int32) (v4 : Int32) (v5 : Int32) : Option ((Int32 × Int32 × MI × MJ) ⊕ (Int32 × MI × MJ)) :=
  (F_MD_yearGoes I J).bind fun r1 => (F_MD_fieldOf r1.1 v1).bind fun r2 => if v4 = (-1 : Int32) then (some (.inl ((r2 : Int32), (v5 + 1 : Int32), r1.1, r1.2))) else (if v4 ≤ r2 then (some (.inl ((v4 : Int32), (v5 + 1 : Int32), r1.1, r1.2))) else (some (.inl ((r2 : Int32), (v5 + 1 : Int32), r1.1, r1.2))))
set_option maxRecDepth 100000 in
set_option maxHeartbeats 400000 in
theorem W_MD_leastField_23 {G : MG} {Q : Option MV → MS → Prop} {L : List (Nat × Nat)} {R : Nat → Nat → Option MRef} (I : MI) (J : MJ) (v1 : Int32) (v2 : Int32) (v3 : Int32) (v4 : Int32) (v5 : Int32) (hR : RF R) {r : (Int32 × Int32 × MI × MJ) ⊕ (Int32 × MI × MJ)} (hf : F_MD_leastField_23 I J v1 v2 v3 v4 v5 = some r) (hk : (Sum.elim (fun s : Int32 × Int32 × MI × MJ => m_B G (m_rm 8 0 0) M_MD_leastField Q 0 0 6 [some (mR (12, 0, 177)), some (mI v1), some (mI v2), some (mI v3), some (mI s.1), some (mI s.2.1), none] [] (L, s.2.2.1, s.2.2.2, R)) (fun s : Int32 × MI × MJ => m_B G (m_rm 8 0 0) M_MD_leastField Q 0 0 57 [some (mR (12, 0, 177)), none, none, none, some (mI s.1), none, none] [] (L, s.2.1, s.2.2, R))) r) : m_B G (m_rm 8 0 0) M_MD_leastField Q 0 0 23 [some (mR (12, 0, 177)), some (mI v1), some (mI v2), some (mI v3), some (mI v4), some (mI v5), none] [] (L, I, J, R) := by
  unfold F_MD_leastField_23 at hf
  refine b_blk (pc' := 24) (ls' := [some (mR (12, 0, 177)), some (mI v1), some (mI v2), some (mI v3), some (mI v4), some (mI v5), none]) (st' := [mR (12, 0, 177)]) (S' := (L, I, J, R)) (P := True) [(.aload_n 0, (0, 0, 0, 0, 0))] [] (by decide +kernel) rfl trivial ?_
  obtain ⟨r1, hc1, hf⟩ := bnd_o hf
  refine b_cV (as := []) (st := []) (by decide +kernel) k_12_461 n_MD_yearGoes rfl (by decide) v_MD_yearGoes (C_MD_yearGoes I J hR hc1) (Nat.le_of_ble_eq_true rfl) (by decide) rfl rfl (fun _ h => h) ?_
  show m_B G (m_rm 8 0 0) M_MD_leastField Q 0 0 27 [some (mR (12, 0, 177)), some (mI v1), some (mI v2), some (mI v3), some (mI v4), some (mI v5), none] [] (L, r1.1, r1.2, R)
  refine b_blk (pc' := 29) (ls' := [some (mR (12, 0, 177)), some (mI v1), some (mI v2), some (mI v3), some (mI v4), some (mI v5), none]) (st' := [mI v1, mR (12, 0, 177)]) (S' := (L, r1.1, r1.2, R)) (P := True) [(.aload_n 0, (0, 0, 0, 0, 0)), (.iload_n 1, (0, 0, 0, 0, 0))] [] (by decide +kernel) rfl trivial ?_
  obtain ⟨r2, hc2, hf⟩ := bnd_o hf
  refine b_cV (as := [mI v1]) (st := []) (by decide +kernel) k_12_479 n_MD_fieldOf rfl (by decide) v_MD_fieldOf (C_MD_fieldOf r1.1 r1.2 v1 hR hc2) (Nat.le_of_ble_eq_true rfl) (by decide) rfl rfl (fun _ h => h) ?_
  show m_B G (m_rm 8 0 0) M_MD_leastField Q 0 0 32 [some (mR (12, 0, 177)), some (mI v1), some (mI v2), some (mI v3), some (mI v4), some (mI v5), none] [mI r2] (L, r1.1, r1.2, R)
  refine b_blk (pc' := 37) (ls' := [some (mR (12, 0, 177)), some (mI v1), some (mI v2), some (mI v3), some (mI v4), some (mI v5), some (mI r2)]) (st' := [mI (-1), mI v4]) (S' := (L, r1.1, r1.2, R)) (P := True) [(.istore 6, (0, 0, 0, 0, 0)), (.iload 4, (0, 0, 0, 0, 0)), (.iconst (-1), (0, 0, 0, (-1), 0))] [] (by decide +kernel) rfl trivial ?_
  refine b_icmp_eq (off := 10) (tgt := 47) (by decide +kernel) (by decide) (fun h3 => ?_) (fun h3 => ?_)
  · have hf := if_t h3 hf
    refine b_blk (pc' := 6) (ls' := [some (mR (12, 0, 177)), some (mI v1), some (mI v2), some (mI v3), some (mI r2), some (mI (v5 + 1)), some (mI r2)]) (st' := []) (S' := (L, r1.1, r1.2, R)) (P := True) [(.iload 6, (0, 0, 0, 0, 0)), (.istore 4, (0, 0, 0, 0, 0)), (.iinc 5 1, (0, 0, 0, 1, 0)), (.goto (-48), (0, 6, 0, 0, 0))] [] (by decide +kernel) rfl trivial ?_
    refine b_frg 6 ?_
    cases hf
    exact hk
  · have hf := if_f h3 hf
    refine b_blk (pc' := 44) (ls' := [some (mR (12, 0, 177)), some (mI v1), some (mI v2), some (mI v3), some (mI v4), some (mI v5), some (mI r2)]) (st' := [mI v4, mI r2]) (S' := (L, r1.1, r1.2, R)) (P := True) [(.iload 6, (0, 0, 0, 0, 0)), (.iload 4, (0, 0, 0, 0, 0))] [] (by decide +kernel) rfl trivial ?_
    refine b_icmp_ge (off := 7) (tgt := 51) (by decide +kernel) (by decide) (fun h4 => ?_) (fun h4 => ?_)
    · have hf := if_t h4 hf
      refine b_blk (pc' := 6) (ls' := [some (mR (12, 0, 177)), some (mI v1), some (mI v2), some (mI v3), some (mI v4), some (mI (v5 + 1)), some (mI r2)]) (st' := []) (S' := (L, r1.1, r1.2, R)) (P := True) [(.iinc 5 1, (0, 0, 0, 1, 0)), (.goto (-48), (0, 6, 0, 0, 0))] [] (by decide +kernel) rfl trivial ?_
      refine b_frg 6 ?_
      cases hf
      exact hk
    · have hf := if_f h4 hf
      refine b_blk (pc' := 6) (ls' := [some (mR (12, 0, 177)), some (mI v1), some (mI v2), some (mI v3), some (mI r2), some (mI (v5 + 1)), some (mI r2)]) (st' := []) (S' := (L, r1.1, r1.2, R)) (P := True) [(.iload 6, (0, 0, 0, 0, 0)), (.istore 4, (0, 0, 0, 0, 0)), (.iinc 5 1, (0, 0, 0, 1, 0)), (.goto (-48), (0, 6, 0, 0, 0))] [] (by decide +kernel) rfl trivial ?_
      refine b_frg 6 ?_
      cases hf
      exact hk
noncomputable def F_MD_leastField_6 (I : MI) (J : MJ) (v1 : Int32) (v2 : Int32) (v3 : Int32) (v4 : Int32) (v5 : Int32) : Option ((Int32 × Int32 × MI × MJ) ⊕ (Int32 × MI × MJ)) :=
  if v2 ≤ v5 then (some (.inr ((v4 : Int32), I, J))) else (if v5 = v3 then ((F_MD_isSet I v1).bind fun r3 => F_MD_leastField_23 r3 J v1 v2 v3 v4 v5) else (F_MD_leastField_23 I J v1 v2 v3 v4 v5))
set_option maxRecDepth 100000 in
set_option maxHeartbeats 400000 in
theorem W_MD_leastField_6 {G : MG} {Q : Option MV → MS → Prop} {L : List (Nat × Nat)} {R : Nat → Nat → Option MRef} (I : MI) (J : MJ) (v1 : Int32) (v2 : Int32) (v3 : Int32) (v4 : Int32) (v5 : Int32) (hR : RF R) {r : (Int32 × Int32 × MI × MJ) ⊕ (Int32 × MI × MJ)} (hf : F_MD_leastField_6 I J v1 v2 v3 v4 v5 = some r) (hk : (Sum.elim (fun s : Int32 × Int32 × MI × MJ => m_B G (m_rm 8 0 0) M_MD_leastField Q 0 0 6 [some (mR (12, 0, 177)), some (mI v1), some (mI v2), some (mI v3), some (mI s.1), some (mI s.2.1), none] [] (L, s.2.2.1, s.2.2.2, R)) (fun s : Int32 × MI × MJ => m_B G (m_rm 8 0 0) M_MD_leastField Q 0 0 57 [some (mR (12, 0, 177)), none, none, none, some (mI s.1), none, none] [] (L, s.2.1, s.2.2, R))) r) : m_B G (m_rm 8 0 0) M_MD_leastField Q 0 0 6 [some (mR (12, 0, 177)), some (mI v1), some (mI v2), some (mI v3), some (mI v4), some (mI v5), none] [] (L, I, J, R) := by
  unfold F_MD_leastField_6 at hf
  refine b_blk (pc' := 9) (ls' := [some (mR (12, 0, 177)), some (mI v1), some (mI v2), some (mI v3), some (mI v4), some (mI v5), none]) (st' := [mI v2, mI v5]) (S' := (L, I, J, R)) (P := True) [(.iload 5, (0, 0, 0, 0, 0)), (.iload_n 2, (0, 0, 0, 0, 0))] [] (by decide +kernel) rfl trivial ?_
  refine b_icmp_ge (off := 48) (tgt := 57) (by decide +kernel) (by decide) (fun h1 => ?_) (fun h1 => ?_)
  · have hf := if_t h1 hf
    refine b_frg 1 ?_
    refine b_frg 2 ?_
    refine b_frg 3 ?_
    refine b_frg 5 ?_
    cases hf
    exact hk
  · have hf := if_f h1 hf
    refine b_blk (pc' := 15) (ls' := [some (mR (12, 0, 177)), some (mI v1), some (mI v2), some (mI v3), some (mI v4), some (mI v5), none]) (st' := [mI v3, mI v5]) (S' := (L, I, J, R)) (P := True) [(.iload 5, (0, 0, 0, 0, 0)), (.iload_n 3, (0, 0, 0, 0, 0))] [] (by decide +kernel) rfl trivial ?_
    refine b_icmp_ne (off := 8) (tgt := 23) (by decide +kernel) (by decide) (fun h2 => ?_) (fun h2 => ?_)
    · have hf := if_f h2 hf
      exact m_B_cg rfl rfl rfl (W_MD_leastField_23 I J v1 v2 v3 v4 v5 hR hf hk)
    · have hf := if_t h2 hf
      refine b_blk (pc' := 20) (ls' := [some (mR (12, 0, 177)), some (mI v1), some (mI v2), some (mI v3), some (mI v4), some (mI v5), none]) (st' := [mI v1, mR (12, 0, 177)]) (S' := (L, I, J, R)) (P := True) [(.aload_n 0, (0, 0, 0, 0, 0)), (.iload_n 1, (0, 0, 0, 0, 0))] [] (by decide +kernel) rfl trivial ?_
      obtain ⟨r3, hc3, hf⟩ := bnd_o hf
      refine b_cV (as := [mI v1]) (st := []) (by decide +kernel) k_12_458 n_MD_isSet rfl (by decide) v_MD_isSet (C_MD_isSet I J v1 hR hc3) (Nat.le_of_ble_eq_true rfl) (by decide) rfl rfl (fun _ h => h) ?_
      show m_B G (m_rm 8 0 0) M_MD_leastField Q 0 0 23 [some (mR (12, 0, 177)), some (mI v1), some (mI v2), some (mI v3), some (mI v4), some (mI v5), none] [] (L, r3, J, R)
      exact m_B_cg rfl rfl rfl (W_MD_leastField_23 r3 J v1 v2 v3 v4 v5 hR hf hk)
noncomputable def F_MD_leastField (I : MI) (J : MJ) (v1 : Int32) (v2 : Int32) (v3 : Int32) : Option (Int32 × MI × MJ) :=
  (wl (fun s : Int32 × Int32 × MI × MJ => F_MD_leastField_6 s.2.2.1 s.2.2.2 v1 v2 v3 s.1 s.2.1) (((-1) : Int32), (0 : Int32), I, J)).bind fun t1 => (F_MD_triesAnew t1.2.1).bind fun r2 => some ((t1.1 : Int32), r2, t1.2.2)
set_option maxRecDepth 100000 in
set_option maxHeartbeats 400000 in
theorem W_MD_leastField {G : MG} {Q : Option MV → MS → Prop} {L : List (Nat × Nat)} {R : Nat → Nat → Option MRef} (I : MI) (J : MJ) (v1 : Int32) (v2 : Int32) (v3 : Int32) (hR : RF R) {r : Int32 × MI × MJ} (hf : F_MD_leastField I J v1 v2 v3 = some r) (hk : (fun r : Int32 × MI × MJ => Q (some (mI r.1)) (L, r.2.1, r.2.2, R)) r) : m_B G (m_rm 8 0 0) M_MD_leastField Q 0 0 0 [some (mR (12, 0, 177)), some (mI v1), some (mI v2), some (mI v3), none, none, none] [] (L, I, J, R) := by
  unfold F_MD_leastField at hf
  refine b_blk (pc' := 6) (ls' := [some (mR (12, 0, 177)), some (mI v1), some (mI v2), some (mI v3), some (mI (-1)), some (mI 0), none]) (st' := []) (S' := (L, I, J, R)) (P := True) [(.iconst (-1), (0, 0, 0, (-1), 0)), (.istore 4, (0, 0, 0, 0, 0)), (.iconst 0, (0, 0, 0, 0, 0)), (.istore 5, (0, 0, 0, 0, 0))] [] (by decide +kernel) rfl trivial ?_
  obtain ⟨t1, hw, hf⟩ := bnd_o hf
  refine wl_B (A := fun s : Int32 × Int32 × MI × MJ => m_B G (m_rm 8 0 0) M_MD_leastField Q 0 0 6 [some (mR (12, 0, 177)), some (mI v1), some (mI v2), some (mI v3), some (mI s.1), some (mI s.2.1), none] [] (L, s.2.2.1, s.2.2.2, R)) (B := (fun s : Int32 × MI × MJ => m_B G (m_rm 8 0 0) M_MD_leastField Q 0 0 57 [some (mR (12, 0, 177)), none, none, none, some (mI s.1), none, none] [] (L, s.2.1, s.2.2, R))) (fun s r hs hr => W_MD_leastField_6 s.2.2.1 s.2.2.2 v1 v2 v3 s.1 s.2.1 hR hs hr) hw ?_
  show m_B G (m_rm 8 0 0) M_MD_leastField Q 0 0 57 [some (mR (12, 0, 177)), none, none, none, some (mI t1.1), none, none] [] (L, t1.2.1, t1.2.2, R)
  refine b_blk (pc' := 58) (ls' := [some (mR (12, 0, 177)), none, none, none, some (mI t1.1), none, none]) (st' := [mR (12, 0, 177)]) (S' := (L, t1.2.1, t1.2.2, R)) (P := True) [(.aload_n 0, (0, 0, 0, 0, 0))] [] (by decide +kernel) rfl trivial ?_
  obtain ⟨r2, hc2, hf⟩ := bnd_o hf
  refine b_cV (as := []) (st := []) (by decide +kernel) k_12_464 n_MD_triesAnew rfl (by decide) v_MD_triesAnew (C_MD_triesAnew t1.2.1 t1.2.2 hR hc2) (Nat.le_of_ble_eq_true rfl) (by decide) rfl rfl (fun _ h => h) ?_
  show m_B G (m_rm 8 0 0) M_MD_leastField Q 0 0 61 [some (mR (12, 0, 177)), none, none, none, some (mI t1.1), none, none] [] (L, r2, t1.2.2, R)
  refine b_blk (pc' := 63) (ls' := [some (mR (12, 0, 177)), none, none, none, some (mI t1.1), none, none]) (st' := [mI t1.1]) (S' := (L, r2, t1.2.2, R)) (P := True) [(.iload 4, (0, 0, 0, 0, 0))] [] (by decide +kernel) rfl trivial ?_
  cases hf
  exact b_iret (by decide +kernel) rfl hk
theorem C_MD_leastField {G : MG} {L : List (Nat × Nat)} {R : Nat → Nat → Option MRef} (I : MI) (J : MJ) (v1 : Int32) (v2 : Int32) (v3 : Int32) (hR : RF R) {r : Int32 × MI × MJ} (hf : F_MD_leastField I J v1 v2 v3 = some r) : m_met G 8 0 0 y_MD_leastField M_MD_leastField [mR (12, 0, 177), mI v1, mI v2, mI v3] (L, I, J, R) (m_is (some (mI r.1)) (L, r.2.1, r.2.2, R)) :=
  m_met_in n_MD_leastField (plainFor_of_name (by decide)) (by decide) (Nat.le_of_ble_eq_true rfl) (ls := [some (mR (12, 0, 177)), some (mI v1), some (mI v2), some (mI v3), none, none, none]) rfl (W_MD_leastField I J v1 v2 v3 hR hf ⟨rfl, rfl⟩)
noncomputable def F_MD_sets_50 (I : MI) (J : MJ) (v1 : Int32) (v2 : Int32) (v3 : Int32) (v4 : Int32) (v5 : Int32) (v6 : Int32) : Option ((Int32 × Int32 × Int32 × MI × MJ) ⊕ (Int32 × Int32 × MI × MJ)) :=
  if v2 ≤ v6 then (some (.inr ((v4 : Int32), (v5 : Int32), I, J))) else ((F_MD_leastField I J v1 v2 v6).bind fun r2 => if v5 < r2.1 then (some (.inl ((v6 : Int32), (r2.1 : Int32), (v6 + 1 : Int32), r2.2.1, r2.2.2))) else (some (.inl ((v4 : Int32), (v5 : Int32), (v6 + 1 : Int32), r2.2.1, r2.2.2))))
set_option maxRecDepth 100000 in
set_option maxHeartbeats 400000 in
theorem W_MD_sets_50 {G : MG} {Q : Option MV → MS → Prop} {L : List (Nat × Nat)} {R : Nat → Nat → Option MRef} (I : MI) (J : MJ) (v1 : Int32) (v2 : Int32) (v3 : Int32) (v4 : Int32) (v5 : Int32) (v6 : Int32) (hR : RF R) {r : (Int32 × Int32 × Int32 × MI × MJ) ⊕ (Int32 × Int32 × MI × MJ)} (hf : F_MD_sets_50 I J v1 v2 v3 v4 v5 v6 = some r) (hk : (Sum.elim (fun s : Int32 × Int32 × Int32 × MI × MJ => m_B G (m_rm 9 0 0) M_MD_sets Q 0 0 50 [some (mR (12, 0, 177)), some (mI v1), some (mI v2), some (mI v3), some (mI s.1), some (mI s.2.1), some (mI s.2.2.1), none] [] (L, s.2.2.2.1, s.2.2.2.2, R)) (fun s : Int32 × Int32 × MI × MJ => m_B G (m_rm 9 0 0) M_MD_sets Q 0 0 90 [some (mR (12, 0, 177)), none, none, some (mI v3), some (mI s.1), some (mI s.2.1), none, none] [] (L, s.2.2.1, s.2.2.2, R))) r) : m_B G (m_rm 9 0 0) M_MD_sets Q 0 0 50 [some (mR (12, 0, 177)), some (mI v1), some (mI v2), some (mI v3), some (mI v4), some (mI v5), some (mI v6), none] [] (L, I, J, R) := by
  unfold F_MD_sets_50 at hf
  refine b_blk (pc' := 53) (ls' := [some (mR (12, 0, 177)), some (mI v1), some (mI v2), some (mI v3), some (mI v4), some (mI v5), some (mI v6), none]) (st' := [mI v2, mI v6]) (S' := (L, I, J, R)) (P := True) [(.iload 6, (0, 0, 0, 0, 0)), (.iload_n 2, (0, 0, 0, 0, 0))] [] (by decide +kernel) rfl trivial ?_
  refine b_icmp_ge (off := 37) (tgt := 90) (by decide +kernel) (by decide) (fun h1 => ?_) (fun h1 => ?_)
  · have hf := if_t h1 hf
    refine b_frg 1 ?_
    refine b_frg 2 ?_
    refine b_frg 6 ?_
    cases hf
    exact hk
  · have hf := if_f h1 hf
    refine b_blk (pc' := 61) (ls' := [some (mR (12, 0, 177)), some (mI v1), some (mI v2), some (mI v3), some (mI v4), some (mI v5), some (mI v6), none]) (st' := [mI v6, mI v2, mI v1, mR (12, 0, 177)]) (S' := (L, I, J, R)) (P := True) [(.aload_n 0, (0, 0, 0, 0, 0)), (.iload_n 1, (0, 0, 0, 0, 0)), (.iload_n 2, (0, 0, 0, 0, 0)), (.iload 6, (0, 0, 0, 0, 0))] [] (by decide +kernel) rfl trivial ?_
    obtain ⟨r2, hc2, hf⟩ := bnd_o hf
    refine b_cV (as := [mI v1, mI v2, mI v6]) (st := []) (by decide +kernel) k_12_517 n_MD_leastField rfl (by decide) v_MD_leastField (C_MD_leastField I J v1 v2 v6 hR hc2) (Nat.le_of_ble_eq_true rfl) (by decide) rfl rfl (fun _ h => h) ?_
    show m_B G (m_rm 9 0 0) M_MD_sets Q 0 0 64 [some (mR (12, 0, 177)), some (mI v1), some (mI v2), some (mI v3), some (mI v4), some (mI v5), some (mI v6), none] [mI r2.1] (L, r2.2.1, r2.2.2, R)
    refine b_blk (pc' := 70) (ls' := [some (mR (12, 0, 177)), some (mI v1), some (mI v2), some (mI v3), some (mI v4), some (mI v5), some (mI v6), some (mI r2.1)]) (st' := [mI v5, mI r2.1]) (S' := (L, r2.2.1, r2.2.2, R)) (P := True) [(.istore 7, (0, 0, 0, 0, 0)), (.iload 7, (0, 0, 0, 0, 0)), (.iload 5, (0, 0, 0, 0, 0))] [] (by decide +kernel) rfl trivial ?_
    refine b_icmp_gt (off := 6) (tgt := 76) (by decide +kernel) (by decide) (fun h3 => ?_) (fun h3 => ?_)
    · have hf := if_t h3 hf
      refine b_blk (pc' := 50) (ls' := [some (mR (12, 0, 177)), some (mI v1), some (mI v2), some (mI v3), some (mI v6), some (mI r2.1), some (mI (v6 + 1)), some (mI r2.1)]) (st' := []) (S' := (L, r2.2.1, r2.2.2, R)) (P := True) [(.iload 6, (0, 0, 0, 0, 0)), (.istore 4, (0, 0, 0, 0, 0)), (.iload 7, (0, 0, 0, 0, 0)), (.istore 5, (0, 0, 0, 0, 0)), (.iinc 6 1, (0, 0, 0, 1, 0)), (.goto (-37), (0, 50, 0, 0, 0))] [] (by decide +kernel) rfl trivial ?_
      refine b_frg 7 ?_
      cases hf
      exact hk
    · have hf := if_f h3 hf
      refine b_blk (pc' := 84) (ls' := [some (mR (12, 0, 177)), some (mI v1), some (mI v2), some (mI v3), some (mI v4), some (mI v5), some (mI v6), some (mI r2.1)]) (st' := []) (S' := (L, r2.2.1, r2.2.2, R)) (P := True) [(.goto 11, (0, 84, 0, 0, 0))] [] (by decide +kernel) rfl trivial ?_
      refine b_blk (pc' := 50) (ls' := [some (mR (12, 0, 177)), some (mI v1), some (mI v2), some (mI v3), some (mI v4), some (mI v5), some (mI (v6 + 1)), some (mI r2.1)]) (st' := []) (S' := (L, r2.2.1, r2.2.2, R)) (P := True) [(.iinc 6 1, (0, 0, 0, 1, 0)), (.goto (-37), (0, 50, 0, 0, 0))] [] (by decide +kernel) rfl trivial ?_
      refine b_frg 7 ?_
      cases hf
      exact hk
noncomputable def F_MD_sets (I : MI) (J : MJ) (v1 : Int32) (v2 : Int32) (v3 : Int32) : Option (Int32 × MI × MJ) :=
  (F_MD_isFence I v1).bind fun r1 => if r1 = (0 : Int32) then (some (((-1) : Int32), I, J)) else ((F_MD_isAhead I v2 (1 : Int32) (30 : Int32)).bind fun r3 => if r3 = (0 : Int32) then (some (((-1) : Int32), I, J)) else ((F_MD_isIn v3.toInt64 (0 : Int64) (1 : Int64)).bind fun r5 => if r5 = (0 : Int32) then (some (((-1) : Int32), I, J)) else ((F_MD_putsAside I).bind fun r7 => (F_MD_leastField r7 J v1 v2 (-1 : Int32)).bind fun r8 => (wl (fun s : Int32 × Int32 × Int32 × MI × MJ => F_MD_sets_50 s.2.2.2.1 s.2.2.2.2 v1 v2 v3 s.1 s.2.1 s.2.2.1) (((-1) : Int32), (r8.1 : Int32), (0 : Int32), r8.2.1, r8.2.2)).bind fun t9 => (F_MD_takesBack t9.2.2.1).bind fun r10 => if v3 = (0 : Int32) then (some ((t9.1 : Int32), r10, t9.2.2.2)) else (some ((t9.2.1 : Int32), r10, t9.2.2.2)))))
set_option maxRecDepth 100000 in
set_option maxHeartbeats 400000 in
theorem W_MD_sets {G : MG} {Q : Option MV → MS → Prop} {L : List (Nat × Nat)} {R : Nat → Nat → Option MRef} (I : MI) (J : MJ) (v1 : Int32) (v2 : Int32) (v3 : Int32) (hR : RF R) {r : Int32 × MI × MJ} (hf : F_MD_sets I J v1 v2 v3 = some r) (hk : (fun r : Int32 × MI × MJ => Q (some (mI r.1)) (L, r.2.1, r.2.2, R)) r) : m_B G (m_rm 9 0 0) M_MD_sets Q 0 0 0 [some (mR (12, 0, 177)), some (mI v1), some (mI v2), some (mI v3), none, none, none, none] [] (L, I, J, R) := by
  unfold F_MD_sets at hf
  refine b_blk (pc' := 2) (ls' := [some (mR (12, 0, 177)), some (mI v1), some (mI v2), some (mI v3), none, none, none, none]) (st' := [mI v1, mR (12, 0, 177)]) (S' := (L, I, J, R)) (P := True) [(.aload_n 0, (0, 0, 0, 0, 0)), (.iload_n 1, (0, 0, 0, 0, 0))] [] (by decide +kernel) rfl trivial ?_
  obtain ⟨r1, hc1, hf⟩ := bnd_o hf
  refine b_cV (as := [mI v1]) (st := []) (by decide +kernel) k_12_482 n_MD_isFence rfl (by decide) v_MD_isFence (C_MD_isFence I J v1 hR hc1) (Nat.le_of_ble_eq_true rfl) (by decide) rfl rfl (fun _ h => h) ?_
  show m_B G (m_rm 9 0 0) M_MD_sets Q 0 0 5 [some (mR (12, 0, 177)), some (mI v1), some (mI v2), some (mI v3), none, none, none, none] [mI r1] (L, I, J, R)
  refine b_if_eq (off := 24) (tgt := 29) (by decide +kernel) (by decide) (fun h2 => ?_) (fun h2 => ?_)
  · have hf := if_t h2 hf
    refine b_blk (pc' := 30) (ls' := [some (mR (12, 0, 177)), some (mI v1), some (mI v2), some (mI v3), none, none, none, none]) (st' := [mI (-1)]) (S' := (L, I, J, R)) (P := True) [(.iconst (-1), (0, 0, 0, (-1), 0))] [] (by decide +kernel) rfl trivial ?_
    cases hf
    exact b_iret (by decide +kernel) rfl hk
  · have hf := if_f h2 hf
    refine b_blk (pc' := 13) (ls' := [some (mR (12, 0, 177)), some (mI v1), some (mI v2), some (mI v3), none, none, none, none]) (st' := [mI 30, mI 1, mI v2, mR (12, 0, 177)]) (S' := (L, I, J, R)) (P := True) [(.aload_n 0, (0, 0, 0, 0, 0)), (.iload_n 2, (0, 0, 0, 0, 0)), (.iconst 1, (0, 0, 0, 1, 0)), (.bipush 30, (0, 0, 0, 30, 0))] [] (by decide +kernel) rfl trivial ?_
    obtain ⟨r3, hc3, hf⟩ := bnd_o hf
    refine b_cV (as := [mI v2, mI 1, mI 30]) (st := []) (by decide +kernel) k_12_495 n_MD_isAhead rfl (by decide) v_MD_isAhead (C_MD_isAhead I J v2 (1 : Int32) (30 : Int32) hR hc3) (Nat.le_of_ble_eq_true rfl) (by decide) rfl rfl (fun _ h => h) ?_
    show m_B G (m_rm 9 0 0) M_MD_sets Q 0 0 16 [some (mR (12, 0, 177)), some (mI v1), some (mI v2), some (mI v3), none, none, none, none] [mI r3] (L, I, J, R)
    refine b_if_eq (off := 13) (tgt := 29) (by decide +kernel) (by decide) (fun h4 => ?_) (fun h4 => ?_)
    · have hf := if_t h4 hf
      refine b_blk (pc' := 30) (ls' := [some (mR (12, 0, 177)), some (mI v1), some (mI v2), some (mI v3), none, none, none, none]) (st' := [mI (-1)]) (S' := (L, I, J, R)) (P := True) [(.iconst (-1), (0, 0, 0, (-1), 0))] [] (by decide +kernel) rfl trivial ?_
      cases hf
      exact b_iret (by decide +kernel) rfl hk
    · have hf := if_f h4 hf
      refine b_blk (pc' := 23) (ls' := [some (mR (12, 0, 177)), some (mI v1), some (mI v2), some (mI v3), none, none, none, none]) (st' := [mJ 1, mJ 0, mJ v3.toInt64]) (S' := (L, I, J, R)) (P := True) [(.iload_n 3, (0, 0, 0, 0, 0)), (.i2l, (0, 0, 0, 0, 0)), (.lconst 0, (0, 0, 0, 0, 0)), (.lconst 1, (0, 0, 0, 0, 1))] [] (by decide +kernel) rfl trivial ?_
      obtain ⟨r5, hc5, hf⟩ := bnd_o hf
      refine b_cS (as := [mJ v3.toInt64, mJ 0, mJ 1]) (st := []) (by decide +kernel) k_12_277 n_MD_isIn s_MD_isIn (C_MD_isIn I J v3.toInt64 (0 : Int64) (1 : Int64) hR hc5) (Nat.le_of_ble_eq_true rfl) (by decide) rfl rfl (fun _ h => h) ?_
      show m_B G (m_rm 9 0 0) M_MD_sets Q 0 0 26 [some (mR (12, 0, 177)), some (mI v1), some (mI v2), some (mI v3), none, none, none, none] [mI r5] (L, I, J, R)
      refine b_if_ne (off := 5) (tgt := 31) (by decide +kernel) (by decide) (fun h6 => ?_) (fun h6 => ?_)
      · have hf := if_f h6 hf
        refine b_blk (pc' := 32) (ls' := [some (mR (12, 0, 177)), some (mI v1), some (mI v2), some (mI v3), none, none, none, none]) (st' := [mR (12, 0, 177)]) (S' := (L, I, J, R)) (P := True) [(.aload_n 0, (0, 0, 0, 0, 0))] [] (by decide +kernel) rfl trivial ?_
        obtain ⟨r7, hc7, hf⟩ := bnd_o hf
        refine b_cV (as := []) (st := []) (by decide +kernel) k_12_499 n_MD_putsAside rfl (by decide) v_MD_putsAside (C_MD_putsAside I J hR hc7) (Nat.le_of_ble_eq_true rfl) (by decide) rfl rfl (fun _ h => h) ?_
        show m_B G (m_rm 9 0 0) M_MD_sets Q 0 0 35 [some (mR (12, 0, 177)), some (mI v1), some (mI v2), some (mI v3), none, none, none, none] [] (L, r7, J, R)
        refine b_blk (pc' := 42) (ls' := [some (mR (12, 0, 177)), some (mI v1), some (mI v2), some (mI v3), some (mI (-1)), none, none, none]) (st' := [mI (-1), mI v2, mI v1, mR (12, 0, 177)]) (S' := (L, r7, J, R)) (P := True) [(.iconst (-1), (0, 0, 0, (-1), 0)), (.istore 4, (0, 0, 0, 0, 0)), (.aload_n 0, (0, 0, 0, 0, 0)), (.iload_n 1, (0, 0, 0, 0, 0)), (.iload_n 2, (0, 0, 0, 0, 0)), (.iconst (-1), (0, 0, 0, (-1), 0))] [] (by decide +kernel) rfl trivial ?_
        obtain ⟨r8, hc8, hf⟩ := bnd_o hf
        refine b_cV (as := [mI v1, mI v2, mI (-1)]) (st := []) (by decide +kernel) k_12_517 n_MD_leastField rfl (by decide) v_MD_leastField (C_MD_leastField r7 J v1 v2 (-1 : Int32) hR hc8) (Nat.le_of_ble_eq_true rfl) (by decide) rfl rfl (fun _ h => h) ?_
        show m_B G (m_rm 9 0 0) M_MD_sets Q 0 0 45 [some (mR (12, 0, 177)), some (mI v1), some (mI v2), some (mI v3), some (mI (-1)), none, none, none] [mI r8.1] (L, r8.2.1, r8.2.2, R)
        refine b_blk (pc' := 50) (ls' := [some (mR (12, 0, 177)), some (mI v1), some (mI v2), some (mI v3), some (mI (-1)), some (mI r8.1), some (mI 0), none]) (st' := []) (S' := (L, r8.2.1, r8.2.2, R)) (P := True) [(.istore 5, (0, 0, 0, 0, 0)), (.iconst 0, (0, 0, 0, 0, 0)), (.istore 6, (0, 0, 0, 0, 0))] [] (by decide +kernel) rfl trivial ?_
        obtain ⟨t9, hw, hf⟩ := bnd_o hf
        refine wl_B (A := fun s : Int32 × Int32 × Int32 × MI × MJ => m_B G (m_rm 9 0 0) M_MD_sets Q 0 0 50 [some (mR (12, 0, 177)), some (mI v1), some (mI v2), some (mI v3), some (mI s.1), some (mI s.2.1), some (mI s.2.2.1), none] [] (L, s.2.2.2.1, s.2.2.2.2, R)) (B := (fun s : Int32 × Int32 × MI × MJ => m_B G (m_rm 9 0 0) M_MD_sets Q 0 0 90 [some (mR (12, 0, 177)), none, none, some (mI v3), some (mI s.1), some (mI s.2.1), none, none] [] (L, s.2.2.1, s.2.2.2, R))) (fun s r hs hr => W_MD_sets_50 s.2.2.2.1 s.2.2.2.2 v1 v2 v3 s.1 s.2.1 s.2.2.1 hR hs hr) hw ?_
        show m_B G (m_rm 9 0 0) M_MD_sets Q 0 0 90 [some (mR (12, 0, 177)), none, none, some (mI v3), some (mI t9.1), some (mI t9.2.1), none, none] [] (L, t9.2.2.1, t9.2.2.2, R)
        refine b_blk (pc' := 91) (ls' := [some (mR (12, 0, 177)), none, none, some (mI v3), some (mI t9.1), some (mI t9.2.1), none, none]) (st' := [mR (12, 0, 177)]) (S' := (L, t9.2.2.1, t9.2.2.2, R)) (P := True) [(.aload_n 0, (0, 0, 0, 0, 0))] [] (by decide +kernel) rfl trivial ?_
        obtain ⟨r10, hc10, hf⟩ := bnd_o hf
        refine b_cV (as := []) (st := []) (by decide +kernel) k_12_505 n_MD_takesBack rfl (by decide) v_MD_takesBack (C_MD_takesBack t9.2.2.1 t9.2.2.2 hR hc10) (Nat.le_of_ble_eq_true rfl) (by decide) rfl rfl (fun _ h => h) ?_
        show m_B G (m_rm 9 0 0) M_MD_sets Q 0 0 94 [some (mR (12, 0, 177)), none, none, some (mI v3), some (mI t9.1), some (mI t9.2.1), none, none] [] (L, r10, t9.2.2.2, R)
        refine b_blk (pc' := 95) (ls' := [some (mR (12, 0, 177)), none, none, some (mI v3), some (mI t9.1), some (mI t9.2.1), none, none]) (st' := [mI v3]) (S' := (L, r10, t9.2.2.2, R)) (P := True) [(.iload_n 3, (0, 0, 0, 0, 0))] [] (by decide +kernel) rfl trivial ?_
        refine b_if_ne (off := 8) (tgt := 103) (by decide +kernel) (by decide) (fun h11 => ?_) (fun h11 => ?_)
        · have hf := if_f h11 hf
          refine b_blk (pc' := 105) (ls' := [some (mR (12, 0, 177)), none, none, some (mI v3), some (mI t9.1), some (mI t9.2.1), none, none]) (st' := [mI t9.2.1]) (S' := (L, r10, t9.2.2.2, R)) (P := True) [(.iload 5, (0, 0, 0, 0, 0))] [] (by decide +kernel) rfl trivial ?_
          cases hf
          exact b_iret (by decide +kernel) rfl hk
        · have hf := if_t h11 hf
          refine b_blk (pc' := 105) (ls' := [some (mR (12, 0, 177)), none, none, some (mI v3), some (mI t9.1), some (mI t9.2.1), none, none]) (st' := [mI t9.1]) (S' := (L, r10, t9.2.2.2, R)) (P := True) [(.iload 4, (0, 0, 0, 0, 0)), (.goto 5, (0, 105, 0, 0, 0))] [] (by decide +kernel) rfl trivial ?_
          cases hf
          exact b_iret (by decide +kernel) rfl hk
      · have hf := if_t h6 hf
        refine b_blk (pc' := 30) (ls' := [some (mR (12, 0, 177)), some (mI v1), some (mI v2), some (mI v3), none, none, none, none]) (st' := [mI (-1)]) (S' := (L, I, J, R)) (P := True) [(.iconst (-1), (0, 0, 0, (-1), 0))] [] (by decide +kernel) rfl trivial ?_
        cases hf
        exact b_iret (by decide +kernel) rfl hk
theorem C_MD_sets {G : MG} {L : List (Nat × Nat)} {R : Nat → Nat → Option MRef} (I : MI) (J : MJ) (v1 : Int32) (v2 : Int32) (v3 : Int32) (hR : RF R) {r : Int32 × MI × MJ} (hf : F_MD_sets I J v1 v2 v3 = some r) : m_met G 9 0 0 y_MD_sets M_MD_sets [mR (12, 0, 177), mI v1, mI v2, mI v3] (L, I, J, R) (m_is (some (mI r.1)) (L, r.2.1, r.2.2, R)) :=
  m_met_in n_MD_sets (plainFor_of_name (by decide)) (by decide) (Nat.le_of_ble_eq_true rfl) (ls := [some (mR (12, 0, 177)), some (mI v1), some (mI v2), some (mI v3), none, none, none, none]) rfl (W_MD_sets I J v1 v2 v3 hR hf ⟨rfl, rfl⟩)
noncomputable def F_MD_irons_85 (I : MI) (J : MJ) (v1 : Int32) (v2 : Int32) (v3 : Int32) (v4 : Int32) (v5 : Int32) (v6 : Int32) (v7 : Int32) (v8 : Int32) : Option ((Int32 × Int32 × Int32 × Int32 × MI × MJ) ⊕ (Int32 × Int32 × Int32 × MI × MJ)) :=
  if (I 204 3) ≤ v8 then (some (.inr ((v4 : Int32), (v5 : Int32), (v6 : Int32), I, J))) else ((F_MD_isPost I v7 v8).bind fun r2 => if r2 = (0 : Int32) then (gd ((1 : Int32) + v7) 176 <| gd ((1 : Int32) + v7) 176 <| bnd (m_up I 213 (((1 : Int32) + v7).toNatClampNeg) ((I 213 ((1 : Int32) + v7).toNatClampNeg) ||| ((1 : Int32) <<< (v8 &&& 31))) : MI) fun x6 => (F_MD_yearsGo x6 J v2).bind fun r7 => (F_MD_fieldOf r7.1 v1).bind fun r8 => (F_MD_triesAnew r7.1).bind fun r9 => if v4 < r8 then (some (.inl ((r8 : Int32), (v7 : Int32), (v8 : Int32), (v8 + 1 : Int32), r9, r7.2))) else (some (.inl ((v4 : Int32), (v5 : Int32), (v6 : Int32), (v8 + 1 : Int32), r9, r7.2)))) else (some (.inl ((v4 : Int32), (v5 : Int32), (v6 : Int32), (v8 + 1 : Int32), I, J))))
set_option maxRecDepth 100000 in
set_option maxHeartbeats 400000 in
theorem W_MD_irons_85 {G : MG} {Q : Option MV → MS → Prop} {L : List (Nat × Nat)} {R : Nat → Nat → Option MRef} (I : MI) (J : MJ) (v1 : Int32) (v2 : Int32) (v3 : Int32) (v4 : Int32) (v5 : Int32) (v6 : Int32) (v7 : Int32) (v8 : Int32) (hR : RF R) {r : (Int32 × Int32 × Int32 × Int32 × MI × MJ) ⊕ (Int32 × Int32 × Int32 × MI × MJ)} (hf : F_MD_irons_85 I J v1 v2 v3 v4 v5 v6 v7 v8 = some r) (hk : (Sum.elim (fun s : Int32 × Int32 × Int32 × Int32 × MI × MJ => m_B G (m_rm 9 0 0) M_MD_irons Q 0 0 85 [some (mR (12, 0, 177)), some (mI v1), some (mI v2), some (mI v3), some (mI s.1), some (mI s.2.1), some (mI s.2.2.1), some (mI v7), some (mI s.2.2.2.1), none] [] (L, s.2.2.2.2.1, s.2.2.2.2.2, R)) (fun s : Int32 × Int32 × Int32 × MI × MJ => m_B G (m_rm 9 0 0) M_MD_irons Q 0 0 170 [some (mR (12, 0, 177)), some (mI v1), some (mI v2), some (mI v3), some (mI s.1), some (mI s.2.1), some (mI s.2.2.1), some (mI v7), none, none] [] (L, s.2.2.2.1, s.2.2.2.2, R))) r) : m_B G (m_rm 9 0 0) M_MD_irons Q 0 0 85 [some (mR (12, 0, 177)), some (mI v1), some (mI v2), some (mI v3), some (mI v4), some (mI v5), some (mI v6), some (mI v7), some (mI v8), none] [] (L, I, J, R) := by
  unfold F_MD_irons_85 at hf
  refine b_blk (pc' := 93) (ls' := [some (mR (12, 0, 177)), some (mI v1), some (mI v2), some (mI v3), some (mI v4), some (mI v5), some (mI v6), some (mI v7), some (mI v8), none]) (st' := [mI (I 204 3), mI v8]) (S' := (L, I, J, R)) (P := ((True ∧ R 177 36 = some (20, 4, 204)) ∧ vp_in (3 : Int32) 4)) [(.iload 8, (0, 0, 0, 0, 0)), (.aload_n 0, (0, 0, 0, 0, 0)), (.getfield 93, (12, 36, 3, 0, 0)), (.iconst 3, (0, 0, 0, 3, 0)), (.iaload, (0, 0, 0, 0, 0))] [some (20, 4, 204)] (by decide +kernel) rfl ⟨⟨trivial, (r_177_36 hR)⟩, (vp_in_nI (n := 3) (N := 4) (by decide) (by decide))⟩ ?_
  refine b_icmp_ge (off := 77) (tgt := 170) (by decide +kernel) (by decide) (fun h1 => ?_) (fun h1 => ?_)
  · have hf := if_t h1 hf
    refine b_frg 8 ?_
    cases hf
    exact hk
  · have hf := if_f h1 hf
    refine b_blk (pc' := 101) (ls' := [some (mR (12, 0, 177)), some (mI v1), some (mI v2), some (mI v3), some (mI v4), some (mI v5), some (mI v6), some (mI v7), some (mI v8), none]) (st' := [mI v8, mI v7, mR (12, 0, 177)]) (S' := (L, I, J, R)) (P := True) [(.aload_n 0, (0, 0, 0, 0, 0)), (.iload 7, (0, 0, 0, 0, 0)), (.iload 8, (0, 0, 0, 0, 0))] [] (by decide +kernel) rfl trivial ?_
    obtain ⟨r2, hc2, hf⟩ := bnd_o hf
    refine b_cV (as := [mI v7, mI v8]) (st := []) (by decide +kernel) k_12_436 n_MD_isPost rfl (by decide) v_MD_isPost (C_MD_isPost I J v7 v8 hR hc2) (Nat.le_of_ble_eq_true rfl) (by decide) rfl rfl (fun _ h => h) ?_
    show m_B G (m_rm 9 0 0) M_MD_irons Q 0 0 104 [some (mR (12, 0, 177)), some (mI v1), some (mI v2), some (mI v3), some (mI v4), some (mI v5), some (mI v6), some (mI v7), some (mI v8), none] [mI r2] (L, I, J, R)
    refine b_if_eq (off := 6) (tgt := 110) (by decide +kernel) (by decide) (fun h3 => ?_) (fun h3 => ?_)
    · have hf := if_t h3 hf
      obtain ⟨g4, hf⟩ := gd_s hf
      obtain ⟨g5, hf⟩ := gd_s hf
      refine b_blk (pc' := 128) (ls' := [some (mR (12, 0, 177)), some (mI v1), some (mI v2), some (mI v3), some (mI v4), some (mI v5), some (mI v6), some (mI v7), some (mI v8), none]) (st' := [mI v2, mR (12, 0, 177)]) (S' := (L, m_up I 213 (((1 : Int32) + v7).toNatClampNeg) ((I 213 ((1 : Int32) + v7).toNatClampNeg) ||| ((1 : Int32) <<< (v8 &&& 31))), J, R)) (P := (((True ∧ R 177 51 = some (20, 176, 213)) ∧ vp_in ((1 : Int32) + v7) 176) ∧ vp_in ((1 : Int32) + v7) 176)) [(.aload_n 0, (0, 0, 0, 0, 0)), (.getfield 121, (12, 51, 3, 0, 0)), (.iconst 1, (0, 0, 0, 1, 0)), (.iload 7, (0, 0, 0, 0, 0)), (.iadd, (0, 0, 0, 0, 0)), (.dup2, (0, 0, 0, 0, 0)), (.iaload, (0, 0, 0, 0, 0)), (.iconst 1, (0, 0, 0, 1, 0)), (.iload 8, (0, 0, 0, 0, 0)), (.ishl, (0, 0, 0, 0, 0)), (.ior, (0, 0, 0, 0, 0)), (.iastore, (0, 0, 0, 0, 0)), (.aload_n 0, (0, 0, 0, 0, 0)), (.iload_n 2, (0, 0, 0, 0, 0))] [some (20, 176, 213)] (by decide +kernel) rfl ⟨⟨⟨trivial, (r_177_51 hR)⟩, (in_n (n := 176) (by decide) g4.1 g4.2)⟩, (in_n (n := 176) (by decide) g5.1 g5.2)⟩ ?_
      obtain ⟨x6, ex6, hf⟩ := bnd_s hf
      refine m_B_cg (ls' := [some (mR (12, 0, 177)), some (mI v1), some (mI v2), some (mI v3), some (mI v4), some (mI v5), some (mI v6), some (mI v7), some (mI v8), none]) (st' := [mI v2, mR (12, 0, 177)]) (S' := (L, x6, J, R)) (by first | with_reducible rfl | rw [ex6]) (by first | with_reducible rfl | rw [ex6]) (by first | with_reducible rfl | rw [ex6]) ?_
      obtain ⟨r7, hc7, hf⟩ := bnd_o hf
      refine b_cV (as := [mI v2]) (st := []) (by decide +kernel) k_12_502 n_MD_yearsGo rfl (by decide) v_MD_yearsGo (C_MD_yearsGo x6 J v2 hR hc7) (Nat.le_of_ble_eq_true rfl) (by decide) rfl rfl (fun _ h => h) ?_
      show m_B G (m_rm 9 0 0) M_MD_irons Q 0 0 131 [some (mR (12, 0, 177)), some (mI v1), some (mI v2), some (mI v3), some (mI v4), some (mI v5), some (mI v6), some (mI v7), some (mI v8), none] [] (L, r7.1, r7.2, R)
      refine b_blk (pc' := 133) (ls' := [some (mR (12, 0, 177)), some (mI v1), some (mI v2), some (mI v3), some (mI v4), some (mI v5), some (mI v6), some (mI v7), some (mI v8), none]) (st' := [mI v1, mR (12, 0, 177)]) (S' := (L, r7.1, r7.2, R)) (P := True) [(.aload_n 0, (0, 0, 0, 0, 0)), (.iload_n 1, (0, 0, 0, 0, 0))] [] (by decide +kernel) rfl trivial ?_
      obtain ⟨r8, hc8, hf⟩ := bnd_o hf
      refine b_cV (as := [mI v1]) (st := []) (by decide +kernel) k_12_479 n_MD_fieldOf rfl (by decide) v_MD_fieldOf (C_MD_fieldOf r7.1 r7.2 v1 hR hc8) (Nat.le_of_ble_eq_true rfl) (by decide) rfl rfl (fun _ h => h) ?_
      show m_B G (m_rm 9 0 0) M_MD_irons Q 0 0 136 [some (mR (12, 0, 177)), some (mI v1), some (mI v2), some (mI v3), some (mI v4), some (mI v5), some (mI v6), some (mI v7), some (mI v8), none] [mI r8] (L, r7.1, r7.2, R)
      refine b_blk (pc' := 139) (ls' := [some (mR (12, 0, 177)), some (mI v1), some (mI v2), some (mI v3), some (mI v4), some (mI v5), some (mI v6), some (mI v7), some (mI v8), some (mI r8)]) (st' := [mR (12, 0, 177)]) (S' := (L, r7.1, r7.2, R)) (P := True) [(.istore 9, (0, 0, 0, 0, 0)), (.aload_n 0, (0, 0, 0, 0, 0))] [] (by decide +kernel) rfl trivial ?_
      obtain ⟨r9, hc9, hf⟩ := bnd_o hf
      refine b_cV (as := []) (st := []) (by decide +kernel) k_12_464 n_MD_triesAnew rfl (by decide) v_MD_triesAnew (C_MD_triesAnew r7.1 r7.2 hR hc9) (Nat.le_of_ble_eq_true rfl) (by decide) rfl rfl (fun _ h => h) ?_
      show m_B G (m_rm 9 0 0) M_MD_irons Q 0 0 142 [some (mR (12, 0, 177)), some (mI v1), some (mI v2), some (mI v3), some (mI v4), some (mI v5), some (mI v6), some (mI v7), some (mI v8), some (mI r8)] [] (L, r9, r7.2, R)
      refine b_blk (pc' := 146) (ls' := [some (mR (12, 0, 177)), some (mI v1), some (mI v2), some (mI v3), some (mI v4), some (mI v5), some (mI v6), some (mI v7), some (mI v8), some (mI r8)]) (st' := [mI v4, mI r8]) (S' := (L, r9, r7.2, R)) (P := True) [(.iload 9, (0, 0, 0, 0, 0)), (.iload 4, (0, 0, 0, 0, 0))] [] (by decide +kernel) rfl trivial ?_
      refine b_icmp_gt (off := 6) (tgt := 152) (by decide +kernel) (by decide) (fun h10 => ?_) (fun h10 => ?_)
      · have hf := if_t h10 hf
        refine b_blk (pc' := 85) (ls' := [some (mR (12, 0, 177)), some (mI v1), some (mI v2), some (mI v3), some (mI r8), some (mI v7), some (mI v8), some (mI v7), some (mI (v8 + 1)), some (mI r8)]) (st' := []) (S' := (L, r9, r7.2, R)) (P := True) [(.iload 9, (0, 0, 0, 0, 0)), (.istore 4, (0, 0, 0, 0, 0)), (.iload 7, (0, 0, 0, 0, 0)), (.istore 5, (0, 0, 0, 0, 0)), (.iload 8, (0, 0, 0, 0, 0)), (.istore 6, (0, 0, 0, 0, 0)), (.iinc 8 1, (0, 0, 0, 1, 0)), (.goto (-82), (0, 85, 0, 0, 0))] [] (by decide +kernel) rfl trivial ?_
        refine b_frg 9 ?_
        cases hf
        exact hk
      · have hf := if_f h10 hf
        refine b_blk (pc' := 164) (ls' := [some (mR (12, 0, 177)), some (mI v1), some (mI v2), some (mI v3), some (mI v4), some (mI v5), some (mI v6), some (mI v7), some (mI v8), some (mI r8)]) (st' := []) (S' := (L, r9, r7.2, R)) (P := True) [(.goto 15, (0, 164, 0, 0, 0))] [] (by decide +kernel) rfl trivial ?_
        refine b_blk (pc' := 85) (ls' := [some (mR (12, 0, 177)), some (mI v1), some (mI v2), some (mI v3), some (mI v4), some (mI v5), some (mI v6), some (mI v7), some (mI (v8 + 1)), some (mI r8)]) (st' := []) (S' := (L, r9, r7.2, R)) (P := True) [(.iinc 8 1, (0, 0, 0, 1, 0)), (.goto (-82), (0, 85, 0, 0, 0))] [] (by decide +kernel) rfl trivial ?_
        refine b_frg 9 ?_
        cases hf
        exact hk
    · have hf := if_f h3 hf
      refine b_blk (pc' := 164) (ls' := [some (mR (12, 0, 177)), some (mI v1), some (mI v2), some (mI v3), some (mI v4), some (mI v5), some (mI v6), some (mI v7), some (mI v8), none]) (st' := []) (S' := (L, I, J, R)) (P := True) [(.goto 57, (0, 164, 0, 0, 0))] [] (by decide +kernel) rfl trivial ?_
      refine b_blk (pc' := 85) (ls' := [some (mR (12, 0, 177)), some (mI v1), some (mI v2), some (mI v3), some (mI v4), some (mI v5), some (mI v6), some (mI v7), some (mI (v8 + 1)), none]) (st' := []) (S' := (L, I, J, R)) (P := True) [(.iinc 8 1, (0, 0, 0, 1, 0)), (.goto (-82), (0, 85, 0, 0, 0))] [] (by decide +kernel) rfl trivial ?_
      cases hf
      exact hk
noncomputable def F_MD_irons_71 (I : MI) (J : MJ) (v1 : Int32) (v2 : Int32) (v3 : Int32) (v4 : Int32) (v5 : Int32) (v6 : Int32) (v7 : Int32) : Option ((Int32 × Int32 × Int32 × Int32 × MI × MJ) ⊕ (Int32 × Int32 × Int32 × MI × MJ)) :=
  if (I 204 2) ≤ v7 then (some (.inr ((v4 : Int32), (v5 : Int32), (v6 : Int32), I, J))) else ((wl (fun s : Int32 × Int32 × Int32 × Int32 × MI × MJ => F_MD_irons_85 s.2.2.2.2.1 s.2.2.2.2.2 v1 v2 v3 s.1 s.2.1 s.2.2.1 v7 s.2.2.2.1) ((v4 : Int32), (v5 : Int32), (v6 : Int32), (0 : Int32), I, J)).bind fun t2 => some (.inl ((t2.1 : Int32), (t2.2.1 : Int32), (t2.2.2.1 : Int32), (v7 + 1 : Int32), t2.2.2.2.1, t2.2.2.2.2)))
set_option maxRecDepth 100000 in
set_option maxHeartbeats 400000 in
theorem W_MD_irons_71 {G : MG} {Q : Option MV → MS → Prop} {L : List (Nat × Nat)} {R : Nat → Nat → Option MRef} (I : MI) (J : MJ) (v1 : Int32) (v2 : Int32) (v3 : Int32) (v4 : Int32) (v5 : Int32) (v6 : Int32) (v7 : Int32) (hR : RF R) {r : (Int32 × Int32 × Int32 × Int32 × MI × MJ) ⊕ (Int32 × Int32 × Int32 × MI × MJ)} (hf : F_MD_irons_71 I J v1 v2 v3 v4 v5 v6 v7 = some r) (hk : (Sum.elim (fun s : Int32 × Int32 × Int32 × Int32 × MI × MJ => m_B G (m_rm 9 0 0) M_MD_irons Q 0 0 71 [some (mR (12, 0, 177)), some (mI v1), some (mI v2), some (mI v3), some (mI s.1), some (mI s.2.1), some (mI s.2.2.1), some (mI s.2.2.2.1), none, none] [] (L, s.2.2.2.2.1, s.2.2.2.2.2, R)) (fun s : Int32 × Int32 × Int32 × MI × MJ => m_B G (m_rm 9 0 0) M_MD_irons Q 0 0 176 [some (mR (12, 0, 177)), none, none, some (mI v3), some (mI s.1), some (mI s.2.1), some (mI s.2.2.1), none, none, none] [] (L, s.2.2.2.1, s.2.2.2.2, R))) r) : m_B G (m_rm 9 0 0) M_MD_irons Q 0 0 71 [some (mR (12, 0, 177)), some (mI v1), some (mI v2), some (mI v3), some (mI v4), some (mI v5), some (mI v6), some (mI v7), none, none] [] (L, I, J, R) := by
  unfold F_MD_irons_71 at hf
  refine b_blk (pc' := 79) (ls' := [some (mR (12, 0, 177)), some (mI v1), some (mI v2), some (mI v3), some (mI v4), some (mI v5), some (mI v6), some (mI v7), none, none]) (st' := [mI (I 204 2), mI v7]) (S' := (L, I, J, R)) (P := ((True ∧ R 177 36 = some (20, 4, 204)) ∧ vp_in (2 : Int32) 4)) [(.iload 7, (0, 0, 0, 0, 0)), (.aload_n 0, (0, 0, 0, 0, 0)), (.getfield 93, (12, 36, 3, 0, 0)), (.iconst 2, (0, 0, 0, 2, 0)), (.iaload, (0, 0, 0, 0, 0))] [some (20, 4, 204)] (by decide +kernel) rfl ⟨⟨trivial, (r_177_36 hR)⟩, (vp_in_nI (n := 2) (N := 4) (by decide) (by decide))⟩ ?_
  refine b_icmp_ge (off := 97) (tgt := 176) (by decide +kernel) (by decide) (fun h1 => ?_) (fun h1 => ?_)
  · have hf := if_t h1 hf
    refine b_frg 1 ?_
    refine b_frg 2 ?_
    refine b_frg 7 ?_
    cases hf
    exact hk
  · have hf := if_f h1 hf
    refine b_blk (pc' := 85) (ls' := [some (mR (12, 0, 177)), some (mI v1), some (mI v2), some (mI v3), some (mI v4), some (mI v5), some (mI v6), some (mI v7), some (mI 0), none]) (st' := []) (S' := (L, I, J, R)) (P := True) [(.iconst 0, (0, 0, 0, 0, 0)), (.istore 8, (0, 0, 0, 0, 0))] [] (by decide +kernel) rfl trivial ?_
    obtain ⟨t2, hw, hf⟩ := bnd_o hf
    refine wl_B (A := fun s : Int32 × Int32 × Int32 × Int32 × MI × MJ => m_B G (m_rm 9 0 0) M_MD_irons Q 0 0 85 [some (mR (12, 0, 177)), some (mI v1), some (mI v2), some (mI v3), some (mI s.1), some (mI s.2.1), some (mI s.2.2.1), some (mI v7), some (mI s.2.2.2.1), none] [] (L, s.2.2.2.2.1, s.2.2.2.2.2, R)) (B := (fun s : Int32 × Int32 × Int32 × MI × MJ => m_B G (m_rm 9 0 0) M_MD_irons Q 0 0 170 [some (mR (12, 0, 177)), some (mI v1), some (mI v2), some (mI v3), some (mI s.1), some (mI s.2.1), some (mI s.2.2.1), some (mI v7), none, none] [] (L, s.2.2.2.1, s.2.2.2.2, R))) (fun s r hs hr => W_MD_irons_85 s.2.2.2.2.1 s.2.2.2.2.2 v1 v2 v3 s.1 s.2.1 s.2.2.1 v7 s.2.2.2.1 hR hs hr) hw ?_
    show m_B G (m_rm 9 0 0) M_MD_irons Q 0 0 170 [some (mR (12, 0, 177)), some (mI v1), some (mI v2), some (mI v3), some (mI t2.1), some (mI t2.2.1), some (mI t2.2.2.1), some (mI v7), none, none] [] (L, t2.2.2.2.1, t2.2.2.2.2, R)
    refine b_blk (pc' := 71) (ls' := [some (mR (12, 0, 177)), some (mI v1), some (mI v2), some (mI v3), some (mI t2.1), some (mI t2.2.1), some (mI t2.2.2.1), some (mI (v7 + 1)), none, none]) (st' := []) (S' := (L, t2.2.2.2.1, t2.2.2.2.2, R)) (P := True) [(.iinc 7 1, (0, 0, 0, 1, 0)), (.goto (-102), (0, 71, 0, 0, 0))] [] (by decide +kernel) rfl trivial ?_
    cases hf
    exact hk
noncomputable def F_MD_irons (I : MI) (J : MJ) (v1 : Int32) (v2 : Int32) (v3 : Int32) : Option (Int32 × MI × MJ) :=
  (F_MD_isFence I v1).bind fun r1 => if r1 = (0 : Int32) then (some (((-1) : Int32), I, J)) else ((F_MD_isAhead I v2 (1 : Int32) (20 : Int32)).bind fun r3 => if r3 = (0 : Int32) then (some (((-1) : Int32), I, J)) else ((F_MD_isIn v3.toInt64 (0 : Int64) (2 : Int64)).bind fun r5 => if r5 = (0 : Int32) then (some (((-1) : Int32), I, J)) else ((F_MD_postMany I).bind fun r7 => if r7 = (24 : Int32) then (some (((-1) : Int32), I, J)) else ((F_MD_putsAside I).bind fun r9 => (F_MD_yearsGo r9 J v2).bind fun r10 => (F_MD_fieldOf r10.1 v1).bind fun r11 => (F_MD_triesAnew r10.1).bind fun r12 => (wl (fun s : Int32 × Int32 × Int32 × Int32 × MI × MJ => F_MD_irons_71 s.2.2.2.2.1 s.2.2.2.2.2 v1 v2 v3 s.1 s.2.1 s.2.2.1 s.2.2.2.1) ((r11 : Int32), ((-1) : Int32), ((-1) : Int32), (0 : Int32), r12, r10.2)).bind fun t13 => (F_MD_takesBack t13.2.2.2.1).bind fun r14 => if t13.2.1 = (-1 : Int32) then (some (((-1) : Int32), r14, t13.2.2.2.2)) else (if v3 = (0 : Int32) then (some ((t13.2.1 : Int32), r14, t13.2.2.2.2)) else (if v3 = (1 : Int32) then (some ((t13.2.2.1 : Int32), r14, t13.2.2.2.2)) else (some ((t13.1 : Int32), r14, t13.2.2.2.2))))))))
set_option maxRecDepth 100000 in
set_option maxHeartbeats 400000 in
theorem W_MD_irons {G : MG} {Q : Option MV → MS → Prop} {L : List (Nat × Nat)} {R : Nat → Nat → Option MRef} (I : MI) (J : MJ) (v1 : Int32) (v2 : Int32) (v3 : Int32) (hR : RF R) {r : Int32 × MI × MJ} (hf : F_MD_irons I J v1 v2 v3 = some r) (hk : (fun r : Int32 × MI × MJ => Q (some (mI r.1)) (L, r.2.1, r.2.2, R)) r) : m_B G (m_rm 9 0 0) M_MD_irons Q 0 0 0 [some (mR (12, 0, 177)), some (mI v1), some (mI v2), some (mI v3), none, none, none, none, none, none] [] (L, I, J, R) := by
  unfold F_MD_irons at hf
  refine b_blk (pc' := 2) (ls' := [some (mR (12, 0, 177)), some (mI v1), some (mI v2), some (mI v3), none, none, none, none, none, none]) (st' := [mI v1, mR (12, 0, 177)]) (S' := (L, I, J, R)) (P := True) [(.aload_n 0, (0, 0, 0, 0, 0)), (.iload_n 1, (0, 0, 0, 0, 0))] [] (by decide +kernel) rfl trivial ?_
  obtain ⟨r1, hc1, hf⟩ := bnd_o hf
  refine b_cV (as := [mI v1]) (st := []) (by decide +kernel) k_12_482 n_MD_isFence rfl (by decide) v_MD_isFence (C_MD_isFence I J v1 hR hc1) (Nat.le_of_ble_eq_true rfl) (by decide) rfl rfl (fun _ h => h) ?_
  show m_B G (m_rm 9 0 0) M_MD_irons Q 0 0 5 [some (mR (12, 0, 177)), some (mI v1), some (mI v2), some (mI v3), none, none, none, none, none, none] [mI r1] (L, I, J, R)
  refine b_if_eq (off := 35) (tgt := 40) (by decide +kernel) (by decide) (fun h2 => ?_) (fun h2 => ?_)
  · have hf := if_t h2 hf
    refine b_blk (pc' := 41) (ls' := [some (mR (12, 0, 177)), some (mI v1), some (mI v2), some (mI v3), none, none, none, none, none, none]) (st' := [mI (-1)]) (S' := (L, I, J, R)) (P := True) [(.iconst (-1), (0, 0, 0, (-1), 0))] [] (by decide +kernel) rfl trivial ?_
    cases hf
    exact b_iret (by decide +kernel) rfl hk
  · have hf := if_f h2 hf
    refine b_blk (pc' := 13) (ls' := [some (mR (12, 0, 177)), some (mI v1), some (mI v2), some (mI v3), none, none, none, none, none, none]) (st' := [mI 20, mI 1, mI v2, mR (12, 0, 177)]) (S' := (L, I, J, R)) (P := True) [(.aload_n 0, (0, 0, 0, 0, 0)), (.iload_n 2, (0, 0, 0, 0, 0)), (.iconst 1, (0, 0, 0, 1, 0)), (.bipush 20, (0, 0, 0, 20, 0))] [] (by decide +kernel) rfl trivial ?_
    obtain ⟨r3, hc3, hf⟩ := bnd_o hf
    refine b_cV (as := [mI v2, mI 1, mI 20]) (st := []) (by decide +kernel) k_12_495 n_MD_isAhead rfl (by decide) v_MD_isAhead (C_MD_isAhead I J v2 (1 : Int32) (20 : Int32) hR hc3) (Nat.le_of_ble_eq_true rfl) (by decide) rfl rfl (fun _ h => h) ?_
    show m_B G (m_rm 9 0 0) M_MD_irons Q 0 0 16 [some (mR (12, 0, 177)), some (mI v1), some (mI v2), some (mI v3), none, none, none, none, none, none] [mI r3] (L, I, J, R)
    refine b_if_eq (off := 24) (tgt := 40) (by decide +kernel) (by decide) (fun h4 => ?_) (fun h4 => ?_)
    · have hf := if_t h4 hf
      refine b_blk (pc' := 41) (ls' := [some (mR (12, 0, 177)), some (mI v1), some (mI v2), some (mI v3), none, none, none, none, none, none]) (st' := [mI (-1)]) (S' := (L, I, J, R)) (P := True) [(.iconst (-1), (0, 0, 0, (-1), 0))] [] (by decide +kernel) rfl trivial ?_
      cases hf
      exact b_iret (by decide +kernel) rfl hk
    · have hf := if_f h4 hf
      refine b_blk (pc' := 25) (ls' := [some (mR (12, 0, 177)), some (mI v1), some (mI v2), some (mI v3), none, none, none, none, none, none]) (st' := [mJ 2, mJ 0, mJ v3.toInt64]) (S' := (L, I, J, R)) (P := True) [(.iload_n 3, (0, 0, 0, 0, 0)), (.i2l, (0, 0, 0, 0, 0)), (.lconst 0, (0, 0, 0, 0, 0)), (.ldc2_w 493, (0, 0, 0, 0, 2))] [] (by decide +kernel) rfl trivial ?_
      obtain ⟨r5, hc5, hf⟩ := bnd_o hf
      refine b_cS (as := [mJ v3.toInt64, mJ 0, mJ 2]) (st := []) (by decide +kernel) k_12_277 n_MD_isIn s_MD_isIn (C_MD_isIn I J v3.toInt64 (0 : Int64) (2 : Int64) hR hc5) (Nat.le_of_ble_eq_true rfl) (by decide) rfl rfl (fun _ h => h) ?_
      show m_B G (m_rm 9 0 0) M_MD_irons Q 0 0 28 [some (mR (12, 0, 177)), some (mI v1), some (mI v2), some (mI v3), none, none, none, none, none, none] [mI r5] (L, I, J, R)
      refine b_if_eq (off := 12) (tgt := 40) (by decide +kernel) (by decide) (fun h6 => ?_) (fun h6 => ?_)
      · have hf := if_t h6 hf
        refine b_blk (pc' := 41) (ls' := [some (mR (12, 0, 177)), some (mI v1), some (mI v2), some (mI v3), none, none, none, none, none, none]) (st' := [mI (-1)]) (S' := (L, I, J, R)) (P := True) [(.iconst (-1), (0, 0, 0, (-1), 0))] [] (by decide +kernel) rfl trivial ?_
        cases hf
        exact b_iret (by decide +kernel) rfl hk
      · have hf := if_f h6 hf
        refine b_blk (pc' := 32) (ls' := [some (mR (12, 0, 177)), some (mI v1), some (mI v2), some (mI v3), none, none, none, none, none, none]) (st' := [mR (12, 0, 177)]) (S' := (L, I, J, R)) (P := True) [(.aload_n 0, (0, 0, 0, 0, 0))] [] (by decide +kernel) rfl trivial ?_
        obtain ⟨r7, hc7, hf⟩ := bnd_o hf
        refine b_cV (as := []) (st := []) (by decide +kernel) k_12_470 n_MD_postMany rfl (by decide) v_MD_postMany (C_MD_postMany I J hR hc7) (Nat.le_of_ble_eq_true rfl) (by decide) rfl rfl (fun _ h => h) ?_
        show m_B G (m_rm 9 0 0) M_MD_irons Q 0 0 35 [some (mR (12, 0, 177)), some (mI v1), some (mI v2), some (mI v3), none, none, none, none, none, none] [mI r7] (L, I, J, R)
        refine b_blk (pc' := 37) (ls' := [some (mR (12, 0, 177)), some (mI v1), some (mI v2), some (mI v3), none, none, none, none, none, none]) (st' := [mI 24, mI r7]) (S' := (L, I, J, R)) (P := True) [(.bipush 24, (0, 0, 0, 24, 0))] [] (by decide +kernel) rfl trivial ?_
        refine b_icmp_ne (off := 5) (tgt := 42) (by decide +kernel) (by decide) (fun h8 => ?_) (fun h8 => ?_)
        · have hf := if_f h8 hf
          refine b_blk (pc' := 43) (ls' := [some (mR (12, 0, 177)), some (mI v1), some (mI v2), some (mI v3), none, none, none, none, none, none]) (st' := [mR (12, 0, 177)]) (S' := (L, I, J, R)) (P := True) [(.aload_n 0, (0, 0, 0, 0, 0))] [] (by decide +kernel) rfl trivial ?_
          obtain ⟨r9, hc9, hf⟩ := bnd_o hf
          refine b_cV (as := []) (st := []) (by decide +kernel) k_12_499 n_MD_putsAside rfl (by decide) v_MD_putsAside (C_MD_putsAside I J hR hc9) (Nat.le_of_ble_eq_true rfl) (by decide) rfl rfl (fun _ h => h) ?_
          show m_B G (m_rm 9 0 0) M_MD_irons Q 0 0 46 [some (mR (12, 0, 177)), some (mI v1), some (mI v2), some (mI v3), none, none, none, none, none, none] [] (L, r9, J, R)
          refine b_blk (pc' := 48) (ls' := [some (mR (12, 0, 177)), some (mI v1), some (mI v2), some (mI v3), none, none, none, none, none, none]) (st' := [mI v2, mR (12, 0, 177)]) (S' := (L, r9, J, R)) (P := True) [(.aload_n 0, (0, 0, 0, 0, 0)), (.iload_n 2, (0, 0, 0, 0, 0))] [] (by decide +kernel) rfl trivial ?_
          obtain ⟨r10, hc10, hf⟩ := bnd_o hf
          refine b_cV (as := [mI v2]) (st := []) (by decide +kernel) k_12_502 n_MD_yearsGo rfl (by decide) v_MD_yearsGo (C_MD_yearsGo r9 J v2 hR hc10) (Nat.le_of_ble_eq_true rfl) (by decide) rfl rfl (fun _ h => h) ?_
          show m_B G (m_rm 9 0 0) M_MD_irons Q 0 0 51 [some (mR (12, 0, 177)), some (mI v1), some (mI v2), some (mI v3), none, none, none, none, none, none] [] (L, r10.1, r10.2, R)
          refine b_blk (pc' := 53) (ls' := [some (mR (12, 0, 177)), some (mI v1), some (mI v2), some (mI v3), none, none, none, none, none, none]) (st' := [mI v1, mR (12, 0, 177)]) (S' := (L, r10.1, r10.2, R)) (P := True) [(.aload_n 0, (0, 0, 0, 0, 0)), (.iload_n 1, (0, 0, 0, 0, 0))] [] (by decide +kernel) rfl trivial ?_
          obtain ⟨r11, hc11, hf⟩ := bnd_o hf
          refine b_cV (as := [mI v1]) (st := []) (by decide +kernel) k_12_479 n_MD_fieldOf rfl (by decide) v_MD_fieldOf (C_MD_fieldOf r10.1 r10.2 v1 hR hc11) (Nat.le_of_ble_eq_true rfl) (by decide) rfl rfl (fun _ h => h) ?_
          show m_B G (m_rm 9 0 0) M_MD_irons Q 0 0 56 [some (mR (12, 0, 177)), some (mI v1), some (mI v2), some (mI v3), none, none, none, none, none, none] [mI r11] (L, r10.1, r10.2, R)
          refine b_blk (pc' := 59) (ls' := [some (mR (12, 0, 177)), some (mI v1), some (mI v2), some (mI v3), some (mI r11), none, none, none, none, none]) (st' := [mR (12, 0, 177)]) (S' := (L, r10.1, r10.2, R)) (P := True) [(.istore 4, (0, 0, 0, 0, 0)), (.aload_n 0, (0, 0, 0, 0, 0))] [] (by decide +kernel) rfl trivial ?_
          obtain ⟨r12, hc12, hf⟩ := bnd_o hf
          refine b_cV (as := []) (st := []) (by decide +kernel) k_12_464 n_MD_triesAnew rfl (by decide) v_MD_triesAnew (C_MD_triesAnew r10.1 r10.2 hR hc12) (Nat.le_of_ble_eq_true rfl) (by decide) rfl rfl (fun _ h => h) ?_
          show m_B G (m_rm 9 0 0) M_MD_irons Q 0 0 62 [some (mR (12, 0, 177)), some (mI v1), some (mI v2), some (mI v3), some (mI r11), none, none, none, none, none] [] (L, r12, r10.2, R)
          refine b_blk (pc' := 71) (ls' := [some (mR (12, 0, 177)), some (mI v1), some (mI v2), some (mI v3), some (mI r11), some (mI (-1)), some (mI (-1)), some (mI 0), none, none]) (st' := []) (S' := (L, r12, r10.2, R)) (P := True) [(.iconst (-1), (0, 0, 0, (-1), 0)), (.istore 5, (0, 0, 0, 0, 0)), (.iconst (-1), (0, 0, 0, (-1), 0)), (.istore 6, (0, 0, 0, 0, 0)), (.iconst 0, (0, 0, 0, 0, 0)), (.istore 7, (0, 0, 0, 0, 0))] [] (by decide +kernel) rfl trivial ?_
          obtain ⟨t13, hw, hf⟩ := bnd_o hf
          refine wl_B (A := fun s : Int32 × Int32 × Int32 × Int32 × MI × MJ => m_B G (m_rm 9 0 0) M_MD_irons Q 0 0 71 [some (mR (12, 0, 177)), some (mI v1), some (mI v2), some (mI v3), some (mI s.1), some (mI s.2.1), some (mI s.2.2.1), some (mI s.2.2.2.1), none, none] [] (L, s.2.2.2.2.1, s.2.2.2.2.2, R)) (B := (fun s : Int32 × Int32 × Int32 × MI × MJ => m_B G (m_rm 9 0 0) M_MD_irons Q 0 0 176 [some (mR (12, 0, 177)), none, none, some (mI v3), some (mI s.1), some (mI s.2.1), some (mI s.2.2.1), none, none, none] [] (L, s.2.2.2.1, s.2.2.2.2, R))) (fun s r hs hr => W_MD_irons_71 s.2.2.2.2.1 s.2.2.2.2.2 v1 v2 v3 s.1 s.2.1 s.2.2.1 s.2.2.2.1 hR hs hr) hw ?_
          show m_B G (m_rm 9 0 0) M_MD_irons Q 0 0 176 [some (mR (12, 0, 177)), none, none, some (mI v3), some (mI t13.1), some (mI t13.2.1), some (mI t13.2.2.1), none, none, none] [] (L, t13.2.2.2.1, t13.2.2.2.2, R)
          refine b_blk (pc' := 177) (ls' := [some (mR (12, 0, 177)), none, none, some (mI v3), some (mI t13.1), some (mI t13.2.1), some (mI t13.2.2.1), none, none, none]) (st' := [mR (12, 0, 177)]) (S' := (L, t13.2.2.2.1, t13.2.2.2.2, R)) (P := True) [(.aload_n 0, (0, 0, 0, 0, 0))] [] (by decide +kernel) rfl trivial ?_
          obtain ⟨r14, hc14, hf⟩ := bnd_o hf
          refine b_cV (as := []) (st := []) (by decide +kernel) k_12_505 n_MD_takesBack rfl (by decide) v_MD_takesBack (C_MD_takesBack t13.2.2.2.1 t13.2.2.2.2 hR hc14) (Nat.le_of_ble_eq_true rfl) (by decide) rfl rfl (fun _ h => h) ?_
          show m_B G (m_rm 9 0 0) M_MD_irons Q 0 0 180 [some (mR (12, 0, 177)), none, none, some (mI v3), some (mI t13.1), some (mI t13.2.1), some (mI t13.2.2.1), none, none, none] [] (L, r14, t13.2.2.2.2, R)
          refine b_blk (pc' := 183) (ls' := [some (mR (12, 0, 177)), none, none, some (mI v3), some (mI t13.1), some (mI t13.2.1), some (mI t13.2.2.1), none, none, none]) (st' := [mI (-1), mI t13.2.1]) (S' := (L, r14, t13.2.2.2.2, R)) (P := True) [(.iload 5, (0, 0, 0, 0, 0)), (.iconst (-1), (0, 0, 0, (-1), 0))] [] (by decide +kernel) rfl trivial ?_
          refine b_icmp_ne (off := 7) (tgt := 190) (by decide +kernel) (by decide) (fun h15 => ?_) (fun h15 => ?_)
          · have hf := if_f h15 hf
            refine b_blk (pc' := 191) (ls' := [some (mR (12, 0, 177)), none, none, some (mI v3), some (mI t13.1), some (mI t13.2.1), some (mI t13.2.2.1), none, none, none]) (st' := [mI v3]) (S' := (L, r14, t13.2.2.2.2, R)) (P := True) [(.iload_n 3, (0, 0, 0, 0, 0))] [] (by decide +kernel) rfl trivial ?_
            refine b_if_ne (off := 8) (tgt := 199) (by decide +kernel) (by decide) (fun h16 => ?_) (fun h16 => ?_)
            · have hf := if_f h16 hf
              refine b_blk (pc' := 201) (ls' := [some (mR (12, 0, 177)), none, none, some (mI v3), some (mI t13.1), some (mI t13.2.1), some (mI t13.2.2.1), none, none, none]) (st' := [mI 1, mI v3]) (S' := (L, r14, t13.2.2.2.2, R)) (P := True) [(.iload_n 3, (0, 0, 0, 0, 0)), (.iconst 1, (0, 0, 0, 1, 0))] [] (by decide +kernel) rfl trivial ?_
              refine b_icmp_ne (off := 8) (tgt := 209) (by decide +kernel) (by decide) (fun h17 => ?_) (fun h17 => ?_)
              · have hf := if_f h17 hf
                refine b_blk (pc' := 211) (ls' := [some (mR (12, 0, 177)), none, none, some (mI v3), some (mI t13.1), some (mI t13.2.1), some (mI t13.2.2.1), none, none, none]) (st' := [mI t13.1]) (S' := (L, r14, t13.2.2.2.2, R)) (P := True) [(.iload 4, (0, 0, 0, 0, 0))] [] (by decide +kernel) rfl trivial ?_
                cases hf
                exact b_iret (by decide +kernel) rfl hk
              · have hf := if_t h17 hf
                refine b_blk (pc' := 211) (ls' := [some (mR (12, 0, 177)), none, none, some (mI v3), some (mI t13.1), some (mI t13.2.1), some (mI t13.2.2.1), none, none, none]) (st' := [mI t13.2.2.1]) (S' := (L, r14, t13.2.2.2.2, R)) (P := True) [(.iload 6, (0, 0, 0, 0, 0)), (.goto 5, (0, 211, 0, 0, 0))] [] (by decide +kernel) rfl trivial ?_
                cases hf
                exact b_iret (by decide +kernel) rfl hk
            · have hf := if_t h16 hf
              refine b_blk (pc' := 211) (ls' := [some (mR (12, 0, 177)), none, none, some (mI v3), some (mI t13.1), some (mI t13.2.1), some (mI t13.2.2.1), none, none, none]) (st' := [mI t13.2.1]) (S' := (L, r14, t13.2.2.2.2, R)) (P := True) [(.iload 5, (0, 0, 0, 0, 0)), (.goto 15, (0, 211, 0, 0, 0))] [] (by decide +kernel) rfl trivial ?_
              cases hf
              exact b_iret (by decide +kernel) rfl hk
          · have hf := if_t h15 hf
            refine b_blk (pc' := 211) (ls' := [some (mR (12, 0, 177)), none, none, some (mI v3), some (mI t13.1), some (mI t13.2.1), some (mI t13.2.2.1), none, none, none]) (st' := [mI (-1)]) (S' := (L, r14, t13.2.2.2.2, R)) (P := True) [(.iconst (-1), (0, 0, 0, (-1), 0)), (.goto 24, (0, 211, 0, 0, 0))] [] (by decide +kernel) rfl trivial ?_
            cases hf
            exact b_iret (by decide +kernel) rfl hk
        · have hf := if_t h8 hf
          refine b_blk (pc' := 41) (ls' := [some (mR (12, 0, 177)), some (mI v1), some (mI v2), some (mI v3), none, none, none, none, none, none]) (st' := [mI (-1)]) (S' := (L, I, J, R)) (P := True) [(.iconst (-1), (0, 0, 0, (-1), 0))] [] (by decide +kernel) rfl trivial ?_
          cases hf
          exact b_iret (by decide +kernel) rfl hk
theorem C_MD_irons {G : MG} {L : List (Nat × Nat)} {R : Nat → Nat → Option MRef} (I : MI) (J : MJ) (v1 : Int32) (v2 : Int32) (v3 : Int32) (hR : RF R) {r : Int32 × MI × MJ} (hf : F_MD_irons I J v1 v2 v3 = some r) : m_met G 9 0 0 y_MD_irons M_MD_irons [mR (12, 0, 177), mI v1, mI v2, mI v3] (L, I, J, R) (m_is (some (mI r.1)) (L, r.2.1, r.2.2, R)) :=
  m_met_in n_MD_irons (plainFor_of_name (by decide)) (by decide) (Nat.le_of_ble_eq_true rfl) (ls := [some (mR (12, 0, 177)), some (mI v1), some (mI v2), some (mI v3), none, none, none, none, none, none]) rfl (W_MD_irons I J v1 v2 v3 hR hf ⟨rfl, rfl⟩)
noncomputable def F_MD_isRest_2 (I : MI) (v1 : Int32) (v2 : Int32) : Option ((Int32) ⊕ ((Unit) ⊕ (Int32))) :=
  (F_MD_fenceMany I).bind fun r1 => if r1 ≤ v2 then (some (.inr (.inl ()))) else (gd (((6 : Int32) * (v1 ^^^ ((1 : Int32) <<< (v2 &&& 31)))) + v2) 384 <| gd (((6 : Int32) * v1) + v2) 384 <| if (I 216 (((6 : Int32) * (v1 ^^^ ((1 : Int32) <<< (v2 &&& 31)))) + v2).toNatClampNeg) ≤ (I 216 (((6 : Int32) * v1) + v2).toNatClampNeg) then (some (.inl (v2 + 1 : Int32))) else (some (.inr (.inr (0 : Int32)))))
set_option maxRecDepth 100000 in
set_option maxHeartbeats 400000 in
theorem W_MD_isRest_2 {G : MG} {Q : Option MV → MS → Prop} {L : List (Nat × Nat)} {R : Nat → Nat → Option MRef} (I : MI) (J : MJ) (v1 : Int32) (v2 : Int32) (hR : RF R) {r : (Int32) ⊕ ((Unit) ⊕ (Int32))} (hf : F_MD_isRest_2 I v1 v2 = some r) (hk : (Sum.elim (fun s : Int32 => m_B G (m_rm 2 0 0) M_MD_isRest Q 0 0 2 [some (mR (12, 0, 177)), some (mI v1), some (mI s)] [] (L, I, J, R)) (Sum.elim (fun s : Unit => m_B G (m_rm 2 0 0) M_MD_isRest Q 0 0 47 [none, none, none] [] (L, I, J, R)) (fun r : Int32 => Q (some (mI r)) (L, I, J, R)))) r) : m_B G (m_rm 2 0 0) M_MD_isRest Q 0 0 2 [some (mR (12, 0, 177)), some (mI v1), some (mI v2)] [] (L, I, J, R) := by
  unfold F_MD_isRest_2 at hf
  refine b_blk (pc' := 4) (ls' := [some (mR (12, 0, 177)), some (mI v1), some (mI v2)]) (st' := [mR (12, 0, 177), mI v2]) (S' := (L, I, J, R)) (P := True) [(.iload_n 2, (0, 0, 0, 0, 0)), (.aload_n 0, (0, 0, 0, 0, 0))] [] (by decide +kernel) rfl trivial ?_
  obtain ⟨r1, hc1, hf⟩ := bnd_o hf
  refine b_cV (as := []) (st := [mI v2]) (by decide +kernel) k_12_382 n_MD_fenceMany rfl (by decide) v_MD_fenceMany (C_MD_fenceMany I J hR hc1) (Nat.le_of_ble_eq_true rfl) (by decide) rfl rfl (fun _ h => h) ?_
  show m_B G (m_rm 2 0 0) M_MD_isRest Q 0 0 7 [some (mR (12, 0, 177)), some (mI v1), some (mI v2)] [mI r1, mI v2] (L, I, J, R)
  refine b_icmp_ge (off := 40) (tgt := 47) (by decide +kernel) (by decide) (fun h2 => ?_) (fun h2 => ?_)
  · have hf := if_t h2 hf
    refine b_frg 0 ?_
    refine b_frg 1 ?_
    refine b_frg 2 ?_
    cases hf
    exact hk
  · have hf := if_f h2 hf
    obtain ⟨g3, hf⟩ := gd_s hf
    obtain ⟨g4, hf⟩ := gd_s hf
    refine b_blk (pc' := 36) (ls' := [some (mR (12, 0, 177)), some (mI v1), some (mI v2)]) (st' := [mI (I 216 (((6 : Int32) * v1) + v2).toNatClampNeg), mI (I 216 (((6 : Int32) * (v1 ^^^ ((1 : Int32) <<< (v2 &&& 31)))) + v2).toNatClampNeg)]) (S' := (L, I, J, R)) (P := ((((True ∧ R 177 58 = some (20, 384, 216)) ∧ vp_in (((6 : Int32) * (v1 ^^^ ((1 : Int32) <<< (v2 &&& 31)))) + v2) 384) ∧ R 177 58 = some (20, 384, 216)) ∧ vp_in (((6 : Int32) * v1) + v2) 384)) [(.aload_n 0, (0, 0, 0, 0, 0)), (.getfield 130, (12, 58, 3, 0, 0)), (.bipush 6, (0, 0, 0, 6, 0)), (.iload_n 1, (0, 0, 0, 0, 0)), (.iconst 1, (0, 0, 0, 1, 0)), (.iload_n 2, (0, 0, 0, 0, 0)), (.ishl, (0, 0, 0, 0, 0)), (.ixor, (0, 0, 0, 0, 0)), (.imul, (0, 0, 0, 0, 0)), (.iload_n 2, (0, 0, 0, 0, 0)), (.iadd, (0, 0, 0, 0, 0)), (.iaload, (0, 0, 0, 0, 0)), (.aload_n 0, (0, 0, 0, 0, 0)), (.getfield 130, (12, 58, 3, 0, 0)), (.bipush 6, (0, 0, 0, 6, 0)), (.iload_n 1, (0, 0, 0, 0, 0)), (.imul, (0, 0, 0, 0, 0)), (.iload_n 2, (0, 0, 0, 0, 0)), (.iadd, (0, 0, 0, 0, 0)), (.iaload, (0, 0, 0, 0, 0))] [some (20, 384, 216), some (20, 384, 216)] (by decide +kernel) rfl ⟨⟨⟨⟨trivial, (r_177_58 hR)⟩, (in_n (n := 384) (by decide) g3.1 g3.2)⟩, (r_177_58 hR)⟩, (in_n (n := 384) (by decide) g4.1 g4.2)⟩ ?_
    refine b_icmp_le (off := 5) (tgt := 41) (by decide +kernel) (by decide) (fun h5 => ?_) (fun h5 => ?_)
    · have hf := if_t h5 hf
      refine b_blk (pc' := 2) (ls' := [some (mR (12, 0, 177)), some (mI v1), some (mI (v2 + 1))]) (st' := []) (S' := (L, I, J, R)) (P := True) [(.iinc 2 1, (0, 0, 0, 1, 0)), (.goto (-42), (0, 2, 0, 0, 0))] [] (by decide +kernel) rfl trivial ?_
      cases hf
      exact hk
    · have hf := if_f h5 hf
      refine b_blk (pc' := 40) (ls' := [some (mR (12, 0, 177)), some (mI v1), some (mI v2)]) (st' := [mI 0]) (S' := (L, I, J, R)) (P := True) [(.iconst 0, (0, 0, 0, 0, 0))] [] (by decide +kernel) rfl trivial ?_
      cases hf
      exact b_zret (by decide +kernel) rfl (by decide) hk
noncomputable def F_MD_isRest (I : MI) (v1 : Int32) : Option (Int32) :=
  (wl (fun s : Int32 => F_MD_isRest_2 I v1 s) (0 : Int32)).bind <| sel (fun q => some q) fun t1 => some (1 : Int32)
set_option maxRecDepth 100000 in
set_option maxHeartbeats 400000 in
theorem W_MD_isRest {G : MG} {Q : Option MV → MS → Prop} {L : List (Nat × Nat)} {R : Nat → Nat → Option MRef} (I : MI) (J : MJ) (v1 : Int32) (hR : RF R) {r : Int32} (hf : F_MD_isRest I v1 = some r) (hk : (fun r : Int32 => Q (some (mI r)) (L, I, J, R)) r) : m_B G (m_rm 2 0 0) M_MD_isRest Q 0 0 0 [some (mR (12, 0, 177)), some (mI v1), none] [] (L, I, J, R) := by
  unfold F_MD_isRest at hf
  refine b_blk (pc' := 2) (ls' := [some (mR (12, 0, 177)), some (mI v1), some (mI 0)]) (st' := []) (S' := (L, I, J, R)) (P := True) [(.iconst 0, (0, 0, 0, 0, 0)), (.istore_n 2, (0, 0, 0, 0, 0))] [] (by decide +kernel) rfl trivial ?_
  obtain ⟨t1, hw, hf⟩ := bnd_o hf
  refine wl_B (A := fun s : Int32 => m_B G (m_rm 2 0 0) M_MD_isRest Q 0 0 2 [some (mR (12, 0, 177)), some (mI v1), some (mI s)] [] (L, I, J, R)) (B := (Sum.elim (fun s : Unit => m_B G (m_rm 2 0 0) M_MD_isRest Q 0 0 47 [none, none, none] [] (L, I, J, R)) (fun r : Int32 => Q (some (mI r)) (L, I, J, R)))) (fun s r hs hr => W_MD_isRest_2 I J v1 s hR hs hr) hw ?_
  rcases t1 with t1 | q
  rotate_left
  · cases se_r hf; exact hk
  replace hf := se_l hf
  show m_B G (m_rm 2 0 0) M_MD_isRest Q 0 0 47 [none, none, none] [] (L, I, J, R)
  refine b_blk (pc' := 48) (ls' := [none, none, none]) (st' := [mI 1]) (S' := (L, I, J, R)) (P := True) [(.iconst 1, (0, 0, 0, 1, 0))] [] (by decide +kernel) rfl trivial ?_
  cases hf
  exact b_zret (by decide +kernel) rfl (by decide) hk
theorem C_MD_isRest {G : MG} {L : List (Nat × Nat)} {R : Nat → Nat → Option MRef} (I : MI) (J : MJ) (v1 : Int32) (hR : RF R) {r : Int32} (hf : F_MD_isRest I v1 = some r) : m_met G 2 0 0 y_MD_isRest M_MD_isRest [mR (12, 0, 177), mI v1] (L, I, J, R) (m_is (some (mI r)) (L, I, J, R)) :=
  m_met_in n_MD_isRest (plainFor_of_name (by decide)) (by decide) (Nat.le_of_ble_eq_true rfl) (ls := [some (mR (12, 0, 177)), some (mI v1), none]) rfl (W_MD_isRest I J v1 hR hf ⟨rfl, rfl⟩)
noncomputable def F_MD_laysFields_18 (I : MI) (v1 : Int32) (v2 : Int32) (v3 : Int32) : Option ((Int32 × MI) ⊕ (MI)) :=
  (F_MD_fenceMany I).bind fun r1 => if r1 ≤ v3 then (some (.inr I)) else (gd (((7 : Int32) + ((8 : Int32) * v3)) + (1 : Int32)) 176 <| bnd (m_up I 213 ((((7 : Int32) + ((8 : Int32) * v3)) + (1 : Int32)).toNatClampNeg) ((v2 >>> (v3 &&& 31)) &&& (1 : Int32)) : MI) fun x4 => some (.inl ((v3 + 1 : Int32), x4)))
set_option maxRecDepth 100000 in
set_option maxHeartbeats 400000 in
theorem W_MD_laysFields_18 {G : MG} {Q : Option MV → MS → Prop} {L : List (Nat × Nat)} {R : Nat → Nat → Option MRef} (I : MI) (J : MJ) (v1 : Int32) (v2 : Int32) (v3 : Int32) (hR : RF R) {r : (Int32 × MI) ⊕ (MI)} (hf : F_MD_laysFields_18 I v1 v2 v3 = some r) (hk : (Sum.elim (fun s : Int32 × MI => m_B G (m_rm 9 0 0) M_MD_laysFields Q 0 0 18 [some (mR (12, 0, 177)), some (mI v1), some (mI v2), some (mI s.1)] [] (L, s.2, J, R)) (fun s : MI => m_B G (m_rm 9 0 0) M_MD_laysFields Q 0 0 51 [some (mR (12, 0, 177)), some (mI v1), some (mI v2), none] [] (L, s, J, R))) r) : m_B G (m_rm 9 0 0) M_MD_laysFields Q 0 0 18 [some (mR (12, 0, 177)), some (mI v1), some (mI v2), some (mI v3)] [] (L, I, J, R) := by
  unfold F_MD_laysFields_18 at hf
  refine b_blk (pc' := 20) (ls' := [some (mR (12, 0, 177)), some (mI v1), some (mI v2), some (mI v3)]) (st' := [mR (12, 0, 177), mI v3]) (S' := (L, I, J, R)) (P := True) [(.iload_n 3, (0, 0, 0, 0, 0)), (.aload_n 0, (0, 0, 0, 0, 0))] [] (by decide +kernel) rfl trivial ?_
  obtain ⟨r1, hc1, hf⟩ := bnd_o hf
  refine b_cV (as := []) (st := [mI v3]) (by decide +kernel) k_12_382 n_MD_fenceMany rfl (by decide) v_MD_fenceMany (C_MD_fenceMany I J hR hc1) (Nat.le_of_ble_eq_true rfl) (by decide) rfl rfl (fun _ h => h) ?_
  show m_B G (m_rm 9 0 0) M_MD_laysFields Q 0 0 23 [some (mR (12, 0, 177)), some (mI v1), some (mI v2), some (mI v3)] [mI r1, mI v3] (L, I, J, R)
  refine b_icmp_ge (off := 28) (tgt := 51) (by decide +kernel) (by decide) (fun h2 => ?_) (fun h2 => ?_)
  · have hf := if_t h2 hf
    refine b_frg 3 ?_
    cases hf
    exact hk
  · have hf := if_f h2 hf
    obtain ⟨g3, hf⟩ := gd_s hf
    refine b_blk (pc' := 18) (ls' := [some (mR (12, 0, 177)), some (mI v1), some (mI v2), some (mI (v3 + 1))]) (st' := []) (S' := (L, m_up I 213 ((((7 : Int32) + ((8 : Int32) * v3)) + (1 : Int32)).toNatClampNeg) ((v2 >>> (v3 &&& 31)) &&& (1 : Int32)), J, R)) (P := ((True ∧ R 177 51 = some (20, 176, 213)) ∧ vp_in (((7 : Int32) + ((8 : Int32) * v3)) + (1 : Int32)) 176)) [(.aload_n 0, (0, 0, 0, 0, 0)), (.getfield 121, (12, 51, 3, 0, 0)), (.bipush 7, (0, 0, 0, 7, 0)), (.bipush 8, (0, 0, 0, 8, 0)), (.iload_n 3, (0, 0, 0, 0, 0)), (.imul, (0, 0, 0, 0, 0)), (.iadd, (0, 0, 0, 0, 0)), (.iconst 1, (0, 0, 0, 1, 0)), (.iadd, (0, 0, 0, 0, 0)), (.iload_n 2, (0, 0, 0, 0, 0)), (.iload_n 3, (0, 0, 0, 0, 0)), (.ishr, (0, 0, 0, 0, 0)), (.iconst 1, (0, 0, 0, 1, 0)), (.iand, (0, 0, 0, 0, 0)), (.iastore, (0, 0, 0, 0, 0)), (.iinc 3 1, (0, 0, 0, 1, 0)), (.goto (-30), (0, 18, 0, 0, 0))] [some (20, 176, 213)] (by decide +kernel) rfl ⟨⟨trivial, (r_177_51 hR)⟩, (in_n (n := 176) (by decide) g3.1 g3.2)⟩ ?_
    obtain ⟨x4, ex4, hf⟩ := bnd_s hf
    refine m_B_cg (ls' := [some (mR (12, 0, 177)), some (mI v1), some (mI v2), some (mI (v3 + 1))]) (st' := []) (S' := (L, x4, J, R)) (by first | with_reducible rfl | rw [ex4]) (by first | with_reducible rfl | rw [ex4]) (by first | with_reducible rfl | rw [ex4]) ?_
    cases hf
    exact hk
noncomputable def F_MD_laysFields_58 (I : MI) (v1 : Int32) (v2 : Int32) (v3 : Int32) : Option ((Int32 × MI) ⊕ (MI)) :=
  (F_MD_fenceMany I).bind fun r1 => if r1 ≤ v3 then (some (.inr I)) else ((F_MD_fieldOf I v3).bind fun r3 => gd (((6 : Int32) * v2) + v3) 384 <| some (.inl ((v3 + 1 : Int32), m_up I 216 ((((6 : Int32) * v2) + v3).toNatClampNeg) r3)))
set_option maxRecDepth 100000 in
set_option maxHeartbeats 400000 in
theorem W_MD_laysFields_58 {G : MG} {Q : Option MV → MS → Prop} {L : List (Nat × Nat)} {R : Nat → Nat → Option MRef} (I : MI) (J : MJ) (v1 : Int32) (v2 : Int32) (v3 : Int32) (hR : RF R) {r : (Int32 × MI) ⊕ (MI)} (hf : F_MD_laysFields_58 I v1 v2 v3 = some r) (hk : (Sum.elim (fun s : Int32 × MI => m_B G (m_rm 9 0 0) M_MD_laysFields Q 0 0 58 [some (mR (12, 0, 177)), some (mI v1), some (mI v2), some (mI s.1)] [] (L, s.2, J, R)) (fun s : MI => m_B G (m_rm 9 0 0) M_MD_laysFields Q 0 0 88 [some (mR (12, 0, 177)), some (mI v1), some (mI v2), none] [] (L, s, J, R))) r) : m_B G (m_rm 9 0 0) M_MD_laysFields Q 0 0 58 [some (mR (12, 0, 177)), some (mI v1), some (mI v2), some (mI v3)] [] (L, I, J, R) := by
  unfold F_MD_laysFields_58 at hf
  refine b_blk (pc' := 60) (ls' := [some (mR (12, 0, 177)), some (mI v1), some (mI v2), some (mI v3)]) (st' := [mR (12, 0, 177), mI v3]) (S' := (L, I, J, R)) (P := True) [(.iload_n 3, (0, 0, 0, 0, 0)), (.aload_n 0, (0, 0, 0, 0, 0))] [] (by decide +kernel) rfl trivial ?_
  obtain ⟨r1, hc1, hf⟩ := bnd_o hf
  refine b_cV (as := []) (st := [mI v3]) (by decide +kernel) k_12_382 n_MD_fenceMany rfl (by decide) v_MD_fenceMany (C_MD_fenceMany I J hR hc1) (Nat.le_of_ble_eq_true rfl) (by decide) rfl rfl (fun _ h => h) ?_
  show m_B G (m_rm 9 0 0) M_MD_laysFields Q 0 0 63 [some (mR (12, 0, 177)), some (mI v1), some (mI v2), some (mI v3)] [mI r1, mI v3] (L, I, J, R)
  refine b_icmp_ge (off := 25) (tgt := 88) (by decide +kernel) (by decide) (fun h2 => ?_) (fun h2 => ?_)
  · have hf := if_t h2 hf
    refine b_frg 3 ?_
    cases hf
    exact hk
  · have hf := if_f h2 hf
    refine b_blk (pc' := 78) (ls' := [some (mR (12, 0, 177)), some (mI v1), some (mI v2), some (mI v3)]) (st' := [mI v3, mR (12, 0, 177), mI (((6 : Int32) * v2) + v3), mR (20, 384, 216)]) (S' := (L, I, J, R)) (P := (True ∧ R 177 58 = some (20, 384, 216))) [(.aload_n 0, (0, 0, 0, 0, 0)), (.getfield 130, (12, 58, 3, 0, 0)), (.bipush 6, (0, 0, 0, 6, 0)), (.iload_n 2, (0, 0, 0, 0, 0)), (.imul, (0, 0, 0, 0, 0)), (.iload_n 3, (0, 0, 0, 0, 0)), (.iadd, (0, 0, 0, 0, 0)), (.aload_n 0, (0, 0, 0, 0, 0)), (.iload_n 3, (0, 0, 0, 0, 0))] [some (20, 384, 216)] (by decide +kernel) rfl ⟨trivial, (r_177_58 hR)⟩ ?_
    obtain ⟨r3, hc3, hf⟩ := bnd_o hf
    refine b_cV (as := [mI v3]) (st := [mI (((6 : Int32) * v2) + v3), mR (20, 384, 216)]) (by decide +kernel) k_12_479 n_MD_fieldOf rfl (by decide) v_MD_fieldOf (C_MD_fieldOf I J v3 hR hc3) (Nat.le_of_ble_eq_true rfl) (by decide) rfl rfl (fun _ h => h) ?_
    show m_B G (m_rm 9 0 0) M_MD_laysFields Q 0 0 81 [some (mR (12, 0, 177)), some (mI v1), some (mI v2), some (mI v3)] [mI r3, mI (((6 : Int32) * v2) + v3), mR (20, 384, 216)] (L, I, J, R)
    obtain ⟨g4, hf⟩ := gd_s hf
    refine b_blk (pc' := 58) (ls' := [some (mR (12, 0, 177)), some (mI v1), some (mI v2), some (mI (v3 + 1))]) (st' := []) (S' := (L, m_up I 216 ((((6 : Int32) * v2) + v3).toNatClampNeg) r3, J, R)) (P := (True ∧ vp_in (((6 : Int32) * v2) + v3) 384)) [(.iastore, (0, 0, 0, 0, 0)), (.iinc 3 1, (0, 0, 0, 1, 0)), (.goto (-27), (0, 58, 0, 0, 0))] [] (by decide +kernel) rfl ⟨trivial, (in_n (n := 384) (by decide) g4.1 g4.2)⟩ ?_
    cases hf
    exact hk
noncomputable def F_MD_laysFields_6 (I : MI) (J : MJ) (v1 : Int32) (v2 : Int32) : Option ((Int32 × MI × MJ) ⊕ (MI × MJ)) :=
  (F_MD_fenceMany I).bind fun r1 => if ((1 : Int32) <<< (r1 &&& 31)) ≤ v2 then (some (.inr (I, J))) else ((wl (fun s : Int32 × MI => F_MD_laysFields_18 s.2 v1 v2 s.1) ((0 : Int32), I)).bind fun t3 => (F_MD_yearsGo t3 J v1).bind fun r4 => (wl (fun s : Int32 × MI => F_MD_laysFields_58 s.2 v1 v2 s.1) ((0 : Int32), r4.1)).bind fun t5 => (F_MD_triesAnew t5).bind fun r6 => some (.inl ((v2 + 1 : Int32), r6, r4.2)))
set_option maxRecDepth 100000 in
set_option maxHeartbeats 400000 in
theorem W_MD_laysFields_6 {G : MG} {Q : Option MV → MS → Prop} {L : List (Nat × Nat)} {R : Nat → Nat → Option MRef} (I : MI) (J : MJ) (v1 : Int32) (v2 : Int32) (hR : RF R) {r : (Int32 × MI × MJ) ⊕ (MI × MJ)} (hf : F_MD_laysFields_6 I J v1 v2 = some r) (hk : (Sum.elim (fun s : Int32 × MI × MJ => m_B G (m_rm 9 0 0) M_MD_laysFields Q 0 0 6 [some (mR (12, 0, 177)), some (mI v1), some (mI s.1), none] [] (L, s.2.1, s.2.2, R)) (fun s : MI × MJ => m_B G (m_rm 9 0 0) M_MD_laysFields Q 0 0 98 [some (mR (12, 0, 177)), none, none, none] [] (L, s.1, s.2, R))) r) : m_B G (m_rm 9 0 0) M_MD_laysFields Q 0 0 6 [some (mR (12, 0, 177)), some (mI v1), some (mI v2), none] [] (L, I, J, R) := by
  unfold F_MD_laysFields_6 at hf
  refine b_blk (pc' := 9) (ls' := [some (mR (12, 0, 177)), some (mI v1), some (mI v2), none]) (st' := [mR (12, 0, 177), mI 1, mI v2]) (S' := (L, I, J, R)) (P := True) [(.iload_n 2, (0, 0, 0, 0, 0)), (.iconst 1, (0, 0, 0, 1, 0)), (.aload_n 0, (0, 0, 0, 0, 0))] [] (by decide +kernel) rfl trivial ?_
  obtain ⟨r1, hc1, hf⟩ := bnd_o hf
  refine b_cV (as := []) (st := [mI 1, mI v2]) (by decide +kernel) k_12_382 n_MD_fenceMany rfl (by decide) v_MD_fenceMany (C_MD_fenceMany I J hR hc1) (Nat.le_of_ble_eq_true rfl) (by decide) rfl rfl (fun _ h => h) ?_
  show m_B G (m_rm 9 0 0) M_MD_laysFields Q 0 0 12 [some (mR (12, 0, 177)), some (mI v1), some (mI v2), none] [mI r1, mI 1, mI v2] (L, I, J, R)
  refine b_blk (pc' := 13) (ls' := [some (mR (12, 0, 177)), some (mI v1), some (mI v2), none]) (st' := [mI ((1 : Int32) <<< (r1 &&& 31)), mI v2]) (S' := (L, I, J, R)) (P := True) [(.ishl, (0, 0, 0, 0, 0))] [] (by decide +kernel) rfl trivial ?_
  refine b_icmp_ge (off := 85) (tgt := 98) (by decide +kernel) (by decide) (fun h2 => ?_) (fun h2 => ?_)
  · have hf := if_t h2 hf
    refine b_frg 1 ?_
    refine b_frg 2 ?_
    cases hf
    exact hk
  · have hf := if_f h2 hf
    refine b_blk (pc' := 18) (ls' := [some (mR (12, 0, 177)), some (mI v1), some (mI v2), some (mI 0)]) (st' := []) (S' := (L, I, J, R)) (P := True) [(.iconst 0, (0, 0, 0, 0, 0)), (.istore_n 3, (0, 0, 0, 0, 0))] [] (by decide +kernel) rfl trivial ?_
    obtain ⟨t3, hw, hf⟩ := bnd_o hf
    refine wl_B (A := fun s : Int32 × MI => m_B G (m_rm 9 0 0) M_MD_laysFields Q 0 0 18 [some (mR (12, 0, 177)), some (mI v1), some (mI v2), some (mI s.1)] [] (L, s.2, J, R)) (B := (fun s : MI => m_B G (m_rm 9 0 0) M_MD_laysFields Q 0 0 51 [some (mR (12, 0, 177)), some (mI v1), some (mI v2), none] [] (L, s, J, R))) (fun s r hs hr => W_MD_laysFields_18 s.2 J v1 v2 s.1 hR hs hr) hw ?_
    show m_B G (m_rm 9 0 0) M_MD_laysFields Q 0 0 51 [some (mR (12, 0, 177)), some (mI v1), some (mI v2), none] [] (L, t3, J, R)
    refine b_blk (pc' := 53) (ls' := [some (mR (12, 0, 177)), some (mI v1), some (mI v2), none]) (st' := [mI v1, mR (12, 0, 177)]) (S' := (L, t3, J, R)) (P := True) [(.aload_n 0, (0, 0, 0, 0, 0)), (.iload_n 1, (0, 0, 0, 0, 0))] [] (by decide +kernel) rfl trivial ?_
    obtain ⟨r4, hc4, hf⟩ := bnd_o hf
    refine b_cV (as := [mI v1]) (st := []) (by decide +kernel) k_12_502 n_MD_yearsGo rfl (by decide) v_MD_yearsGo (C_MD_yearsGo t3 J v1 hR hc4) (Nat.le_of_ble_eq_true rfl) (by decide) rfl rfl (fun _ h => h) ?_
    show m_B G (m_rm 9 0 0) M_MD_laysFields Q 0 0 56 [some (mR (12, 0, 177)), some (mI v1), some (mI v2), none] [] (L, r4.1, r4.2, R)
    refine b_blk (pc' := 58) (ls' := [some (mR (12, 0, 177)), some (mI v1), some (mI v2), some (mI 0)]) (st' := []) (S' := (L, r4.1, r4.2, R)) (P := True) [(.iconst 0, (0, 0, 0, 0, 0)), (.istore_n 3, (0, 0, 0, 0, 0))] [] (by decide +kernel) rfl trivial ?_
    obtain ⟨t5, hw, hf⟩ := bnd_o hf
    refine wl_B (A := fun s : Int32 × MI => m_B G (m_rm 9 0 0) M_MD_laysFields Q 0 0 58 [some (mR (12, 0, 177)), some (mI v1), some (mI v2), some (mI s.1)] [] (L, s.2, r4.2, R)) (B := (fun s : MI => m_B G (m_rm 9 0 0) M_MD_laysFields Q 0 0 88 [some (mR (12, 0, 177)), some (mI v1), some (mI v2), none] [] (L, s, r4.2, R))) (fun s r hs hr => W_MD_laysFields_58 s.2 r4.2 v1 v2 s.1 hR hs hr) hw ?_
    show m_B G (m_rm 9 0 0) M_MD_laysFields Q 0 0 88 [some (mR (12, 0, 177)), some (mI v1), some (mI v2), none] [] (L, t5, r4.2, R)
    refine b_blk (pc' := 89) (ls' := [some (mR (12, 0, 177)), some (mI v1), some (mI v2), none]) (st' := [mR (12, 0, 177)]) (S' := (L, t5, r4.2, R)) (P := True) [(.aload_n 0, (0, 0, 0, 0, 0))] [] (by decide +kernel) rfl trivial ?_
    obtain ⟨r6, hc6, hf⟩ := bnd_o hf
    refine b_cV (as := []) (st := []) (by decide +kernel) k_12_464 n_MD_triesAnew rfl (by decide) v_MD_triesAnew (C_MD_triesAnew t5 r4.2 hR hc6) (Nat.le_of_ble_eq_true rfl) (by decide) rfl rfl (fun _ h => h) ?_
    show m_B G (m_rm 9 0 0) M_MD_laysFields Q 0 0 92 [some (mR (12, 0, 177)), some (mI v1), some (mI v2), none] [] (L, r6, r4.2, R)
    refine b_blk (pc' := 6) (ls' := [some (mR (12, 0, 177)), some (mI v1), some (mI (v2 + 1)), none]) (st' := []) (S' := (L, r6, r4.2, R)) (P := True) [(.iinc 2 1, (0, 0, 0, 1, 0)), (.goto (-89), (0, 6, 0, 0, 0))] [] (by decide +kernel) rfl trivial ?_
    cases hf
    exact hk
noncomputable def F_MD_laysFields (I : MI) (J : MJ) (v1 : Int32) : Option (MI × MJ) :=
  (F_MD_putsAside I).bind fun r1 => (wl (fun s : Int32 × MI × MJ => F_MD_laysFields_6 s.2.1 s.2.2 v1 s.1) ((0 : Int32), r1, J)).bind fun t2 => (F_MD_takesBack t2.1).bind fun r3 => some (r3, t2.2)
set_option maxRecDepth 100000 in
set_option maxHeartbeats 400000 in
theorem W_MD_laysFields {G : MG} {Q : Option MV → MS → Prop} {L : List (Nat × Nat)} {R : Nat → Nat → Option MRef} (I : MI) (J : MJ) (v1 : Int32) (hR : RF R) {r : MI × MJ} (hf : F_MD_laysFields I J v1 = some r) (hk : (fun r : MI × MJ => Q (none) (L, r.1, r.2, R)) r) : m_B G (m_rm 9 0 0) M_MD_laysFields Q 0 0 0 [some (mR (12, 0, 177)), some (mI v1), none, none] [] (L, I, J, R) := by
  unfold F_MD_laysFields at hf
  refine b_blk (pc' := 1) (ls' := [some (mR (12, 0, 177)), some (mI v1), none, none]) (st' := [mR (12, 0, 177)]) (S' := (L, I, J, R)) (P := True) [(.aload_n 0, (0, 0, 0, 0, 0))] [] (by decide +kernel) rfl trivial ?_
  obtain ⟨r1, hc1, hf⟩ := bnd_o hf
  refine b_cV (as := []) (st := []) (by decide +kernel) k_12_499 n_MD_putsAside rfl (by decide) v_MD_putsAside (C_MD_putsAside I J hR hc1) (Nat.le_of_ble_eq_true rfl) (by decide) rfl rfl (fun _ h => h) ?_
  show m_B G (m_rm 9 0 0) M_MD_laysFields Q 0 0 4 [some (mR (12, 0, 177)), some (mI v1), none, none] [] (L, r1, J, R)
  refine b_blk (pc' := 6) (ls' := [some (mR (12, 0, 177)), some (mI v1), some (mI 0), none]) (st' := []) (S' := (L, r1, J, R)) (P := True) [(.iconst 0, (0, 0, 0, 0, 0)), (.istore_n 2, (0, 0, 0, 0, 0))] [] (by decide +kernel) rfl trivial ?_
  obtain ⟨t2, hw, hf⟩ := bnd_o hf
  refine wl_B (A := fun s : Int32 × MI × MJ => m_B G (m_rm 9 0 0) M_MD_laysFields Q 0 0 6 [some (mR (12, 0, 177)), some (mI v1), some (mI s.1), none] [] (L, s.2.1, s.2.2, R)) (B := (fun s : MI × MJ => m_B G (m_rm 9 0 0) M_MD_laysFields Q 0 0 98 [some (mR (12, 0, 177)), none, none, none] [] (L, s.1, s.2, R))) (fun s r hs hr => W_MD_laysFields_6 s.2.1 s.2.2 v1 s.1 hR hs hr) hw ?_
  show m_B G (m_rm 9 0 0) M_MD_laysFields Q 0 0 98 [some (mR (12, 0, 177)), none, none, none] [] (L, t2.1, t2.2, R)
  refine b_blk (pc' := 99) (ls' := [some (mR (12, 0, 177)), none, none, none]) (st' := [mR (12, 0, 177)]) (S' := (L, t2.1, t2.2, R)) (P := True) [(.aload_n 0, (0, 0, 0, 0, 0))] [] (by decide +kernel) rfl trivial ?_
  obtain ⟨r3, hc3, hf⟩ := bnd_o hf
  refine b_cV (as := []) (st := []) (by decide +kernel) k_12_505 n_MD_takesBack rfl (by decide) v_MD_takesBack (C_MD_takesBack t2.1 t2.2 hR hc3) (Nat.le_of_ble_eq_true rfl) (by decide) rfl rfl (fun _ h => h) ?_
  show m_B G (m_rm 9 0 0) M_MD_laysFields Q 0 0 102 [some (mR (12, 0, 177)), none, none, none] [] (L, r3, t2.2, R)
  cases hf
  exact b_vret (by decide +kernel) rfl hk
theorem C_MD_laysFields {G : MG} {L : List (Nat × Nat)} {R : Nat → Nat → Option MRef} (I : MI) (J : MJ) (v1 : Int32) (hR : RF R) {r : MI × MJ} (hf : F_MD_laysFields I J v1 = some r) : m_met G 9 0 0 y_MD_laysFields M_MD_laysFields [mR (12, 0, 177), mI v1] (L, I, J, R) (m_is (none) (L, r.1, r.2, R)) :=
  m_met_in n_MD_laysFields (plainFor_of_name (by decide)) (by decide) (Nat.le_of_ble_eq_true rfl) (ls := [some (mR (12, 0, 177)), some (mI v1), none, none]) rfl (W_MD_laysFields I J v1 hR hf ⟨rfl, rfl⟩)
noncomputable def F_MD_rest_22 (I : MI) (v2 : Int32) (v3 : Int32) : Option ((Int32 × Int32) ⊕ (Int32)) :=
  (F_MD_fenceMany I).bind fun r1 => if ((1 : Int32) <<< (r1 &&& 31)) ≤ v3 then (some (.inr (v2 : Int32))) else (if v2 = (-1 : Int32) then ((F_MD_isRest I v3).bind fun r4 => if r4 = (0 : Int32) then (some (.inl ((v2 : Int32), (v3 + 1 : Int32)))) else (some (.inl ((v3 : Int32), (v3 + 1 : Int32))))) else ((F_MD_bits v3).bind fun r6 => (F_MD_bits v2).bind fun r7 => if r7 ≤ r6 then (some (.inl ((v2 : Int32), (v3 + 1 : Int32)))) else ((F_MD_isRest I v3).bind fun r9 => if r9 = (0 : Int32) then (some (.inl ((v2 : Int32), (v3 + 1 : Int32)))) else (some (.inl ((v3 : Int32), (v3 + 1 : Int32)))))))
set_option maxRecDepth 100000 in
set_option maxHeartbeats 400000 in
theorem W_MD_rest_22 {G : MG} {Q : Option MV → MS → Prop} {L : List (Nat × Nat)} {R : Nat → Nat → Option MRef} (I : MI) (J : MJ) (v2 : Int32) (v3 : Int32) (hR : RF R) {r : (Int32 × Int32) ⊕ (Int32)} (hf : F_MD_rest_22 I v2 v3 = some r) (hk : (Sum.elim (fun s : Int32 × Int32 => m_B G (m_rm 10 0 0) M_MD_rest Q 0 0 22 [some (mR (12, 0, 177)), none, some (mI s.1), some (mI s.2)] [] (L, I, J, R)) (fun s : Int32 => m_B G (m_rm 10 0 0) M_MD_rest Q 0 0 64 [none, none, some (mI s), none] [] (L, I, J, R))) r) : m_B G (m_rm 10 0 0) M_MD_rest Q 0 0 22 [some (mR (12, 0, 177)), none, some (mI v2), some (mI v3)] [] (L, I, J, R) := by
  unfold F_MD_rest_22 at hf
  refine b_blk (pc' := 25) (ls' := [some (mR (12, 0, 177)), none, some (mI v2), some (mI v3)]) (st' := [mR (12, 0, 177), mI 1, mI v3]) (S' := (L, I, J, R)) (P := True) [(.iload_n 3, (0, 0, 0, 0, 0)), (.iconst 1, (0, 0, 0, 1, 0)), (.aload_n 0, (0, 0, 0, 0, 0))] [] (by decide +kernel) rfl trivial ?_
  obtain ⟨r1, hc1, hf⟩ := bnd_o hf
  refine b_cV (as := []) (st := [mI 1, mI v3]) (by decide +kernel) k_12_382 n_MD_fenceMany rfl (by decide) v_MD_fenceMany (C_MD_fenceMany I J hR hc1) (Nat.le_of_ble_eq_true rfl) (by decide) rfl rfl (fun _ h => h) ?_
  show m_B G (m_rm 10 0 0) M_MD_rest Q 0 0 28 [some (mR (12, 0, 177)), none, some (mI v2), some (mI v3)] [mI r1, mI 1, mI v3] (L, I, J, R)
  refine b_blk (pc' := 29) (ls' := [some (mR (12, 0, 177)), none, some (mI v2), some (mI v3)]) (st' := [mI ((1 : Int32) <<< (r1 &&& 31)), mI v3]) (S' := (L, I, J, R)) (P := True) [(.ishl, (0, 0, 0, 0, 0))] [] (by decide +kernel) rfl trivial ?_
  refine b_icmp_ge (off := 35) (tgt := 64) (by decide +kernel) (by decide) (fun h2 => ?_) (fun h2 => ?_)
  · have hf := if_t h2 hf
    refine b_frg 0 ?_
    refine b_frg 3 ?_
    cases hf
    exact hk
  · have hf := if_f h2 hf
    refine b_blk (pc' := 34) (ls' := [some (mR (12, 0, 177)), none, some (mI v2), some (mI v3)]) (st' := [mI (-1), mI v2]) (S' := (L, I, J, R)) (P := True) [(.iload_n 2, (0, 0, 0, 0, 0)), (.iconst (-1), (0, 0, 0, (-1), 0))] [] (by decide +kernel) rfl trivial ?_
    refine b_icmp_eq (off := 14) (tgt := 48) (by decide +kernel) (by decide) (fun h3 => ?_) (fun h3 => ?_)
    · have hf := if_t h3 hf
      refine b_blk (pc' := 50) (ls' := [some (mR (12, 0, 177)), none, some (mI v2), some (mI v3)]) (st' := [mI v3, mR (12, 0, 177)]) (S' := (L, I, J, R)) (P := True) [(.aload_n 0, (0, 0, 0, 0, 0)), (.iload_n 3, (0, 0, 0, 0, 0))] [] (by decide +kernel) rfl trivial ?_
      obtain ⟨r4, hc4, hf⟩ := bnd_o hf
      refine b_cV (as := [mI v3]) (st := []) (by decide +kernel) k_12_524 n_MD_isRest rfl (by decide) v_MD_isRest (C_MD_isRest I J v3 hR hc4) (Nat.le_of_ble_eq_true rfl) (by decide) rfl rfl (fun _ h => h) ?_
      show m_B G (m_rm 10 0 0) M_MD_rest Q 0 0 53 [some (mR (12, 0, 177)), none, some (mI v2), some (mI v3)] [mI r4] (L, I, J, R)
      refine b_if_eq (off := 5) (tgt := 58) (by decide +kernel) (by decide) (fun h5 => ?_) (fun h5 => ?_)
      · have hf := if_t h5 hf
        refine b_blk (pc' := 22) (ls' := [some (mR (12, 0, 177)), none, some (mI v2), some (mI (v3 + 1))]) (st' := []) (S' := (L, I, J, R)) (P := True) [(.iinc 3 1, (0, 0, 0, 1, 0)), (.goto (-39), (0, 22, 0, 0, 0))] [] (by decide +kernel) rfl trivial ?_
        cases hf
        exact hk
      · have hf := if_f h5 hf
        refine b_blk (pc' := 22) (ls' := [some (mR (12, 0, 177)), none, some (mI v3), some (mI (v3 + 1))]) (st' := []) (S' := (L, I, J, R)) (P := True) [(.iload_n 3, (0, 0, 0, 0, 0)), (.istore_n 2, (0, 0, 0, 0, 0)), (.iinc 3 1, (0, 0, 0, 1, 0)), (.goto (-39), (0, 22, 0, 0, 0))] [] (by decide +kernel) rfl trivial ?_
        cases hf
        exact hk
    · have hf := if_f h3 hf
      refine b_blk (pc' := 38) (ls' := [some (mR (12, 0, 177)), none, some (mI v2), some (mI v3)]) (st' := [mI v3]) (S' := (L, I, J, R)) (P := True) [(.iload_n 3, (0, 0, 0, 0, 0))] [] (by decide +kernel) rfl trivial ?_
      obtain ⟨r6, hc6, hf⟩ := bnd_o hf
      refine b_cS (as := [mI v3]) (st := []) (by decide +kernel) k_12_388 n_MD_bits s_MD_bits (C_MD_bits I J v3 hR hc6) (Nat.le_of_ble_eq_true rfl) (by decide) rfl rfl (fun _ h => h) ?_
      show m_B G (m_rm 10 0 0) M_MD_rest Q 0 0 41 [some (mR (12, 0, 177)), none, some (mI v2), some (mI v3)] [mI r6] (L, I, J, R)
      refine b_blk (pc' := 42) (ls' := [some (mR (12, 0, 177)), none, some (mI v2), some (mI v3)]) (st' := [mI v2, mI r6]) (S' := (L, I, J, R)) (P := True) [(.iload_n 2, (0, 0, 0, 0, 0))] [] (by decide +kernel) rfl trivial ?_
      obtain ⟨r7, hc7, hf⟩ := bnd_o hf
      refine b_cS (as := [mI v2]) (st := [mI r6]) (by decide +kernel) k_12_388 n_MD_bits s_MD_bits (C_MD_bits I J v2 hR hc7) (Nat.le_of_ble_eq_true rfl) (by decide) rfl rfl (fun _ h => h) ?_
      show m_B G (m_rm 10 0 0) M_MD_rest Q 0 0 45 [some (mR (12, 0, 177)), none, some (mI v2), some (mI v3)] [mI r7, mI r6] (L, I, J, R)
      refine b_icmp_ge (off := 13) (tgt := 58) (by decide +kernel) (by decide) (fun h8 => ?_) (fun h8 => ?_)
      · have hf := if_t h8 hf
        refine b_blk (pc' := 22) (ls' := [some (mR (12, 0, 177)), none, some (mI v2), some (mI (v3 + 1))]) (st' := []) (S' := (L, I, J, R)) (P := True) [(.iinc 3 1, (0, 0, 0, 1, 0)), (.goto (-39), (0, 22, 0, 0, 0))] [] (by decide +kernel) rfl trivial ?_
        cases hf
        exact hk
      · have hf := if_f h8 hf
        refine b_blk (pc' := 50) (ls' := [some (mR (12, 0, 177)), none, some (mI v2), some (mI v3)]) (st' := [mI v3, mR (12, 0, 177)]) (S' := (L, I, J, R)) (P := True) [(.aload_n 0, (0, 0, 0, 0, 0)), (.iload_n 3, (0, 0, 0, 0, 0))] [] (by decide +kernel) rfl trivial ?_
        obtain ⟨r9, hc9, hf⟩ := bnd_o hf
        refine b_cV (as := [mI v3]) (st := []) (by decide +kernel) k_12_524 n_MD_isRest rfl (by decide) v_MD_isRest (C_MD_isRest I J v3 hR hc9) (Nat.le_of_ble_eq_true rfl) (by decide) rfl rfl (fun _ h => h) ?_
        show m_B G (m_rm 10 0 0) M_MD_rest Q 0 0 53 [some (mR (12, 0, 177)), none, some (mI v2), some (mI v3)] [mI r9] (L, I, J, R)
        refine b_if_eq (off := 5) (tgt := 58) (by decide +kernel) (by decide) (fun h10 => ?_) (fun h10 => ?_)
        · have hf := if_t h10 hf
          refine b_blk (pc' := 22) (ls' := [some (mR (12, 0, 177)), none, some (mI v2), some (mI (v3 + 1))]) (st' := []) (S' := (L, I, J, R)) (P := True) [(.iinc 3 1, (0, 0, 0, 1, 0)), (.goto (-39), (0, 22, 0, 0, 0))] [] (by decide +kernel) rfl trivial ?_
          cases hf
          exact hk
        · have hf := if_f h10 hf
          refine b_blk (pc' := 22) (ls' := [some (mR (12, 0, 177)), none, some (mI v3), some (mI (v3 + 1))]) (st' := []) (S' := (L, I, J, R)) (P := True) [(.iload_n 3, (0, 0, 0, 0, 0)), (.istore_n 2, (0, 0, 0, 0, 0)), (.iinc 3 1, (0, 0, 0, 1, 0)), (.goto (-39), (0, 22, 0, 0, 0))] [] (by decide +kernel) rfl trivial ?_
          cases hf
          exact hk
noncomputable def F_MD_rest (I : MI) (J : MJ) (v1 : Int32) : Option (Int32 × MI × MJ) :=
  (F_MD_isAhead I v1 (1 : Int32) (30 : Int32)).bind fun r1 => if r1 = (0 : Int32) then (some (((-1) : Int32), I, J)) else ((F_MD_laysFields I J v1).bind fun r3 => (wl (fun s : Int32 × Int32 => F_MD_rest_22 r3.1 s.1 s.2) (((-1) : Int32), (0 : Int32))).bind fun t4 => some ((t4 : Int32), r3.1, r3.2))
set_option maxRecDepth 100000 in
set_option maxHeartbeats 400000 in
theorem W_MD_rest {G : MG} {Q : Option MV → MS → Prop} {L : List (Nat × Nat)} {R : Nat → Nat → Option MRef} (I : MI) (J : MJ) (v1 : Int32) (hR : RF R) {r : Int32 × MI × MJ} (hf : F_MD_rest I J v1 = some r) (hk : (fun r : Int32 × MI × MJ => Q (some (mI r.1)) (L, r.2.1, r.2.2, R)) r) : m_B G (m_rm 10 0 0) M_MD_rest Q 0 0 0 [some (mR (12, 0, 177)), some (mI v1), none, none] [] (L, I, J, R) := by
  unfold F_MD_rest at hf
  refine b_blk (pc' := 5) (ls' := [some (mR (12, 0, 177)), some (mI v1), none, none]) (st' := [mI 30, mI 1, mI v1, mR (12, 0, 177)]) (S' := (L, I, J, R)) (P := True) [(.aload_n 0, (0, 0, 0, 0, 0)), (.iload_n 1, (0, 0, 0, 0, 0)), (.iconst 1, (0, 0, 0, 1, 0)), (.bipush 30, (0, 0, 0, 30, 0))] [] (by decide +kernel) rfl trivial ?_
  obtain ⟨r1, hc1, hf⟩ := bnd_o hf
  refine b_cV (as := [mI v1, mI 1, mI 30]) (st := []) (by decide +kernel) k_12_495 n_MD_isAhead rfl (by decide) v_MD_isAhead (C_MD_isAhead I J v1 (1 : Int32) (30 : Int32) hR hc1) (Nat.le_of_ble_eq_true rfl) (by decide) rfl rfl (fun _ h => h) ?_
  show m_B G (m_rm 10 0 0) M_MD_rest Q 0 0 8 [some (mR (12, 0, 177)), some (mI v1), none, none] [mI r1] (L, I, J, R)
  refine b_if_ne (off := 5) (tgt := 13) (by decide +kernel) (by decide) (fun h2 => ?_) (fun h2 => ?_)
  · have hf := if_f h2 hf
    refine b_blk (pc' := 15) (ls' := [some (mR (12, 0, 177)), some (mI v1), none, none]) (st' := [mI v1, mR (12, 0, 177)]) (S' := (L, I, J, R)) (P := True) [(.aload_n 0, (0, 0, 0, 0, 0)), (.iload_n 1, (0, 0, 0, 0, 0))] [] (by decide +kernel) rfl trivial ?_
    obtain ⟨r3, hc3, hf⟩ := bnd_o hf
    refine b_cV (as := [mI v1]) (st := []) (by decide +kernel) k_12_521 n_MD_laysFields rfl (by decide) v_MD_laysFields (C_MD_laysFields I J v1 hR hc3) (Nat.le_of_ble_eq_true rfl) (by decide) rfl rfl (fun _ h => h) ?_
    show m_B G (m_rm 10 0 0) M_MD_rest Q 0 0 18 [some (mR (12, 0, 177)), some (mI v1), none, none] [] (L, r3.1, r3.2, R)
    refine b_blk (pc' := 22) (ls' := [some (mR (12, 0, 177)), some (mI v1), some (mI (-1)), some (mI 0)]) (st' := []) (S' := (L, r3.1, r3.2, R)) (P := True) [(.iconst (-1), (0, 0, 0, (-1), 0)), (.istore_n 2, (0, 0, 0, 0, 0)), (.iconst 0, (0, 0, 0, 0, 0)), (.istore_n 3, (0, 0, 0, 0, 0))] [] (by decide +kernel) rfl trivial ?_
    refine b_frg 1 ?_
    obtain ⟨t4, hw, hf⟩ := bnd_o hf
    refine wl_B (A := fun s : Int32 × Int32 => m_B G (m_rm 10 0 0) M_MD_rest Q 0 0 22 [some (mR (12, 0, 177)), none, some (mI s.1), some (mI s.2)] [] (L, r3.1, r3.2, R)) (B := (fun s : Int32 => m_B G (m_rm 10 0 0) M_MD_rest Q 0 0 64 [none, none, some (mI s), none] [] (L, r3.1, r3.2, R))) (fun s r hs hr => W_MD_rest_22 r3.1 r3.2 s.1 s.2 hR hs hr) hw ?_
    show m_B G (m_rm 10 0 0) M_MD_rest Q 0 0 64 [none, none, some (mI t4), none] [] (L, r3.1, r3.2, R)
    refine b_blk (pc' := 65) (ls' := [none, none, some (mI t4), none]) (st' := [mI t4]) (S' := (L, r3.1, r3.2, R)) (P := True) [(.iload_n 2, (0, 0, 0, 0, 0))] [] (by decide +kernel) rfl trivial ?_
    cases hf
    exact b_iret (by decide +kernel) rfl hk
  · have hf := if_t h2 hf
    refine b_blk (pc' := 12) (ls' := [some (mR (12, 0, 177)), some (mI v1), none, none]) (st' := [mI (-1)]) (S' := (L, I, J, R)) (P := True) [(.iconst (-1), (0, 0, 0, (-1), 0))] [] (by decide +kernel) rfl trivial ?_
    cases hf
    exact b_iret (by decide +kernel) rfl hk
theorem C_MD_rest {G : MG} {L : List (Nat × Nat)} {R : Nat → Nat → Option MRef} (I : MI) (J : MJ) (v1 : Int32) (hR : RF R) {r : Int32 × MI × MJ} (hf : F_MD_rest I J v1 = some r) : m_met G 10 0 0 y_MD_rest M_MD_rest [mR (12, 0, 177), mI v1] (L, I, J, R) (m_is (some (mI r.1)) (L, r.2.1, r.2.2, R)) :=
  m_met_in n_MD_rest (plainFor_of_name (by decide)) (by decide) (Nat.le_of_ble_eq_true rfl) (ls := [some (mR (12, 0, 177)), some (mI v1), none, none]) rfl (W_MD_rest I J v1 hR hf ⟨rfl, rfl⟩)
noncomputable def F_MD_refuses (I : MI) (v1 : Int32) : Option (Int32 × MI) :=
  gd v1 6 <| gd v1 6 <| some (((-1) : Int32), m_up I 179 (v1.toNatClampNeg) ((I 179 v1.toNatClampNeg) + (1 : Int32)))
set_option maxRecDepth 100000 in
set_option maxHeartbeats 400000 in
theorem W_MD_refuses {G : MG} {Q : Option MV → MS → Prop} {L : List (Nat × Nat)} {R : Nat → Nat → Option MRef} (I : MI) (J : MJ) (v1 : Int32) (hR : RF R) {r : Int32 × MI} (hf : F_MD_refuses I v1 = some r) (hk : (fun r : Int32 × MI => Q (some (mI r.1)) (L, r.2, J, R)) r) : m_B G (m_rm 1 0 0) M_MD_refuses Q 0 0 0 [some (mR (12, 0, 177)), some (mI v1)] [] (L, I, J, R) := by
  unfold F_MD_refuses at hf
  obtain ⟨g1, hf⟩ := gd_s hf
  obtain ⟨g2, hf⟩ := gd_s hf
  refine b_blk (pc' := 11) (ls' := [some (mR (12, 0, 177)), some (mI v1)]) (st' := [mI (-1)]) (S' := (L, m_up I 179 (v1.toNatClampNeg) ((I 179 v1.toNatClampNeg) + (1 : Int32)), J, R)) (P := (((True ∧ R 177 9 = some (20, 6, 179)) ∧ vp_in v1 6) ∧ vp_in v1 6)) [(.aload_n 0, (0, 0, 0, 0, 0)), (.getfield 17, (12, 9, 3, 0, 0)), (.iload_n 1, (0, 0, 0, 0, 0)), (.dup2, (0, 0, 0, 0, 0)), (.iaload, (0, 0, 0, 0, 0)), (.iconst 1, (0, 0, 0, 1, 0)), (.iadd, (0, 0, 0, 0, 0)), (.iastore, (0, 0, 0, 0, 0)), (.iconst (-1), (0, 0, 0, (-1), 0))] [some (20, 6, 179)] (by decide +kernel) rfl ⟨⟨⟨trivial, (r_177_9 hR)⟩, (in_n (n := 6) (by decide) g1.1 g1.2)⟩, (in_n (n := 6) (by decide) g2.1 g2.2)⟩ ?_
  cases hf
  exact b_iret (by decide +kernel) rfl hk
theorem C_MD_refuses {G : MG} {L : List (Nat × Nat)} {R : Nat → Nat → Option MRef} (I : MI) (J : MJ) (v1 : Int32) (hR : RF R) {r : Int32 × MI} (hf : F_MD_refuses I v1 = some r) : m_met G 1 0 0 y_MD_refuses M_MD_refuses [mR (12, 0, 177), mI v1] (L, I, J, R) (m_is (some (mI r.1)) (L, r.2, J, R)) :=
  m_met_in n_MD_refuses (plainFor_of_name (by decide)) (by decide) (Nat.le_of_ble_eq_true rfl) (ls := [some (mR (12, 0, 177)), some (mI v1)]) rfl (W_MD_refuses I J v1 hR hf ⟨rfl, rfl⟩)
noncomputable def F_MD_see_43 (I : MI) (v1 : Int32) (v2 : Int32) (v3 : Int32) : Option ((Int32 × Int32) ⊕ (Int32)) :=
  if v1 ≤ v3 then (some (.inr (v2 : Int32))) else (if v2 = (0 : Int32) then (some (.inr (v2 : Int32))) else (gd v3 1600 <| gd (v3 + (1 : Int32)) 1600 <| (F_MD_isPlace I (I 178 v3.toNatClampNeg) (I 178 (v3 + (1 : Int32)).toNatClampNeg)).bind fun r5 => if r5 = (0 : Int32) then (some (.inl ((0 : Int32), (v3 + 3 : Int32)))) else (gd (v3 + (2 : Int32)) 1600 <| (F_MD_isFence I (I 178 (v3 + (2 : Int32)).toNatClampNeg)).bind fun r8 => if r8 = (0 : Int32) then (gd (v3 + (2 : Int32)) 1600 <| if (I 178 (v3 + (2 : Int32)).toNatClampNeg) = (255 : Int32) then (some (.inl ((1 : Int32), (v3 + 3 : Int32)))) else (some (.inl ((0 : Int32), (v3 + 3 : Int32))))) else (some (.inl ((1 : Int32), (v3 + 3 : Int32)))))))
set_option maxRecDepth 100000 in
set_option maxHeartbeats 400000 in
theorem W_MD_see_43 {G : MG} {Q : Option MV → MS → Prop} {L : List (Nat × Nat)} {R : Nat → Nat → Option MRef} (I : MI) (J : MJ) (v1 : Int32) (v2 : Int32) (v3 : Int32) (hR : RF R) {r : (Int32 × Int32) ⊕ (Int32)} (hf : F_MD_see_43 I v1 v2 v3 = some r) (hk : (Sum.elim (fun s : Int32 × Int32 => m_B G (m_rm 4 0 0) M_MD_see Q 0 0 43 [some (mR (12, 0, 177)), some (mI v1), some (mI s.1), some (mI s.2)] [] (L, I, J, R)) (fun s : Int32 => m_B G (m_rm 4 0 0) M_MD_see Q 0 0 114 [some (mR (12, 0, 177)), some (mI v1), some (mI s), none] [] (L, I, J, R))) r) : m_B G (m_rm 4 0 0) M_MD_see Q 0 0 43 [some (mR (12, 0, 177)), some (mI v1), some (mI v2), some (mI v3)] [] (L, I, J, R) := by
  unfold F_MD_see_43 at hf
  refine b_blk (pc' := 45) (ls' := [some (mR (12, 0, 177)), some (mI v1), some (mI v2), some (mI v3)]) (st' := [mI v1, mI v3]) (S' := (L, I, J, R)) (P := True) [(.iload_n 3, (0, 0, 0, 0, 0)), (.iload_n 1, (0, 0, 0, 0, 0))] [] (by decide +kernel) rfl trivial ?_
  refine b_icmp_ge (off := 69) (tgt := 114) (by decide +kernel) (by decide) (fun h1 => ?_) (fun h1 => ?_)
  · have hf := if_t h1 hf
    refine b_frg 3 ?_
    cases hf
    exact hk
  · have hf := if_f h1 hf
    refine b_blk (pc' := 49) (ls' := [some (mR (12, 0, 177)), some (mI v1), some (mI v2), some (mI v3)]) (st' := [mI v2]) (S' := (L, I, J, R)) (P := True) [(.iload_n 2, (0, 0, 0, 0, 0))] [] (by decide +kernel) rfl trivial ?_
    refine b_if_eq (off := 65) (tgt := 114) (by decide +kernel) (by decide) (fun h2 => ?_) (fun h2 => ?_)
    · have hf := if_t h2 hf
      refine b_frg 3 ?_
      cases hf
      exact hk
    · have hf := if_f h2 hf
      obtain ⟨g3, hf⟩ := gd_s hf
      obtain ⟨g4, hf⟩ := gd_s hf
      refine b_blk (pc' := 67) (ls' := [some (mR (12, 0, 177)), some (mI v1), some (mI v2), some (mI v3)]) (st' := [mI (I 178 (v3 + (1 : Int32)).toNatClampNeg), mI (I 178 v3.toNatClampNeg), mR (12, 0, 177)]) (S' := (L, I, J, R)) (P := ((((True ∧ R 177 0 = some (20, 1600, 178)) ∧ vp_in v3 1600) ∧ R 177 0 = some (20, 1600, 178)) ∧ vp_in (v3 + (1 : Int32)) 1600)) [(.aload_n 0, (0, 0, 0, 0, 0)), (.aload_n 0, (0, 0, 0, 0, 0)), (.getfield 7, (12, 0, 3, 0, 0)), (.iload_n 3, (0, 0, 0, 0, 0)), (.iaload, (0, 0, 0, 0, 0)), (.aload_n 0, (0, 0, 0, 0, 0)), (.getfield 7, (12, 0, 3, 0, 0)), (.iload_n 3, (0, 0, 0, 0, 0)), (.iconst 1, (0, 0, 0, 1, 0)), (.iadd, (0, 0, 0, 0, 0)), (.iaload, (0, 0, 0, 0, 0))] [some (20, 1600, 178), some (20, 1600, 178)] (by decide +kernel) rfl ⟨⟨⟨⟨trivial, (r_177_0 hR)⟩, (in_n (n := 1600) (by decide) g3.1 g3.2)⟩, (r_177_0 hR)⟩, (in_n (n := 1600) (by decide) g4.1 g4.2)⟩ ?_
      obtain ⟨r5, hc5, hf⟩ := bnd_o hf
      refine b_cV (as := [mI (I 178 v3.toNatClampNeg), mI (I 178 (v3 + (1 : Int32)).toNatClampNeg)]) (st := []) (by decide +kernel) k_12_487 n_MD_isPlace rfl (by decide) v_MD_isPlace (C_MD_isPlace I J (I 178 v3.toNatClampNeg) (I 178 (v3 + (1 : Int32)).toNatClampNeg) hR hc5) (Nat.le_of_ble_eq_true rfl) (by decide) rfl rfl (fun _ h => h) ?_
      show m_B G (m_rm 4 0 0) M_MD_see Q 0 0 70 [some (mR (12, 0, 177)), some (mI v1), some (mI v2), some (mI v3)] [mI r5] (L, I, J, R)
      refine b_if_eq (off := 36) (tgt := 106) (by decide +kernel) (by decide) (fun h6 => ?_) (fun h6 => ?_)
      · have hf := if_t h6 hf
        refine b_blk (pc' := 43) (ls' := [some (mR (12, 0, 177)), some (mI v1), some (mI 0), some (mI (v3 + 3))]) (st' := []) (S' := (L, I, J, R)) (P := True) [(.iconst 0, (0, 0, 0, 0, 0)), (.istore_n 2, (0, 0, 0, 0, 0)), (.iinc 3 3, (0, 0, 0, 3, 0)), (.goto (-68), (0, 43, 0, 0, 0))] [] (by decide +kernel) rfl trivial ?_
        cases hf
        exact hk
      · have hf := if_f h6 hf
        obtain ⟨g7, hf⟩ := gd_s hf
        refine b_blk (pc' := 82) (ls' := [some (mR (12, 0, 177)), some (mI v1), some (mI v2), some (mI v3)]) (st' := [mI (I 178 (v3 + (2 : Int32)).toNatClampNeg), mR (12, 0, 177)]) (S' := (L, I, J, R)) (P := ((True ∧ R 177 0 = some (20, 1600, 178)) ∧ vp_in (v3 + (2 : Int32)) 1600)) [(.aload_n 0, (0, 0, 0, 0, 0)), (.aload_n 0, (0, 0, 0, 0, 0)), (.getfield 7, (12, 0, 3, 0, 0)), (.iload_n 3, (0, 0, 0, 0, 0)), (.iconst 2, (0, 0, 0, 2, 0)), (.iadd, (0, 0, 0, 0, 0)), (.iaload, (0, 0, 0, 0, 0))] [some (20, 1600, 178)] (by decide +kernel) rfl ⟨⟨trivial, (r_177_0 hR)⟩, (in_n (n := 1600) (by decide) g7.1 g7.2)⟩ ?_
        obtain ⟨r8, hc8, hf⟩ := bnd_o hf
        refine b_cV (as := [mI (I 178 (v3 + (2 : Int32)).toNatClampNeg)]) (st := []) (by decide +kernel) k_12_482 n_MD_isFence rfl (by decide) v_MD_isFence (C_MD_isFence I J (I 178 (v3 + (2 : Int32)).toNatClampNeg) hR hc8) (Nat.le_of_ble_eq_true rfl) (by decide) rfl rfl (fun _ h => h) ?_
        show m_B G (m_rm 4 0 0) M_MD_see Q 0 0 85 [some (mR (12, 0, 177)), some (mI v1), some (mI v2), some (mI v3)] [mI r8] (L, I, J, R)
        refine b_if_ne (off := 17) (tgt := 102) (by decide +kernel) (by decide) (fun h9 => ?_) (fun h9 => ?_)
        · have hf := if_f h9 hf
          refine b_blk (pc' := 107) (ls' := [some (mR (12, 0, 177)), some (mI v1), some (mI v2), some (mI v3)]) (st' := [mI 1]) (S' := (L, I, J, R)) (P := True) [(.iconst 1, (0, 0, 0, 1, 0)), (.goto 4, (0, 107, 0, 0, 0))] [] (by decide +kernel) rfl trivial ?_
          refine b_blk (pc' := 43) (ls' := [some (mR (12, 0, 177)), some (mI v1), some (mI 1), some (mI (v3 + 3))]) (st' := []) (S' := (L, I, J, R)) (P := True) [(.istore_n 2, (0, 0, 0, 0, 0)), (.iinc 3 3, (0, 0, 0, 3, 0)), (.goto (-68), (0, 43, 0, 0, 0))] [] (by decide +kernel) rfl trivial ?_
          cases hf
          exact hk
        · have hf := if_t h9 hf
          obtain ⟨g10, hf⟩ := gd_s hf
          refine b_blk (pc' := 99) (ls' := [some (mR (12, 0, 177)), some (mI v1), some (mI v2), some (mI v3)]) (st' := [mI 255, mI (I 178 (v3 + (2 : Int32)).toNatClampNeg)]) (S' := (L, I, J, R)) (P := ((True ∧ R 177 0 = some (20, 1600, 178)) ∧ vp_in (v3 + (2 : Int32)) 1600)) [(.aload_n 0, (0, 0, 0, 0, 0)), (.getfield 7, (12, 0, 3, 0, 0)), (.iload_n 3, (0, 0, 0, 0, 0)), (.iconst 2, (0, 0, 0, 2, 0)), (.iadd, (0, 0, 0, 0, 0)), (.iaload, (0, 0, 0, 0, 0)), (.sipush 255, (0, 0, 0, 255, 0))] [some (20, 1600, 178)] (by decide +kernel) rfl ⟨⟨trivial, (r_177_0 hR)⟩, (in_n (n := 1600) (by decide) g10.1 g10.2)⟩ ?_
          refine b_icmp_ne (off := 7) (tgt := 106) (by decide +kernel) (by decide) (fun h11 => ?_) (fun h11 => ?_)
          · have hf := if_f h11 hf
            refine b_blk (pc' := 43) (ls' := [some (mR (12, 0, 177)), some (mI v1), some (mI 0), some (mI (v3 + 3))]) (st' := []) (S' := (L, I, J, R)) (P := True) [(.iconst 0, (0, 0, 0, 0, 0)), (.istore_n 2, (0, 0, 0, 0, 0)), (.iinc 3 3, (0, 0, 0, 3, 0)), (.goto (-68), (0, 43, 0, 0, 0))] [] (by decide +kernel) rfl trivial ?_
            cases hf
            exact hk
          · have hf := if_t h11 hf
            refine b_blk (pc' := 107) (ls' := [some (mR (12, 0, 177)), some (mI v1), some (mI v2), some (mI v3)]) (st' := [mI 1]) (S' := (L, I, J, R)) (P := True) [(.iconst 1, (0, 0, 0, 1, 0)), (.goto 4, (0, 107, 0, 0, 0))] [] (by decide +kernel) rfl trivial ?_
            refine b_blk (pc' := 43) (ls' := [some (mR (12, 0, 177)), some (mI v1), some (mI 1), some (mI (v3 + 3))]) (st' := []) (S' := (L, I, J, R)) (P := True) [(.istore_n 2, (0, 0, 0, 0, 0)), (.iinc 3 3, (0, 0, 0, 3, 0)), (.goto (-68), (0, 43, 0, 0, 0))] [] (by decide +kernel) rfl trivial ?_
            cases hf
            exact hk
noncomputable def F_MD_see_126 (I : MI) (v1 : Int32) (v3 : Int32) : Option ((Int32 × MI) ⊕ (MI)) :=
  if v1 ≤ v3 then (some (.inr I)) else (if (m_rem v3 (3 : Int32)) = (2 : Int32) then (gd v3 1600 <| if (I 178 v3.toNatClampNeg) = (255 : Int32) then (gd v3 48 <| some (.inl ((v3 + 1 : Int32), m_up I 217 (v3.toNatClampNeg) (-1 : Int32)))) else (gd v3 1600 <| gd v3 48 <| some (.inl ((v3 + 1 : Int32), m_up I 217 (v3.toNatClampNeg) (I 178 v3.toNatClampNeg))))) else (gd v3 1600 <| gd v3 48 <| some (.inl ((v3 + 1 : Int32), m_up I 217 (v3.toNatClampNeg) (I 178 v3.toNatClampNeg)))))
set_option maxRecDepth 100000 in
set_option maxHeartbeats 400000 in
theorem W_MD_see_126 {G : MG} {Q : Option MV → MS → Prop} {L : List (Nat × Nat)} {R : Nat → Nat → Option MRef} (I : MI) (J : MJ) (v1 : Int32) (v3 : Int32) (hR : RF R) {r : (Int32 × MI) ⊕ (MI)} (hf : F_MD_see_126 I v1 v3 = some r) (hk : (Sum.elim (fun s : Int32 × MI => m_B G (m_rm 4 0 0) M_MD_see Q 0 0 126 [some (mR (12, 0, 177)), some (mI v1), none, some (mI s.1)] [] (L, s.2, J, R)) (fun s : MI => m_B G (m_rm 4 0 0) M_MD_see Q 0 0 172 [some (mR (12, 0, 177)), some (mI v1), none, none] [] (L, s, J, R))) r) : m_B G (m_rm 4 0 0) M_MD_see Q 0 0 126 [some (mR (12, 0, 177)), some (mI v1), none, some (mI v3)] [] (L, I, J, R) := by
  unfold F_MD_see_126 at hf
  refine b_blk (pc' := 128) (ls' := [some (mR (12, 0, 177)), some (mI v1), none, some (mI v3)]) (st' := [mI v1, mI v3]) (S' := (L, I, J, R)) (P := True) [(.iload_n 3, (0, 0, 0, 0, 0)), (.iload_n 1, (0, 0, 0, 0, 0))] [] (by decide +kernel) rfl trivial ?_
  refine b_icmp_ge (off := 44) (tgt := 172) (by decide +kernel) (by decide) (fun h1 => ?_) (fun h1 => ?_)
  · have hf := if_t h1 hf
    refine b_frg 3 ?_
    cases hf
    exact hk
  · have hf := if_f h1 hf
    refine b_blk (pc' := 140) (ls' := [some (mR (12, 0, 177)), some (mI v1), none, some (mI v3)]) (st' := [mI 2, mI (m_rem v3 (3 : Int32)), mI v3, mR (20, 48, 217)]) (S' := (L, I, J, R)) (P := ((True ∧ R 177 60 = some (20, 48, 217)) ∧ ¬ (3 : Int32) = 0)) [(.aload_n 0, (0, 0, 0, 0, 0)), (.getfield 133, (12, 60, 3, 0, 0)), (.iload_n 3, (0, 0, 0, 0, 0)), (.iload_n 3, (0, 0, 0, 0, 0)), (.iconst 3, (0, 0, 0, 3, 0)), (.irem, (0, 0, 0, 0, 0)), (.iconst 2, (0, 0, 0, 2, 0))] [some (20, 48, 217)] (by decide +kernel) rfl ⟨⟨trivial, (r_177_60 hR)⟩, (by decide)⟩ ?_
    refine b_icmp_ne (off := 19) (tgt := 159) (by decide +kernel) (by decide) (fun h2 => ?_) (fun h2 => ?_)
    · have hf := if_f h2 hf
      obtain ⟨g3, hf⟩ := gd_s hf
      obtain ⟨g4, hf⟩ := gd_s hf
      refine b_blk (pc' := 126) (ls' := [some (mR (12, 0, 177)), some (mI v1), none, some (mI (v3 + 1))]) (st' := []) (S' := (L, m_up I 217 (v3.toNatClampNeg) (I 178 v3.toNatClampNeg), J, R)) (P := (((True ∧ R 177 0 = some (20, 1600, 178)) ∧ vp_in v3 1600) ∧ vp_in v3 48)) [(.aload_n 0, (0, 0, 0, 0, 0)), (.getfield 7, (12, 0, 3, 0, 0)), (.iload_n 3, (0, 0, 0, 0, 0)), (.iaload, (0, 0, 0, 0, 0)), (.iastore, (0, 0, 0, 0, 0)), (.iinc 3 1, (0, 0, 0, 1, 0)), (.goto (-43), (0, 126, 0, 0, 0))] [some (20, 1600, 178)] (by decide +kernel) rfl ⟨⟨⟨trivial, (r_177_0 hR)⟩, (in_n (n := 1600) (by decide) g3.1 g3.2)⟩, (in_n (n := 48) (by decide) g4.1 g4.2)⟩ ?_
      cases hf
      exact hk
    · have hf := if_t h2 hf
      obtain ⟨g5, hf⟩ := gd_s hf
      refine b_blk (pc' := 152) (ls' := [some (mR (12, 0, 177)), some (mI v1), none, some (mI v3)]) (st' := [mI 255, mI (I 178 v3.toNatClampNeg), mI v3, mR (20, 48, 217)]) (S' := (L, I, J, R)) (P := ((True ∧ R 177 0 = some (20, 1600, 178)) ∧ vp_in v3 1600)) [(.aload_n 0, (0, 0, 0, 0, 0)), (.getfield 7, (12, 0, 3, 0, 0)), (.iload_n 3, (0, 0, 0, 0, 0)), (.iaload, (0, 0, 0, 0, 0)), (.sipush 255, (0, 0, 0, 255, 0))] [some (20, 1600, 178)] (by decide +kernel) rfl ⟨⟨trivial, (r_177_0 hR)⟩, (in_n (n := 1600) (by decide) g5.1 g5.2)⟩ ?_
      refine b_icmp_ne (off := 7) (tgt := 159) (by decide +kernel) (by decide) (fun h6 => ?_) (fun h6 => ?_)
      · have hf := if_f h6 hf
        obtain ⟨g7, hf⟩ := gd_s hf
        obtain ⟨g8, hf⟩ := gd_s hf
        refine b_blk (pc' := 126) (ls' := [some (mR (12, 0, 177)), some (mI v1), none, some (mI (v3 + 1))]) (st' := []) (S' := (L, m_up I 217 (v3.toNatClampNeg) (I 178 v3.toNatClampNeg), J, R)) (P := (((True ∧ R 177 0 = some (20, 1600, 178)) ∧ vp_in v3 1600) ∧ vp_in v3 48)) [(.aload_n 0, (0, 0, 0, 0, 0)), (.getfield 7, (12, 0, 3, 0, 0)), (.iload_n 3, (0, 0, 0, 0, 0)), (.iaload, (0, 0, 0, 0, 0)), (.iastore, (0, 0, 0, 0, 0)), (.iinc 3 1, (0, 0, 0, 1, 0)), (.goto (-43), (0, 126, 0, 0, 0))] [some (20, 1600, 178)] (by decide +kernel) rfl ⟨⟨⟨trivial, (r_177_0 hR)⟩, (in_n (n := 1600) (by decide) g7.1 g7.2)⟩, (in_n (n := 48) (by decide) g8.1 g8.2)⟩ ?_
        cases hf
        exact hk
      · have hf := if_t h6 hf
        refine b_blk (pc' := 165) (ls' := [some (mR (12, 0, 177)), some (mI v1), none, some (mI v3)]) (st' := [mI (-1), mI v3, mR (20, 48, 217)]) (S' := (L, I, J, R)) (P := True) [(.iconst (-1), (0, 0, 0, (-1), 0)), (.goto 9, (0, 165, 0, 0, 0))] [] (by decide +kernel) rfl trivial ?_
        obtain ⟨g9, hf⟩ := gd_s hf
        refine b_blk (pc' := 126) (ls' := [some (mR (12, 0, 177)), some (mI v1), none, some (mI (v3 + 1))]) (st' := []) (S' := (L, m_up I 217 (v3.toNatClampNeg) (-1 : Int32), J, R)) (P := (True ∧ vp_in v3 48)) [(.iastore, (0, 0, 0, 0, 0)), (.iinc 3 1, (0, 0, 0, 1, 0)), (.goto (-43), (0, 126, 0, 0, 0))] [] (by decide +kernel) rfl ⟨trivial, (in_n (n := 48) (by decide) g9.1 g9.2)⟩ ?_
        cases hf
        exact hk
noncomputable def F_MD_see_114 (I : MI) (v1 : Int32) (v2 : Int32) : Option (Int32 × MI) :=
  if v2 = (0 : Int32) then ((F_MD_refuses I (1 : Int32)).bind fun r3 => some ((r3.1 : Int32), r3.2)) else ((wl (fun s : Int32 × MI => F_MD_see_126 s.2 v1 s.1) ((0 : Int32), I)).bind fun t2 => some (((v1 / (3 : Int32)) : Int32), m_up t2 177 59 (v1 / (3 : Int32))))
set_option maxRecDepth 100000 in
set_option maxHeartbeats 400000 in
theorem W_MD_see_114 {G : MG} {Q : Option MV → MS → Prop} {L : List (Nat × Nat)} {R : Nat → Nat → Option MRef} (I : MI) (J : MJ) (v1 : Int32) (v2 : Int32) (hR : RF R) {r : Int32 × MI} (hf : F_MD_see_114 I v1 v2 = some r) (hk : (fun r : Int32 × MI => Q (some (mI r.1)) (L, r.2, J, R)) r) : m_B G (m_rm 4 0 0) M_MD_see Q 0 0 114 [some (mR (12, 0, 177)), some (mI v1), some (mI v2), none] [] (L, I, J, R) := by
  unfold F_MD_see_114 at hf
  refine b_blk (pc' := 115) (ls' := [some (mR (12, 0, 177)), some (mI v1), some (mI v2), none]) (st' := [mI v2]) (S' := (L, I, J, R)) (P := True) [(.iload_n 2, (0, 0, 0, 0, 0))] [] (by decide +kernel) rfl trivial ?_
  refine b_if_ne (off := 9) (tgt := 124) (by decide +kernel) (by decide) (fun h1 => ?_) (fun h1 => ?_)
  · have hf := if_f h1 hf
    refine b_blk (pc' := 126) (ls' := [some (mR (12, 0, 177)), some (mI v1), some (mI v2), some (mI 0)]) (st' := []) (S' := (L, I, J, R)) (P := True) [(.iconst 0, (0, 0, 0, 0, 0)), (.istore_n 3, (0, 0, 0, 0, 0))] [] (by decide +kernel) rfl trivial ?_
    refine b_frg 2 ?_
    obtain ⟨t2, hw, hf⟩ := bnd_o hf
    refine wl_B (A := fun s : Int32 × MI => m_B G (m_rm 4 0 0) M_MD_see Q 0 0 126 [some (mR (12, 0, 177)), some (mI v1), none, some (mI s.1)] [] (L, s.2, J, R)) (B := (fun s : MI => m_B G (m_rm 4 0 0) M_MD_see Q 0 0 172 [some (mR (12, 0, 177)), some (mI v1), none, none] [] (L, s, J, R))) (fun s r hs hr => W_MD_see_126 s.2 J v1 s.1 hR hs hr) hw ?_
    show m_B G (m_rm 4 0 0) M_MD_see Q 0 0 172 [some (mR (12, 0, 177)), some (mI v1), none, none] [] (L, t2, J, R)
    refine b_blk (pc' := 183) (ls' := [some (mR (12, 0, 177)), some (mI v1), none, none]) (st' := [mI (v1 / (3 : Int32))]) (S' := (L, m_up t2 177 59 (v1 / (3 : Int32)), J, R)) (P := (True ∧ ¬ (3 : Int32) = 0)) [(.aload_n 0, (0, 0, 0, 0, 0)), (.iload_n 1, (0, 0, 0, 0, 0)), (.iconst 3, (0, 0, 0, 3, 0)), (.idiv, (0, 0, 0, 0, 0)), (.putfield 379, (12, 59, 0, 0, 0)), (.aload_n 0, (0, 0, 0, 0, 0)), (.getfield 379, (12, 59, 0, 0, 0))] [] (by decide +kernel) rfl ⟨trivial, (by decide)⟩ ?_
    cases hf
    exact b_iret (by decide +kernel) rfl hk
  · have hf := if_t h1 hf
    refine b_blk (pc' := 120) (ls' := [some (mR (12, 0, 177)), some (mI v1), some (mI v2), none]) (st' := [mI 1, mR (12, 0, 177)]) (S' := (L, I, J, R)) (P := True) [(.aload_n 0, (0, 0, 0, 0, 0)), (.iconst 1, (0, 0, 0, 1, 0))] [] (by decide +kernel) rfl trivial ?_
    obtain ⟨r3, hc3, hf⟩ := bnd_o hf
    refine b_cV (as := [mI 1]) (st := []) (by decide +kernel) k_12_527 n_MD_refuses rfl (by decide) v_MD_refuses (C_MD_refuses I J (1 : Int32) hR hc3) (Nat.le_of_ble_eq_true rfl) (by decide) rfl rfl (fun _ h => h) ?_
    show m_B G (m_rm 4 0 0) M_MD_see Q 0 0 123 [some (mR (12, 0, 177)), some (mI v1), some (mI v2), none] [mI r3.1] (L, r3.2, J, R)
    cases hf
    exact b_iret (by decide +kernel) rfl hk
noncomputable def F_MD_see_40 (I : MI) (v1 : Int32) (y0 : Int32) : Option (Int32 × MI) :=
  (wl (fun s : Int32 × Int32 => F_MD_see_43 I v1 s.1 s.2) ((y0 : Int32), (0 : Int32))).bind fun t1 => F_MD_see_114 I v1 t1
set_option maxRecDepth 100000 in
set_option maxHeartbeats 400000 in
theorem W_MD_see_40 {G : MG} {Q : Option MV → MS → Prop} {L : List (Nat × Nat)} {R : Nat → Nat → Option MRef} (I : MI) (J : MJ) (v1 : Int32) (y0 : Int32) (hR : RF R) {r : Int32 × MI} (hf : F_MD_see_40 I v1 y0 = some r) (hk : (fun r : Int32 × MI => Q (some (mI r.1)) (L, r.2, J, R)) r) : m_B G (m_rm 4 0 0) M_MD_see Q 0 0 40 [some (mR (12, 0, 177)), some (mI v1), none, none] [mI y0] (L, I, J, R) := by
  unfold F_MD_see_40 at hf
  refine b_blk (pc' := 43) (ls' := [some (mR (12, 0, 177)), some (mI v1), some (mI y0), some (mI 0)]) (st' := []) (S' := (L, I, J, R)) (P := True) [(.istore_n 2, (0, 0, 0, 0, 0)), (.iconst 0, (0, 0, 0, 0, 0)), (.istore_n 3, (0, 0, 0, 0, 0))] [] (by decide +kernel) rfl trivial ?_
  obtain ⟨t1, hw, hf⟩ := bnd_o hf
  refine wl_B (A := fun s : Int32 × Int32 => m_B G (m_rm 4 0 0) M_MD_see Q 0 0 43 [some (mR (12, 0, 177)), some (mI v1), some (mI s.1), some (mI s.2)] [] (L, I, J, R)) (B := (fun s : Int32 => m_B G (m_rm 4 0 0) M_MD_see Q 0 0 114 [some (mR (12, 0, 177)), some (mI v1), some (mI s), none] [] (L, I, J, R))) (fun s r hs hr => W_MD_see_43 I J v1 s.1 s.2 hR hs hr) hw ?_
  show m_B G (m_rm 4 0 0) M_MD_see Q 0 0 114 [some (mR (12, 0, 177)), some (mI v1), some (mI t1), none] [] (L, I, J, R)
  exact m_B_cg rfl rfl rfl (W_MD_see_114 I J v1 t1 hR hf hk)
noncomputable def F_MD_see_39 (I : MI) (v1 : Int32) : Option (Int32 × MI) :=
  F_MD_see_40 I v1 (0 : Int32)
set_option maxRecDepth 100000 in
set_option maxHeartbeats 400000 in
theorem W_MD_see_39 {G : MG} {Q : Option MV → MS → Prop} {L : List (Nat × Nat)} {R : Nat → Nat → Option MRef} (I : MI) (J : MJ) (v1 : Int32) (hR : RF R) {r : Int32 × MI} (hf : F_MD_see_39 I v1 = some r) (hk : (fun r : Int32 × MI => Q (some (mI r.1)) (L, r.2, J, R)) r) : m_B G (m_rm 4 0 0) M_MD_see Q 0 0 39 [some (mR (12, 0, 177)), some (mI v1), none, none] [] (L, I, J, R) := by
  unfold F_MD_see_39 at hf
  refine b_blk (pc' := 40) (ls' := [some (mR (12, 0, 177)), some (mI v1), none, none]) (st' := [mI 0]) (S' := (L, I, J, R)) (P := True) [(.iconst 0, (0, 0, 0, 0, 0))] [] (by decide +kernel) rfl trivial ?_
  exact m_B_cg rfl rfl rfl (W_MD_see_40 I J v1 (0 : Int32) hR hf hk)
noncomputable def F_MD_see (I : MI) : Option (Int32 × MI) :=
  if (I 177 49) = (0 : Int32) then (F_MD_see_39 (m_up I 177 1 (0 : Int32)) (I 177 1)) else (if (I 177 1) ≤ (0 : Int32) then (F_MD_see_39 (m_up I 177 1 (0 : Int32)) (I 177 1)) else (if (m_rem (I 177 1) (3 : Int32)) = (0 : Int32) then (if (16 : Int32) < ((I 177 1) / (3 : Int32)) then (F_MD_see_39 (m_up I 177 1 (0 : Int32)) (I 177 1)) else (F_MD_see_40 (m_up I 177 1 (0 : Int32)) (I 177 1) (1 : Int32))) else (F_MD_see_39 (m_up I 177 1 (0 : Int32)) (I 177 1))))
set_option maxRecDepth 100000 in
set_option maxHeartbeats 400000 in
theorem W_MD_see {G : MG} {Q : Option MV → MS → Prop} {L : List (Nat × Nat)} {R : Nat → Nat → Option MRef} (I : MI) (J : MJ) (hR : RF R) {r : Int32 × MI} (hf : F_MD_see I = some r) (hk : (fun r : Int32 × MI => Q (some (mI r.1)) (L, r.2, J, R)) r) : m_B G (m_rm 4 0 0) M_MD_see Q 0 0 0 [some (mR (12, 0, 177)), none, none, none] [] (L, I, J, R) := by
  unfold F_MD_see at hf
  refine b_blk (pc' := 14) (ls' := [some (mR (12, 0, 177)), some (mI (I 177 1)), none, none]) (st' := [mI (I 177 49)]) (S' := (L, m_up I 177 1 (0 : Int32), J, R)) (P := True) [(.aload_n 0, (0, 0, 0, 0, 0)), (.getfield 231, (12, 1, 0, 0, 0)), (.istore_n 1, (0, 0, 0, 0, 0)), (.aload_n 0, (0, 0, 0, 0, 0)), (.iconst 0, (0, 0, 0, 0, 0)), (.putfield 231, (12, 1, 0, 0, 0)), (.aload_n 0, (0, 0, 0, 0, 0)), (.getfield 369, (12, 49, 1, 0, 0))] [] (by decide +kernel) rfl trivial ?_
  refine b_if_eq (off := 25) (tgt := 39) (by decide +kernel) (by decide) (fun h1 => ?_) (fun h1 => ?_)
  · have hf := if_t h1 hf
    exact m_B_cg rfl rfl rfl (W_MD_see_39 (m_up I 177 1 (0 : Int32)) J (I 177 1) hR hf hk)
  · have hf := if_f h1 hf
    refine b_blk (pc' := 18) (ls' := [some (mR (12, 0, 177)), some (mI (I 177 1)), none, none]) (st' := [mI (I 177 1)]) (S' := (L, m_up I 177 1 (0 : Int32), J, R)) (P := True) [(.iload_n 1, (0, 0, 0, 0, 0))] [] (by decide +kernel) rfl trivial ?_
    refine b_if_le (off := 21) (tgt := 39) (by decide +kernel) (by decide) (fun h2 => ?_) (fun h2 => ?_)
    · have hf := if_t h2 hf
      exact m_B_cg rfl rfl rfl (W_MD_see_39 (m_up I 177 1 (0 : Int32)) J (I 177 1) hR hf hk)
    · have hf := if_f h2 hf
      refine b_blk (pc' := 24) (ls' := [some (mR (12, 0, 177)), some (mI (I 177 1)), none, none]) (st' := [mI (m_rem (I 177 1) (3 : Int32))]) (S' := (L, m_up I 177 1 (0 : Int32), J, R)) (P := (True ∧ ¬ (3 : Int32) = 0)) [(.iload_n 1, (0, 0, 0, 0, 0)), (.iconst 3, (0, 0, 0, 3, 0)), (.irem, (0, 0, 0, 0, 0))] [] (by decide +kernel) rfl ⟨trivial, (by decide)⟩ ?_
      refine b_if_ne (off := 15) (tgt := 39) (by decide +kernel) (by decide) (fun h3 => ?_) (fun h3 => ?_)
      · have hf := if_f h3 hf
        exact m_B_cg rfl rfl rfl (W_MD_see_39 (m_up I 177 1 (0 : Int32)) J (I 177 1) hR hf hk)
      · have hf := if_t h3 hf
        refine b_blk (pc' := 32) (ls' := [some (mR (12, 0, 177)), some (mI (I 177 1)), none, none]) (st' := [mI 16, mI ((I 177 1) / (3 : Int32))]) (S' := (L, m_up I 177 1 (0 : Int32), J, R)) (P := (True ∧ ¬ (3 : Int32) = 0)) [(.iload_n 1, (0, 0, 0, 0, 0)), (.iconst 3, (0, 0, 0, 3, 0)), (.idiv, (0, 0, 0, 0, 0)), (.bipush 16, (0, 0, 0, 16, 0))] [] (by decide +kernel) rfl ⟨trivial, (by decide)⟩ ?_
        refine b_icmp_gt (off := 7) (tgt := 39) (by decide +kernel) (by decide) (fun h4 => ?_) (fun h4 => ?_)
        · have hf := if_t h4 hf
          exact m_B_cg rfl rfl rfl (W_MD_see_39 (m_up I 177 1 (0 : Int32)) J (I 177 1) hR hf hk)
        · have hf := if_f h4 hf
          refine b_blk (pc' := 40) (ls' := [some (mR (12, 0, 177)), some (mI (I 177 1)), none, none]) (st' := [mI 1]) (S' := (L, m_up I 177 1 (0 : Int32), J, R)) (P := True) [(.iconst 1, (0, 0, 0, 1, 0)), (.goto 4, (0, 40, 0, 0, 0))] [] (by decide +kernel) rfl trivial ?_
          exact m_B_cg rfl rfl rfl (W_MD_see_40 (m_up I 177 1 (0 : Int32)) J (I 177 1) (1 : Int32) hR hf hk)
theorem C_MD_see {G : MG} {L : List (Nat × Nat)} {R : Nat → Nat → Option MRef} (I : MI) (J : MJ) (hR : RF R) {r : Int32 × MI} (hf : F_MD_see I = some r) : m_met G 4 0 0 y_MD_see M_MD_see [mR (12, 0, 177)] (L, I, J, R) (m_is (some (mI r.1)) (L, r.2, J, R)) :=
  m_met_in n_MD_see (plainFor_of_name (by decide)) (by decide) (Nat.le_of_ble_eq_true rfl) (ls := [some (mR (12, 0, 177)), none, none, none]) rfl (W_MD_see I J hR hf ⟨rfl, rfl⟩)
noncomputable def F_MD_isAsSeen_2 (I : MI) (v1 : Int32) : Option ((Int32) ⊕ ((Unit) ⊕ (Int32))) :=
  if (I 177 59) ≤ v1 then (some (.inr (.inl ()))) else (gd ((3 : Int32) * v1) 48 <| gd (((3 : Int32) * v1) + (1 : Int32)) 48 <| (F_MD_whoseIs I (I 217 ((3 : Int32) * v1).toNatClampNeg) (I 217 (((3 : Int32) * v1) + (1 : Int32)).toNatClampNeg)).bind fun r4 => gd (((3 : Int32) * v1) + (2 : Int32)) 48 <| if r4 = (I 217 (((3 : Int32) * v1) + (2 : Int32)).toNatClampNeg) then (some (.inl (v1 + 1 : Int32))) else (some (.inr (.inr (0 : Int32)))))
set_option maxRecDepth 100000 in
set_option maxHeartbeats 400000 in
theorem W_MD_isAsSeen_2 {G : MG} {Q : Option MV → MS → Prop} {L : List (Nat × Nat)} {R : Nat → Nat → Option MRef} (I : MI) (J : MJ) (v1 : Int32) (hR : RF R) {r : (Int32) ⊕ ((Unit) ⊕ (Int32))} (hf : F_MD_isAsSeen_2 I v1 = some r) (hk : (Sum.elim (fun s : Int32 => m_B G (m_rm 3 0 0) M_MD_isAsSeen Q 0 0 2 [some (mR (12, 0, 177)), some (mI s)] [] (L, I, J, R)) (Sum.elim (fun s : Unit => m_B G (m_rm 3 0 0) M_MD_isAsSeen Q 0 0 53 [none, none] [] (L, I, J, R)) (fun r : Int32 => Q (some (mI r)) (L, I, J, R)))) r) : m_B G (m_rm 3 0 0) M_MD_isAsSeen Q 0 0 2 [some (mR (12, 0, 177)), some (mI v1)] [] (L, I, J, R) := by
  unfold F_MD_isAsSeen_2 at hf
  refine b_blk (pc' := 7) (ls' := [some (mR (12, 0, 177)), some (mI v1)]) (st' := [mI (I 177 59), mI v1]) (S' := (L, I, J, R)) (P := True) [(.iload_n 1, (0, 0, 0, 0, 0)), (.aload_n 0, (0, 0, 0, 0, 0)), (.getfield 379, (12, 59, 0, 0, 0))] [] (by decide +kernel) rfl trivial ?_
  refine b_icmp_ge (off := 46) (tgt := 53) (by decide +kernel) (by decide) (fun h1 => ?_) (fun h1 => ?_)
  · have hf := if_t h1 hf
    refine b_frg 0 ?_
    refine b_frg 1 ?_
    cases hf
    exact hk
  · have hf := if_f h1 hf
    obtain ⟨g2, hf⟩ := gd_s hf
    obtain ⟨g3, hf⟩ := gd_s hf
    refine b_blk (pc' := 29) (ls' := [some (mR (12, 0, 177)), some (mI v1)]) (st' := [mI (I 217 (((3 : Int32) * v1) + (1 : Int32)).toNatClampNeg), mI (I 217 ((3 : Int32) * v1).toNatClampNeg), mR (12, 0, 177)]) (S' := (L, I, J, R)) (P := ((((True ∧ R 177 60 = some (20, 48, 217)) ∧ vp_in ((3 : Int32) * v1) 48) ∧ R 177 60 = some (20, 48, 217)) ∧ vp_in (((3 : Int32) * v1) + (1 : Int32)) 48)) [(.aload_n 0, (0, 0, 0, 0, 0)), (.aload_n 0, (0, 0, 0, 0, 0)), (.getfield 133, (12, 60, 3, 0, 0)), (.iconst 3, (0, 0, 0, 3, 0)), (.iload_n 1, (0, 0, 0, 0, 0)), (.imul, (0, 0, 0, 0, 0)), (.iaload, (0, 0, 0, 0, 0)), (.aload_n 0, (0, 0, 0, 0, 0)), (.getfield 133, (12, 60, 3, 0, 0)), (.iconst 3, (0, 0, 0, 3, 0)), (.iload_n 1, (0, 0, 0, 0, 0)), (.imul, (0, 0, 0, 0, 0)), (.iconst 1, (0, 0, 0, 1, 0)), (.iadd, (0, 0, 0, 0, 0)), (.iaload, (0, 0, 0, 0, 0))] [some (20, 48, 217), some (20, 48, 217)] (by decide +kernel) rfl ⟨⟨⟨⟨trivial, (r_177_60 hR)⟩, (in_n (n := 48) (by decide) g2.1 g2.2)⟩, (r_177_60 hR)⟩, (in_n (n := 48) (by decide) g3.1 g3.2)⟩ ?_
    obtain ⟨r4, hc4, hf⟩ := bnd_o hf
    refine b_cV (as := [mI (I 217 ((3 : Int32) * v1).toNatClampNeg), mI (I 217 (((3 : Int32) * v1) + (1 : Int32)).toNatClampNeg)]) (st := []) (by decide +kernel) k_12_395 n_MD_whoseIs rfl (by decide) v_MD_whoseIs (C_MD_whoseIs I J (I 217 ((3 : Int32) * v1).toNatClampNeg) (I 217 (((3 : Int32) * v1) + (1 : Int32)).toNatClampNeg) hR hc4) (Nat.le_of_ble_eq_true rfl) (by decide) rfl rfl (fun _ h => h) ?_
    show m_B G (m_rm 3 0 0) M_MD_isAsSeen Q 0 0 32 [some (mR (12, 0, 177)), some (mI v1)] [mI r4] (L, I, J, R)
    obtain ⟨g5, hf⟩ := gd_s hf
    refine b_blk (pc' := 42) (ls' := [some (mR (12, 0, 177)), some (mI v1)]) (st' := [mI (I 217 (((3 : Int32) * v1) + (2 : Int32)).toNatClampNeg), mI r4]) (S' := (L, I, J, R)) (P := ((True ∧ R 177 60 = some (20, 48, 217)) ∧ vp_in (((3 : Int32) * v1) + (2 : Int32)) 48)) [(.aload_n 0, (0, 0, 0, 0, 0)), (.getfield 133, (12, 60, 3, 0, 0)), (.iconst 3, (0, 0, 0, 3, 0)), (.iload_n 1, (0, 0, 0, 0, 0)), (.imul, (0, 0, 0, 0, 0)), (.iconst 2, (0, 0, 0, 2, 0)), (.iadd, (0, 0, 0, 0, 0)), (.iaload, (0, 0, 0, 0, 0))] [some (20, 48, 217)] (by decide +kernel) rfl ⟨⟨trivial, (r_177_60 hR)⟩, (in_n (n := 48) (by decide) g5.1 g5.2)⟩ ?_
    refine b_icmp_eq (off := 5) (tgt := 47) (by decide +kernel) (by decide) (fun h6 => ?_) (fun h6 => ?_)
    · have hf := if_t h6 hf
      refine b_blk (pc' := 2) (ls' := [some (mR (12, 0, 177)), some (mI (v1 + 1))]) (st' := []) (S' := (L, I, J, R)) (P := True) [(.iinc 1 1, (0, 0, 0, 1, 0)), (.goto (-48), (0, 2, 0, 0, 0))] [] (by decide +kernel) rfl trivial ?_
      cases hf
      exact hk
    · have hf := if_f h6 hf
      refine b_blk (pc' := 46) (ls' := [some (mR (12, 0, 177)), some (mI v1)]) (st' := [mI 0]) (S' := (L, I, J, R)) (P := True) [(.iconst 0, (0, 0, 0, 0, 0))] [] (by decide +kernel) rfl trivial ?_
      cases hf
      exact b_zret (by decide +kernel) rfl (by decide) hk
noncomputable def F_MD_isAsSeen (I : MI) : Option (Int32) :=
  (wl (fun s : Int32 => F_MD_isAsSeen_2 I s) (0 : Int32)).bind <| sel (fun q => some q) fun t1 => some (1 : Int32)
set_option maxRecDepth 100000 in
set_option maxHeartbeats 400000 in
theorem W_MD_isAsSeen {G : MG} {Q : Option MV → MS → Prop} {L : List (Nat × Nat)} {R : Nat → Nat → Option MRef} (I : MI) (J : MJ) (hR : RF R) {r : Int32} (hf : F_MD_isAsSeen I = some r) (hk : (fun r : Int32 => Q (some (mI r)) (L, I, J, R)) r) : m_B G (m_rm 3 0 0) M_MD_isAsSeen Q 0 0 0 [some (mR (12, 0, 177)), none] [] (L, I, J, R) := by
  unfold F_MD_isAsSeen at hf
  refine b_blk (pc' := 2) (ls' := [some (mR (12, 0, 177)), some (mI 0)]) (st' := []) (S' := (L, I, J, R)) (P := True) [(.iconst 0, (0, 0, 0, 0, 0)), (.istore_n 1, (0, 0, 0, 0, 0))] [] (by decide +kernel) rfl trivial ?_
  obtain ⟨t1, hw, hf⟩ := bnd_o hf
  refine wl_B (A := fun s : Int32 => m_B G (m_rm 3 0 0) M_MD_isAsSeen Q 0 0 2 [some (mR (12, 0, 177)), some (mI s)] [] (L, I, J, R)) (B := (Sum.elim (fun s : Unit => m_B G (m_rm 3 0 0) M_MD_isAsSeen Q 0 0 53 [none, none] [] (L, I, J, R)) (fun r : Int32 => Q (some (mI r)) (L, I, J, R)))) (fun s r hs hr => W_MD_isAsSeen_2 I J s hR hs hr) hw ?_
  rcases t1 with t1 | q
  rotate_left
  · cases se_r hf; exact hk
  replace hf := se_l hf
  show m_B G (m_rm 3 0 0) M_MD_isAsSeen Q 0 0 53 [none, none] [] (L, I, J, R)
  refine b_blk (pc' := 54) (ls' := [none, none]) (st' := [mI 1]) (S' := (L, I, J, R)) (P := True) [(.iconst 1, (0, 0, 0, 1, 0))] [] (by decide +kernel) rfl trivial ?_
  cases hf
  exact b_zret (by decide +kernel) rfl (by decide) hk
theorem C_MD_isAsSeen {G : MG} {L : List (Nat × Nat)} {R : Nat → Nat → Option MRef} (I : MI) (J : MJ) (hR : RF R) {r : Int32} (hf : F_MD_isAsSeen I = some r) : m_met G 3 0 0 y_MD_isAsSeen M_MD_isAsSeen [mR (12, 0, 177)] (L, I, J, R) (m_is (some (mI r)) (L, I, J, R)) :=
  m_met_in n_MD_isAsSeen (plainFor_of_name (by decide)) (by decide) (Nat.le_of_ble_eq_true rfl) (ls := [some (mR (12, 0, 177)), none]) rfl (W_MD_isAsSeen I J hR hf ⟨rfl, rfl⟩)
noncomputable def F_MD_laysFits_80 (I : MI) (v1 : Int32) (v2 : Int32) (v3 : Int32) : Option ((Int32 × MI) ⊕ (MI)) :=
  if (I 204 3) ≤ v3 then (some (.inr I)) else ((F_MD_whoseIs I v2 v3).bind fun r2 => gd ((((180 : Int32) * v1) + ((30 : Int32) * v2)) + v3) 5580 <| some (.inl ((v3 + 1 : Int32), m_up I 218 (((((180 : Int32) * v1) + ((30 : Int32) * v2)) + v3).toNatClampNeg) r2)))
set_option maxRecDepth 100000 in
set_option maxHeartbeats 400000 in
theorem W_MD_laysFits_80 {G : MG} {Q : Option MV → MS → Prop} {L : List (Nat × Nat)} {R : Nat → Nat → Option MRef} (I : MI) (J : MJ) (v1 : Int32) (v2 : Int32) (v3 : Int32) (hR : RF R) {r : (Int32 × MI) ⊕ (MI)} (hf : F_MD_laysFits_80 I v1 v2 v3 = some r) (hk : (Sum.elim (fun s : Int32 × MI => m_B G (m_rm 8 0 0) M_MD_laysFits Q 0 0 80 [some (mR (12, 0, 177)), some (mI v1), some (mI v2), some (mI s.1)] [] (L, s.2, J, R)) (fun s : MI => m_B G (m_rm 8 0 0) M_MD_laysFits Q 0 0 119 [some (mR (12, 0, 177)), some (mI v1), some (mI v2), none] [] (L, s, J, R))) r) : m_B G (m_rm 8 0 0) M_MD_laysFits Q 0 0 80 [some (mR (12, 0, 177)), some (mI v1), some (mI v2), some (mI v3)] [] (L, I, J, R) := by
  unfold F_MD_laysFits_80 at hf
  refine b_blk (pc' := 87) (ls' := [some (mR (12, 0, 177)), some (mI v1), some (mI v2), some (mI v3)]) (st' := [mI (I 204 3), mI v3]) (S' := (L, I, J, R)) (P := ((True ∧ R 177 36 = some (20, 4, 204)) ∧ vp_in (3 : Int32) 4)) [(.iload_n 3, (0, 0, 0, 0, 0)), (.aload_n 0, (0, 0, 0, 0, 0)), (.getfield 93, (12, 36, 3, 0, 0)), (.iconst 3, (0, 0, 0, 3, 0)), (.iaload, (0, 0, 0, 0, 0))] [some (20, 4, 204)] (by decide +kernel) rfl ⟨⟨trivial, (r_177_36 hR)⟩, (vp_in_nI (n := 3) (N := 4) (by decide) (by decide))⟩ ?_
  refine b_icmp_ge (off := 32) (tgt := 119) (by decide +kernel) (by decide) (fun h1 => ?_) (fun h1 => ?_)
  · have hf := if_t h1 hf
    refine b_frg 3 ?_
    cases hf
    exact hk
  · have hf := if_f h1 hf
    refine b_blk (pc' := 109) (ls' := [some (mR (12, 0, 177)), some (mI v1), some (mI v2), some (mI v3)]) (st' := [mI v3, mI v2, mR (12, 0, 177), mI ((((180 : Int32) * v1) + ((30 : Int32) * v2)) + v3), mR (20, 5580, 218)]) (S' := (L, I, J, R)) (P := (True ∧ R 177 61 = some (20, 5580, 218))) [(.aload_n 0, (0, 0, 0, 0, 0)), (.getfield 136, (12, 61, 3, 0, 0)), (.sipush 180, (0, 0, 0, 180, 0)), (.iload_n 1, (0, 0, 0, 0, 0)), (.imul, (0, 0, 0, 0, 0)), (.bipush 30, (0, 0, 0, 30, 0)), (.iload_n 2, (0, 0, 0, 0, 0)), (.imul, (0, 0, 0, 0, 0)), (.iadd, (0, 0, 0, 0, 0)), (.iload_n 3, (0, 0, 0, 0, 0)), (.iadd, (0, 0, 0, 0, 0)), (.aload_n 0, (0, 0, 0, 0, 0)), (.iload_n 2, (0, 0, 0, 0, 0)), (.iload_n 3, (0, 0, 0, 0, 0))] [some (20, 5580, 218)] (by decide +kernel) rfl ⟨trivial, (r_177_61 hR)⟩ ?_
    obtain ⟨r2, hc2, hf⟩ := bnd_o hf
    refine b_cV (as := [mI v2, mI v3]) (st := [mI ((((180 : Int32) * v1) + ((30 : Int32) * v2)) + v3), mR (20, 5580, 218)]) (by decide +kernel) k_12_395 n_MD_whoseIs rfl (by decide) v_MD_whoseIs (C_MD_whoseIs I J v2 v3 hR hc2) (Nat.le_of_ble_eq_true rfl) (by decide) rfl rfl (fun _ h => h) ?_
    show m_B G (m_rm 8 0 0) M_MD_laysFits Q 0 0 112 [some (mR (12, 0, 177)), some (mI v1), some (mI v2), some (mI v3)] [mI r2, mI ((((180 : Int32) * v1) + ((30 : Int32) * v2)) + v3), mR (20, 5580, 218)] (L, I, J, R)
    obtain ⟨g3, hf⟩ := gd_s hf
    refine b_blk (pc' := 80) (ls' := [some (mR (12, 0, 177)), some (mI v1), some (mI v2), some (mI (v3 + 1))]) (st' := []) (S' := (L, m_up I 218 (((((180 : Int32) * v1) + ((30 : Int32) * v2)) + v3).toNatClampNeg) r2, J, R)) (P := (True ∧ vp_in ((((180 : Int32) * v1) + ((30 : Int32) * v2)) + v3) 5580)) [(.iastore, (0, 0, 0, 0, 0)), (.iinc 3 1, (0, 0, 0, 1, 0)), (.goto (-36), (0, 80, 0, 0, 0))] [] (by decide +kernel) rfl ⟨trivial, (in_n (n := 5580) (by decide) g3.1 g3.2)⟩ ?_
    cases hf
    exact hk
noncomputable def F_MD_laysFits_68 (I : MI) (v1 : Int32) (v2 : Int32) : Option ((Int32 × MI) ⊕ (MI)) :=
  if (I 204 2) ≤ v2 then (some (.inr I)) else ((wl (fun s : Int32 × MI => F_MD_laysFits_80 s.2 v1 v2 s.1) ((0 : Int32), I)).bind fun t2 => some (.inl ((v2 + 1 : Int32), t2)))
set_option maxRecDepth 100000 in
set_option maxHeartbeats 400000 in
theorem W_MD_laysFits_68 {G : MG} {Q : Option MV → MS → Prop} {L : List (Nat × Nat)} {R : Nat → Nat → Option MRef} (I : MI) (J : MJ) (v1 : Int32) (v2 : Int32) (hR : RF R) {r : (Int32 × MI) ⊕ (MI)} (hf : F_MD_laysFits_68 I v1 v2 = some r) (hk : (Sum.elim (fun s : Int32 × MI => m_B G (m_rm 8 0 0) M_MD_laysFits Q 0 0 68 [some (mR (12, 0, 177)), some (mI v1), some (mI s.1), none] [] (L, s.2, J, R)) (fun s : MI => m_B G (m_rm 8 0 0) M_MD_laysFits Q 0 0 125 [some (mR (12, 0, 177)), some (mI v1), none, none] [] (L, s, J, R))) r) : m_B G (m_rm 8 0 0) M_MD_laysFits Q 0 0 68 [some (mR (12, 0, 177)), some (mI v1), some (mI v2), none] [] (L, I, J, R) := by
  unfold F_MD_laysFits_68 at hf
  refine b_blk (pc' := 75) (ls' := [some (mR (12, 0, 177)), some (mI v1), some (mI v2), none]) (st' := [mI (I 204 2), mI v2]) (S' := (L, I, J, R)) (P := ((True ∧ R 177 36 = some (20, 4, 204)) ∧ vp_in (2 : Int32) 4)) [(.iload_n 2, (0, 0, 0, 0, 0)), (.aload_n 0, (0, 0, 0, 0, 0)), (.getfield 93, (12, 36, 3, 0, 0)), (.iconst 2, (0, 0, 0, 2, 0)), (.iaload, (0, 0, 0, 0, 0))] [some (20, 4, 204)] (by decide +kernel) rfl ⟨⟨trivial, (r_177_36 hR)⟩, (vp_in_nI (n := 2) (N := 4) (by decide) (by decide))⟩ ?_
  refine b_icmp_ge (off := 50) (tgt := 125) (by decide +kernel) (by decide) (fun h1 => ?_) (fun h1 => ?_)
  · have hf := if_t h1 hf
    refine b_frg 2 ?_
    cases hf
    exact hk
  · have hf := if_f h1 hf
    refine b_blk (pc' := 80) (ls' := [some (mR (12, 0, 177)), some (mI v1), some (mI v2), some (mI 0)]) (st' := []) (S' := (L, I, J, R)) (P := True) [(.iconst 0, (0, 0, 0, 0, 0)), (.istore_n 3, (0, 0, 0, 0, 0))] [] (by decide +kernel) rfl trivial ?_
    obtain ⟨t2, hw, hf⟩ := bnd_o hf
    refine wl_B (A := fun s : Int32 × MI => m_B G (m_rm 8 0 0) M_MD_laysFits Q 0 0 80 [some (mR (12, 0, 177)), some (mI v1), some (mI v2), some (mI s.1)] [] (L, s.2, J, R)) (B := (fun s : MI => m_B G (m_rm 8 0 0) M_MD_laysFits Q 0 0 119 [some (mR (12, 0, 177)), some (mI v1), some (mI v2), none] [] (L, s, J, R))) (fun s r hs hr => W_MD_laysFits_80 s.2 J v1 v2 s.1 hR hs hr) hw ?_
    show m_B G (m_rm 8 0 0) M_MD_laysFits Q 0 0 119 [some (mR (12, 0, 177)), some (mI v1), some (mI v2), none] [] (L, t2, J, R)
    refine b_blk (pc' := 68) (ls' := [some (mR (12, 0, 177)), some (mI v1), some (mI (v2 + 1)), none]) (st' := []) (S' := (L, t2, J, R)) (P := True) [(.iinc 2 1, (0, 0, 0, 1, 0)), (.goto (-54), (0, 68, 0, 0, 0))] [] (by decide +kernel) rfl trivial ?_
    cases hf
    exact hk
noncomputable def F_MD_laysFits_66 (I : MI) (J : MJ) (v1 : Int32) : Option ((Int32 × MI × MJ) ⊕ (MI × MJ)) :=
  (wl (fun s : Int32 × MI => F_MD_laysFits_68 s.2 v1 s.1) ((0 : Int32), I)).bind fun t1 => (F_MD_yearGoes t1 J).bind fun r2 => some (.inl ((v1 + 1 : Int32), r2.1, r2.2))
set_option maxRecDepth 100000 in
set_option maxHeartbeats 400000 in
theorem W_MD_laysFits_66 {G : MG} {Q : Option MV → MS → Prop} {L : List (Nat × Nat)} {R : Nat → Nat → Option MRef} (I : MI) (J : MJ) (v1 : Int32) (hR : RF R) {r : (Int32 × MI × MJ) ⊕ (MI × MJ)} (hf : F_MD_laysFits_66 I J v1 = some r) (hk : (Sum.elim (fun s : Int32 × MI × MJ => m_B G (m_rm 8 0 0) M_MD_laysFits Q 0 0 11 [some (mR (12, 0, 177)), some (mI s.1), none, none] [] (L, s.2.1, s.2.2, R)) (fun s : MI × MJ => m_B G (m_rm 8 0 0) M_MD_laysFits Q 0 0 135 [some (mR (12, 0, 177)), none, none, none] [] (L, s.1, s.2, R))) r) : m_B G (m_rm 8 0 0) M_MD_laysFits Q 0 0 66 [some (mR (12, 0, 177)), some (mI v1), none, none] [] (L, I, J, R) := by
  unfold F_MD_laysFits_66 at hf
  refine b_blk (pc' := 68) (ls' := [some (mR (12, 0, 177)), some (mI v1), some (mI 0), none]) (st' := []) (S' := (L, I, J, R)) (P := True) [(.iconst 0, (0, 0, 0, 0, 0)), (.istore_n 2, (0, 0, 0, 0, 0))] [] (by decide +kernel) rfl trivial ?_
  obtain ⟨t1, hw, hf⟩ := bnd_o hf
  refine wl_B (A := fun s : Int32 × MI => m_B G (m_rm 8 0 0) M_MD_laysFits Q 0 0 68 [some (mR (12, 0, 177)), some (mI v1), some (mI s.1), none] [] (L, s.2, J, R)) (B := (fun s : MI => m_B G (m_rm 8 0 0) M_MD_laysFits Q 0 0 125 [some (mR (12, 0, 177)), some (mI v1), none, none] [] (L, s, J, R))) (fun s r hs hr => W_MD_laysFits_68 s.2 J v1 s.1 hR hs hr) hw ?_
  show m_B G (m_rm 8 0 0) M_MD_laysFits Q 0 0 125 [some (mR (12, 0, 177)), some (mI v1), none, none] [] (L, t1, J, R)
  refine b_blk (pc' := 126) (ls' := [some (mR (12, 0, 177)), some (mI v1), none, none]) (st' := [mR (12, 0, 177)]) (S' := (L, t1, J, R)) (P := True) [(.aload_n 0, (0, 0, 0, 0, 0))] [] (by decide +kernel) rfl trivial ?_
  obtain ⟨r2, hc2, hf⟩ := bnd_o hf
  refine b_cV (as := []) (st := []) (by decide +kernel) k_12_461 n_MD_yearGoes rfl (by decide) v_MD_yearGoes (C_MD_yearGoes t1 J hR hc2) (Nat.le_of_ble_eq_true rfl) (by decide) rfl rfl (fun _ h => h) ?_
  show m_B G (m_rm 8 0 0) M_MD_laysFits Q 0 0 129 [some (mR (12, 0, 177)), some (mI v1), none, none] [] (L, r2.1, r2.2, R)
  refine b_blk (pc' := 11) (ls' := [some (mR (12, 0, 177)), some (mI (v1 + 1)), none, none]) (st' := []) (S' := (L, r2.1, r2.2, R)) (P := True) [(.iinc 1 1, (0, 0, 0, 1, 0)), (.goto (-121), (0, 11, 0, 0, 0))] [] (by decide +kernel) rfl trivial ?_
  cases hf
  exact hk
noncomputable def F_MD_laysFits_46 (I : MI) (J : MJ) (v1 : Int32) (y0 : Int32) (y1 : Int32) : Option ((Int32 × MI × MJ) ⊕ (MI × MJ)) :=
  gd y1 31 <| gd v1 31 <| if ((m_up I 219 (y1.toNatClampNeg) (vp_nar .boolean y0)) 219 v1.toNatClampNeg) = (0 : Int32) then (F_MD_laysFits_66 (m_up I 219 (y1.toNatClampNeg) (vp_nar .boolean y0)) J v1) else (F_MD_laysFits_66 (m_up (m_up I 219 (y1.toNatClampNeg) (vp_nar .boolean y0)) 177 63 ((I 177 63) + (1 : Int32))) J v1)
set_option maxRecDepth 100000 in
set_option maxHeartbeats 400000 in
theorem W_MD_laysFits_46 {G : MG} {Q : Option MV → MS → Prop} {L : List (Nat × Nat)} {R : Nat → Nat → Option MRef} (I : MI) (J : MJ) (v1 : Int32) (y0 : Int32) (y1 : Int32) (hR : RF R) {r : (Int32 × MI × MJ) ⊕ (MI × MJ)} (hf : F_MD_laysFits_46 I J v1 y0 y1 = some r) (hk : (Sum.elim (fun s : Int32 × MI × MJ => m_B G (m_rm 8 0 0) M_MD_laysFits Q 0 0 11 [some (mR (12, 0, 177)), some (mI s.1), none, none] [] (L, s.2.1, s.2.2, R)) (fun s : MI × MJ => m_B G (m_rm 8 0 0) M_MD_laysFits Q 0 0 135 [some (mR (12, 0, 177)), none, none, none] [] (L, s.1, s.2, R))) r) : m_B G (m_rm 8 0 0) M_MD_laysFits Q 0 0 46 [some (mR (12, 0, 177)), some (mI v1), none, none] [mI y0, mI y1, mR (24, 31, 219)] (L, I, J, R) := by
  unfold F_MD_laysFits_46 at hf
  obtain ⟨g1, hf⟩ := gd_s hf
  obtain ⟨g2, hf⟩ := gd_s hf
  refine b_blk (pc' := 53) (ls' := [some (mR (12, 0, 177)), some (mI v1), none, none]) (st' := [mI ((m_up I 219 (y1.toNatClampNeg) (vp_nar .boolean y0)) 219 v1.toNatClampNeg)]) (S' := (L, m_up I 219 (y1.toNatClampNeg) (vp_nar .boolean y0), J, R)) (P := (((True ∧ vp_in y1 31) ∧ R 177 62 = some (24, 31, 219)) ∧ vp_in v1 31)) [(.bastore, (0, 0, 0, 0, 0)), (.aload_n 0, (0, 0, 0, 0, 0)), (.getfield 139, (12, 62, 3, 0, 0)), (.iload_n 1, (0, 0, 0, 0, 0)), (.baload, (0, 0, 0, 0, 0))] [some (24, 31, 219)] (by decide +kernel) rfl ⟨⟨⟨trivial, (in_n (n := 31) (by decide) g1.1 g1.2)⟩, (r_177_62 hR)⟩, (in_n (n := 31) (by decide) g2.1 g2.2)⟩ ?_
  refine b_if_eq (off := 13) (tgt := 66) (by decide +kernel) (by decide) (fun h3 => ?_) (fun h3 => ?_)
  · have hf := if_t h3 hf
    exact m_B_cg rfl rfl rfl (W_MD_laysFits_66 (m_up I 219 (y1.toNatClampNeg) (vp_nar .boolean y0)) J v1 hR hf hk)
  · have hf := if_f h3 hf
    refine b_blk (pc' := 66) (ls' := [some (mR (12, 0, 177)), some (mI v1), none, none]) (st' := []) (S' := (L, m_up (m_up I 219 (y1.toNatClampNeg) (vp_nar .boolean y0)) 177 63 ((I 177 63) + (1 : Int32)), J, R)) (P := True) [(.aload_n 0, (0, 0, 0, 0, 0)), (.dup, (0, 0, 0, 0, 0)), (.getfield 530, (12, 63, 0, 0, 0)), (.iconst 1, (0, 0, 0, 1, 0)), (.iadd, (0, 0, 0, 0, 0)), (.putfield 530, (12, 63, 0, 0, 0))] [] (by decide +kernel) rfl trivial ?_
    exact m_B_cg rfl rfl rfl (W_MD_laysFits_66 (m_up (m_up I 219 (y1.toNatClampNeg) (vp_nar .boolean y0)) 177 63 ((I 177 63) + (1 : Int32))) J v1 hR hf hk)
noncomputable def F_MD_laysFits_45 (I : MI) (J : MJ) (v1 : Int32) (y0 : Int32) : Option ((Int32 × MI × MJ) ⊕ (MI × MJ)) :=
  F_MD_laysFits_46 I J v1 (0 : Int32) y0
set_option maxRecDepth 100000 in
set_option maxHeartbeats 400000 in
theorem W_MD_laysFits_45 {G : MG} {Q : Option MV → MS → Prop} {L : List (Nat × Nat)} {R : Nat → Nat → Option MRef} (I : MI) (J : MJ) (v1 : Int32) (y0 : Int32) (hR : RF R) {r : (Int32 × MI × MJ) ⊕ (MI × MJ)} (hf : F_MD_laysFits_45 I J v1 y0 = some r) (hk : (Sum.elim (fun s : Int32 × MI × MJ => m_B G (m_rm 8 0 0) M_MD_laysFits Q 0 0 11 [some (mR (12, 0, 177)), some (mI s.1), none, none] [] (L, s.2.1, s.2.2, R)) (fun s : MI × MJ => m_B G (m_rm 8 0 0) M_MD_laysFits Q 0 0 135 [some (mR (12, 0, 177)), none, none, none] [] (L, s.1, s.2, R))) r) : m_B G (m_rm 8 0 0) M_MD_laysFits Q 0 0 45 [some (mR (12, 0, 177)), some (mI v1), none, none] [mI y0, mR (24, 31, 219)] (L, I, J, R) := by
  unfold F_MD_laysFits_45 at hf
  refine b_blk (pc' := 46) (ls' := [some (mR (12, 0, 177)), some (mI v1), none, none]) (st' := [mI 0, mI y0, mR (24, 31, 219)]) (S' := (L, I, J, R)) (P := True) [(.iconst 0, (0, 0, 0, 0, 0))] [] (by decide +kernel) rfl trivial ?_
  exact m_B_cg rfl rfl rfl (W_MD_laysFits_46 I J v1 (0 : Int32) y0 hR hf hk)
noncomputable def F_MD_laysFits_11 (I : MI) (J : MJ) (v1 : Int32) : Option ((Int32 × MI × MJ) ⊕ (MI × MJ)) :=
  if (30 : Int32) < v1 then (some (.inr (I, J))) else (if (999 : Int32) < (I 213 0) then (F_MD_laysFits_45 I J v1 v1) else ((F_MD_isAsSeen I).bind fun r3 => if r3 = (0 : Int32) then (F_MD_laysFits_45 I J v1 v1) else (F_MD_laysFits_46 I J v1 (1 : Int32) v1)))
set_option maxRecDepth 100000 in
set_option maxHeartbeats 400000 in
theorem W_MD_laysFits_11 {G : MG} {Q : Option MV → MS → Prop} {L : List (Nat × Nat)} {R : Nat → Nat → Option MRef} (I : MI) (J : MJ) (v1 : Int32) (hR : RF R) {r : (Int32 × MI × MJ) ⊕ (MI × MJ)} (hf : F_MD_laysFits_11 I J v1 = some r) (hk : (Sum.elim (fun s : Int32 × MI × MJ => m_B G (m_rm 8 0 0) M_MD_laysFits Q 0 0 11 [some (mR (12, 0, 177)), some (mI s.1), none, none] [] (L, s.2.1, s.2.2, R)) (fun s : MI × MJ => m_B G (m_rm 8 0 0) M_MD_laysFits Q 0 0 135 [some (mR (12, 0, 177)), none, none, none] [] (L, s.1, s.2, R))) r) : m_B G (m_rm 8 0 0) M_MD_laysFits Q 0 0 11 [some (mR (12, 0, 177)), some (mI v1), none, none] [] (L, I, J, R) := by
  unfold F_MD_laysFits_11 at hf
  refine b_blk (pc' := 14) (ls' := [some (mR (12, 0, 177)), some (mI v1), none, none]) (st' := [mI 30, mI v1]) (S' := (L, I, J, R)) (P := True) [(.iload_n 1, (0, 0, 0, 0, 0)), (.bipush 30, (0, 0, 0, 30, 0))] [] (by decide +kernel) rfl trivial ?_
  refine b_icmp_gt (off := 121) (tgt := 135) (by decide +kernel) (by decide) (fun h1 => ?_) (fun h1 => ?_)
  · have hf := if_t h1 hf
    refine b_frg 1 ?_
    cases hf
    exact hk
  · have hf := if_f h1 hf
    refine b_blk (pc' := 31) (ls' := [some (mR (12, 0, 177)), some (mI v1), none, none]) (st' := [mI 999, mI (I 213 0), mI v1, mR (24, 31, 219)]) (S' := (L, I, J, R)) (P := (((True ∧ R 177 62 = some (24, 31, 219)) ∧ R 177 51 = some (20, 176, 213)) ∧ vp_in (0 : Int32) 176)) [(.aload_n 0, (0, 0, 0, 0, 0)), (.getfield 139, (12, 62, 3, 0, 0)), (.iload_n 1, (0, 0, 0, 0, 0)), (.aload_n 0, (0, 0, 0, 0, 0)), (.getfield 121, (12, 51, 3, 0, 0)), (.iconst 0, (0, 0, 0, 0, 0)), (.iaload, (0, 0, 0, 0, 0)), (.sipush 999, (0, 0, 0, 999, 0))] [some (24, 31, 219), some (20, 176, 213)] (by decide +kernel) rfl ⟨⟨⟨trivial, (r_177_62 hR)⟩, (r_177_51 hR)⟩, (vp_in_nI (n := 0) (N := 176) (by decide) (by decide))⟩ ?_
    refine b_icmp_gt (off := 14) (tgt := 45) (by decide +kernel) (by decide) (fun h2 => ?_) (fun h2 => ?_)
    · have hf := if_t h2 hf
      exact m_B_cg rfl rfl rfl (W_MD_laysFits_45 I J v1 v1 hR hf hk)
    · have hf := if_f h2 hf
      refine b_blk (pc' := 35) (ls' := [some (mR (12, 0, 177)), some (mI v1), none, none]) (st' := [mR (12, 0, 177), mI v1, mR (24, 31, 219)]) (S' := (L, I, J, R)) (P := True) [(.aload_n 0, (0, 0, 0, 0, 0))] [] (by decide +kernel) rfl trivial ?_
      obtain ⟨r3, hc3, hf⟩ := bnd_o hf
      refine b_cV (as := []) (st := [mI v1, mR (24, 31, 219)]) (by decide +kernel) k_12_533 n_MD_isAsSeen rfl (by decide) v_MD_isAsSeen (C_MD_isAsSeen I J hR hc3) (Nat.le_of_ble_eq_true rfl) (by decide) rfl rfl (fun _ h => h) ?_
      show m_B G (m_rm 8 0 0) M_MD_laysFits Q 0 0 38 [some (mR (12, 0, 177)), some (mI v1), none, none] [mI r3, mI v1, mR (24, 31, 219)] (L, I, J, R)
      refine b_if_eq (off := 7) (tgt := 45) (by decide +kernel) (by decide) (fun h4 => ?_) (fun h4 => ?_)
      · have hf := if_t h4 hf
        exact m_B_cg rfl rfl rfl (W_MD_laysFits_45 I J v1 v1 hR hf hk)
      · have hf := if_f h4 hf
        refine b_blk (pc' := 46) (ls' := [some (mR (12, 0, 177)), some (mI v1), none, none]) (st' := [mI 1, mI v1, mR (24, 31, 219)]) (S' := (L, I, J, R)) (P := True) [(.iconst 1, (0, 0, 0, 1, 0)), (.goto 4, (0, 46, 0, 0, 0))] [] (by decide +kernel) rfl trivial ?_
        exact m_B_cg rfl rfl rfl (W_MD_laysFits_46 I J v1 (1 : Int32) v1 hR hf hk)
noncomputable def F_MD_laysFits (I : MI) (J : MJ) : Option (MI × MJ) :=
  (F_MD_putsAside I).bind fun r1 => (wl (fun s : Int32 × MI × MJ => F_MD_laysFits_11 s.2.1 s.2.2 s.1) ((0 : Int32), m_up r1 177 63 (0 : Int32), J)).bind fun t2 => (F_MD_takesBack t2.1).bind fun r3 => some (r3, t2.2)
set_option maxRecDepth 100000 in
set_option maxHeartbeats 400000 in
theorem W_MD_laysFits {G : MG} {Q : Option MV → MS → Prop} {L : List (Nat × Nat)} {R : Nat → Nat → Option MRef} (I : MI) (J : MJ) (hR : RF R) {r : MI × MJ} (hf : F_MD_laysFits I J = some r) (hk : (fun r : MI × MJ => Q (none) (L, r.1, r.2, R)) r) : m_B G (m_rm 8 0 0) M_MD_laysFits Q 0 0 0 [some (mR (12, 0, 177)), none, none, none] [] (L, I, J, R) := by
  unfold F_MD_laysFits at hf
  refine b_blk (pc' := 1) (ls' := [some (mR (12, 0, 177)), none, none, none]) (st' := [mR (12, 0, 177)]) (S' := (L, I, J, R)) (P := True) [(.aload_n 0, (0, 0, 0, 0, 0))] [] (by decide +kernel) rfl trivial ?_
  obtain ⟨r1, hc1, hf⟩ := bnd_o hf
  refine b_cV (as := []) (st := []) (by decide +kernel) k_12_499 n_MD_putsAside rfl (by decide) v_MD_putsAside (C_MD_putsAside I J hR hc1) (Nat.le_of_ble_eq_true rfl) (by decide) rfl rfl (fun _ h => h) ?_
  show m_B G (m_rm 8 0 0) M_MD_laysFits Q 0 0 4 [some (mR (12, 0, 177)), none, none, none] [] (L, r1, J, R)
  refine b_blk (pc' := 11) (ls' := [some (mR (12, 0, 177)), some (mI 0), none, none]) (st' := []) (S' := (L, m_up r1 177 63 (0 : Int32), J, R)) (P := True) [(.aload_n 0, (0, 0, 0, 0, 0)), (.iconst 0, (0, 0, 0, 0, 0)), (.putfield 530, (12, 63, 0, 0, 0)), (.iconst 0, (0, 0, 0, 0, 0)), (.istore_n 1, (0, 0, 0, 0, 0))] [] (by decide +kernel) rfl trivial ?_
  obtain ⟨t2, hw, hf⟩ := bnd_o hf
  refine wl_B (A := fun s : Int32 × MI × MJ => m_B G (m_rm 8 0 0) M_MD_laysFits Q 0 0 11 [some (mR (12, 0, 177)), some (mI s.1), none, none] [] (L, s.2.1, s.2.2, R)) (B := (fun s : MI × MJ => m_B G (m_rm 8 0 0) M_MD_laysFits Q 0 0 135 [some (mR (12, 0, 177)), none, none, none] [] (L, s.1, s.2, R))) (fun s r hs hr => W_MD_laysFits_11 s.2.1 s.2.2 s.1 hR hs hr) hw ?_
  show m_B G (m_rm 8 0 0) M_MD_laysFits Q 0 0 135 [some (mR (12, 0, 177)), none, none, none] [] (L, t2.1, t2.2, R)
  refine b_blk (pc' := 136) (ls' := [some (mR (12, 0, 177)), none, none, none]) (st' := [mR (12, 0, 177)]) (S' := (L, t2.1, t2.2, R)) (P := True) [(.aload_n 0, (0, 0, 0, 0, 0))] [] (by decide +kernel) rfl trivial ?_
  obtain ⟨r3, hc3, hf⟩ := bnd_o hf
  refine b_cV (as := []) (st := []) (by decide +kernel) k_12_505 n_MD_takesBack rfl (by decide) v_MD_takesBack (C_MD_takesBack t2.1 t2.2 hR hc3) (Nat.le_of_ble_eq_true rfl) (by decide) rfl rfl (fun _ h => h) ?_
  show m_B G (m_rm 8 0 0) M_MD_laysFits Q 0 0 139 [some (mR (12, 0, 177)), none, none, none] [] (L, r3, t2.2, R)
  cases hf
  exact b_vret (by decide +kernel) rfl hk
theorem C_MD_laysFits {G : MG} {L : List (Nat × Nat)} {R : Nat → Nat → Option MRef} (I : MI) (J : MJ) (hR : RF R) {r : MI × MJ} (hf : F_MD_laysFits I J = some r) : m_met G 8 0 0 y_MD_laysFits M_MD_laysFits [mR (12, 0, 177)] (L, I, J, R) (m_is (none) (L, r.1, r.2, R)) :=
  m_met_in n_MD_laysFits (plainFor_of_name (by decide)) (by decide) (Nat.le_of_ble_eq_true rfl) (ls := [some (mR (12, 0, 177)), none, none, none]) rfl (W_MD_laysFits I J hR hf ⟨rfl, rfl⟩)
noncomputable def F_MD_fits_32 (I : MI) (v1 : Int32) (v2 : Int32) (v3 : Int32) (v4 : Int32) : Option ((Int32 × Int32 × Int32) ⊕ (Int32 × Int32)) :=
  if (30 : Int32) < v4 then (some (.inr ((v2 : Int32), (v3 : Int32)))) else (gd v4 31 <| if (I 219 v4.toNatClampNeg) = (0 : Int32) then (some (.inl ((v2 : Int32), (v3 : Int32), (v4 + 1 : Int32)))) else (if v2 = (-1 : Int32) then (some (.inl ((v4 : Int32), (v4 : Int32), (v4 + 1 : Int32)))) else (some (.inl ((v2 : Int32), (v4 : Int32), (v4 + 1 : Int32))))))
set_option maxRecDepth 100000 in
set_option maxHeartbeats 400000 in
theorem W_MD_fits_32 {G : MG} {Q : Option MV → MS → Prop} {L : List (Nat × Nat)} {R : Nat → Nat → Option MRef} (I : MI) (J : MJ) (v1 : Int32) (v2 : Int32) (v3 : Int32) (v4 : Int32) (hR : RF R) {r : (Int32 × Int32 × Int32) ⊕ (Int32 × Int32)} (hf : F_MD_fits_32 I v1 v2 v3 v4 = some r) (hk : (Sum.elim (fun s : Int32 × Int32 × Int32 => m_B G (m_rm 9 0 0) M_MD_fits Q 0 0 32 [some (mR (12, 0, 177)), some (mI v1), some (mI s.1), some (mI s.2.1), some (mI s.2.2)] [] (L, I, J, R)) (fun s : Int32 × Int32 => m_B G (m_rm 9 0 0) M_MD_fits Q 0 0 69 [some (mR (12, 0, 177)), some (mI v1), some (mI s.1), some (mI s.2), none] [] (L, I, J, R))) r) : m_B G (m_rm 9 0 0) M_MD_fits Q 0 0 32 [some (mR (12, 0, 177)), some (mI v1), some (mI v2), some (mI v3), some (mI v4)] [] (L, I, J, R) := by
  unfold F_MD_fits_32 at hf
  refine b_blk (pc' := 36) (ls' := [some (mR (12, 0, 177)), some (mI v1), some (mI v2), some (mI v3), some (mI v4)]) (st' := [mI 30, mI v4]) (S' := (L, I, J, R)) (P := True) [(.iload 4, (0, 0, 0, 0, 0)), (.bipush 30, (0, 0, 0, 30, 0))] [] (by decide +kernel) rfl trivial ?_
  refine b_icmp_gt (off := 33) (tgt := 69) (by decide +kernel) (by decide) (fun h1 => ?_) (fun h1 => ?_)
  · have hf := if_t h1 hf
    refine b_frg 4 ?_
    cases hf
    exact hk
  · have hf := if_f h1 hf
    obtain ⟨g2, hf⟩ := gd_s hf
    refine b_blk (pc' := 46) (ls' := [some (mR (12, 0, 177)), some (mI v1), some (mI v2), some (mI v3), some (mI v4)]) (st' := [mI (I 219 v4.toNatClampNeg)]) (S' := (L, I, J, R)) (P := ((True ∧ R 177 62 = some (24, 31, 219)) ∧ vp_in v4 31)) [(.aload_n 0, (0, 0, 0, 0, 0)), (.getfield 139, (12, 62, 3, 0, 0)), (.iload 4, (0, 0, 0, 0, 0)), (.baload, (0, 0, 0, 0, 0))] [some (24, 31, 219)] (by decide +kernel) rfl ⟨⟨trivial, (r_177_62 hR)⟩, (in_n (n := 31) (by decide) g2.1 g2.2)⟩ ?_
    refine b_if_ne (off := 6) (tgt := 52) (by decide +kernel) (by decide) (fun h3 => ?_) (fun h3 => ?_)
    · have hf := if_f h3 hf
      refine b_blk (pc' := 54) (ls' := [some (mR (12, 0, 177)), some (mI v1), some (mI v2), some (mI v3), some (mI v4)]) (st' := [mI (-1), mI v2]) (S' := (L, I, J, R)) (P := True) [(.iload_n 2, (0, 0, 0, 0, 0)), (.iconst (-1), (0, 0, 0, (-1), 0))] [] (by decide +kernel) rfl trivial ?_
      refine b_icmp_ne (off := 6) (tgt := 60) (by decide +kernel) (by decide) (fun h4 => ?_) (fun h4 => ?_)
      · have hf := if_f h4 hf
        refine b_blk (pc' := 32) (ls' := [some (mR (12, 0, 177)), some (mI v1), some (mI v2), some (mI v4), some (mI (v4 + 1))]) (st' := []) (S' := (L, I, J, R)) (P := True) [(.iload 4, (0, 0, 0, 0, 0)), (.istore_n 3, (0, 0, 0, 0, 0)), (.iinc 4 1, (0, 0, 0, 1, 0)), (.goto (-34), (0, 32, 0, 0, 0))] [] (by decide +kernel) rfl trivial ?_
        cases hf
        exact hk
      · have hf := if_t h4 hf
        refine b_blk (pc' := 32) (ls' := [some (mR (12, 0, 177)), some (mI v1), some (mI v4), some (mI v4), some (mI (v4 + 1))]) (st' := []) (S' := (L, I, J, R)) (P := True) [(.iload 4, (0, 0, 0, 0, 0)), (.istore_n 2, (0, 0, 0, 0, 0)), (.iload 4, (0, 0, 0, 0, 0)), (.istore_n 3, (0, 0, 0, 0, 0)), (.iinc 4 1, (0, 0, 0, 1, 0)), (.goto (-34), (0, 32, 0, 0, 0))] [] (by decide +kernel) rfl trivial ?_
        cases hf
        exact hk
    · have hf := if_t h3 hf
      refine b_blk (pc' := 63) (ls' := [some (mR (12, 0, 177)), some (mI v1), some (mI v2), some (mI v3), some (mI v4)]) (st' := []) (S' := (L, I, J, R)) (P := True) [(.goto 14, (0, 63, 0, 0, 0))] [] (by decide +kernel) rfl trivial ?_
      refine b_blk (pc' := 32) (ls' := [some (mR (12, 0, 177)), some (mI v1), some (mI v2), some (mI v3), some (mI (v4 + 1))]) (st' := []) (S' := (L, I, J, R)) (P := True) [(.iinc 4 1, (0, 0, 0, 1, 0)), (.goto (-34), (0, 32, 0, 0, 0))] [] (by decide +kernel) rfl trivial ?_
      cases hf
      exact hk
noncomputable def F_MD_fits (I : MI) (J : MJ) (v1 : Int32) : Option (Int32 × MI × MJ) :=
  if (I 177 49) = (0 : Int32) then (some (((-1) : Int32), I, J)) else ((F_MD_isIn v1.toInt64 (0 : Int64) (2 : Int64)).bind fun r2 => if r2 = (0 : Int32) then (some (((-1) : Int32), I, J)) else ((F_MD_laysFits I J).bind fun r4 => (wl (fun s : Int32 × Int32 × Int32 => F_MD_fits_32 r4.1 v1 s.1 s.2.1 s.2.2) (((-1) : Int32), ((-1) : Int32), (0 : Int32))).bind fun t5 => if v1 = (0 : Int32) then (some ((r4.1 177 63 : Int32), r4.1, r4.2)) else (if v1 = (1 : Int32) then (some ((t5.1 : Int32), r4.1, r4.2)) else (some ((t5.2 : Int32), r4.1, r4.2)))))
set_option maxRecDepth 100000 in
set_option maxHeartbeats 400000 in
theorem W_MD_fits {G : MG} {Q : Option MV → MS → Prop} {L : List (Nat × Nat)} {R : Nat → Nat → Option MRef} (I : MI) (J : MJ) (v1 : Int32) (hR : RF R) {r : Int32 × MI × MJ} (hf : F_MD_fits I J v1 = some r) (hk : (fun r : Int32 × MI × MJ => Q (some (mI r.1)) (L, r.2.1, r.2.2, R)) r) : m_B G (m_rm 9 0 0) M_MD_fits Q 0 0 0 [some (mR (12, 0, 177)), some (mI v1), none, none, none] [] (L, I, J, R) := by
  unfold F_MD_fits at hf
  refine b_blk (pc' := 4) (ls' := [some (mR (12, 0, 177)), some (mI v1), none, none, none]) (st' := [mI (I 177 49)]) (S' := (L, I, J, R)) (P := True) [(.aload_n 0, (0, 0, 0, 0, 0)), (.getfield 369, (12, 49, 1, 0, 0))] [] (by decide +kernel) rfl trivial ?_
  refine b_if_eq (off := 15) (tgt := 19) (by decide +kernel) (by decide) (fun h1 => ?_) (fun h1 => ?_)
  · have hf := if_t h1 hf
    refine b_blk (pc' := 20) (ls' := [some (mR (12, 0, 177)), some (mI v1), none, none, none]) (st' := [mI (-1)]) (S' := (L, I, J, R)) (P := True) [(.iconst (-1), (0, 0, 0, (-1), 0))] [] (by decide +kernel) rfl trivial ?_
    cases hf
    exact b_iret (by decide +kernel) rfl hk
  · have hf := if_f h1 hf
    refine b_blk (pc' := 13) (ls' := [some (mR (12, 0, 177)), some (mI v1), none, none, none]) (st' := [mJ 2, mJ 0, mJ v1.toInt64]) (S' := (L, I, J, R)) (P := True) [(.iload_n 1, (0, 0, 0, 0, 0)), (.i2l, (0, 0, 0, 0, 0)), (.lconst 0, (0, 0, 0, 0, 0)), (.ldc2_w 493, (0, 0, 0, 0, 2))] [] (by decide +kernel) rfl trivial ?_
    obtain ⟨r2, hc2, hf⟩ := bnd_o hf
    refine b_cS (as := [mJ v1.toInt64, mJ 0, mJ 2]) (st := []) (by decide +kernel) k_12_277 n_MD_isIn s_MD_isIn (C_MD_isIn I J v1.toInt64 (0 : Int64) (2 : Int64) hR hc2) (Nat.le_of_ble_eq_true rfl) (by decide) rfl rfl (fun _ h => h) ?_
    show m_B G (m_rm 9 0 0) M_MD_fits Q 0 0 16 [some (mR (12, 0, 177)), some (mI v1), none, none, none] [mI r2] (L, I, J, R)
    refine b_if_ne (off := 5) (tgt := 21) (by decide +kernel) (by decide) (fun h3 => ?_) (fun h3 => ?_)
    · have hf := if_f h3 hf
      refine b_blk (pc' := 22) (ls' := [some (mR (12, 0, 177)), some (mI v1), none, none, none]) (st' := [mR (12, 0, 177)]) (S' := (L, I, J, R)) (P := True) [(.aload_n 0, (0, 0, 0, 0, 0))] [] (by decide +kernel) rfl trivial ?_
      obtain ⟨r4, hc4, hf⟩ := bnd_o hf
      refine b_cV (as := []) (st := []) (by decide +kernel) k_12_536 n_MD_laysFits rfl (by decide) v_MD_laysFits (C_MD_laysFits I J hR hc4) (Nat.le_of_ble_eq_true rfl) (by decide) rfl rfl (fun _ h => h) ?_
      show m_B G (m_rm 9 0 0) M_MD_fits Q 0 0 25 [some (mR (12, 0, 177)), some (mI v1), none, none, none] [] (L, r4.1, r4.2, R)
      refine b_blk (pc' := 32) (ls' := [some (mR (12, 0, 177)), some (mI v1), some (mI (-1)), some (mI (-1)), some (mI 0)]) (st' := []) (S' := (L, r4.1, r4.2, R)) (P := True) [(.iconst (-1), (0, 0, 0, (-1), 0)), (.istore_n 2, (0, 0, 0, 0, 0)), (.iconst (-1), (0, 0, 0, (-1), 0)), (.istore_n 3, (0, 0, 0, 0, 0)), (.iconst 0, (0, 0, 0, 0, 0)), (.istore 4, (0, 0, 0, 0, 0))] [] (by decide +kernel) rfl trivial ?_
      obtain ⟨t5, hw, hf⟩ := bnd_o hf
      refine wl_B (A := fun s : Int32 × Int32 × Int32 => m_B G (m_rm 9 0 0) M_MD_fits Q 0 0 32 [some (mR (12, 0, 177)), some (mI v1), some (mI s.1), some (mI s.2.1), some (mI s.2.2)] [] (L, r4.1, r4.2, R)) (B := (fun s : Int32 × Int32 => m_B G (m_rm 9 0 0) M_MD_fits Q 0 0 69 [some (mR (12, 0, 177)), some (mI v1), some (mI s.1), some (mI s.2), none] [] (L, r4.1, r4.2, R))) (fun s r hs hr => W_MD_fits_32 r4.1 r4.2 v1 s.1 s.2.1 s.2.2 hR hs hr) hw ?_
      show m_B G (m_rm 9 0 0) M_MD_fits Q 0 0 69 [some (mR (12, 0, 177)), some (mI v1), some (mI t5.1), some (mI t5.2), none] [] (L, r4.1, r4.2, R)
      refine b_blk (pc' := 70) (ls' := [some (mR (12, 0, 177)), some (mI v1), some (mI t5.1), some (mI t5.2), none]) (st' := [mI v1]) (S' := (L, r4.1, r4.2, R)) (P := True) [(.iload_n 1, (0, 0, 0, 0, 0))] [] (by decide +kernel) rfl trivial ?_
      refine b_if_ne (off := 10) (tgt := 80) (by decide +kernel) (by decide) (fun h6 => ?_) (fun h6 => ?_)
      · have hf := if_f h6 hf
        refine b_blk (pc' := 82) (ls' := [some (mR (12, 0, 177)), some (mI v1), some (mI t5.1), some (mI t5.2), none]) (st' := [mI 1, mI v1]) (S' := (L, r4.1, r4.2, R)) (P := True) [(.iload_n 1, (0, 0, 0, 0, 0)), (.iconst 1, (0, 0, 0, 1, 0))] [] (by decide +kernel) rfl trivial ?_
        refine b_icmp_ne (off := 7) (tgt := 89) (by decide +kernel) (by decide) (fun h7 => ?_) (fun h7 => ?_)
        · have hf := if_f h7 hf
          refine b_blk (pc' := 90) (ls' := [some (mR (12, 0, 177)), some (mI v1), some (mI t5.1), some (mI t5.2), none]) (st' := [mI t5.2]) (S' := (L, r4.1, r4.2, R)) (P := True) [(.iload_n 3, (0, 0, 0, 0, 0))] [] (by decide +kernel) rfl trivial ?_
          cases hf
          exact b_iret (by decide +kernel) rfl hk
        · have hf := if_t h7 hf
          refine b_blk (pc' := 90) (ls' := [some (mR (12, 0, 177)), some (mI v1), some (mI t5.1), some (mI t5.2), none]) (st' := [mI t5.1]) (S' := (L, r4.1, r4.2, R)) (P := True) [(.iload_n 2, (0, 0, 0, 0, 0)), (.goto 4, (0, 90, 0, 0, 0))] [] (by decide +kernel) rfl trivial ?_
          cases hf
          exact b_iret (by decide +kernel) rfl hk
      · have hf := if_t h6 hf
        refine b_blk (pc' := 90) (ls' := [some (mR (12, 0, 177)), some (mI v1), some (mI t5.1), some (mI t5.2), none]) (st' := [mI (r4.1 177 63)]) (S' := (L, r4.1, r4.2, R)) (P := True) [(.aload_n 0, (0, 0, 0, 0, 0)), (.getfield 530, (12, 63, 0, 0, 0)), (.goto 13, (0, 90, 0, 0, 0))] [] (by decide +kernel) rfl trivial ?_
        cases hf
        exact b_iret (by decide +kernel) rfl hk
    · have hf := if_t h3 hf
      refine b_blk (pc' := 20) (ls' := [some (mR (12, 0, 177)), some (mI v1), none, none, none]) (st' := [mI (-1)]) (S' := (L, I, J, R)) (P := True) [(.iconst (-1), (0, 0, 0, (-1), 0))] [] (by decide +kernel) rfl trivial ?_
      cases hf
      exact b_iret (by decide +kernel) rfl hk
theorem C_MD_fits {G : MG} {L : List (Nat × Nat)} {R : Nat → Nat → Option MRef} (I : MI) (J : MJ) (v1 : Int32) (hR : RF R) {r : Int32 × MI × MJ} (hf : F_MD_fits I J v1 = some r) : m_met G 9 0 0 y_MD_fits M_MD_fits [mR (12, 0, 177), mI v1] (L, I, J, R) (m_is (some (mI r.1)) (L, r.2.1, r.2.2, R)) :=
  m_met_in n_MD_fits (plainFor_of_name (by decide)) (by decide) (Nat.le_of_ble_eq_true rfl) (ls := [some (mR (12, 0, 177)), some (mI v1), none, none, none]) rfl (W_MD_fits I J v1 hR hf ⟨rfl, rfl⟩)
noncomputable def F_MD_mostAlike_5 (I : MI) (v1 : Int32) (v2 : Int32) (v3 : Int32) (v4 : Int32) : Option ((Int32 × MI) ⊕ (MI)) :=
  if (7 : Int32) ≤ v4 then (some (.inr I)) else (gd v4 7 <| some (.inl ((v4 + 1 : Int32), m_up I 220 (v4.toNatClampNeg) (0 : Int32))))
set_option maxRecDepth 100000 in
set_option maxHeartbeats 400000 in
theorem W_MD_mostAlike_5 {G : MG} {Q : Option MV → MS → Prop} {L : List (Nat × Nat)} {R : Nat → Nat → Option MRef} (I : MI) (J : MJ) (v1 : Int32) (v2 : Int32) (v3 : Int32) (v4 : Int32) (hR : RF R) {r : (Int32 × MI) ⊕ (MI)} (hf : F_MD_mostAlike_5 I v1 v2 v3 v4 = some r) (hk : (Sum.elim (fun s : Int32 × MI => m_B G (m_rm 1 0 0) M_MD_mostAlike Q 0 0 5 [some (mR (12, 0, 177)), some (mI v1), some (mI v2), some (mI v3), some (mI s.1), none] [] (L, s.2, J, R)) (fun s : MI => m_B G (m_rm 1 0 0) M_MD_mostAlike Q 0 0 26 [some (mR (12, 0, 177)), some (mI v1), some (mI v2), some (mI v3), none, none] [] (L, s, J, R))) r) : m_B G (m_rm 1 0 0) M_MD_mostAlike Q 0 0 5 [some (mR (12, 0, 177)), some (mI v1), some (mI v2), some (mI v3), some (mI v4), none] [] (L, I, J, R) := by
  unfold F_MD_mostAlike_5 at hf
  refine b_blk (pc' := 9) (ls' := [some (mR (12, 0, 177)), some (mI v1), some (mI v2), some (mI v3), some (mI v4), none]) (st' := [mI 7, mI v4]) (S' := (L, I, J, R)) (P := True) [(.iload 4, (0, 0, 0, 0, 0)), (.bipush 7, (0, 0, 0, 7, 0))] [] (by decide +kernel) rfl trivial ?_
  refine b_icmp_ge (off := 17) (tgt := 26) (by decide +kernel) (by decide) (fun h1 => ?_) (fun h1 => ?_)
  · have hf := if_t h1 hf
    refine b_frg 4 ?_
    cases hf
    exact hk
  · have hf := if_f h1 hf
    obtain ⟨g2, hf⟩ := gd_s hf
    refine b_blk (pc' := 5) (ls' := [some (mR (12, 0, 177)), some (mI v1), some (mI v2), some (mI v3), some (mI (v4 + 1)), none]) (st' := []) (S' := (L, m_up I 220 (v4.toNatClampNeg) (0 : Int32), J, R)) (P := ((True ∧ R 177 64 = some (20, 7, 220)) ∧ vp_in v4 7)) [(.aload_n 0, (0, 0, 0, 0, 0)), (.getfield 143, (12, 64, 3, 0, 0)), (.iload 4, (0, 0, 0, 0, 0)), (.iconst 0, (0, 0, 0, 0, 0)), (.iastore, (0, 0, 0, 0, 0)), (.iinc 4 1, (0, 0, 0, 1, 0)), (.goto (-18), (0, 5, 0, 0, 0))] [some (20, 7, 220)] (by decide +kernel) rfl ⟨⟨trivial, (r_177_64 hR)⟩, (in_n (n := 7) (by decide) g2.1 g2.2)⟩ ?_
    cases hf
    exact hk
noncomputable def F_MD_mostAlike_29 (I : MI) (v1 : Int32) (v2 : Int32) (v3 : Int32) (v4 : Int32) : Option ((Int32 × Int32 × MI) ⊕ (Int32 × MI)) :=
  if (30 : Int32) < v4 then (some (.inr ((v3 : Int32), I))) else (gd v4 31 <| if (I 219 v4.toNatClampNeg) = (0 : Int32) then (some (.inl ((v3 : Int32), (v4 + 1 : Int32), I))) else (gd ((((180 : Int32) * v4) + ((30 : Int32) * v1)) + v2) 5580 <| gd ((I 218 ((((180 : Int32) * v4) + ((30 : Int32) * v1)) + v2).toNatClampNeg) + (1 : Int32)) 7 <| gd ((I 218 ((((180 : Int32) * v4) + ((30 : Int32) * v1)) + v2).toNatClampNeg) + (1 : Int32)) 7 <| bnd (m_up I 220 (((I 218 ((((180 : Int32) * v4) + ((30 : Int32) * v1)) + v2).toNatClampNeg) + (1 : Int32)).toNatClampNeg) ((I 220 ((I 218 ((((180 : Int32) * v4) + ((30 : Int32) * v1)) + v2).toNatClampNeg) + (1 : Int32)).toNatClampNeg) + (1 : Int32)) : MI) fun x7 => gd ((I 218 ((((180 : Int32) * v4) + ((30 : Int32) * v1)) + v2).toNatClampNeg) + (1 : Int32)) 7 <| if (x7 220 ((I 218 ((((180 : Int32) * v4) + ((30 : Int32) * v1)) + v2).toNatClampNeg) + (1 : Int32)).toNatClampNeg) ≤ v3 then (some (.inl ((v3 : Int32), (v4 + 1 : Int32), x7))) else (gd ((I 218 ((((180 : Int32) * v4) + ((30 : Int32) * v1)) + v2).toNatClampNeg) + (1 : Int32)) 7 <| bnd (x7 220 ((I 218 ((((180 : Int32) * v4) + ((30 : Int32) * v1)) + v2).toNatClampNeg) + (1 : Int32)).toNatClampNeg : Int32) fun x11 => some (.inl ((x11 : Int32), (v4 + 1 : Int32), x7)))))
set_option maxRecDepth 100000 in
set_option maxHeartbeats 400000 in
theorem W_MD_mostAlike_29 {G : MG} {Q : Option MV → MS → Prop} {L : List (Nat × Nat)} {R : Nat → Nat → Option MRef} (I : MI) (J : MJ) (v1 : Int32) (v2 : Int32) (v3 : Int32) (v4 : Int32) (hR : RF R) {r : (Int32 × Int32 × MI) ⊕ (Int32 × MI)} (hf : F_MD_mostAlike_29 I v1 v2 v3 v4 = some r) (hk : (Sum.elim (fun s : Int32 × Int32 × MI => m_B G (m_rm 1 0 0) M_MD_mostAlike Q 0 0 29 [some (mR (12, 0, 177)), some (mI v1), some (mI v2), some (mI s.1), some (mI s.2.1), none] [] (L, s.2.2, J, R)) (fun s : Int32 × MI => m_B G (m_rm 1 0 0) M_MD_mostAlike Q 0 0 107 [none, none, none, some (mI s.1), none, none] [] (L, s.2, J, R))) r) : m_B G (m_rm 1 0 0) M_MD_mostAlike Q 0 0 29 [some (mR (12, 0, 177)), some (mI v1), some (mI v2), some (mI v3), some (mI v4), none] [] (L, I, J, R) := by
  unfold F_MD_mostAlike_29 at hf
  refine b_blk (pc' := 33) (ls' := [some (mR (12, 0, 177)), some (mI v1), some (mI v2), some (mI v3), some (mI v4), none]) (st' := [mI 30, mI v4]) (S' := (L, I, J, R)) (P := True) [(.iload 4, (0, 0, 0, 0, 0)), (.bipush 30, (0, 0, 0, 30, 0))] [] (by decide +kernel) rfl trivial ?_
  refine b_icmp_gt (off := 74) (tgt := 107) (by decide +kernel) (by decide) (fun h1 => ?_) (fun h1 => ?_)
  · have hf := if_t h1 hf
    refine b_frg 0 ?_
    refine b_frg 1 ?_
    refine b_frg 2 ?_
    refine b_frg 4 ?_
    cases hf
    exact hk
  · have hf := if_f h1 hf
    obtain ⟨g2, hf⟩ := gd_s hf
    refine b_blk (pc' := 43) (ls' := [some (mR (12, 0, 177)), some (mI v1), some (mI v2), some (mI v3), some (mI v4), none]) (st' := [mI (I 219 v4.toNatClampNeg)]) (S' := (L, I, J, R)) (P := ((True ∧ R 177 62 = some (24, 31, 219)) ∧ vp_in v4 31)) [(.aload_n 0, (0, 0, 0, 0, 0)), (.getfield 139, (12, 62, 3, 0, 0)), (.iload 4, (0, 0, 0, 0, 0)), (.baload, (0, 0, 0, 0, 0))] [some (24, 31, 219)] (by decide +kernel) rfl ⟨⟨trivial, (r_177_62 hR)⟩, (in_n (n := 31) (by decide) g2.1 g2.2)⟩ ?_
    refine b_if_ne (off := 6) (tgt := 49) (by decide +kernel) (by decide) (fun h3 => ?_) (fun h3 => ?_)
    · have hf := if_f h3 hf
      obtain ⟨g4, hf⟩ := gd_s hf
      obtain ⟨g5, hf⟩ := gd_s hf
      obtain ⟨g6, hf⟩ := gd_s hf
      refine b_blk (pc' := 83) (ls' := [some (mR (12, 0, 177)), some (mI v1), some (mI v2), some (mI v3), some (mI v4), some (mI ((I 218 ((((180 : Int32) * v4) + ((30 : Int32) * v1)) + v2).toNatClampNeg) + (1 : Int32)))]) (st' := [mR (12, 0, 177)]) (S' := (L, m_up I 220 (((I 218 ((((180 : Int32) * v4) + ((30 : Int32) * v1)) + v2).toNatClampNeg) + (1 : Int32)).toNatClampNeg) ((I 220 ((I 218 ((((180 : Int32) * v4) + ((30 : Int32) * v1)) + v2).toNatClampNeg) + (1 : Int32)).toNatClampNeg) + (1 : Int32)), J, R)) (P := (((((True ∧ R 177 61 = some (20, 5580, 218)) ∧ vp_in ((((180 : Int32) * v4) + ((30 : Int32) * v1)) + v2) 5580) ∧ R 177 64 = some (20, 7, 220)) ∧ vp_in ((I 218 ((((180 : Int32) * v4) + ((30 : Int32) * v1)) + v2).toNatClampNeg) + (1 : Int32)) 7) ∧ vp_in ((I 218 ((((180 : Int32) * v4) + ((30 : Int32) * v1)) + v2).toNatClampNeg) + (1 : Int32)) 7)) [(.aload_n 0, (0, 0, 0, 0, 0)), (.getfield 136, (12, 61, 3, 0, 0)), (.sipush 180, (0, 0, 0, 180, 0)), (.iload 4, (0, 0, 0, 0, 0)), (.imul, (0, 0, 0, 0, 0)), (.bipush 30, (0, 0, 0, 30, 0)), (.iload_n 1, (0, 0, 0, 0, 0)), (.imul, (0, 0, 0, 0, 0)), (.iadd, (0, 0, 0, 0, 0)), (.iload_n 2, (0, 0, 0, 0, 0)), (.iadd, (0, 0, 0, 0, 0)), (.iaload, (0, 0, 0, 0, 0)), (.iconst 1, (0, 0, 0, 1, 0)), (.iadd, (0, 0, 0, 0, 0)), (.istore 5, (0, 0, 0, 0, 0)), (.aload_n 0, (0, 0, 0, 0, 0)), (.getfield 143, (12, 64, 3, 0, 0)), (.iload 5, (0, 0, 0, 0, 0)), (.dup2, (0, 0, 0, 0, 0)), (.iaload, (0, 0, 0, 0, 0)), (.iconst 1, (0, 0, 0, 1, 0)), (.iadd, (0, 0, 0, 0, 0)), (.iastore, (0, 0, 0, 0, 0)), (.aload_n 0, (0, 0, 0, 0, 0))] [some (20, 5580, 218), some (20, 7, 220)] (by decide +kernel) rfl ⟨⟨⟨⟨⟨trivial, (r_177_61 hR)⟩, (in_n (n := 5580) (by decide) g4.1 g4.2)⟩, (r_177_64 hR)⟩, (in_n (n := 7) (by decide) g5.1 g5.2)⟩, (in_n (n := 7) (by decide) g6.1 g6.2)⟩ ?_
      obtain ⟨x7, ex7, hf⟩ := bnd_s hf
      refine m_B_cg (ls' := [some (mR (12, 0, 177)), some (mI v1), some (mI v2), some (mI v3), some (mI v4), some (mI ((I 218 ((((180 : Int32) * v4) + ((30 : Int32) * v1)) + v2).toNatClampNeg) + (1 : Int32)))]) (st' := [mR (12, 0, 177)]) (S' := (L, x7, J, R)) (by first | with_reducible rfl | rw [ex7]) (by first | with_reducible rfl | rw [ex7]) (by first | with_reducible rfl | rw [ex7]) ?_
      obtain ⟨g8, hf⟩ := gd_s hf
      refine b_blk (pc' := 90) (ls' := [some (mR (12, 0, 177)), some (mI v1), some (mI v2), some (mI v3), some (mI v4), some (mI ((I 218 ((((180 : Int32) * v4) + ((30 : Int32) * v1)) + v2).toNatClampNeg) + (1 : Int32)))]) (st' := [mI v3, mI (x7 220 ((I 218 ((((180 : Int32) * v4) + ((30 : Int32) * v1)) + v2).toNatClampNeg) + (1 : Int32)).toNatClampNeg)]) (S' := (L, x7, J, R)) (P := ((True ∧ R 177 64 = some (20, 7, 220)) ∧ vp_in ((I 218 ((((180 : Int32) * v4) + ((30 : Int32) * v1)) + v2).toNatClampNeg) + (1 : Int32)) 7)) [(.getfield 143, (12, 64, 3, 0, 0)), (.iload 5, (0, 0, 0, 0, 0)), (.iaload, (0, 0, 0, 0, 0)), (.iload_n 3, (0, 0, 0, 0, 0))] [some (20, 7, 220)] (by decide +kernel) rfl ⟨⟨trivial, (r_177_64 hR)⟩, (in_n (n := 7) (by decide) g8.1 g8.2)⟩ ?_
      refine b_icmp_le (off := 11) (tgt := 101) (by decide +kernel) (by decide) (fun h9 => ?_) (fun h9 => ?_)
      · have hf := if_t h9 hf
        refine b_blk (pc' := 29) (ls' := [some (mR (12, 0, 177)), some (mI v1), some (mI v2), some (mI v3), some (mI (v4 + 1)), some (mI ((I 218 ((((180 : Int32) * v4) + ((30 : Int32) * v1)) + v2).toNatClampNeg) + (1 : Int32)))]) (st' := []) (S' := (L, x7, J, R)) (P := True) [(.iinc 4 1, (0, 0, 0, 1, 0)), (.goto (-75), (0, 29, 0, 0, 0))] [] (by decide +kernel) rfl trivial ?_
        refine b_frg 5 ?_
        cases hf
        exact hk
      · have hf := if_f h9 hf
        obtain ⟨g10, hf⟩ := gd_s hf
        refine b_blk (pc' := 29) (ls' := [some (mR (12, 0, 177)), some (mI v1), some (mI v2), some (mI (x7 220 ((I 218 ((((180 : Int32) * v4) + ((30 : Int32) * v1)) + v2).toNatClampNeg) + (1 : Int32)).toNatClampNeg)), some (mI (v4 + 1)), some (mI ((I 218 ((((180 : Int32) * v4) + ((30 : Int32) * v1)) + v2).toNatClampNeg) + (1 : Int32)))]) (st' := []) (S' := (L, x7, J, R)) (P := ((True ∧ R 177 64 = some (20, 7, 220)) ∧ vp_in ((I 218 ((((180 : Int32) * v4) + ((30 : Int32) * v1)) + v2).toNatClampNeg) + (1 : Int32)) 7)) [(.aload_n 0, (0, 0, 0, 0, 0)), (.getfield 143, (12, 64, 3, 0, 0)), (.iload 5, (0, 0, 0, 0, 0)), (.iaload, (0, 0, 0, 0, 0)), (.istore_n 3, (0, 0, 0, 0, 0)), (.iinc 4 1, (0, 0, 0, 1, 0)), (.goto (-75), (0, 29, 0, 0, 0))] [some (20, 7, 220)] (by decide +kernel) rfl ⟨⟨trivial, (r_177_64 hR)⟩, (in_n (n := 7) (by decide) g10.1 g10.2)⟩ ?_
        obtain ⟨x11, ex11, hf⟩ := bnd_s hf
        refine m_B_cg (ls' := [some (mR (12, 0, 177)), some (mI v1), some (mI v2), some (mI x11), some (mI (v4 + 1)), some (mI ((I 218 ((((180 : Int32) * v4) + ((30 : Int32) * v1)) + v2).toNatClampNeg) + (1 : Int32)))]) (st' := []) (S' := (L, x7, J, R)) (by first | with_reducible rfl | rw [ex11]) (by first | with_reducible rfl | rw [ex11]) (by first | with_reducible rfl | rw [ex11]) ?_
        refine b_frg 5 ?_
        cases hf
        exact hk
    · have hf := if_t h3 hf
      refine b_blk (pc' := 101) (ls' := [some (mR (12, 0, 177)), some (mI v1), some (mI v2), some (mI v3), some (mI v4), none]) (st' := []) (S' := (L, I, J, R)) (P := True) [(.goto 55, (0, 101, 0, 0, 0))] [] (by decide +kernel) rfl trivial ?_
      refine b_blk (pc' := 29) (ls' := [some (mR (12, 0, 177)), some (mI v1), some (mI v2), some (mI v3), some (mI (v4 + 1)), none]) (st' := []) (S' := (L, I, J, R)) (P := True) [(.iinc 4 1, (0, 0, 0, 1, 0)), (.goto (-75), (0, 29, 0, 0, 0))] [] (by decide +kernel) rfl trivial ?_
      cases hf
      exact hk
noncomputable def F_MD_mostAlike (I : MI) (v1 : Int32) (v2 : Int32) : Option (Int32 × MI) :=
  (wl (fun s : Int32 × MI => F_MD_mostAlike_5 s.2 v1 v2 (0 : Int32) s.1) ((0 : Int32), I)).bind fun t1 => (wl (fun s : Int32 × Int32 × MI => F_MD_mostAlike_29 s.2.2 v1 v2 s.1 s.2.1) ((0 : Int32), (0 : Int32), t1)).bind fun t2 => some ((t2.1 : Int32), t2.2)
set_option maxRecDepth 100000 in
set_option maxHeartbeats 400000 in
theorem W_MD_mostAlike {G : MG} {Q : Option MV → MS → Prop} {L : List (Nat × Nat)} {R : Nat → Nat → Option MRef} (I : MI) (J : MJ) (v1 : Int32) (v2 : Int32) (hR : RF R) {r : Int32 × MI} (hf : F_MD_mostAlike I v1 v2 = some r) (hk : (fun r : Int32 × MI => Q (some (mI r.1)) (L, r.2, J, R)) r) : m_B G (m_rm 1 0 0) M_MD_mostAlike Q 0 0 0 [some (mR (12, 0, 177)), some (mI v1), some (mI v2), none, none, none] [] (L, I, J, R) := by
  unfold F_MD_mostAlike at hf
  refine b_blk (pc' := 5) (ls' := [some (mR (12, 0, 177)), some (mI v1), some (mI v2), some (mI 0), some (mI 0), none]) (st' := []) (S' := (L, I, J, R)) (P := True) [(.iconst 0, (0, 0, 0, 0, 0)), (.istore_n 3, (0, 0, 0, 0, 0)), (.iconst 0, (0, 0, 0, 0, 0)), (.istore 4, (0, 0, 0, 0, 0))] [] (by decide +kernel) rfl trivial ?_
  obtain ⟨t1, hw, hf⟩ := bnd_o hf
  refine wl_B (A := fun s : Int32 × MI => m_B G (m_rm 1 0 0) M_MD_mostAlike Q 0 0 5 [some (mR (12, 0, 177)), some (mI v1), some (mI v2), some (mI 0), some (mI s.1), none] [] (L, s.2, J, R)) (B := (fun s : MI => m_B G (m_rm 1 0 0) M_MD_mostAlike Q 0 0 26 [some (mR (12, 0, 177)), some (mI v1), some (mI v2), some (mI 0), none, none] [] (L, s, J, R))) (fun s r hs hr => W_MD_mostAlike_5 s.2 J v1 v2 (0 : Int32) s.1 hR hs hr) hw ?_
  show m_B G (m_rm 1 0 0) M_MD_mostAlike Q 0 0 26 [some (mR (12, 0, 177)), some (mI v1), some (mI v2), some (mI 0), none, none] [] (L, t1, J, R)
  refine b_blk (pc' := 29) (ls' := [some (mR (12, 0, 177)), some (mI v1), some (mI v2), some (mI 0), some (mI 0), none]) (st' := []) (S' := (L, t1, J, R)) (P := True) [(.iconst 0, (0, 0, 0, 0, 0)), (.istore 4, (0, 0, 0, 0, 0))] [] (by decide +kernel) rfl trivial ?_
  obtain ⟨t2, hw, hf⟩ := bnd_o hf
  refine wl_B (A := fun s : Int32 × Int32 × MI => m_B G (m_rm 1 0 0) M_MD_mostAlike Q 0 0 29 [some (mR (12, 0, 177)), some (mI v1), some (mI v2), some (mI s.1), some (mI s.2.1), none] [] (L, s.2.2, J, R)) (B := (fun s : Int32 × MI => m_B G (m_rm 1 0 0) M_MD_mostAlike Q 0 0 107 [none, none, none, some (mI s.1), none, none] [] (L, s.2, J, R))) (fun s r hs hr => W_MD_mostAlike_29 s.2.2 J v1 v2 s.1 s.2.1 hR hs hr) hw ?_
  show m_B G (m_rm 1 0 0) M_MD_mostAlike Q 0 0 107 [none, none, none, some (mI t2.1), none, none] [] (L, t2.2, J, R)
  refine b_blk (pc' := 108) (ls' := [none, none, none, some (mI t2.1), none, none]) (st' := [mI t2.1]) (S' := (L, t2.2, J, R)) (P := True) [(.iload_n 3, (0, 0, 0, 0, 0))] [] (by decide +kernel) rfl trivial ?_
  cases hf
  exact b_iret (by decide +kernel) rfl hk
theorem C_MD_mostAlike {G : MG} {L : List (Nat × Nat)} {R : Nat → Nat → Option MRef} (I : MI) (J : MJ) (v1 : Int32) (v2 : Int32) (hR : RF R) {r : Int32 × MI} (hf : F_MD_mostAlike I v1 v2 = some r) : m_met G 1 0 0 y_MD_mostAlike M_MD_mostAlike [mR (12, 0, 177), mI v1, mI v2] (L, I, J, R) (m_is (some (mI r.1)) (L, r.2, J, R)) :=
  m_met_in n_MD_mostAlike (plainFor_of_name (by decide)) (by decide) (Nat.le_of_ble_eq_true rfl) (ls := [some (mR (12, 0, 177)), some (mI v1), some (mI v2), none, none, none]) rfl (W_MD_mostAlike I J v1 v2 hR hf ⟨rfl, rfl⟩)
noncomputable def F_MD_tells_56 (I : MI) (v1 : Int32) (v2 : Int32) (v3 : Int32) (v4 : Int32) (v5 : Int32) (v6 : Int32) : Option ((Int32 × Int32 × Int32 × Int32 × MI) ⊕ (Int32 × Int32 × Int32 × MI)) :=
  if (I 204 3) ≤ v6 then (some (.inr ((v2 : Int32), (v3 : Int32), (v4 : Int32), I))) else ((F_MD_mostAlike I v5 v6).bind fun r2 => if v2 = (-1 : Int32) then (some (.inl ((v5 : Int32), (v6 : Int32), (r2.1 : Int32), (v6 + 1 : Int32), r2.2))) else (if r2.1 < v4 then (some (.inl ((v5 : Int32), (v6 : Int32), (r2.1 : Int32), (v6 + 1 : Int32), r2.2))) else (some (.inl ((v2 : Int32), (v3 : Int32), (v4 : Int32), (v6 + 1 : Int32), r2.2)))))
set_option maxRecDepth 100000 in
set_option maxHeartbeats 400000 in
theorem W_MD_tells_56 {G : MG} {Q : Option MV → MS → Prop} {L : List (Nat × Nat)} {R : Nat → Nat → Option MRef} (I : MI) (J : MJ) (v1 : Int32) (v2 : Int32) (v3 : Int32) (v4 : Int32) (v5 : Int32) (v6 : Int32) (hR : RF R) {r : (Int32 × Int32 × Int32 × Int32 × MI) ⊕ (Int32 × Int32 × Int32 × MI)} (hf : F_MD_tells_56 I v1 v2 v3 v4 v5 v6 = some r) (hk : (Sum.elim (fun s : Int32 × Int32 × Int32 × Int32 × MI => m_B G (m_rm 9 0 0) M_MD_tells Q 0 0 56 [some (mR (12, 0, 177)), some (mI v1), some (mI s.1), some (mI s.2.1), some (mI s.2.2.1), some (mI v5), some (mI s.2.2.2.1), none] [] (L, s.2.2.2.2, J, R)) (fun s : Int32 × Int32 × Int32 × MI => m_B G (m_rm 9 0 0) M_MD_tells Q 0 0 108 [some (mR (12, 0, 177)), some (mI v1), some (mI s.1), some (mI s.2.1), some (mI s.2.2.1), some (mI v5), none, none] [] (L, s.2.2.2, J, R))) r) : m_B G (m_rm 9 0 0) M_MD_tells Q 0 0 56 [some (mR (12, 0, 177)), some (mI v1), some (mI v2), some (mI v3), some (mI v4), some (mI v5), some (mI v6), none] [] (L, I, J, R) := by
  unfold F_MD_tells_56 at hf
  refine b_blk (pc' := 64) (ls' := [some (mR (12, 0, 177)), some (mI v1), some (mI v2), some (mI v3), some (mI v4), some (mI v5), some (mI v6), none]) (st' := [mI (I 204 3), mI v6]) (S' := (L, I, J, R)) (P := ((True ∧ R 177 36 = some (20, 4, 204)) ∧ vp_in (3 : Int32) 4)) [(.iload 6, (0, 0, 0, 0, 0)), (.aload_n 0, (0, 0, 0, 0, 0)), (.getfield 93, (12, 36, 3, 0, 0)), (.iconst 3, (0, 0, 0, 3, 0)), (.iaload, (0, 0, 0, 0, 0))] [some (20, 4, 204)] (by decide +kernel) rfl ⟨⟨trivial, (r_177_36 hR)⟩, (vp_in_nI (n := 3) (N := 4) (by decide) (by decide))⟩ ?_
  refine b_icmp_ge (off := 44) (tgt := 108) (by decide +kernel) (by decide) (fun h1 => ?_) (fun h1 => ?_)
  · have hf := if_t h1 hf
    refine b_frg 6 ?_
    cases hf
    exact hk
  · have hf := if_f h1 hf
    refine b_blk (pc' := 72) (ls' := [some (mR (12, 0, 177)), some (mI v1), some (mI v2), some (mI v3), some (mI v4), some (mI v5), some (mI v6), none]) (st' := [mI v6, mI v5, mR (12, 0, 177)]) (S' := (L, I, J, R)) (P := True) [(.aload_n 0, (0, 0, 0, 0, 0)), (.iload 5, (0, 0, 0, 0, 0)), (.iload 6, (0, 0, 0, 0, 0))] [] (by decide +kernel) rfl trivial ?_
    obtain ⟨r2, hc2, hf⟩ := bnd_o hf
    refine b_cV (as := [mI v5, mI v6]) (st := []) (by decide +kernel) k_12_539 n_MD_mostAlike rfl (by decide) v_MD_mostAlike (C_MD_mostAlike I J v5 v6 hR hc2) (Nat.le_of_ble_eq_true rfl) (by decide) rfl rfl (fun _ h => h) ?_
    show m_B G (m_rm 9 0 0) M_MD_tells Q 0 0 75 [some (mR (12, 0, 177)), some (mI v1), some (mI v2), some (mI v3), some (mI v4), some (mI v5), some (mI v6), none] [mI r2.1] (L, r2.2, J, R)
    refine b_blk (pc' := 79) (ls' := [some (mR (12, 0, 177)), some (mI v1), some (mI v2), some (mI v3), some (mI v4), some (mI v5), some (mI v6), some (mI r2.1)]) (st' := [mI (-1), mI v2]) (S' := (L, r2.2, J, R)) (P := True) [(.istore 7, (0, 0, 0, 0, 0)), (.iload_n 2, (0, 0, 0, 0, 0)), (.iconst (-1), (0, 0, 0, (-1), 0))] [] (by decide +kernel) rfl trivial ?_
    refine b_icmp_eq (off := 13) (tgt := 92) (by decide +kernel) (by decide) (fun h3 => ?_) (fun h3 => ?_)
    · have hf := if_t h3 hf
      refine b_blk (pc' := 56) (ls' := [some (mR (12, 0, 177)), some (mI v1), some (mI v5), some (mI v6), some (mI r2.1), some (mI v5), some (mI (v6 + 1)), some (mI r2.1)]) (st' := []) (S' := (L, r2.2, J, R)) (P := True) [(.iload 5, (0, 0, 0, 0, 0)), (.istore_n 2, (0, 0, 0, 0, 0)), (.iload 6, (0, 0, 0, 0, 0)), (.istore_n 3, (0, 0, 0, 0, 0)), (.iload 7, (0, 0, 0, 0, 0)), (.istore 4, (0, 0, 0, 0, 0)), (.iinc 6 1, (0, 0, 0, 1, 0)), (.goto (-49), (0, 56, 0, 0, 0))] [] (by decide +kernel) rfl trivial ?_
      refine b_frg 7 ?_
      cases hf
      exact hk
    · have hf := if_f h3 hf
      refine b_blk (pc' := 86) (ls' := [some (mR (12, 0, 177)), some (mI v1), some (mI v2), some (mI v3), some (mI v4), some (mI v5), some (mI v6), some (mI r2.1)]) (st' := [mI v4, mI r2.1]) (S' := (L, r2.2, J, R)) (P := True) [(.iload 7, (0, 0, 0, 0, 0)), (.iload 4, (0, 0, 0, 0, 0))] [] (by decide +kernel) rfl trivial ?_
      refine b_icmp_lt (off := 6) (tgt := 92) (by decide +kernel) (by decide) (fun h4 => ?_) (fun h4 => ?_)
      · have hf := if_t h4 hf
        refine b_blk (pc' := 56) (ls' := [some (mR (12, 0, 177)), some (mI v1), some (mI v5), some (mI v6), some (mI r2.1), some (mI v5), some (mI (v6 + 1)), some (mI r2.1)]) (st' := []) (S' := (L, r2.2, J, R)) (P := True) [(.iload 5, (0, 0, 0, 0, 0)), (.istore_n 2, (0, 0, 0, 0, 0)), (.iload 6, (0, 0, 0, 0, 0)), (.istore_n 3, (0, 0, 0, 0, 0)), (.iload 7, (0, 0, 0, 0, 0)), (.istore 4, (0, 0, 0, 0, 0)), (.iinc 6 1, (0, 0, 0, 1, 0)), (.goto (-49), (0, 56, 0, 0, 0))] [] (by decide +kernel) rfl trivial ?_
        refine b_frg 7 ?_
        cases hf
        exact hk
      · have hf := if_f h4 hf
        refine b_blk (pc' := 102) (ls' := [some (mR (12, 0, 177)), some (mI v1), some (mI v2), some (mI v3), some (mI v4), some (mI v5), some (mI v6), some (mI r2.1)]) (st' := []) (S' := (L, r2.2, J, R)) (P := True) [(.goto 13, (0, 102, 0, 0, 0))] [] (by decide +kernel) rfl trivial ?_
        refine b_blk (pc' := 56) (ls' := [some (mR (12, 0, 177)), some (mI v1), some (mI v2), some (mI v3), some (mI v4), some (mI v5), some (mI (v6 + 1)), some (mI r2.1)]) (st' := []) (S' := (L, r2.2, J, R)) (P := True) [(.iinc 6 1, (0, 0, 0, 1, 0)), (.goto (-49), (0, 56, 0, 0, 0))] [] (by decide +kernel) rfl trivial ?_
        refine b_frg 7 ?_
        cases hf
        exact hk
noncomputable def F_MD_tells_35 (I : MI) (v1 : Int32) (v2 : Int32) (v3 : Int32) (v4 : Int32) (v5 : Int32) : Option ((Int32 × Int32 × Int32 × Int32 × MI) ⊕ (Int32 × Int32 × Int32 × MI)) :=
  if (I 204 2) ≤ v5 then (some (.inr ((v2 : Int32), (v3 : Int32), (v4 : Int32), I))) else (if (I 177 63) ≤ (0 : Int32) then (some (.inr ((v2 : Int32), (v3 : Int32), (v4 : Int32), I))) else ((wl (fun s : Int32 × Int32 × Int32 × Int32 × MI => F_MD_tells_56 s.2.2.2.2 v1 s.1 s.2.1 s.2.2.1 v5 s.2.2.2.1) ((v2 : Int32), (v3 : Int32), (v4 : Int32), (0 : Int32), I)).bind fun t3 => some (.inl ((t3.1 : Int32), (t3.2.1 : Int32), (t3.2.2.1 : Int32), (v5 + 1 : Int32), t3.2.2.2))))
set_option maxRecDepth 100000 in
set_option maxHeartbeats 400000 in
theorem W_MD_tells_35 {G : MG} {Q : Option MV → MS → Prop} {L : List (Nat × Nat)} {R : Nat → Nat → Option MRef} (I : MI) (J : MJ) (v1 : Int32) (v2 : Int32) (v3 : Int32) (v4 : Int32) (v5 : Int32) (hR : RF R) {r : (Int32 × Int32 × Int32 × Int32 × MI) ⊕ (Int32 × Int32 × Int32 × MI)} (hf : F_MD_tells_35 I v1 v2 v3 v4 v5 = some r) (hk : (Sum.elim (fun s : Int32 × Int32 × Int32 × Int32 × MI => m_B G (m_rm 9 0 0) M_MD_tells Q 0 0 35 [some (mR (12, 0, 177)), some (mI v1), some (mI s.1), some (mI s.2.1), some (mI s.2.2.1), some (mI s.2.2.2.1), none, none] [] (L, s.2.2.2.2, J, R)) (fun s : Int32 × Int32 × Int32 × MI => m_B G (m_rm 9 0 0) M_MD_tells Q 0 0 114 [none, some (mI v1), some (mI s.1), some (mI s.2.1), some (mI s.2.2.1), none, none, none] [] (L, s.2.2.2, J, R))) r) : m_B G (m_rm 9 0 0) M_MD_tells Q 0 0 35 [some (mR (12, 0, 177)), some (mI v1), some (mI v2), some (mI v3), some (mI v4), some (mI v5), none, none] [] (L, I, J, R) := by
  unfold F_MD_tells_35 at hf
  refine b_blk (pc' := 43) (ls' := [some (mR (12, 0, 177)), some (mI v1), some (mI v2), some (mI v3), some (mI v4), some (mI v5), none, none]) (st' := [mI (I 204 2), mI v5]) (S' := (L, I, J, R)) (P := ((True ∧ R 177 36 = some (20, 4, 204)) ∧ vp_in (2 : Int32) 4)) [(.iload 5, (0, 0, 0, 0, 0)), (.aload_n 0, (0, 0, 0, 0, 0)), (.getfield 93, (12, 36, 3, 0, 0)), (.iconst 2, (0, 0, 0, 2, 0)), (.iaload, (0, 0, 0, 0, 0))] [some (20, 4, 204)] (by decide +kernel) rfl ⟨⟨trivial, (r_177_36 hR)⟩, (vp_in_nI (n := 2) (N := 4) (by decide) (by decide))⟩ ?_
  refine b_icmp_ge (off := 71) (tgt := 114) (by decide +kernel) (by decide) (fun h1 => ?_) (fun h1 => ?_)
  · have hf := if_t h1 hf
    refine b_frg 0 ?_
    refine b_frg 5 ?_
    cases hf
    exact hk
  · have hf := if_f h1 hf
    refine b_blk (pc' := 50) (ls' := [some (mR (12, 0, 177)), some (mI v1), some (mI v2), some (mI v3), some (mI v4), some (mI v5), none, none]) (st' := [mI (I 177 63)]) (S' := (L, I, J, R)) (P := True) [(.aload_n 0, (0, 0, 0, 0, 0)), (.getfield 530, (12, 63, 0, 0, 0))] [] (by decide +kernel) rfl trivial ?_
    refine b_if_le (off := 64) (tgt := 114) (by decide +kernel) (by decide) (fun h2 => ?_) (fun h2 => ?_)
    · have hf := if_t h2 hf
      refine b_frg 0 ?_
      refine b_frg 5 ?_
      cases hf
      exact hk
    · have hf := if_f h2 hf
      refine b_blk (pc' := 56) (ls' := [some (mR (12, 0, 177)), some (mI v1), some (mI v2), some (mI v3), some (mI v4), some (mI v5), some (mI 0), none]) (st' := []) (S' := (L, I, J, R)) (P := True) [(.iconst 0, (0, 0, 0, 0, 0)), (.istore 6, (0, 0, 0, 0, 0))] [] (by decide +kernel) rfl trivial ?_
      obtain ⟨t3, hw, hf⟩ := bnd_o hf
      refine wl_B (A := fun s : Int32 × Int32 × Int32 × Int32 × MI => m_B G (m_rm 9 0 0) M_MD_tells Q 0 0 56 [some (mR (12, 0, 177)), some (mI v1), some (mI s.1), some (mI s.2.1), some (mI s.2.2.1), some (mI v5), some (mI s.2.2.2.1), none] [] (L, s.2.2.2.2, J, R)) (B := (fun s : Int32 × Int32 × Int32 × MI => m_B G (m_rm 9 0 0) M_MD_tells Q 0 0 108 [some (mR (12, 0, 177)), some (mI v1), some (mI s.1), some (mI s.2.1), some (mI s.2.2.1), some (mI v5), none, none] [] (L, s.2.2.2, J, R))) (fun s r hs hr => W_MD_tells_56 s.2.2.2.2 J v1 s.1 s.2.1 s.2.2.1 v5 s.2.2.2.1 hR hs hr) hw ?_
      show m_B G (m_rm 9 0 0) M_MD_tells Q 0 0 108 [some (mR (12, 0, 177)), some (mI v1), some (mI t3.1), some (mI t3.2.1), some (mI t3.2.2.1), some (mI v5), none, none] [] (L, t3.2.2.2, J, R)
      refine b_blk (pc' := 35) (ls' := [some (mR (12, 0, 177)), some (mI v1), some (mI t3.1), some (mI t3.2.1), some (mI t3.2.2.1), some (mI (v5 + 1)), none, none]) (st' := []) (S' := (L, t3.2.2.2, J, R)) (P := True) [(.iinc 5 1, (0, 0, 0, 1, 0)), (.goto (-76), (0, 35, 0, 0, 0))] [] (by decide +kernel) rfl trivial ?_
      cases hf
      exact hk
noncomputable def F_MD_tells_114 (I : MI) (J : MJ) (v1 : Int32) (v2 : Int32) (v3 : Int32) (v4 : Int32) : Option (Int32 × MI × MJ) :=
  if v2 = (-1 : Int32) then (some (((-1) : Int32), I, J)) else (if v1 = (0 : Int32) then (some ((v2 : Int32), I, J)) else (if v1 = (1 : Int32) then (some ((v3 : Int32), I, J)) else (some ((v4 : Int32), I, J))))
set_option maxRecDepth 100000 in
set_option maxHeartbeats 400000 in
theorem W_MD_tells_114 {G : MG} {Q : Option MV → MS → Prop} {L : List (Nat × Nat)} {R : Nat → Nat → Option MRef} (I : MI) (J : MJ) (v1 : Int32) (v2 : Int32) (v3 : Int32) (v4 : Int32) (hR : RF R) {r : Int32 × MI × MJ} (hf : F_MD_tells_114 I J v1 v2 v3 v4 = some r) (hk : (fun r : Int32 × MI × MJ => Q (some (mI r.1)) (L, r.2.1, r.2.2, R)) r) : m_B G (m_rm 9 0 0) M_MD_tells Q 0 0 114 [none, some (mI v1), some (mI v2), some (mI v3), some (mI v4), none, none, none] [] (L, I, J, R) := by
  unfold F_MD_tells_114 at hf
  refine b_blk (pc' := 116) (ls' := [none, some (mI v1), some (mI v2), some (mI v3), some (mI v4), none, none, none]) (st' := [mI (-1), mI v2]) (S' := (L, I, J, R)) (P := True) [(.iload_n 2, (0, 0, 0, 0, 0)), (.iconst (-1), (0, 0, 0, (-1), 0))] [] (by decide +kernel) rfl trivial ?_
  refine b_icmp_ne (off := 7) (tgt := 123) (by decide +kernel) (by decide) (fun h1 => ?_) (fun h1 => ?_)
  · have hf := if_f h1 hf
    refine b_blk (pc' := 124) (ls' := [none, some (mI v1), some (mI v2), some (mI v3), some (mI v4), none, none, none]) (st' := [mI v1]) (S' := (L, I, J, R)) (P := True) [(.iload_n 1, (0, 0, 0, 0, 0))] [] (by decide +kernel) rfl trivial ?_
    refine b_if_ne (off := 7) (tgt := 131) (by decide +kernel) (by decide) (fun h2 => ?_) (fun h2 => ?_)
    · have hf := if_f h2 hf
      refine b_blk (pc' := 133) (ls' := [none, some (mI v1), some (mI v2), some (mI v3), some (mI v4), none, none, none]) (st' := [mI 1, mI v1]) (S' := (L, I, J, R)) (P := True) [(.iload_n 1, (0, 0, 0, 0, 0)), (.iconst 1, (0, 0, 0, 1, 0))] [] (by decide +kernel) rfl trivial ?_
      refine b_icmp_ne (off := 7) (tgt := 140) (by decide +kernel) (by decide) (fun h3 => ?_) (fun h3 => ?_)
      · have hf := if_f h3 hf
        refine b_blk (pc' := 142) (ls' := [none, some (mI v1), some (mI v2), some (mI v3), some (mI v4), none, none, none]) (st' := [mI v4]) (S' := (L, I, J, R)) (P := True) [(.iload 4, (0, 0, 0, 0, 0))] [] (by decide +kernel) rfl trivial ?_
        cases hf
        exact b_iret (by decide +kernel) rfl hk
      · have hf := if_t h3 hf
        refine b_blk (pc' := 142) (ls' := [none, some (mI v1), some (mI v2), some (mI v3), some (mI v4), none, none, none]) (st' := [mI v3]) (S' := (L, I, J, R)) (P := True) [(.iload_n 3, (0, 0, 0, 0, 0)), (.goto 5, (0, 142, 0, 0, 0))] [] (by decide +kernel) rfl trivial ?_
        cases hf
        exact b_iret (by decide +kernel) rfl hk
    · have hf := if_t h2 hf
      refine b_blk (pc' := 142) (ls' := [none, some (mI v1), some (mI v2), some (mI v3), some (mI v4), none, none, none]) (st' := [mI v2]) (S' := (L, I, J, R)) (P := True) [(.iload_n 2, (0, 0, 0, 0, 0)), (.goto 14, (0, 142, 0, 0, 0))] [] (by decide +kernel) rfl trivial ?_
      cases hf
      exact b_iret (by decide +kernel) rfl hk
  · have hf := if_t h1 hf
    refine b_blk (pc' := 142) (ls' := [none, some (mI v1), some (mI v2), some (mI v3), some (mI v4), none, none, none]) (st' := [mI (-1)]) (S' := (L, I, J, R)) (P := True) [(.iconst (-1), (0, 0, 0, (-1), 0)), (.goto 22, (0, 142, 0, 0, 0))] [] (by decide +kernel) rfl trivial ?_
    cases hf
    exact b_iret (by decide +kernel) rfl hk
noncomputable def F_MD_tells (I : MI) (J : MJ) (v1 : Int32) : Option (Int32 × MI × MJ) :=
  if (I 177 49) = (0 : Int32) then (some (((-1) : Int32), I, J)) else ((F_MD_isIn v1.toInt64 (0 : Int64) (2 : Int64)).bind fun r2 => if r2 = (0 : Int32) then (some (((-1) : Int32), I, J)) else ((F_MD_laysFits I J).bind fun r4 => (wl (fun s : Int32 × Int32 × Int32 × Int32 × MI => F_MD_tells_35 s.2.2.2.2 v1 s.1 s.2.1 s.2.2.1 s.2.2.2.1) (((-1) : Int32), ((-1) : Int32), (0 : Int32), (0 : Int32), r4.1)).bind fun t5 => F_MD_tells_114 t5.2.2.2 r4.2 v1 t5.1 t5.2.1 t5.2.2.1))
set_option maxRecDepth 100000 in
set_option maxHeartbeats 400000 in
theorem W_MD_tells {G : MG} {Q : Option MV → MS → Prop} {L : List (Nat × Nat)} {R : Nat → Nat → Option MRef} (I : MI) (J : MJ) (v1 : Int32) (hR : RF R) {r : Int32 × MI × MJ} (hf : F_MD_tells I J v1 = some r) (hk : (fun r : Int32 × MI × MJ => Q (some (mI r.1)) (L, r.2.1, r.2.2, R)) r) : m_B G (m_rm 9 0 0) M_MD_tells Q 0 0 0 [some (mR (12, 0, 177)), some (mI v1), none, none, none, none, none, none] [] (L, I, J, R) := by
  unfold F_MD_tells at hf
  refine b_blk (pc' := 4) (ls' := [some (mR (12, 0, 177)), some (mI v1), none, none, none, none, none, none]) (st' := [mI (I 177 49)]) (S' := (L, I, J, R)) (P := True) [(.aload_n 0, (0, 0, 0, 0, 0)), (.getfield 369, (12, 49, 1, 0, 0))] [] (by decide +kernel) rfl trivial ?_
  refine b_if_eq (off := 15) (tgt := 19) (by decide +kernel) (by decide) (fun h1 => ?_) (fun h1 => ?_)
  · have hf := if_t h1 hf
    refine b_blk (pc' := 20) (ls' := [some (mR (12, 0, 177)), some (mI v1), none, none, none, none, none, none]) (st' := [mI (-1)]) (S' := (L, I, J, R)) (P := True) [(.iconst (-1), (0, 0, 0, (-1), 0))] [] (by decide +kernel) rfl trivial ?_
    cases hf
    exact b_iret (by decide +kernel) rfl hk
  · have hf := if_f h1 hf
    refine b_blk (pc' := 13) (ls' := [some (mR (12, 0, 177)), some (mI v1), none, none, none, none, none, none]) (st' := [mJ 2, mJ 0, mJ v1.toInt64]) (S' := (L, I, J, R)) (P := True) [(.iload_n 1, (0, 0, 0, 0, 0)), (.i2l, (0, 0, 0, 0, 0)), (.lconst 0, (0, 0, 0, 0, 0)), (.ldc2_w 493, (0, 0, 0, 0, 2))] [] (by decide +kernel) rfl trivial ?_
    obtain ⟨r2, hc2, hf⟩ := bnd_o hf
    refine b_cS (as := [mJ v1.toInt64, mJ 0, mJ 2]) (st := []) (by decide +kernel) k_12_277 n_MD_isIn s_MD_isIn (C_MD_isIn I J v1.toInt64 (0 : Int64) (2 : Int64) hR hc2) (Nat.le_of_ble_eq_true rfl) (by decide) rfl rfl (fun _ h => h) ?_
    show m_B G (m_rm 9 0 0) M_MD_tells Q 0 0 16 [some (mR (12, 0, 177)), some (mI v1), none, none, none, none, none, none] [mI r2] (L, I, J, R)
    refine b_if_ne (off := 5) (tgt := 21) (by decide +kernel) (by decide) (fun h3 => ?_) (fun h3 => ?_)
    · have hf := if_f h3 hf
      refine b_blk (pc' := 22) (ls' := [some (mR (12, 0, 177)), some (mI v1), none, none, none, none, none, none]) (st' := [mR (12, 0, 177)]) (S' := (L, I, J, R)) (P := True) [(.aload_n 0, (0, 0, 0, 0, 0))] [] (by decide +kernel) rfl trivial ?_
      obtain ⟨r4, hc4, hf⟩ := bnd_o hf
      refine b_cV (as := []) (st := []) (by decide +kernel) k_12_536 n_MD_laysFits rfl (by decide) v_MD_laysFits (C_MD_laysFits I J hR hc4) (Nat.le_of_ble_eq_true rfl) (by decide) rfl rfl (fun _ h => h) ?_
      show m_B G (m_rm 9 0 0) M_MD_tells Q 0 0 25 [some (mR (12, 0, 177)), some (mI v1), none, none, none, none, none, none] [] (L, r4.1, r4.2, R)
      refine b_blk (pc' := 35) (ls' := [some (mR (12, 0, 177)), some (mI v1), some (mI (-1)), some (mI (-1)), some (mI 0), some (mI 0), none, none]) (st' := []) (S' := (L, r4.1, r4.2, R)) (P := True) [(.iconst (-1), (0, 0, 0, (-1), 0)), (.istore_n 2, (0, 0, 0, 0, 0)), (.iconst (-1), (0, 0, 0, (-1), 0)), (.istore_n 3, (0, 0, 0, 0, 0)), (.iconst 0, (0, 0, 0, 0, 0)), (.istore 4, (0, 0, 0, 0, 0)), (.iconst 0, (0, 0, 0, 0, 0)), (.istore 5, (0, 0, 0, 0, 0))] [] (by decide +kernel) rfl trivial ?_
      obtain ⟨t5, hw, hf⟩ := bnd_o hf
      refine wl_B (A := fun s : Int32 × Int32 × Int32 × Int32 × MI => m_B G (m_rm 9 0 0) M_MD_tells Q 0 0 35 [some (mR (12, 0, 177)), some (mI v1), some (mI s.1), some (mI s.2.1), some (mI s.2.2.1), some (mI s.2.2.2.1), none, none] [] (L, s.2.2.2.2, r4.2, R)) (B := (fun s : Int32 × Int32 × Int32 × MI => m_B G (m_rm 9 0 0) M_MD_tells Q 0 0 114 [none, some (mI v1), some (mI s.1), some (mI s.2.1), some (mI s.2.2.1), none, none, none] [] (L, s.2.2.2, r4.2, R))) (fun s r hs hr => W_MD_tells_35 s.2.2.2.2 r4.2 v1 s.1 s.2.1 s.2.2.1 s.2.2.2.1 hR hs hr) hw ?_
      show m_B G (m_rm 9 0 0) M_MD_tells Q 0 0 114 [none, some (mI v1), some (mI t5.1), some (mI t5.2.1), some (mI t5.2.2.1), none, none, none] [] (L, t5.2.2.2, r4.2, R)
      exact m_B_cg rfl rfl rfl (W_MD_tells_114 t5.2.2.2 r4.2 v1 t5.1 t5.2.1 t5.2.2.1 hR hf hk)
    · have hf := if_t h3 hf
      refine b_blk (pc' := 20) (ls' := [some (mR (12, 0, 177)), some (mI v1), none, none, none, none, none, none]) (st' := [mI (-1)]) (S' := (L, I, J, R)) (P := True) [(.iconst (-1), (0, 0, 0, (-1), 0))] [] (by decide +kernel) rfl trivial ?_
      cases hf
      exact b_iret (by decide +kernel) rfl hk
theorem C_MD_tells {G : MG} {L : List (Nat × Nat)} {R : Nat → Nat → Option MRef} (I : MI) (J : MJ) (v1 : Int32) (hR : RF R) {r : Int32 × MI × MJ} (hf : F_MD_tells I J v1 = some r) : m_met G 9 0 0 y_MD_tells M_MD_tells [mR (12, 0, 177), mI v1] (L, I, J, R) (m_is (some (mI r.1)) (L, r.2.1, r.2.2, R)) :=
  m_met_in n_MD_tells (plainFor_of_name (by decide)) (by decide) (Nat.le_of_ble_eq_true rfl) (ls := [some (mR (12, 0, 177)), some (mI v1), none, none, none, none, none, none]) rfl (W_MD_tells I J v1 hR hf ⟨rfl, rfl⟩)
noncomputable def F_MD_undo_21 (I : MI) (v1 : Int32) : Option ((Int32 × MI) ⊕ (MI)) :=
  if (176 : Int32) ≤ v1 then (some (.inr I)) else (gd (((176 : Int32) * (I 177 67)) + v1) 3520 <| gd v1 176 <| some (.inl ((v1 + 1 : Int32), m_up I 213 (v1.toNatClampNeg) (I 221 (((176 : Int32) * (I 177 67)) + v1).toNatClampNeg))))
set_option maxRecDepth 100000 in
set_option maxHeartbeats 400000 in
theorem W_MD_undo_21 {G : MG} {Q : Option MV → MS → Prop} {L : List (Nat × Nat)} {R : Nat → Nat → Option MRef} (I : MI) (J : MJ) (v1 : Int32) (hR : RF R) {r : (Int32 × MI) ⊕ (MI)} (hf : F_MD_undo_21 I v1 = some r) (hk : (Sum.elim (fun s : Int32 × MI => m_B G (m_rm 1 0 0) M_MD_undo Q 0 0 21 [some (mR (12, 0, 177)), some (mI s.1)] [] (L, s.2, J, R)) (fun s : MI => m_B G (m_rm 1 0 0) M_MD_undo Q 0 0 55 [some (mR (12, 0, 177)), none] [] (L, s, J, R))) r) : m_B G (m_rm 1 0 0) M_MD_undo Q 0 0 21 [some (mR (12, 0, 177)), some (mI v1)] [] (L, I, J, R) := by
  unfold F_MD_undo_21 at hf
  refine b_blk (pc' := 25) (ls' := [some (mR (12, 0, 177)), some (mI v1)]) (st' := [mI 176, mI v1]) (S' := (L, I, J, R)) (P := True) [(.iload_n 1, (0, 0, 0, 0, 0)), (.sipush 176, (0, 0, 0, 176, 0))] [] (by decide +kernel) rfl trivial ?_
  refine b_icmp_ge (off := 30) (tgt := 55) (by decide +kernel) (by decide) (fun h1 => ?_) (fun h1 => ?_)
  · have hf := if_t h1 hf
    refine b_frg 1 ?_
    cases hf
    exact hk
  · have hf := if_f h1 hf
    obtain ⟨g2, hf⟩ := gd_s hf
    obtain ⟨g3, hf⟩ := gd_s hf
    refine b_blk (pc' := 21) (ls' := [some (mR (12, 0, 177)), some (mI (v1 + 1))]) (st' := []) (S' := (L, m_up I 213 (v1.toNatClampNeg) (I 221 (((176 : Int32) * (I 177 67)) + v1).toNatClampNeg), J, R)) (P := ((((True ∧ R 177 51 = some (20, 176, 213)) ∧ R 177 65 = some (20, 3520, 221)) ∧ vp_in (((176 : Int32) * (I 177 67)) + v1) 3520) ∧ vp_in v1 176)) [(.aload_n 0, (0, 0, 0, 0, 0)), (.getfield 121, (12, 51, 3, 0, 0)), (.iload_n 1, (0, 0, 0, 0, 0)), (.aload_n 0, (0, 0, 0, 0, 0)), (.getfield 146, (12, 65, 3, 0, 0)), (.sipush 176, (0, 0, 0, 176, 0)), (.aload_n 0, (0, 0, 0, 0, 0)), (.getfield 542, (12, 67, 0, 0, 0)), (.imul, (0, 0, 0, 0, 0)), (.iload_n 1, (0, 0, 0, 0, 0)), (.iadd, (0, 0, 0, 0, 0)), (.iaload, (0, 0, 0, 0, 0)), (.iastore, (0, 0, 0, 0, 0)), (.iinc 1 1, (0, 0, 0, 1, 0)), (.goto (-31), (0, 21, 0, 0, 0))] [some (20, 176, 213), some (20, 3520, 221)] (by decide +kernel) rfl ⟨⟨⟨⟨trivial, (r_177_51 hR)⟩, (r_177_65 hR)⟩, (in_n (n := 3520) (by decide) g2.1 g2.2)⟩, (in_n (n := 176) (by decide) g3.1 g3.2)⟩ ?_
    cases hf
    exact hk
noncomputable def F_MD_undo (I : MI) : Option (Int32 × MI) :=
  if (I 177 66) = (0 : Int32) then (some ((0 : Int32), m_up I 179 4 ((I 179 4) + (1 : Int32)))) else ((wl (fun s : Int32 × MI => F_MD_undo_21 s.2 s.1) ((0 : Int32), I)).bind fun t2 => bnd (m_up (m_up t2 177 67 (m_rem (((t2 177 67) + (20 : Int32)) - (1 : Int32)) (20 : Int32))) 177 66 ((t2 177 66) - (1 : Int32)) : MI) fun x3 => some ((1 : Int32), x3))
set_option maxRecDepth 100000 in
set_option maxHeartbeats 400000 in
theorem W_MD_undo {G : MG} {Q : Option MV → MS → Prop} {L : List (Nat × Nat)} {R : Nat → Nat → Option MRef} (I : MI) (J : MJ) (hR : RF R) {r : Int32 × MI} (hf : F_MD_undo I = some r) (hk : (fun r : Int32 × MI => Q (some (mI r.1)) (L, r.2, J, R)) r) : m_B G (m_rm 1 0 0) M_MD_undo Q 0 0 0 [some (mR (12, 0, 177)), none] [] (L, I, J, R) := by
  unfold F_MD_undo at hf
  refine b_blk (pc' := 4) (ls' := [some (mR (12, 0, 177)), none]) (st' := [mI (I 177 66)]) (S' := (L, I, J, R)) (P := True) [(.aload_n 0, (0, 0, 0, 0, 0)), (.getfield 376, (12, 66, 0, 0, 0))] [] (by decide +kernel) rfl trivial ?_
  refine b_if_ne (off := 15) (tgt := 19) (by decide +kernel) (by decide) (fun h1 => ?_) (fun h1 => ?_)
  · have hf := if_f h1 hf
    refine b_blk (pc' := 21) (ls' := [some (mR (12, 0, 177)), some (mI 0)]) (st' := []) (S' := (L, I, J, R)) (P := True) [(.iconst 0, (0, 0, 0, 0, 0)), (.istore_n 1, (0, 0, 0, 0, 0))] [] (by decide +kernel) rfl trivial ?_
    obtain ⟨t2, hw, hf⟩ := bnd_o hf
    refine wl_B (A := fun s : Int32 × MI => m_B G (m_rm 1 0 0) M_MD_undo Q 0 0 21 [some (mR (12, 0, 177)), some (mI s.1)] [] (L, s.2, J, R)) (B := (fun s : MI => m_B G (m_rm 1 0 0) M_MD_undo Q 0 0 55 [some (mR (12, 0, 177)), none] [] (L, s, J, R))) (fun s r hs hr => W_MD_undo_21 s.2 J s.1 hR hs hr) hw ?_
    show m_B G (m_rm 1 0 0) M_MD_undo Q 0 0 55 [some (mR (12, 0, 177)), none] [] (L, t2, J, R)
    refine b_blk (pc' := 82) (ls' := [some (mR (12, 0, 177)), none]) (st' := [mI 1]) (S' := (L, m_up (m_up t2 177 67 (m_rem (((t2 177 67) + (20 : Int32)) - (1 : Int32)) (20 : Int32))) 177 66 ((t2 177 66) - (1 : Int32)), J, R)) (P := (True ∧ ¬ (20 : Int32) = 0)) [(.aload_n 0, (0, 0, 0, 0, 0)), (.aload_n 0, (0, 0, 0, 0, 0)), (.getfield 542, (12, 67, 0, 0, 0)), (.bipush 20, (0, 0, 0, 20, 0)), (.iadd, (0, 0, 0, 0, 0)), (.iconst 1, (0, 0, 0, 1, 0)), (.isub, (0, 0, 0, 0, 0)), (.bipush 20, (0, 0, 0, 20, 0)), (.irem, (0, 0, 0, 0, 0)), (.putfield 542, (12, 67, 0, 0, 0)), (.aload_n 0, (0, 0, 0, 0, 0)), (.dup, (0, 0, 0, 0, 0)), (.getfield 376, (12, 66, 0, 0, 0)), (.iconst 1, (0, 0, 0, 1, 0)), (.isub, (0, 0, 0, 0, 0)), (.putfield 376, (12, 66, 0, 0, 0)), (.iconst 1, (0, 0, 0, 1, 0))] [] (by decide +kernel) rfl ⟨trivial, (by decide)⟩ ?_
    obtain ⟨x3, ex3, hf⟩ := bnd_s hf
    refine m_B_cg (ls' := [some (mR (12, 0, 177)), none]) (st' := [mI 1]) (S' := (L, x3, J, R)) (by first | with_reducible rfl | rw [ex3]) (by first | with_reducible rfl | rw [ex3]) (by first | with_reducible rfl | rw [ex3]) ?_
    cases hf
    exact b_zret (by decide +kernel) rfl (by decide) hk
  · have hf := if_t h1 hf
    refine b_blk (pc' := 18) (ls' := [some (mR (12, 0, 177)), none]) (st' := [mI 0]) (S' := (L, m_up I 179 4 ((I 179 4) + (1 : Int32)), J, R)) (P := (((True ∧ R 177 9 = some (20, 6, 179)) ∧ vp_in (4 : Int32) 6) ∧ vp_in (4 : Int32) 6)) [(.aload_n 0, (0, 0, 0, 0, 0)), (.getfield 17, (12, 9, 3, 0, 0)), (.iconst 4, (0, 0, 0, 4, 0)), (.dup2, (0, 0, 0, 0, 0)), (.iaload, (0, 0, 0, 0, 0)), (.iconst 1, (0, 0, 0, 1, 0)), (.iadd, (0, 0, 0, 0, 0)), (.iastore, (0, 0, 0, 0, 0)), (.iconst 0, (0, 0, 0, 0, 0))] [some (20, 6, 179)] (by decide +kernel) rfl ⟨⟨⟨trivial, (r_177_9 hR)⟩, (vp_in_nI (n := 4) (N := 6) (by decide) (by decide))⟩, (vp_in_nI (n := 4) (N := 6) (by decide) (by decide))⟩ ?_
    cases hf
    exact b_zret (by decide +kernel) rfl (by decide) hk
theorem C_MD_undo {G : MG} {L : List (Nat × Nat)} {R : Nat → Nat → Option MRef} (I : MI) (J : MJ) (hR : RF R) {r : Int32 × MI} (hf : F_MD_undo I = some r) : m_met G 1 0 0 y_MD_undo M_MD_undo [mR (12, 0, 177)] (L, I, J, R) (m_is (some (mI r.1)) (L, r.2, J, R)) :=
  m_met_in n_MD_undo (plainFor_of_name (by decide)) (by decide) (Nat.le_of_ble_eq_true rfl) (ls := [some (mR (12, 0, 177)), none]) rfl (W_MD_undo I J hR hf ⟨rfl, rfl⟩)
noncomputable def F_MD_isRefused (I : MI) : Option (Int32 × MI) :=
  some ((0 : Int32), m_up I 179 2 ((I 179 2) + (1 : Int32)))
set_option maxRecDepth 100000 in
set_option maxHeartbeats 400000 in
theorem W_MD_isRefused {G : MG} {Q : Option MV → MS → Prop} {L : List (Nat × Nat)} {R : Nat → Nat → Option MRef} (I : MI) (J : MJ) (hR : RF R) {r : Int32 × MI} (hf : F_MD_isRefused I = some r) (hk : (fun r : Int32 × MI => Q (some (mI r.1)) (L, r.2, J, R)) r) : m_B G (m_rm 1 0 0) M_MD_isRefused Q 0 0 0 [some (mR (12, 0, 177))] [] (L, I, J, R) := by
  unfold F_MD_isRefused at hf
  refine b_blk (pc' := 11) (ls' := [some (mR (12, 0, 177))]) (st' := [mI 0]) (S' := (L, m_up I 179 2 ((I 179 2) + (1 : Int32)), J, R)) (P := (((True ∧ R 177 9 = some (20, 6, 179)) ∧ vp_in (2 : Int32) 6) ∧ vp_in (2 : Int32) 6)) [(.aload_n 0, (0, 0, 0, 0, 0)), (.getfield 17, (12, 9, 3, 0, 0)), (.iconst 2, (0, 0, 0, 2, 0)), (.dup2, (0, 0, 0, 0, 0)), (.iaload, (0, 0, 0, 0, 0)), (.iconst 1, (0, 0, 0, 1, 0)), (.iadd, (0, 0, 0, 0, 0)), (.iastore, (0, 0, 0, 0, 0)), (.iconst 0, (0, 0, 0, 0, 0))] [some (20, 6, 179)] (by decide +kernel) rfl ⟨⟨⟨trivial, (r_177_9 hR)⟩, (vp_in_nI (n := 2) (N := 6) (by decide) (by decide))⟩, (vp_in_nI (n := 2) (N := 6) (by decide) (by decide))⟩ ?_
  cases hf
  exact b_zret (by decide +kernel) rfl (by decide) hk
theorem C_MD_isRefused {G : MG} {L : List (Nat × Nat)} {R : Nat → Nat → Option MRef} (I : MI) (J : MJ) (hR : RF R) {r : Int32 × MI} (hf : F_MD_isRefused I = some r) : m_met G 1 0 0 y_MD_isRefused M_MD_isRefused [mR (12, 0, 177)] (L, I, J, R) (m_is (some (mI r.1)) (L, r.2, J, R)) :=
  m_met_in n_MD_isRefused (plainFor_of_name (by decide)) (by decide) (Nat.le_of_ble_eq_true rfl) (ls := [some (mR (12, 0, 177))]) rfl (W_MD_isRefused I J hR hf ⟨rfl, rfl⟩)
noncomputable def F_MD_keeps_15 (I : MI) (v1 : Int32) : Option ((Int32 × MI) ⊕ (MI)) :=
  if (176 : Int32) ≤ v1 then (some (.inr I)) else (gd v1 176 <| gd (((176 : Int32) * (I 177 67)) + v1) 3520 <| some (.inl ((v1 + 1 : Int32), m_up I 221 ((((176 : Int32) * (I 177 67)) + v1).toNatClampNeg) (I 213 v1.toNatClampNeg))))
set_option maxRecDepth 100000 in
set_option maxHeartbeats 400000 in
theorem W_MD_keeps_15 {G : MG} {Q : Option MV → MS → Prop} {L : List (Nat × Nat)} {R : Nat → Nat → Option MRef} (I : MI) (J : MJ) (v1 : Int32) (hR : RF R) {r : (Int32 × MI) ⊕ (MI)} (hf : F_MD_keeps_15 I v1 = some r) (hk : (Sum.elim (fun s : Int32 × MI => m_B G (m_rm 1 0 0) M_MD_keeps Q 0 0 15 [some (mR (12, 0, 177)), some (mI s.1)] [] (L, s.2, J, R)) (fun s : MI => m_B G (m_rm 1 0 0) M_MD_keeps Q 0 0 49 [some (mR (12, 0, 177)), none] [] (L, s, J, R))) r) : m_B G (m_rm 1 0 0) M_MD_keeps Q 0 0 15 [some (mR (12, 0, 177)), some (mI v1)] [] (L, I, J, R) := by
  unfold F_MD_keeps_15 at hf
  refine b_blk (pc' := 19) (ls' := [some (mR (12, 0, 177)), some (mI v1)]) (st' := [mI 176, mI v1]) (S' := (L, I, J, R)) (P := True) [(.iload_n 1, (0, 0, 0, 0, 0)), (.sipush 176, (0, 0, 0, 176, 0))] [] (by decide +kernel) rfl trivial ?_
  refine b_icmp_ge (off := 30) (tgt := 49) (by decide +kernel) (by decide) (fun h1 => ?_) (fun h1 => ?_)
  · have hf := if_t h1 hf
    refine b_frg 1 ?_
    cases hf
    exact hk
  · have hf := if_f h1 hf
    obtain ⟨g2, hf⟩ := gd_s hf
    obtain ⟨g3, hf⟩ := gd_s hf
    refine b_blk (pc' := 15) (ls' := [some (mR (12, 0, 177)), some (mI (v1 + 1))]) (st' := []) (S' := (L, m_up I 221 ((((176 : Int32) * (I 177 67)) + v1).toNatClampNeg) (I 213 v1.toNatClampNeg), J, R)) (P := ((((True ∧ R 177 65 = some (20, 3520, 221)) ∧ R 177 51 = some (20, 176, 213)) ∧ vp_in v1 176) ∧ vp_in (((176 : Int32) * (I 177 67)) + v1) 3520)) [(.aload_n 0, (0, 0, 0, 0, 0)), (.getfield 146, (12, 65, 3, 0, 0)), (.sipush 176, (0, 0, 0, 176, 0)), (.aload_n 0, (0, 0, 0, 0, 0)), (.getfield 542, (12, 67, 0, 0, 0)), (.imul, (0, 0, 0, 0, 0)), (.iload_n 1, (0, 0, 0, 0, 0)), (.iadd, (0, 0, 0, 0, 0)), (.aload_n 0, (0, 0, 0, 0, 0)), (.getfield 121, (12, 51, 3, 0, 0)), (.iload_n 1, (0, 0, 0, 0, 0)), (.iaload, (0, 0, 0, 0, 0)), (.iastore, (0, 0, 0, 0, 0)), (.iinc 1 1, (0, 0, 0, 1, 0)), (.goto (-31), (0, 15, 0, 0, 0))] [some (20, 3520, 221), some (20, 176, 213)] (by decide +kernel) rfl ⟨⟨⟨⟨trivial, (r_177_65 hR)⟩, (r_177_51 hR)⟩, (in_n (n := 176) (by decide) g2.1 g2.2)⟩, (in_n (n := 3520) (by decide) g3.1 g3.2)⟩ ?_
    cases hf
    exact hk
noncomputable def F_MD_keeps (I : MI) : Option (MI) :=
  (wl (fun s : Int32 × MI => F_MD_keeps_15 s.2 s.1) ((0 : Int32), m_up I 177 67 (m_rem ((I 177 67) + (1 : Int32)) (20 : Int32)))).bind fun t1 => if (20 : Int32) ≤ (t1 177 66) then (some t1) else (some (m_up t1 177 66 ((t1 177 66) + (1 : Int32))))
set_option maxRecDepth 100000 in
set_option maxHeartbeats 400000 in
theorem W_MD_keeps {G : MG} {Q : Option MV → MS → Prop} {L : List (Nat × Nat)} {R : Nat → Nat → Option MRef} (I : MI) (J : MJ) (hR : RF R) {r : MI} (hf : F_MD_keeps I = some r) (hk : (fun r : MI => Q (none) (L, r, J, R)) r) : m_B G (m_rm 1 0 0) M_MD_keeps Q 0 0 0 [some (mR (12, 0, 177)), none] [] (L, I, J, R) := by
  unfold F_MD_keeps at hf
  refine b_blk (pc' := 15) (ls' := [some (mR (12, 0, 177)), some (mI 0)]) (st' := []) (S' := (L, m_up I 177 67 (m_rem ((I 177 67) + (1 : Int32)) (20 : Int32)), J, R)) (P := (True ∧ ¬ (20 : Int32) = 0)) [(.aload_n 0, (0, 0, 0, 0, 0)), (.aload_n 0, (0, 0, 0, 0, 0)), (.getfield 542, (12, 67, 0, 0, 0)), (.iconst 1, (0, 0, 0, 1, 0)), (.iadd, (0, 0, 0, 0, 0)), (.bipush 20, (0, 0, 0, 20, 0)), (.irem, (0, 0, 0, 0, 0)), (.putfield 542, (12, 67, 0, 0, 0)), (.iconst 0, (0, 0, 0, 0, 0)), (.istore_n 1, (0, 0, 0, 0, 0))] [] (by decide +kernel) rfl ⟨trivial, (by decide)⟩ ?_
  obtain ⟨t1, hw, hf⟩ := bnd_o hf
  refine wl_B (A := fun s : Int32 × MI => m_B G (m_rm 1 0 0) M_MD_keeps Q 0 0 15 [some (mR (12, 0, 177)), some (mI s.1)] [] (L, s.2, J, R)) (B := (fun s : MI => m_B G (m_rm 1 0 0) M_MD_keeps Q 0 0 49 [some (mR (12, 0, 177)), none] [] (L, s, J, R))) (fun s r hs hr => W_MD_keeps_15 s.2 J s.1 hR hs hr) hw ?_
  show m_B G (m_rm 1 0 0) M_MD_keeps Q 0 0 49 [some (mR (12, 0, 177)), none] [] (L, t1, J, R)
  refine b_blk (pc' := 55) (ls' := [some (mR (12, 0, 177)), none]) (st' := [mI 20, mI (t1 177 66)]) (S' := (L, t1, J, R)) (P := True) [(.aload_n 0, (0, 0, 0, 0, 0)), (.getfield 376, (12, 66, 0, 0, 0)), (.bipush 20, (0, 0, 0, 20, 0))] [] (by decide +kernel) rfl trivial ?_
  refine b_icmp_ge (off := 13) (tgt := 68) (by decide +kernel) (by decide) (fun h2 => ?_) (fun h2 => ?_)
  · have hf := if_t h2 hf
    cases hf
    exact b_vret (by decide +kernel) rfl hk
  · have hf := if_f h2 hf
    refine b_blk (pc' := 68) (ls' := [some (mR (12, 0, 177)), none]) (st' := []) (S' := (L, m_up t1 177 66 ((t1 177 66) + (1 : Int32)), J, R)) (P := True) [(.aload_n 0, (0, 0, 0, 0, 0)), (.dup, (0, 0, 0, 0, 0)), (.getfield 376, (12, 66, 0, 0, 0)), (.iconst 1, (0, 0, 0, 1, 0)), (.iadd, (0, 0, 0, 0, 0)), (.putfield 376, (12, 66, 0, 0, 0))] [] (by decide +kernel) rfl trivial ?_
    cases hf
    exact b_vret (by decide +kernel) rfl hk
theorem C_MD_keeps {G : MG} {L : List (Nat × Nat)} {R : Nat → Nat → Option MRef} (I : MI) (J : MJ) (hR : RF R) {r : MI} (hf : F_MD_keeps I = some r) : m_met G 1 0 0 y_MD_keeps M_MD_keeps [mR (12, 0, 177)] (L, I, J, R) (m_is (none) (L, r, J, R)) :=
  m_met_in n_MD_keeps (plainFor_of_name (by decide)) (by decide) (Nat.le_of_ble_eq_true rfl) (ls := [some (mR (12, 0, 177)), none]) rfl (W_MD_keeps I J hR hf ⟨rfl, rfl⟩)
noncomputable def F_MD_set (I : MI) (v1 : Int32) : Option (Int32 × MI) :=
  (F_MD_isFence I v1).bind fun r1 => if r1 = (0 : Int32) then ((F_MD_isRefused I).bind fun r5 => gq (r5.1 = 0 ∨ r5.1 = 1) <| some ((r5.1 : Int32), r5.2)) else ((F_MD_keeps I).bind fun r3 => (F_MD_isSet r3 v1).bind fun r4 => some ((1 : Int32), r4))
set_option maxRecDepth 100000 in
set_option maxHeartbeats 400000 in
theorem W_MD_set {G : MG} {Q : Option MV → MS → Prop} {L : List (Nat × Nat)} {R : Nat → Nat → Option MRef} (I : MI) (J : MJ) (v1 : Int32) (hR : RF R) {r : Int32 × MI} (hf : F_MD_set I v1 = some r) (hk : (fun r : Int32 × MI => Q (some (mI r.1)) (L, r.2, J, R)) r) : m_B G (m_rm 3 0 0) M_MD_set Q 0 0 0 [some (mR (12, 0, 177)), some (mI v1)] [] (L, I, J, R) := by
  unfold F_MD_set at hf
  refine b_blk (pc' := 2) (ls' := [some (mR (12, 0, 177)), some (mI v1)]) (st' := [mI v1, mR (12, 0, 177)]) (S' := (L, I, J, R)) (P := True) [(.aload_n 0, (0, 0, 0, 0, 0)), (.iload_n 1, (0, 0, 0, 0, 0))] [] (by decide +kernel) rfl trivial ?_
  obtain ⟨r1, hc1, hf⟩ := bnd_o hf
  refine b_cV (as := [mI v1]) (st := []) (by decide +kernel) k_12_482 n_MD_isFence rfl (by decide) v_MD_isFence (C_MD_isFence I J v1 hR hc1) (Nat.le_of_ble_eq_true rfl) (by decide) rfl rfl (fun _ h => h) ?_
  show m_B G (m_rm 3 0 0) M_MD_set Q 0 0 5 [some (mR (12, 0, 177)), some (mI v1)] [mI r1] (L, I, J, R)
  refine b_if_ne (off := 8) (tgt := 13) (by decide +kernel) (by decide) (fun h2 => ?_) (fun h2 => ?_)
  · have hf := if_f h2 hf
    refine b_blk (pc' := 14) (ls' := [some (mR (12, 0, 177)), some (mI v1)]) (st' := [mR (12, 0, 177)]) (S' := (L, I, J, R)) (P := True) [(.aload_n 0, (0, 0, 0, 0, 0))] [] (by decide +kernel) rfl trivial ?_
    obtain ⟨r3, hc3, hf⟩ := bnd_o hf
    refine b_cV (as := []) (st := []) (by decide +kernel) k_12_548 n_MD_keeps rfl (by decide) v_MD_keeps (C_MD_keeps I J hR hc3) (Nat.le_of_ble_eq_true rfl) (by decide) rfl rfl (fun _ h => h) ?_
    show m_B G (m_rm 3 0 0) M_MD_set Q 0 0 17 [some (mR (12, 0, 177)), some (mI v1)] [] (L, r3, J, R)
    refine b_blk (pc' := 19) (ls' := [some (mR (12, 0, 177)), some (mI v1)]) (st' := [mI v1, mR (12, 0, 177)]) (S' := (L, r3, J, R)) (P := True) [(.aload_n 0, (0, 0, 0, 0, 0)), (.iload_n 1, (0, 0, 0, 0, 0))] [] (by decide +kernel) rfl trivial ?_
    obtain ⟨r4, hc4, hf⟩ := bnd_o hf
    refine b_cV (as := [mI v1]) (st := []) (by decide +kernel) k_12_458 n_MD_isSet rfl (by decide) v_MD_isSet (C_MD_isSet r3 J v1 hR hc4) (Nat.le_of_ble_eq_true rfl) (by decide) rfl rfl (fun _ h => h) ?_
    show m_B G (m_rm 3 0 0) M_MD_set Q 0 0 22 [some (mR (12, 0, 177)), some (mI v1)] [] (L, r4, J, R)
    refine b_blk (pc' := 23) (ls' := [some (mR (12, 0, 177)), some (mI v1)]) (st' := [mI 1]) (S' := (L, r4, J, R)) (P := True) [(.iconst 1, (0, 0, 0, 1, 0))] [] (by decide +kernel) rfl trivial ?_
    cases hf
    exact b_zret (by decide +kernel) rfl (by decide) hk
  · have hf := if_t h2 hf
    refine b_blk (pc' := 9) (ls' := [some (mR (12, 0, 177)), some (mI v1)]) (st' := [mR (12, 0, 177)]) (S' := (L, I, J, R)) (P := True) [(.aload_n 0, (0, 0, 0, 0, 0))] [] (by decide +kernel) rfl trivial ?_
    obtain ⟨r5, hc5, hf⟩ := bnd_o hf
    refine b_cV (as := []) (st := []) (by decide +kernel) k_12_545 n_MD_isRefused rfl (by decide) v_MD_isRefused (C_MD_isRefused I J hR hc5) (Nat.le_of_ble_eq_true rfl) (by decide) rfl rfl (fun _ h => h) ?_
    show m_B G (m_rm 3 0 0) M_MD_set Q 0 0 12 [some (mR (12, 0, 177)), some (mI v1)] [mI r5.1] (L, r5.2, J, R)
    obtain ⟨g6, hf⟩ := gq_s hf
    cases hf
    exact b_zret (by decide +kernel) rfl g6 hk
theorem C_MD_set {G : MG} {L : List (Nat × Nat)} {R : Nat → Nat → Option MRef} (I : MI) (J : MJ) (v1 : Int32) (hR : RF R) {r : Int32 × MI} (hf : F_MD_set I v1 = some r) : m_met G 3 0 0 y_MD_set M_MD_set [mR (12, 0, 177), mI v1] (L, I, J, R) (m_is (some (mI r.1)) (L, r.2, J, R)) :=
  m_met_in n_MD_set (plainFor_of_name (by decide)) (by decide) (Nat.le_of_ble_eq_true rfl) (ls := [some (mR (12, 0, 177)), some (mI v1)]) rfl (W_MD_set I J v1 hR hf ⟨rfl, rfl⟩)
noncomputable def F_MD_cut (I : MI) (v1 : Int32) : Option (Int32 × MI) :=
  (F_MD_isFence I v1).bind fun r1 => if r1 = (0 : Int32) then ((F_MD_isRefused I).bind fun r3 => gq (r3.1 = 0 ∨ r3.1 = 1) <| some ((r3.1 : Int32), r3.2)) else ((F_MD_isCut I v1).bind fun r5 => if r5 = (0 : Int32) then ((F_MD_keeps I).bind fun r7 => gd (((7 : Int32) + ((8 : Int32) * v1)) + (1 : Int32)) 176 <| some ((1 : Int32), m_up r7 213 ((((7 : Int32) + ((8 : Int32) * v1)) + (1 : Int32)).toNatClampNeg) (1 : Int32))) else ((F_MD_isRefused I).bind fun r9 => gq (r9.1 = 0 ∨ r9.1 = 1) <| some ((r9.1 : Int32), r9.2)))
set_option maxRecDepth 100000 in
set_option maxHeartbeats 400000 in
theorem W_MD_cut {G : MG} {Q : Option MV → MS → Prop} {L : List (Nat × Nat)} {R : Nat → Nat → Option MRef} (I : MI) (J : MJ) (v1 : Int32) (hR : RF R) {r : Int32 × MI} (hf : F_MD_cut I v1 = some r) (hk : (fun r : Int32 × MI => Q (some (mI r.1)) (L, r.2, J, R)) r) : m_B G (m_rm 3 0 0) M_MD_cut Q 0 0 0 [some (mR (12, 0, 177)), some (mI v1)] [] (L, I, J, R) := by
  unfold F_MD_cut at hf
  refine b_blk (pc' := 2) (ls' := [some (mR (12, 0, 177)), some (mI v1)]) (st' := [mI v1, mR (12, 0, 177)]) (S' := (L, I, J, R)) (P := True) [(.aload_n 0, (0, 0, 0, 0, 0)), (.iload_n 1, (0, 0, 0, 0, 0))] [] (by decide +kernel) rfl trivial ?_
  obtain ⟨r1, hc1, hf⟩ := bnd_o hf
  refine b_cV (as := [mI v1]) (st := []) (by decide +kernel) k_12_482 n_MD_isFence rfl (by decide) v_MD_isFence (C_MD_isFence I J v1 hR hc1) (Nat.le_of_ble_eq_true rfl) (by decide) rfl rfl (fun _ h => h) ?_
  show m_B G (m_rm 3 0 0) M_MD_cut Q 0 0 5 [some (mR (12, 0, 177)), some (mI v1)] [mI r1] (L, I, J, R)
  refine b_if_eq (off := 11) (tgt := 16) (by decide +kernel) (by decide) (fun h2 => ?_) (fun h2 => ?_)
  · have hf := if_t h2 hf
    refine b_blk (pc' := 17) (ls' := [some (mR (12, 0, 177)), some (mI v1)]) (st' := [mR (12, 0, 177)]) (S' := (L, I, J, R)) (P := True) [(.aload_n 0, (0, 0, 0, 0, 0))] [] (by decide +kernel) rfl trivial ?_
    obtain ⟨r3, hc3, hf⟩ := bnd_o hf
    refine b_cV (as := []) (st := []) (by decide +kernel) k_12_545 n_MD_isRefused rfl (by decide) v_MD_isRefused (C_MD_isRefused I J hR hc3) (Nat.le_of_ble_eq_true rfl) (by decide) rfl rfl (fun _ h => h) ?_
    show m_B G (m_rm 3 0 0) M_MD_cut Q 0 0 20 [some (mR (12, 0, 177)), some (mI v1)] [mI r3.1] (L, r3.2, J, R)
    obtain ⟨g4, hf⟩ := gq_s hf
    cases hf
    exact b_zret (by decide +kernel) rfl g4 hk
  · have hf := if_f h2 hf
    refine b_blk (pc' := 10) (ls' := [some (mR (12, 0, 177)), some (mI v1)]) (st' := [mI v1, mR (12, 0, 177)]) (S' := (L, I, J, R)) (P := True) [(.aload_n 0, (0, 0, 0, 0, 0)), (.iload_n 1, (0, 0, 0, 0, 0))] [] (by decide +kernel) rfl trivial ?_
    obtain ⟨r5, hc5, hf⟩ := bnd_o hf
    refine b_cV (as := [mI v1]) (st := []) (by decide +kernel) k_12_443 n_MD_isCut rfl (by decide) v_MD_isCut (C_MD_isCut I J v1 hR hc5) (Nat.le_of_ble_eq_true rfl) (by decide) rfl rfl (fun _ h => h) ?_
    show m_B G (m_rm 3 0 0) M_MD_cut Q 0 0 13 [some (mR (12, 0, 177)), some (mI v1)] [mI r5] (L, I, J, R)
    refine b_if_eq (off := 8) (tgt := 21) (by decide +kernel) (by decide) (fun h6 => ?_) (fun h6 => ?_)
    · have hf := if_t h6 hf
      refine b_blk (pc' := 22) (ls' := [some (mR (12, 0, 177)), some (mI v1)]) (st' := [mR (12, 0, 177)]) (S' := (L, I, J, R)) (P := True) [(.aload_n 0, (0, 0, 0, 0, 0))] [] (by decide +kernel) rfl trivial ?_
      obtain ⟨r7, hc7, hf⟩ := bnd_o hf
      refine b_cV (as := []) (st := []) (by decide +kernel) k_12_548 n_MD_keeps rfl (by decide) v_MD_keeps (C_MD_keeps I J hR hc7) (Nat.le_of_ble_eq_true rfl) (by decide) rfl rfl (fun _ h => h) ?_
      show m_B G (m_rm 3 0 0) M_MD_cut Q 0 0 25 [some (mR (12, 0, 177)), some (mI v1)] [] (L, r7, J, R)
      obtain ⟨g8, hf⟩ := gd_s hf
      refine b_blk (pc' := 41) (ls' := [some (mR (12, 0, 177)), some (mI v1)]) (st' := [mI 1]) (S' := (L, m_up r7 213 ((((7 : Int32) + ((8 : Int32) * v1)) + (1 : Int32)).toNatClampNeg) (1 : Int32), J, R)) (P := ((True ∧ R 177 51 = some (20, 176, 213)) ∧ vp_in (((7 : Int32) + ((8 : Int32) * v1)) + (1 : Int32)) 176)) [(.aload_n 0, (0, 0, 0, 0, 0)), (.getfield 121, (12, 51, 3, 0, 0)), (.bipush 7, (0, 0, 0, 7, 0)), (.bipush 8, (0, 0, 0, 8, 0)), (.iload_n 1, (0, 0, 0, 0, 0)), (.imul, (0, 0, 0, 0, 0)), (.iadd, (0, 0, 0, 0, 0)), (.iconst 1, (0, 0, 0, 1, 0)), (.iadd, (0, 0, 0, 0, 0)), (.iconst 1, (0, 0, 0, 1, 0)), (.iastore, (0, 0, 0, 0, 0)), (.iconst 1, (0, 0, 0, 1, 0))] [some (20, 176, 213)] (by decide +kernel) rfl ⟨⟨trivial, (r_177_51 hR)⟩, (in_n (n := 176) (by decide) g8.1 g8.2)⟩ ?_
      cases hf
      exact b_zret (by decide +kernel) rfl (by decide) hk
    · have hf := if_f h6 hf
      refine b_blk (pc' := 17) (ls' := [some (mR (12, 0, 177)), some (mI v1)]) (st' := [mR (12, 0, 177)]) (S' := (L, I, J, R)) (P := True) [(.aload_n 0, (0, 0, 0, 0, 0))] [] (by decide +kernel) rfl trivial ?_
      obtain ⟨r9, hc9, hf⟩ := bnd_o hf
      refine b_cV (as := []) (st := []) (by decide +kernel) k_12_545 n_MD_isRefused rfl (by decide) v_MD_isRefused (C_MD_isRefused I J hR hc9) (Nat.le_of_ble_eq_true rfl) (by decide) rfl rfl (fun _ h => h) ?_
      show m_B G (m_rm 3 0 0) M_MD_cut Q 0 0 20 [some (mR (12, 0, 177)), some (mI v1)] [mI r9.1] (L, r9.2, J, R)
      obtain ⟨g10, hf⟩ := gq_s hf
      cases hf
      exact b_zret (by decide +kernel) rfl g10 hk
theorem C_MD_cut {G : MG} {L : List (Nat × Nat)} {R : Nat → Nat → Option MRef} (I : MI) (J : MJ) (v1 : Int32) (hR : RF R) {r : Int32 × MI} (hf : F_MD_cut I v1 = some r) : m_met G 3 0 0 y_MD_cut M_MD_cut [mR (12, 0, 177), mI v1] (L, I, J, R) (m_is (some (mI r.1)) (L, r.2, J, R)) :=
  m_met_in n_MD_cut (plainFor_of_name (by decide)) (by decide) (Nat.le_of_ble_eq_true rfl) (ls := [some (mR (12, 0, 177)), some (mI v1)]) rfl (W_MD_cut I J v1 hR hf ⟨rfl, rfl⟩)
noncomputable def F_MD_iron (I : MI) (v1 : Int32) (v2 : Int32) : Option (Int32 × MI) :=
  (F_MD_isPlace I v1 v2).bind fun r1 => if r1 = (0 : Int32) then ((F_MD_refuses I (2 : Int32)).bind fun r3 => some ((r3.1 : Int32), r3.2)) else ((F_MD_isPost I v1 v2).bind fun r4 => if r4 = (0 : Int32) then ((F_MD_postMany I).bind fun r7 => if r7 = (24 : Int32) then ((F_MD_refuses I (2 : Int32)).bind fun r14 => some ((r14.1 : Int32), r14.2)) else ((F_MD_keeps I).bind fun r9 => gd ((1 : Int32) + v1) 176 <| gd ((1 : Int32) + v1) 176 <| bnd (m_up r9 213 (((1 : Int32) + v1).toNatClampNeg) ((r9 213 ((1 : Int32) + v1).toNatClampNeg) ||| ((1 : Int32) <<< (v2 &&& 31))) : MI) fun x12 => (F_MD_postMany x12).bind fun r13 => some ((r13 : Int32), x12))) else ((F_MD_refuses I (2 : Int32)).bind fun r6 => some ((r6.1 : Int32), r6.2)))
set_option maxRecDepth 100000 in
set_option maxHeartbeats 400000 in
theorem W_MD_iron {G : MG} {Q : Option MV → MS → Prop} {L : List (Nat × Nat)} {R : Nat → Nat → Option MRef} (I : MI) (J : MJ) (v1 : Int32) (v2 : Int32) (hR : RF R) {r : Int32 × MI} (hf : F_MD_iron I v1 v2 = some r) (hk : (fun r : Int32 × MI => Q (some (mI r.1)) (L, r.2, J, R)) r) : m_B G (m_rm 4 0 0) M_MD_iron Q 0 0 0 [some (mR (12, 0, 177)), some (mI v1), some (mI v2)] [] (L, I, J, R) := by
  unfold F_MD_iron at hf
  refine b_blk (pc' := 3) (ls' := [some (mR (12, 0, 177)), some (mI v1), some (mI v2)]) (st' := [mI v2, mI v1, mR (12, 0, 177)]) (S' := (L, I, J, R)) (P := True) [(.aload_n 0, (0, 0, 0, 0, 0)), (.iload_n 1, (0, 0, 0, 0, 0)), (.iload_n 2, (0, 0, 0, 0, 0))] [] (by decide +kernel) rfl trivial ?_
  obtain ⟨r1, hc1, hf⟩ := bnd_o hf
  refine b_cV (as := [mI v1, mI v2]) (st := []) (by decide +kernel) k_12_487 n_MD_isPlace rfl (by decide) v_MD_isPlace (C_MD_isPlace I J v1 v2 hR hc1) (Nat.le_of_ble_eq_true rfl) (by decide) rfl rfl (fun _ h => h) ?_
  show m_B G (m_rm 4 0 0) M_MD_iron Q 0 0 6 [some (mR (12, 0, 177)), some (mI v1), some (mI v2)] [mI r1] (L, I, J, R)
  refine b_if_eq (off := 21) (tgt := 27) (by decide +kernel) (by decide) (fun h2 => ?_) (fun h2 => ?_)
  · have hf := if_t h2 hf
    refine b_blk (pc' := 29) (ls' := [some (mR (12, 0, 177)), some (mI v1), some (mI v2)]) (st' := [mI 2, mR (12, 0, 177)]) (S' := (L, I, J, R)) (P := True) [(.aload_n 0, (0, 0, 0, 0, 0)), (.iconst 2, (0, 0, 0, 2, 0))] [] (by decide +kernel) rfl trivial ?_
    obtain ⟨r3, hc3, hf⟩ := bnd_o hf
    refine b_cV (as := [mI 2]) (st := []) (by decide +kernel) k_12_527 n_MD_refuses rfl (by decide) v_MD_refuses (C_MD_refuses I J (2 : Int32) hR hc3) (Nat.le_of_ble_eq_true rfl) (by decide) rfl rfl (fun _ h => h) ?_
    show m_B G (m_rm 4 0 0) M_MD_iron Q 0 0 32 [some (mR (12, 0, 177)), some (mI v1), some (mI v2)] [mI r3.1] (L, r3.2, J, R)
    cases hf
    exact b_iret (by decide +kernel) rfl hk
  · have hf := if_f h2 hf
    refine b_blk (pc' := 12) (ls' := [some (mR (12, 0, 177)), some (mI v1), some (mI v2)]) (st' := [mI v2, mI v1, mR (12, 0, 177)]) (S' := (L, I, J, R)) (P := True) [(.aload_n 0, (0, 0, 0, 0, 0)), (.iload_n 1, (0, 0, 0, 0, 0)), (.iload_n 2, (0, 0, 0, 0, 0))] [] (by decide +kernel) rfl trivial ?_
    obtain ⟨r4, hc4, hf⟩ := bnd_o hf
    refine b_cV (as := [mI v1, mI v2]) (st := []) (by decide +kernel) k_12_436 n_MD_isPost rfl (by decide) v_MD_isPost (C_MD_isPost I J v1 v2 hR hc4) (Nat.le_of_ble_eq_true rfl) (by decide) rfl rfl (fun _ h => h) ?_
    show m_B G (m_rm 4 0 0) M_MD_iron Q 0 0 15 [some (mR (12, 0, 177)), some (mI v1), some (mI v2)] [mI r4] (L, I, J, R)
    refine b_if_ne (off := 12) (tgt := 27) (by decide +kernel) (by decide) (fun h5 => ?_) (fun h5 => ?_)
    · have hf := if_f h5 hf
      refine b_blk (pc' := 29) (ls' := [some (mR (12, 0, 177)), some (mI v1), some (mI v2)]) (st' := [mI 2, mR (12, 0, 177)]) (S' := (L, I, J, R)) (P := True) [(.aload_n 0, (0, 0, 0, 0, 0)), (.iconst 2, (0, 0, 0, 2, 0))] [] (by decide +kernel) rfl trivial ?_
      obtain ⟨r6, hc6, hf⟩ := bnd_o hf
      refine b_cV (as := [mI 2]) (st := []) (by decide +kernel) k_12_527 n_MD_refuses rfl (by decide) v_MD_refuses (C_MD_refuses I J (2 : Int32) hR hc6) (Nat.le_of_ble_eq_true rfl) (by decide) rfl rfl (fun _ h => h) ?_
      show m_B G (m_rm 4 0 0) M_MD_iron Q 0 0 32 [some (mR (12, 0, 177)), some (mI v1), some (mI v2)] [mI r6.1] (L, r6.2, J, R)
      cases hf
      exact b_iret (by decide +kernel) rfl hk
    · have hf := if_t h5 hf
      refine b_blk (pc' := 19) (ls' := [some (mR (12, 0, 177)), some (mI v1), some (mI v2)]) (st' := [mR (12, 0, 177)]) (S' := (L, I, J, R)) (P := True) [(.aload_n 0, (0, 0, 0, 0, 0))] [] (by decide +kernel) rfl trivial ?_
      obtain ⟨r7, hc7, hf⟩ := bnd_o hf
      refine b_cV (as := []) (st := []) (by decide +kernel) k_12_470 n_MD_postMany rfl (by decide) v_MD_postMany (C_MD_postMany I J hR hc7) (Nat.le_of_ble_eq_true rfl) (by decide) rfl rfl (fun _ h => h) ?_
      show m_B G (m_rm 4 0 0) M_MD_iron Q 0 0 22 [some (mR (12, 0, 177)), some (mI v1), some (mI v2)] [mI r7] (L, I, J, R)
      refine b_blk (pc' := 24) (ls' := [some (mR (12, 0, 177)), some (mI v1), some (mI v2)]) (st' := [mI 24, mI r7]) (S' := (L, I, J, R)) (P := True) [(.bipush 24, (0, 0, 0, 24, 0))] [] (by decide +kernel) rfl trivial ?_
      refine b_icmp_ne (off := 9) (tgt := 33) (by decide +kernel) (by decide) (fun h8 => ?_) (fun h8 => ?_)
      · have hf := if_f h8 hf
        refine b_blk (pc' := 34) (ls' := [some (mR (12, 0, 177)), some (mI v1), some (mI v2)]) (st' := [mR (12, 0, 177)]) (S' := (L, I, J, R)) (P := True) [(.aload_n 0, (0, 0, 0, 0, 0))] [] (by decide +kernel) rfl trivial ?_
        obtain ⟨r9, hc9, hf⟩ := bnd_o hf
        refine b_cV (as := []) (st := []) (by decide +kernel) k_12_548 n_MD_keeps rfl (by decide) v_MD_keeps (C_MD_keeps I J hR hc9) (Nat.le_of_ble_eq_true rfl) (by decide) rfl rfl (fun _ h => h) ?_
        show m_B G (m_rm 4 0 0) M_MD_iron Q 0 0 37 [some (mR (12, 0, 177)), some (mI v1), some (mI v2)] [] (L, r9, J, R)
        obtain ⟨g10, hf⟩ := gd_s hf
        obtain ⟨g11, hf⟩ := gd_s hf
        refine b_blk (pc' := 52) (ls' := [some (mR (12, 0, 177)), some (mI v1), some (mI v2)]) (st' := [mR (12, 0, 177)]) (S' := (L, m_up r9 213 (((1 : Int32) + v1).toNatClampNeg) ((r9 213 ((1 : Int32) + v1).toNatClampNeg) ||| ((1 : Int32) <<< (v2 &&& 31))), J, R)) (P := (((True ∧ R 177 51 = some (20, 176, 213)) ∧ vp_in ((1 : Int32) + v1) 176) ∧ vp_in ((1 : Int32) + v1) 176)) [(.aload_n 0, (0, 0, 0, 0, 0)), (.getfield 121, (12, 51, 3, 0, 0)), (.iconst 1, (0, 0, 0, 1, 0)), (.iload_n 1, (0, 0, 0, 0, 0)), (.iadd, (0, 0, 0, 0, 0)), (.dup2, (0, 0, 0, 0, 0)), (.iaload, (0, 0, 0, 0, 0)), (.iconst 1, (0, 0, 0, 1, 0)), (.iload_n 2, (0, 0, 0, 0, 0)), (.ishl, (0, 0, 0, 0, 0)), (.ior, (0, 0, 0, 0, 0)), (.iastore, (0, 0, 0, 0, 0)), (.aload_n 0, (0, 0, 0, 0, 0))] [some (20, 176, 213)] (by decide +kernel) rfl ⟨⟨⟨trivial, (r_177_51 hR)⟩, (in_n (n := 176) (by decide) g10.1 g10.2)⟩, (in_n (n := 176) (by decide) g11.1 g11.2)⟩ ?_
        obtain ⟨x12, ex12, hf⟩ := bnd_s hf
        refine m_B_cg (ls' := [some (mR (12, 0, 177)), some (mI v1), some (mI v2)]) (st' := [mR (12, 0, 177)]) (S' := (L, x12, J, R)) (by first | with_reducible rfl | rw [ex12]) (by first | with_reducible rfl | rw [ex12]) (by first | with_reducible rfl | rw [ex12]) ?_
        obtain ⟨r13, hc13, hf⟩ := bnd_o hf
        refine b_cV (as := []) (st := []) (by decide +kernel) k_12_470 n_MD_postMany rfl (by decide) v_MD_postMany (C_MD_postMany x12 J hR hc13) (Nat.le_of_ble_eq_true rfl) (by decide) rfl rfl (fun _ h => h) ?_
        show m_B G (m_rm 4 0 0) M_MD_iron Q 0 0 55 [some (mR (12, 0, 177)), some (mI v1), some (mI v2)] [mI r13] (L, x12, J, R)
        cases hf
        exact b_iret (by decide +kernel) rfl hk
      · have hf := if_t h8 hf
        refine b_blk (pc' := 29) (ls' := [some (mR (12, 0, 177)), some (mI v1), some (mI v2)]) (st' := [mI 2, mR (12, 0, 177)]) (S' := (L, I, J, R)) (P := True) [(.aload_n 0, (0, 0, 0, 0, 0)), (.iconst 2, (0, 0, 0, 2, 0))] [] (by decide +kernel) rfl trivial ?_
        obtain ⟨r14, hc14, hf⟩ := bnd_o hf
        refine b_cV (as := [mI 2]) (st := []) (by decide +kernel) k_12_527 n_MD_refuses rfl (by decide) v_MD_refuses (C_MD_refuses I J (2 : Int32) hR hc14) (Nat.le_of_ble_eq_true rfl) (by decide) rfl rfl (fun _ h => h) ?_
        show m_B G (m_rm 4 0 0) M_MD_iron Q 0 0 32 [some (mR (12, 0, 177)), some (mI v1), some (mI v2)] [mI r14.1] (L, r14.2, J, R)
        cases hf
        exact b_iret (by decide +kernel) rfl hk
theorem C_MD_iron {G : MG} {L : List (Nat × Nat)} {R : Nat → Nat → Option MRef} (I : MI) (J : MJ) (v1 : Int32) (v2 : Int32) (hR : RF R) {r : Int32 × MI} (hf : F_MD_iron I v1 v2 = some r) : m_met G 4 0 0 y_MD_iron M_MD_iron [mR (12, 0, 177), mI v1, mI v2] (L, I, J, R) (m_is (some (mI r.1)) (L, r.2, J, R)) :=
  m_met_in n_MD_iron (plainFor_of_name (by decide)) (by decide) (Nat.le_of_ble_eq_true rfl) (ls := [some (mR (12, 0, 177)), some (mI v1), some (mI v2)]) rfl (W_MD_iron I J v1 v2 hR hf ⟨rfl, rfl⟩)
