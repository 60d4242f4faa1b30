/-! the reference: methods 5 -/
noncomputable def F_MD_isAhead (I : MI) (v1 : Int32) (v2 : Int32) (v3 : Int32) : Option (Int32) :=
  if (I 177 49) = (0 : Int32) then (some (0 : Int32)) else ((F_MD_isIn v1.toInt64 v2.toInt64 v3.toInt64).bind fun r2 => if r2 = (0 : Int32) then (some (0 : Int32)) else (if (999 : Int32) < ((I 213 0) + v1) then (some (0 : Int32)) else (some (1 : Int32))))
set_option maxRecDepth 100000 in
set_option maxHeartbeats 400000 in
theorem W_MD_isAhead {G : MG} {Q : Option MV → MS → Prop} {L : List (Nat × Nat)} {R : Nat → Nat → Option MRef} (I : MI) (J : MJ) (v1 : Int32) (v2 : Int32) (v3 : Int32) (hR : RF R) {r : Int32} (hf : F_MD_isAhead I v1 v2 v3 = some r) (hk : (fun r : Int32 => Q (some (mI r)) (L, I, J, R)) r) : m_B G (m_rm 2 0 0) M_MD_isAhead Q 0 0 0 [some (mR (12, 0, 177)), some (mI v1), some (mI v2), some (mI v3)] [] (L, I, J, R) := by
  unfold F_MD_isAhead at hf
  refine b_blk (pc' := 4) (ls' := [some (mR (12, 0, 177)), some (mI v1), some (mI v2), some (mI v3)]) (st' := [mI (I 177 49)]) (S' := (L, I, J, R)) (P := True) [(.aload_n 0, (0, 0, 0, 0, 0)), (.getfield 369, (12, 49, 1, 0, 0))] [] (by decide +kernel) rfl trivial ?_
  refine b_if_eq (off := 33) (tgt := 37) (by decide +kernel) (by decide) (fun h1 => ?_) (fun h1 => ?_)
  · have hf := if_t h1 hf
    refine b_blk (pc' := 38) (ls' := [some (mR (12, 0, 177)), some (mI v1), some (mI v2), some (mI v3)]) (st' := [mI 0]) (S' := (L, I, J, R)) (P := True) [(.iconst 0, (0, 0, 0, 0, 0))] [] (by decide +kernel) rfl trivial ?_
    cases hf
    exact b_zret (by decide +kernel) rfl (by decide) hk
  · have hf := if_f h1 hf
    refine b_blk (pc' := 13) (ls' := [some (mR (12, 0, 177)), some (mI v1), some (mI v2), some (mI v3)]) (st' := [mJ v3.toInt64, mJ v2.toInt64, mJ v1.toInt64]) (S' := (L, I, J, R)) (P := True) [(.iload_n 1, (0, 0, 0, 0, 0)), (.i2l, (0, 0, 0, 0, 0)), (.iload_n 2, (0, 0, 0, 0, 0)), (.i2l, (0, 0, 0, 0, 0)), (.iload_n 3, (0, 0, 0, 0, 0)), (.i2l, (0, 0, 0, 0, 0))] [] (by decide +kernel) rfl trivial ?_
    obtain ⟨r2, hc2, hf⟩ := bnd_o hf
    refine b_cS (as := [mJ v1.toInt64, mJ v2.toInt64, mJ v3.toInt64]) (st := []) (by decide +kernel) k_12_277 n_MD_isIn s_MD_isIn (C_MD_isIn I J v1.toInt64 v2.toInt64 v3.toInt64 hR hc2) (Nat.le_of_ble_eq_true rfl) (by decide) rfl rfl (fun _ h => h) ?_
    show m_B G (m_rm 2 0 0) M_MD_isAhead Q 0 0 16 [some (mR (12, 0, 177)), some (mI v1), some (mI v2), some (mI v3)] [mI r2] (L, I, J, R)
    refine b_if_eq (off := 21) (tgt := 37) (by decide +kernel) (by decide) (fun h3 => ?_) (fun h3 => ?_)
    · have hf := if_t h3 hf
      refine b_blk (pc' := 38) (ls' := [some (mR (12, 0, 177)), some (mI v1), some (mI v2), some (mI v3)]) (st' := [mI 0]) (S' := (L, I, J, R)) (P := True) [(.iconst 0, (0, 0, 0, 0, 0))] [] (by decide +kernel) rfl trivial ?_
      cases hf
      exact b_zret (by decide +kernel) rfl (by decide) hk
    · have hf := if_f h3 hf
      refine b_blk (pc' := 30) (ls' := [some (mR (12, 0, 177)), some (mI v1), some (mI v2), some (mI v3)]) (st' := [mI 999, mI ((I 213 0) + v1)]) (S' := (L, I, J, R)) (P := ((True ∧ R 177 51 = some (20, 176, 213)) ∧ vp_in (0 : Int32) 176)) [(.aload_n 0, (0, 0, 0, 0, 0)), (.getfield 121, (12, 51, 3, 0, 0)), (.iconst 0, (0, 0, 0, 0, 0)), (.iaload, (0, 0, 0, 0, 0)), (.iload_n 1, (0, 0, 0, 0, 0)), (.iadd, (0, 0, 0, 0, 0)), (.sipush 999, (0, 0, 0, 999, 0))] [some (20, 176, 213)] (by decide +kernel) rfl ⟨⟨trivial, (r_177_51 hR)⟩, (vp_in_nI (n := 0) (N := 176) (by decide) (by decide))⟩ ?_
      refine b_icmp_gt (off := 7) (tgt := 37) (by decide +kernel) (by decide) (fun h4 => ?_) (fun h4 => ?_)
      · have hf := if_t h4 hf
        refine b_blk (pc' := 38) (ls' := [some (mR (12, 0, 177)), some (mI v1), some (mI v2), some (mI v3)]) (st' := [mI 0]) (S' := (L, I, J, R)) (P := True) [(.iconst 0, (0, 0, 0, 0, 0))] [] (by decide +kernel) rfl trivial ?_
        cases hf
        exact b_zret (by decide +kernel) rfl (by decide) hk
      · have hf := if_f h4 hf
        refine b_blk (pc' := 38) (ls' := [some (mR (12, 0, 177)), some (mI v1), some (mI v2), some (mI v3)]) (st' := [mI 1]) (S' := (L, I, J, R)) (P := True) [(.iconst 1, (0, 0, 0, 1, 0)), (.goto 4, (0, 38, 0, 0, 0))] [] (by decide +kernel) rfl trivial ?_
        cases hf
        exact b_zret (by decide +kernel) rfl (by decide) hk
theorem C_MD_isAhead {G : MG} {L : List (Nat × Nat)} {R : Nat → Nat → Option MRef} (I : MI) (J : MJ) (v1 : Int32) (v2 : Int32) (v3 : Int32) (hR : RF R) {r : Int32} (hf : F_MD_isAhead I v1 v2 v3 = some r) : m_met G 2 0 0 y_MD_isAhead M_MD_isAhead [mR (12, 0, 177), mI v1, mI v2, mI v3] (L, I, J, R) (m_is (some (mI r)) (L, I, J, R)) :=
  m_met_in n_MD_isAhead (plainFor_of_name (by decide)) (by decide) (Nat.le_of_ble_eq_true rfl) (ls := [some (mR (12, 0, 177)), some (mI v1), some (mI v2), some (mI v3)]) rfl (W_MD_isAhead I J v1 v2 v3 hR hf ⟨rfl, rfl⟩)
noncomputable def F_MD_putsAside_7 (I : MI) (v1 : Int32) : Option ((Int32 × MI) ⊕ (MI)) :=
  if (55 : Int32) ≤ v1 then (some (.inr I)) else (gd v1 176 <| gd v1 55 <| some (.inl ((v1 + 1 : Int32), m_up I 214 (v1.toNatClampNeg) (I 213 v1.toNatClampNeg))))
set_option maxRecDepth 100000 in
set_option maxHeartbeats 400000 in
theorem W_MD_putsAside_7 {G : MG} {Q : Option MV → MS → Prop} {L : List (Nat × Nat)} {R : Nat → Nat → Option MRef} (I : MI) (J : MJ) (v1 : Int32) (hR : RF R) {r : (Int32 × MI) ⊕ (MI)} (hf : F_MD_putsAside_7 I v1 = some r) (hk : (Sum.elim (fun s : Int32 × MI => m_B G (m_rm 1 0 0) M_MD_putsAside Q 0 0 7 [some (mR (12, 0, 177)), some (mI s.1)] [] (L, s.2, J, R)) (fun s : MI => m_B G (m_rm 1 0 0) M_MD_putsAside Q 0 0 31 [none, none] [] (L, s, J, R))) r) : m_B G (m_rm 1 0 0) M_MD_putsAside Q 0 0 7 [some (mR (12, 0, 177)), some (mI v1)] [] (L, I, J, R) := by
  unfold F_MD_putsAside_7 at hf
  refine b_blk (pc' := 10) (ls' := [some (mR (12, 0, 177)), some (mI v1)]) (st' := [mI 55, mI v1]) (S' := (L, I, J, R)) (P := True) [(.iload_n 1, (0, 0, 0, 0, 0)), (.bipush 55, (0, 0, 0, 55, 0))] [] (by decide +kernel) rfl trivial ?_
  refine b_icmp_ge (off := 21) (tgt := 31) (by decide +kernel) (by decide) (fun h1 => ?_) (fun h1 => ?_)
  · have hf := if_t h1 hf
    refine b_frg 0 ?_
    refine b_frg 1 ?_
    cases hf
    exact hk
  · have hf := if_f h1 hf
    obtain ⟨g2, hf⟩ := gd_s hf
    obtain ⟨g3, hf⟩ := gd_s hf
    refine b_blk (pc' := 7) (ls' := [some (mR (12, 0, 177)), some (mI (v1 + 1))]) (st' := []) (S' := (L, m_up I 214 (v1.toNatClampNeg) (I 213 v1.toNatClampNeg), J, R)) (P := ((((True ∧ R 177 52 = some (20, 55, 214)) ∧ R 177 51 = some (20, 176, 213)) ∧ vp_in v1 176) ∧ vp_in v1 55)) [(.aload_n 0, (0, 0, 0, 0, 0)), (.getfield 124, (12, 52, 3, 0, 0)), (.iload_n 1, (0, 0, 0, 0, 0)), (.aload_n 0, (0, 0, 0, 0, 0)), (.getfield 121, (12, 51, 3, 0, 0)), (.iload_n 1, (0, 0, 0, 0, 0)), (.iaload, (0, 0, 0, 0, 0)), (.iastore, (0, 0, 0, 0, 0)), (.iinc 1 1, (0, 0, 0, 1, 0)), (.goto (-21), (0, 7, 0, 0, 0))] [some (20, 55, 214), some (20, 176, 213)] (by decide +kernel) rfl ⟨⟨⟨⟨trivial, (r_177_52 hR)⟩, (r_177_51 hR)⟩, (in_n (n := 176) (by decide) g2.1 g2.2)⟩, (in_n (n := 55) (by decide) g3.1 g3.2)⟩ ?_
    cases hf
    exact hk
noncomputable def F_MD_putsAside (I : MI) : Option (MI) :=
  (wl (fun s : Int32 × MI => F_MD_putsAside_7 s.2 s.1) ((0 : Int32), m_up I 177 55 (1 : Int32))).bind fun t1 => some t1
set_option maxRecDepth 100000 in
set_option maxHeartbeats 400000 in
theorem W_MD_putsAside {G : MG} {Q : Option MV → MS → Prop} {L : List (Nat × Nat)} {R : Nat → Nat → Option MRef} (I : MI) (J : MJ) (hR : RF R) {r : MI} (hf : F_MD_putsAside I = some r) (hk : (fun r : MI => Q (none) (L, r, J, R)) r) : m_B G (m_rm 1 0 0) M_MD_putsAside Q 0 0 0 [some (mR (12, 0, 177)), none] [] (L, I, J, R) := by
  unfold F_MD_putsAside at hf
  refine b_blk (pc' := 7) (ls' := [some (mR (12, 0, 177)), some (mI 0)]) (st' := []) (S' := (L, m_up I 177 55 (1 : Int32), J, R)) (P := (True ∧ ((1 : Int32) = 0 ∨ (1 : Int32) = 1))) [(.aload_n 0, (0, 0, 0, 0, 0)), (.iconst 1, (0, 0, 0, 1, 0)), (.putfield 423, (12, 55, 1, 0, 0)), (.iconst 0, (0, 0, 0, 0, 0)), (.istore_n 1, (0, 0, 0, 0, 0))] [] (by decide +kernel) rfl ⟨trivial, (by decide)⟩ ?_
  obtain ⟨t1, hw, hf⟩ := bnd_o hf
  refine wl_B (A := fun s : Int32 × MI => m_B G (m_rm 1 0 0) M_MD_putsAside Q 0 0 7 [some (mR (12, 0, 177)), some (mI s.1)] [] (L, s.2, J, R)) (B := (fun s : MI => m_B G (m_rm 1 0 0) M_MD_putsAside Q 0 0 31 [none, none] [] (L, s, J, R))) (fun s r hs hr => W_MD_putsAside_7 s.2 J s.1 hR hs hr) hw ?_
  show m_B G (m_rm 1 0 0) M_MD_putsAside Q 0 0 31 [none, none] [] (L, t1, J, R)
  cases hf
  exact b_vret (by decide +kernel) rfl hk
theorem C_MD_putsAside {G : MG} {L : List (Nat × Nat)} {R : Nat → Nat → Option MRef} (I : MI) (J : MJ) (hR : RF R) {r : MI} (hf : F_MD_putsAside I = some r) : m_met G 1 0 0 y_MD_putsAside M_MD_putsAside [mR (12, 0, 177)] (L, I, J, R) (m_is (none) (L, r, J, R)) :=
  m_met_in n_MD_putsAside (plainFor_of_name (by decide)) (by decide) (Nat.le_of_ble_eq_true rfl) (ls := [some (mR (12, 0, 177)), none]) rfl (W_MD_putsAside I J hR hf ⟨rfl, rfl⟩)
noncomputable def F_MD_triesAnew_2 (I : MI) (v1 : Int32) : Option ((Int32 × MI) ⊕ (MI)) :=
  if (55 : Int32) ≤ v1 then (some (.inr I)) else (gd v1 55 <| gd v1 176 <| some (.inl ((v1 + 1 : Int32), m_up I 213 (v1.toNatClampNeg) (I 214 v1.toNatClampNeg))))
set_option maxRecDepth 100000 in
set_option maxHeartbeats 400000 in
theorem W_MD_triesAnew_2 {G : MG} {Q : Option MV → MS → Prop} {L : List (Nat × Nat)} {R : Nat → Nat → Option MRef} (I : MI) (J : MJ) (v1 : Int32) (hR : RF R) {r : (Int32 × MI) ⊕ (MI)} (hf : F_MD_triesAnew_2 I v1 = some r) (hk : (Sum.elim (fun s : Int32 × MI => m_B G (m_rm 1 0 0) M_MD_triesAnew Q 0 0 2 [some (mR (12, 0, 177)), some (mI s.1)] [] (L, s.2, J, R)) (fun s : MI => m_B G (m_rm 1 0 0) M_MD_triesAnew Q 0 0 26 [none, none] [] (L, s, J, R))) r) : m_B G (m_rm 1 0 0) M_MD_triesAnew Q 0 0 2 [some (mR (12, 0, 177)), some (mI v1)] [] (L, I, J, R) := by
  unfold F_MD_triesAnew_2 at hf
  refine b_blk (pc' := 5) (ls' := [some (mR (12, 0, 177)), some (mI v1)]) (st' := [mI 55, mI v1]) (S' := (L, I, J, R)) (P := True) [(.iload_n 1, (0, 0, 0, 0, 0)), (.bipush 55, (0, 0, 0, 55, 0))] [] (by decide +kernel) rfl trivial ?_
  refine b_icmp_ge (off := 21) (tgt := 26) (by decide +kernel) (by decide) (fun h1 => ?_) (fun h1 => ?_)
  · have hf := if_t h1 hf
    refine b_frg 0 ?_
    refine b_frg 1 ?_
    cases hf
    exact hk
  · have hf := if_f h1 hf
    obtain ⟨g2, hf⟩ := gd_s hf
    obtain ⟨g3, hf⟩ := gd_s hf
    refine b_blk (pc' := 2) (ls' := [some (mR (12, 0, 177)), some (mI (v1 + 1))]) (st' := []) (S' := (L, m_up I 213 (v1.toNatClampNeg) (I 214 v1.toNatClampNeg), J, R)) (P := ((((True ∧ R 177 51 = some (20, 176, 213)) ∧ R 177 52 = some (20, 55, 214)) ∧ vp_in v1 55) ∧ vp_in v1 176)) [(.aload_n 0, (0, 0, 0, 0, 0)), (.getfield 121, (12, 51, 3, 0, 0)), (.iload_n 1, (0, 0, 0, 0, 0)), (.aload_n 0, (0, 0, 0, 0, 0)), (.getfield 124, (12, 52, 3, 0, 0)), (.iload_n 1, (0, 0, 0, 0, 0)), (.iaload, (0, 0, 0, 0, 0)), (.iastore, (0, 0, 0, 0, 0)), (.iinc 1 1, (0, 0, 0, 1, 0)), (.goto (-21), (0, 2, 0, 0, 0))] [some (20, 176, 213), some (20, 55, 214)] (by decide +kernel) rfl ⟨⟨⟨⟨trivial, (r_177_51 hR)⟩, (r_177_52 hR)⟩, (in_n (n := 55) (by decide) g2.1 g2.2)⟩, (in_n (n := 176) (by decide) g3.1 g3.2)⟩ ?_
    cases hf
    exact hk
noncomputable def F_MD_triesAnew (I : MI) : Option (MI) :=
  (wl (fun s : Int32 × MI => F_MD_triesAnew_2 s.2 s.1) ((0 : Int32), I)).bind fun t1 => some t1
set_option maxRecDepth 100000 in
set_option maxHeartbeats 400000 in
theorem W_MD_triesAnew {G : MG} {Q : Option MV → MS → Prop} {L : List (Nat × Nat)} {R : Nat → Nat → Option MRef} (I : MI) (J : MJ) (hR : RF R) {r : MI} (hf : F_MD_triesAnew I = some r) (hk : (fun r : MI => Q (none) (L, r, J, R)) r) : m_B G (m_rm 1 0 0) M_MD_triesAnew Q 0 0 0 [some (mR (12, 0, 177)), none] [] (L, I, J, R) := by
  unfold F_MD_triesAnew at hf
  refine b_blk (pc' := 2) (ls' := [some (mR (12, 0, 177)), some (mI 0)]) (st' := []) (S' := (L, I, J, R)) (P := True) [(.iconst 0, (0, 0, 0, 0, 0)), (.istore_n 1, (0, 0, 0, 0, 0))] [] (by decide +kernel) rfl trivial ?_
  obtain ⟨t1, hw, hf⟩ := bnd_o hf
  refine wl_B (A := fun s : Int32 × MI => m_B G (m_rm 1 0 0) M_MD_triesAnew Q 0 0 2 [some (mR (12, 0, 177)), some (mI s.1)] [] (L, s.2, J, R)) (B := (fun s : MI => m_B G (m_rm 1 0 0) M_MD_triesAnew Q 0 0 26 [none, none] [] (L, s, J, R))) (fun s r hs hr => W_MD_triesAnew_2 s.2 J s.1 hR hs hr) hw ?_
  show m_B G (m_rm 1 0 0) M_MD_triesAnew Q 0 0 26 [none, none] [] (L, t1, J, R)
  cases hf
  exact b_vret (by decide +kernel) rfl hk
theorem C_MD_triesAnew {G : MG} {L : List (Nat × Nat)} {R : Nat → Nat → Option MRef} (I : MI) (J : MJ) (hR : RF R) {r : MI} (hf : F_MD_triesAnew I = some r) : m_met G 1 0 0 y_MD_triesAnew M_MD_triesAnew [mR (12, 0, 177)] (L, I, J, R) (m_is (none) (L, r, J, R)) :=
  m_met_in n_MD_triesAnew (plainFor_of_name (by decide)) (by decide) (Nat.le_of_ble_eq_true rfl) (ls := [some (mR (12, 0, 177)), none]) rfl (W_MD_triesAnew I J hR hf ⟨rfl, rfl⟩)
noncomputable def F_MD_takesBack (I : MI) : Option (MI) :=
  (F_MD_triesAnew I).bind fun r1 => some (m_up r1 177 55 (0 : Int32))
set_option maxRecDepth 100000 in
set_option maxHeartbeats 400000 in
theorem W_MD_takesBack {G : MG} {Q : Option MV → MS → Prop} {L : List (Nat × Nat)} {R : Nat → Nat → Option MRef} (I : MI) (J : MJ) (hR : RF R) {r : MI} (hf : F_MD_takesBack I = some r) (hk : (fun r : MI => Q (none) (L, r, J, R)) r) : m_B G (m_rm 2 0 0) M_MD_takesBack Q 0 0 0 [some (mR (12, 0, 177))] [] (L, I, J, R) := by
  unfold F_MD_takesBack at hf
  refine b_blk (pc' := 1) (ls' := [some (mR (12, 0, 177))]) (st' := [mR (12, 0, 177)]) (S' := (L, I, J, R)) (P := True) [(.aload_n 0, (0, 0, 0, 0, 0))] [] (by decide +kernel) rfl trivial ?_
  obtain ⟨r1, hc1, hf⟩ := bnd_o hf
  refine b_cV (as := []) (st := []) (by decide +kernel) k_12_464 n_MD_triesAnew rfl (by decide) v_MD_triesAnew (C_MD_triesAnew I J hR hc1) (Nat.le_of_ble_eq_true rfl) (by decide) rfl rfl (fun _ h => h) ?_
  show m_B G (m_rm 2 0 0) M_MD_takesBack Q 0 0 4 [some (mR (12, 0, 177))] [] (L, r1, J, R)
  refine b_blk (pc' := 9) (ls' := [some (mR (12, 0, 177))]) (st' := []) (S' := (L, m_up r1 177 55 (0 : Int32), J, R)) (P := (True ∧ ((0 : Int32) = 0 ∨ (0 : Int32) = 1))) [(.aload_n 0, (0, 0, 0, 0, 0)), (.iconst 0, (0, 0, 0, 0, 0)), (.putfield 423, (12, 55, 1, 0, 0))] [] (by decide +kernel) rfl ⟨trivial, (by decide)⟩ ?_
  cases hf
  exact b_vret (by decide +kernel) rfl hk
theorem C_MD_takesBack {G : MG} {L : List (Nat × Nat)} {R : Nat → Nat → Option MRef} (I : MI) (J : MJ) (hR : RF R) {r : MI} (hf : F_MD_takesBack I = some r) : m_met G 2 0 0 y_MD_takesBack M_MD_takesBack [mR (12, 0, 177)] (L, I, J, R) (m_is (none) (L, r, J, R)) :=
  m_met_in n_MD_takesBack (plainFor_of_name (by decide)) (by decide) (Nat.le_of_ble_eq_true rfl) (ls := [some (mR (12, 0, 177))]) rfl (W_MD_takesBack I J hR hf ⟨rfl, rfl⟩)
noncomputable def F_MD_doesRoot (I : MI) (J : MJ) (v1 : Int32) : Option (Int32 × MI × MJ) :=
  if (I 210 3) = (-1 : Int32) then (some ((0 : Int32), m_up I 177 53 (0 : Int32), J)) else ((F_MD_codesTell (m_up I 177 53 (0 : Int32)) J (1 : Int32) v1).bind fun r2 => if (lg_cmp r2.1 (1 : Int64)) = (0 : Int32) then (some ((1 : Int32), r2.2.1, r2.2.2)) else (some ((0 : Int32), r2.2.1, r2.2.2)))
set_option maxRecDepth 100000 in
set_option maxHeartbeats 400000 in
theorem W_MD_doesRoot {G : MG} {Q : Option MV → MS → Prop} {L : List (Nat × Nat)} {R : Nat → Nat → Option MRef} (I : MI) (J : MJ) (v1 : Int32) (hR : RF R) {r : Int32 × MI × MJ} (hf : F_MD_doesRoot I J v1 = some r) (hk : (fun r : Int32 × MI × MJ => Q (some (mI r.1)) (L, r.2.1, r.2.2, R)) r) : m_B G (m_rm 6 0 0) M_MD_doesRoot Q 0 0 0 [some (mR (12, 0, 177)), some (mI v1)] [] (L, I, J, R) := by
  unfold F_MD_doesRoot at hf
  refine b_blk (pc' := 12) (ls' := [some (mR (12, 0, 177)), some (mI v1)]) (st' := [mI (-1), mI (I 210 3)]) (S' := (L, m_up I 177 53 (0 : Int32), J, R)) (P := ((True ∧ R 177 44 = some (20, 4, 210)) ∧ vp_in (3 : Int32) 4)) [(.aload_n 0, (0, 0, 0, 0, 0)), (.iconst 0, (0, 0, 0, 0, 0)), (.putfield 412, (12, 53, 0, 0, 0)), (.aload_n 0, (0, 0, 0, 0, 0)), (.getfield 112, (12, 44, 3, 0, 0)), (.iconst 3, (0, 0, 0, 3, 0)), (.iaload, (0, 0, 0, 0, 0)), (.iconst (-1), (0, 0, 0, (-1), 0))] [some (20, 4, 210)] (by decide +kernel) rfl ⟨⟨trivial, (r_177_44 hR)⟩, (vp_in_nI (n := 3) (N := 4) (by decide) (by decide))⟩ ?_
  refine b_icmp_eq (off := 18) (tgt := 30) (by decide +kernel) (by decide) (fun h1 => ?_) (fun h1 => ?_)
  · have hf := if_t h1 hf
    refine b_blk (pc' := 31) (ls' := [some (mR (12, 0, 177)), some (mI v1)]) (st' := [mI 0]) (S' := (L, m_up I 177 53 (0 : Int32), J, R)) (P := True) [(.iconst 0, (0, 0, 0, 0, 0))] [] (by decide +kernel) rfl trivial ?_
    cases hf
    exact b_zret (by decide +kernel) rfl (by decide) hk
  · have hf := if_f h1 hf
    refine b_blk (pc' := 18) (ls' := [some (mR (12, 0, 177)), some (mI v1)]) (st' := [mI v1, mI 1, mR (12, 0, 177)]) (S' := (L, m_up I 177 53 (0 : Int32), J, R)) (P := True) [(.aload_n 0, (0, 0, 0, 0, 0)), (.iconst 1, (0, 0, 0, 1, 0)), (.iload_n 1, (0, 0, 0, 0, 0))] [] (by decide +kernel) rfl trivial ?_
    obtain ⟨r2, hc2, hf⟩ := bnd_o hf
    refine b_cV (as := [mI 1, mI v1]) (st := []) (by decide +kernel) k_12_418 n_MD_codesTell rfl (by decide) v_MD_codesTell (C_MD_codesTell (m_up I 177 53 (0 : Int32)) J (1 : Int32) v1 hR hc2) (Nat.le_of_ble_eq_true rfl) (by decide) rfl rfl (fun _ h => h) ?_
    show m_B G (m_rm 6 0 0) M_MD_doesRoot Q 0 0 21 [some (mR (12, 0, 177)), some (mI v1)] [mJ r2.1] (L, r2.2.1, r2.2.2, R)
    refine b_blk (pc' := 23) (ls' := [some (mR (12, 0, 177)), some (mI v1)]) (st' := [mI (lg_cmp r2.1 (1 : Int64))]) (S' := (L, r2.2.1, r2.2.2, R)) (P := True) [(.lconst 1, (0, 0, 0, 0, 1)), (.lcmp, (0, 0, 0, 0, 0))] [] (by decide +kernel) rfl trivial ?_
    refine b_if_ne (off := 7) (tgt := 30) (by decide +kernel) (by decide) (fun h3 => ?_) (fun h3 => ?_)
    · have hf := if_f h3 hf
      refine b_blk (pc' := 31) (ls' := [some (mR (12, 0, 177)), some (mI v1)]) (st' := [mI 0]) (S' := (L, r2.2.1, r2.2.2, R)) (P := True) [(.iconst 0, (0, 0, 0, 0, 0))] [] (by decide +kernel) rfl trivial ?_
      cases hf
      exact b_zret (by decide +kernel) rfl (by decide) hk
    · have hf := if_t h3 hf
      refine b_blk (pc' := 31) (ls' := [some (mR (12, 0, 177)), some (mI v1)]) (st' := [mI 1]) (S' := (L, r2.2.1, r2.2.2, R)) (P := True) [(.iconst 1, (0, 0, 0, 1, 0)), (.goto 4, (0, 31, 0, 0, 0))] [] (by decide +kernel) rfl trivial ?_
      cases hf
      exact b_zret (by decide +kernel) rfl (by decide) hk
theorem C_MD_doesRoot {G : MG} {L : List (Nat × Nat)} {R : Nat → Nat → Option MRef} (I : MI) (J : MJ) (v1 : Int32) (hR : RF R) {r : Int32 × MI × MJ} (hf : F_MD_doesRoot I J v1 = some r) : m_met G 6 0 0 y_MD_doesRoot M_MD_doesRoot [mR (12, 0, 177), mI v1] (L, I, J, R) (m_is (some (mI r.1)) (L, r.2.1, r.2.2, R)) :=
  m_met_in n_MD_doesRoot (plainFor_of_name (by decide)) (by decide) (Nat.le_of_ble_eq_true rfl) (ls := [some (mR (12, 0, 177)), some (mI v1)]) rfl (W_MD_doesRoot I J v1 hR hf ⟨rfl, rfl⟩)
noncomputable def F_MD_isKept_64 (I : MI) (v1 : Int32) (v2 : Int32) : Option (MI) :=
  gd (((56 : Int32) + ((3 : Int32) * (I 213 55))) - (3 : Int32)) 176 <| gd ((((56 : Int32) + ((3 : Int32) * (I 213 55))) - (3 : Int32)) + (1 : Int32)) 176 <| gd ((((56 : Int32) + ((3 : Int32) * (I 213 55))) - (3 : Int32)) + (2 : Int32)) 176 <| bnd (m_up (m_up (m_up I 213 ((((56 : Int32) + ((3 : Int32) * (I 213 55))) - (3 : Int32)).toNatClampNeg) (I 213 0)) 213 (((((56 : Int32) + ((3 : Int32) * (I 213 55))) - (3 : Int32)) + (1 : Int32)).toNatClampNeg) v1) 213 (((((56 : Int32) + ((3 : Int32) * (I 213 55))) - (3 : Int32)) + (2 : Int32)).toNatClampNeg) v2 : MI) fun x4 => some x4
set_option maxRecDepth 100000 in
set_option maxHeartbeats 400000 in
theorem W_MD_isKept_64 {G : MG} {Q : Option MV → MS → Prop} {L : List (Nat × Nat)} {R : Nat → Nat → Option MRef} (I : MI) (J : MJ) (v1 : Int32) (v2 : Int32) (hR : RF R) {r : MI} (hf : F_MD_isKept_64 I v1 v2 = some r) (hk : (fun r : MI => Q (none) (L, r, J, R)) r) : m_B G (m_rm 1 0 0) M_MD_isKept Q 0 0 64 [some (mR (12, 0, 177)), some (mI v1), some (mI v2), none] [] (L, I, J, R) := by
  unfold F_MD_isKept_64 at hf
  obtain ⟨g1, hf⟩ := gd_s hf
  refine b_blk (pc' := 98) (ls' := [some (mR (12, 0, 177)), some (mI v1), some (mI v2), some (mI (((56 : Int32) + ((3 : Int32) * (I 213 55))) - (3 : Int32)))]) (st' := [mI ((((56 : Int32) + ((3 : Int32) * (I 213 55))) - (3 : Int32)) + (1 : Int32)), mR (20, 176, 213)]) (S' := (L, m_up I 213 ((((56 : Int32) + ((3 : Int32) * (I 213 55))) - (3 : Int32)).toNatClampNeg) (I 213 0), J, R)) (P := (((((((True ∧ R 177 51 = some (20, 176, 213)) ∧ vp_in (55 : Int32) 176) ∧ R 177 51 = some (20, 176, 213)) ∧ R 177 51 = some (20, 176, 213)) ∧ vp_in (0 : Int32) 176) ∧ vp_in (((56 : Int32) + ((3 : Int32) * (I 213 55))) - (3 : Int32)) 176) ∧ R 177 51 = some (20, 176, 213))) [(.bipush 56, (0, 0, 0, 56, 0)), (.iconst 3, (0, 0, 0, 3, 0)), (.aload_n 0, (0, 0, 0, 0, 0)), (.getfield 121, (12, 51, 3, 0, 0)), (.bipush 55, (0, 0, 0, 55, 0)), (.iaload, (0, 0, 0, 0, 0)), (.imul, (0, 0, 0, 0, 0)), (.iadd, (0, 0, 0, 0, 0)), (.iconst 3, (0, 0, 0, 3, 0)), (.isub, (0, 0, 0, 0, 0)), (.istore_n 3, (0, 0, 0, 0, 0)), (.aload_n 0, (0, 0, 0, 0, 0)), (.getfield 121, (12, 51, 3, 0, 0)), (.iload_n 3, (0, 0, 0, 0, 0)), (.aload_n 0, (0, 0, 0, 0, 0)), (.getfield 121, (12, 51, 3, 0, 0)), (.iconst 0, (0, 0, 0, 0, 0)), (.iaload, (0, 0, 0, 0, 0)), (.iastore, (0, 0, 0, 0, 0)), (.aload_n 0, (0, 0, 0, 0, 0)), (.getfield 121, (12, 51, 3, 0, 0)), (.iload_n 3, (0, 0, 0, 0, 0)), (.iconst 1, (0, 0, 0, 1, 0)), (.iadd, (0, 0, 0, 0, 0))] [some (20, 176, 213), some (20, 176, 213), some (20, 176, 213), some (20, 176, 213)] (by decide +kernel) rfl ⟨⟨⟨⟨⟨⟨⟨trivial, (r_177_51 hR)⟩, (vp_in_nI (n := 55) (N := 176) (by decide) (by decide))⟩, (r_177_51 hR)⟩, (r_177_51 hR)⟩, (vp_in_nI (n := 0) (N := 176) (by decide) (by decide))⟩, (in_n (n := 176) (by decide) g1.1 g1.2)⟩, (r_177_51 hR)⟩ ?_
  obtain ⟨g2, hf⟩ := gd_s hf
  obtain ⟨g3, hf⟩ := gd_s hf
  refine b_blk (pc' := 109) (ls' := [some (mR (12, 0, 177)), some (mI v1), some (mI v2), some (mI (((56 : Int32) + ((3 : Int32) * (I 213 55))) - (3 : Int32)))]) (st' := []) (S' := (L, m_up (m_up (m_up I 213 ((((56 : Int32) + ((3 : Int32) * (I 213 55))) - (3 : Int32)).toNatClampNeg) (I 213 0)) 213 (((((56 : Int32) + ((3 : Int32) * (I 213 55))) - (3 : Int32)) + (1 : Int32)).toNatClampNeg) v1) 213 (((((56 : Int32) + ((3 : Int32) * (I 213 55))) - (3 : Int32)) + (2 : Int32)).toNatClampNeg) v2, J, R)) (P := (((True ∧ vp_in ((((56 : Int32) + ((3 : Int32) * (I 213 55))) - (3 : Int32)) + (1 : Int32)) 176) ∧ R 177 51 = some (20, 176, 213)) ∧ vp_in ((((56 : Int32) + ((3 : Int32) * (I 213 55))) - (3 : Int32)) + (2 : Int32)) 176)) [(.iload_n 1, (0, 0, 0, 0, 0)), (.iastore, (0, 0, 0, 0, 0)), (.aload_n 0, (0, 0, 0, 0, 0)), (.getfield 121, (12, 51, 3, 0, 0)), (.iload_n 3, (0, 0, 0, 0, 0)), (.iconst 2, (0, 0, 0, 2, 0)), (.iadd, (0, 0, 0, 0, 0)), (.iload_n 2, (0, 0, 0, 0, 0)), (.iastore, (0, 0, 0, 0, 0))] [some (20, 176, 213)] (by decide +kernel) rfl ⟨⟨⟨trivial, (in_n (n := 176) (by decide) g2.1 g2.2)⟩, (r_177_51 hR)⟩, (in_n (n := 176) (by decide) g3.1 g3.2)⟩ ?_
  obtain ⟨x4, ex4, hf⟩ := bnd_s hf
  refine m_B_cg (ls' := [some (mR (12, 0, 177)), some (mI v1), some (mI v2), some (mI (((56 : Int32) + ((3 : Int32) * (I 213 55))) - (3 : Int32)))]) (st' := []) (S' := (L, x4, J, R)) (by first | with_reducible rfl | rw [ex4]) (by first | with_reducible rfl | rw [ex4]) (by first | with_reducible rfl | rw [ex4]) ?_
  cases hf
  exact b_vret (by decide +kernel) rfl hk
noncomputable def F_MD_isKept_23 (I : MI) (v1 : Int32) (v2 : Int32) (v3 : Int32) : Option ((Int32 × MI) ⊕ (MI)) :=
  if (173 : Int32) ≤ v3 then (some (.inr I)) else (gd (v3 + (3 : Int32)) 176 <| gd v3 176 <| some (.inl ((v3 + 1 : Int32), m_up I 213 (v3.toNatClampNeg) (I 213 (v3 + (3 : Int32)).toNatClampNeg))))
set_option maxRecDepth 100000 in
set_option maxHeartbeats 400000 in
theorem W_MD_isKept_23 {G : MG} {Q : Option MV → MS → Prop} {L : List (Nat × Nat)} {R : Nat → Nat → Option MRef} (I : MI) (J : MJ) (v1 : Int32) (v2 : Int32) (v3 : Int32) (hR : RF R) {r : (Int32 × MI) ⊕ (MI)} (hf : F_MD_isKept_23 I v1 v2 v3 = some r) (hk : (Sum.elim (fun s : Int32 × MI => m_B G (m_rm 1 0 0) M_MD_isKept Q 0 0 23 [some (mR (12, 0, 177)), some (mI v1), some (mI v2), some (mI s.1)] [] (L, s.2, J, R)) (fun s : MI => m_B G (m_rm 1 0 0) M_MD_isKept Q 0 0 50 [some (mR (12, 0, 177)), some (mI v1), some (mI v2), none] [] (L, s, J, R))) r) : m_B G (m_rm 1 0 0) M_MD_isKept Q 0 0 23 [some (mR (12, 0, 177)), some (mI v1), some (mI v2), some (mI v3)] [] (L, I, J, R) := by
  unfold F_MD_isKept_23 at hf
  refine b_blk (pc' := 27) (ls' := [some (mR (12, 0, 177)), some (mI v1), some (mI v2), some (mI v3)]) (st' := [mI 173, mI v3]) (S' := (L, I, J, R)) (P := True) [(.iload_n 3, (0, 0, 0, 0, 0)), (.sipush 173, (0, 0, 0, 173, 0))] [] (by decide +kernel) rfl trivial ?_
  refine b_icmp_ge (off := 23) (tgt := 50) (by decide +kernel) (by decide) (fun h1 => ?_) (fun h1 => ?_)
  · have hf := if_t h1 hf
    refine b_frg 3 ?_
    cases hf
    exact hk
  · have hf := if_f h1 hf
    obtain ⟨g2, hf⟩ := gd_s hf
    obtain ⟨g3, hf⟩ := gd_s hf
    refine b_blk (pc' := 23) (ls' := [some (mR (12, 0, 177)), some (mI v1), some (mI v2), some (mI (v3 + 1))]) (st' := []) (S' := (L, m_up I 213 (v3.toNatClampNeg) (I 213 (v3 + (3 : Int32)).toNatClampNeg), J, R)) (P := ((((True ∧ R 177 51 = some (20, 176, 213)) ∧ R 177 51 = some (20, 176, 213)) ∧ vp_in (v3 + (3 : Int32)) 176) ∧ vp_in v3 176)) [(.aload_n 0, (0, 0, 0, 0, 0)), (.getfield 121, (12, 51, 3, 0, 0)), (.iload_n 3, (0, 0, 0, 0, 0)), (.aload_n 0, (0, 0, 0, 0, 0)), (.getfield 121, (12, 51, 3, 0, 0)), (.iload_n 3, (0, 0, 0, 0, 0)), (.iconst 3, (0, 0, 0, 3, 0)), (.iadd, (0, 0, 0, 0, 0)), (.iaload, (0, 0, 0, 0, 0)), (.iastore, (0, 0, 0, 0, 0)), (.iinc 3 1, (0, 0, 0, 1, 0)), (.goto (-24), (0, 23, 0, 0, 0))] [some (20, 176, 213), some (20, 176, 213)] (by decide +kernel) rfl ⟨⟨⟨⟨trivial, (r_177_51 hR)⟩, (r_177_51 hR)⟩, (in_n (n := 176) (by decide) g2.1 g2.2)⟩, (in_n (n := 176) (by decide) g3.1 g3.2)⟩ ?_
    cases hf
    exact hk
noncomputable def F_MD_isKept (I : MI) (v1 : Int32) (v2 : Int32) : Option (MI) :=
  if (I 177 55) = (0 : Int32) then (if (I 213 55) = (40 : Int32) then ((wl (fun s : Int32 × MI => F_MD_isKept_23 s.2 v1 v2 s.1) ((56 : Int32), I)).bind fun t3 => F_MD_isKept_64 t3 v1 v2) else (F_MD_isKept_64 (m_up I 213 55 ((I 213 55) + (1 : Int32))) v1 v2)) else (some I)
set_option maxRecDepth 100000 in
set_option maxHeartbeats 400000 in
theorem W_MD_isKept {G : MG} {Q : Option MV → MS → Prop} {L : List (Nat × Nat)} {R : Nat → Nat → Option MRef} (I : MI) (J : MJ) (v1 : Int32) (v2 : Int32) (hR : RF R) {r : MI} (hf : F_MD_isKept I v1 v2 = some r) (hk : (fun r : MI => Q (none) (L, r, J, R)) r) : m_B G (m_rm 1 0 0) M_MD_isKept Q 0 0 0 [some (mR (12, 0, 177)), some (mI v1), some (mI v2), none] [] (L, I, J, R) := by
  unfold F_MD_isKept at hf
  refine b_blk (pc' := 4) (ls' := [some (mR (12, 0, 177)), some (mI v1), some (mI v2), none]) (st' := [mI (I 177 55)]) (S' := (L, I, J, R)) (P := True) [(.aload_n 0, (0, 0, 0, 0, 0)), (.getfield 423, (12, 55, 1, 0, 0))] [] (by decide +kernel) rfl trivial ?_
  refine b_if_eq (off := 4) (tgt := 8) (by decide +kernel) (by decide) (fun h1 => ?_) (fun h1 => ?_)
  · have hf := if_t h1 hf
    refine b_blk (pc' := 17) (ls' := [some (mR (12, 0, 177)), some (mI v1), some (mI v2), none]) (st' := [mI 40, mI (I 213 55)]) (S' := (L, I, J, R)) (P := ((True ∧ R 177 51 = some (20, 176, 213)) ∧ vp_in (55 : Int32) 176)) [(.aload_n 0, (0, 0, 0, 0, 0)), (.getfield 121, (12, 51, 3, 0, 0)), (.bipush 55, (0, 0, 0, 55, 0)), (.iaload, (0, 0, 0, 0, 0)), (.bipush 40, (0, 0, 0, 40, 0))] [some (20, 176, 213)] (by decide +kernel) rfl ⟨⟨trivial, (r_177_51 hR)⟩, (vp_in_nI (n := 55) (N := 176) (by decide) (by decide))⟩ ?_
    refine b_icmp_ne (off := 36) (tgt := 53) (by decide +kernel) (by decide) (fun h2 => ?_) (fun h2 => ?_)
    · have hf := if_f h2 hf
      refine b_blk (pc' := 64) (ls' := [some (mR (12, 0, 177)), some (mI v1), some (mI v2), none]) (st' := []) (S' := (L, m_up I 213 55 ((I 213 55) + (1 : Int32)), J, R)) (P := (((True ∧ R 177 51 = some (20, 176, 213)) ∧ vp_in (55 : Int32) 176) ∧ vp_in (55 : Int32) 176)) [(.aload_n 0, (0, 0, 0, 0, 0)), (.getfield 121, (12, 51, 3, 0, 0)), (.bipush 55, (0, 0, 0, 55, 0)), (.dup2, (0, 0, 0, 0, 0)), (.iaload, (0, 0, 0, 0, 0)), (.iconst 1, (0, 0, 0, 1, 0)), (.iadd, (0, 0, 0, 0, 0)), (.iastore, (0, 0, 0, 0, 0))] [some (20, 176, 213)] (by decide +kernel) rfl ⟨⟨⟨trivial, (r_177_51 hR)⟩, (vp_in_nI (n := 55) (N := 176) (by decide) (by decide))⟩, (vp_in_nI (n := 55) (N := 176) (by decide) (by decide))⟩ ?_
      exact m_B_cg rfl rfl rfl (W_MD_isKept_64 (m_up I 213 55 ((I 213 55) + (1 : Int32))) J v1 v2 hR hf hk)
    · have hf := if_t h2 hf
      refine b_blk (pc' := 23) (ls' := [some (mR (12, 0, 177)), some (mI v1), some (mI v2), some (mI 56)]) (st' := []) (S' := (L, I, J, R)) (P := True) [(.bipush 56, (0, 0, 0, 56, 0)), (.istore_n 3, (0, 0, 0, 0, 0))] [] (by decide +kernel) rfl trivial ?_
      obtain ⟨t3, hw, hf⟩ := bnd_o hf
      refine wl_B (A := fun s : Int32 × MI => m_B G (m_rm 1 0 0) M_MD_isKept Q 0 0 23 [some (mR (12, 0, 177)), some (mI v1), some (mI v2), some (mI s.1)] [] (L, s.2, J, R)) (B := (fun s : MI => m_B G (m_rm 1 0 0) M_MD_isKept Q 0 0 50 [some (mR (12, 0, 177)), some (mI v1), some (mI v2), none] [] (L, s, J, R))) (fun s r hs hr => W_MD_isKept_23 s.2 J v1 v2 s.1 hR hs hr) hw ?_
      show m_B G (m_rm 1 0 0) M_MD_isKept Q 0 0 50 [some (mR (12, 0, 177)), some (mI v1), some (mI v2), none] [] (L, t3, J, R)
      refine b_blk (pc' := 64) (ls' := [some (mR (12, 0, 177)), some (mI v1), some (mI v2), none]) (st' := []) (S' := (L, t3, J, R)) (P := True) [(.goto 14, (0, 64, 0, 0, 0))] [] (by decide +kernel) rfl trivial ?_
      exact m_B_cg rfl rfl rfl (W_MD_isKept_64 t3 J v1 v2 hR hf hk)
  · have hf := if_f h1 hf
    cases hf
    exact b_vret (by decide +kernel) rfl hk
theorem C_MD_isKept {G : MG} {L : List (Nat × Nat)} {R : Nat → Nat → Option MRef} (I : MI) (J : MJ) (v1 : Int32) (v2 : Int32) (hR : RF R) {r : MI} (hf : F_MD_isKept I v1 v2 = some r) : m_met G 1 0 0 y_MD_isKept M_MD_isKept [mR (12, 0, 177), mI v1, mI v2] (L, I, J, R) (m_is (none) (L, r, J, R)) :=
  m_met_in n_MD_isKept (plainFor_of_name (by decide)) (by decide) (Nat.le_of_ble_eq_true rfl) (ls := [some (mR (12, 0, 177)), some (mI v1), some (mI v2), none]) rfl (W_MD_isKept I J v1 v2 hR hf ⟨rfl, rfl⟩)
noncomputable def F_MD_rowIs (I : MI) (v1 : Int32) (v2 : Int32) (v3 : Int32) : Option (MI) :=
  gd ((((7 : Int32) + ((8 : Int32) * v1)) + (2 : Int32)) + v2) 176 <| some (m_up I 213 (((((7 : Int32) + ((8 : Int32) * v1)) + (2 : Int32)) + v2).toNatClampNeg) v3)
set_option maxRecDepth 100000 in
set_option maxHeartbeats 400000 in
theorem W_MD_rowIs {G : MG} {Q : Option MV → MS → Prop} {L : List (Nat × Nat)} {R : Nat → Nat → Option MRef} (I : MI) (J : MJ) (v1 : Int32) (v2 : Int32) (v3 : Int32) (hR : RF R) {r : MI} (hf : F_MD_rowIs I v1 v2 v3 = some r) (hk : (fun r : MI => Q (none) (L, r, J, R)) r) : m_B G (m_rm 1 0 0) M_MD_rowIs Q 0 0 0 [some (mR (12, 0, 177)), some (mI v1), some (mI v2), some (mI v3)] [] (L, I, J, R) := by
  unfold F_MD_rowIs at hf
  obtain ⟨g1, hf⟩ := gd_s hf
  refine b_blk (pc' := 17) (ls' := [some (mR (12, 0, 177)), some (mI v1), some (mI v2), some (mI v3)]) (st' := []) (S' := (L, m_up I 213 (((((7 : Int32) + ((8 : Int32) * v1)) + (2 : Int32)) + v2).toNatClampNeg) v3, J, R)) (P := ((True ∧ R 177 51 = some (20, 176, 213)) ∧ vp_in ((((7 : Int32) + ((8 : Int32) * v1)) + (2 : Int32)) + v2) 176)) [(.aload_n 0, (0, 0, 0, 0, 0)), (.getfield 121, (12, 51, 3, 0, 0)), (.bipush 7, (0, 0, 0, 7, 0)), (.bipush 8, (0, 0, 0, 8, 0)), (.iload_n 1, (0, 0, 0, 0, 0)), (.imul, (0, 0, 0, 0, 0)), (.iadd, (0, 0, 0, 0, 0)), (.iconst 2, (0, 0, 0, 2, 0)), (.iadd, (0, 0, 0, 0, 0)), (.iload_n 2, (0, 0, 0, 0, 0)), (.iadd, (0, 0, 0, 0, 0)), (.iload_n 3, (0, 0, 0, 0, 0)), (.iastore, (0, 0, 0, 0, 0))] [some (20, 176, 213)] (by decide +kernel) rfl ⟨⟨trivial, (r_177_51 hR)⟩, (in_n (n := 176) (by decide) g1.1 g1.2)⟩ ?_
  cases hf
  exact b_vret (by decide +kernel) rfl hk
theorem C_MD_rowIs {G : MG} {L : List (Nat × Nat)} {R : Nat → Nat → Option MRef} (I : MI) (J : MJ) (v1 : Int32) (v2 : Int32) (v3 : Int32) (hR : RF R) {r : MI} (hf : F_MD_rowIs I v1 v2 v3 = some r) : m_met G 1 0 0 y_MD_rowIs M_MD_rowIs [mR (12, 0, 177), mI v1, mI v2, mI v3] (L, I, J, R) (m_is (none) (L, r, J, R)) :=
  m_met_in n_MD_rowIs (plainFor_of_name (by decide)) (by decide) (Nat.le_of_ble_eq_true rfl) (ls := [some (mR (12, 0, 177)), some (mI v1), some (mI v2), some (mI v3)]) rfl (W_MD_rowIs I J v1 v2 v3 hR hf ⟨rfl, rfl⟩)
noncomputable def F_MD_isSet_15 (I : MI) (v1 : Int32) (v2 : Int32) : Option ((Int32 × MI) ⊕ (MI)) :=
  if (I 204 2) ≤ v2 then (some (.inr I)) else ((F_MD_rowIs I v1 v2 (0 : Int32)).bind fun r2 => some (.inl ((v2 + 1 : Int32), r2)))
set_option maxRecDepth 100000 in
set_option maxHeartbeats 400000 in
theorem W_MD_isSet_15 {G : MG} {Q : Option MV → MS → Prop} {L : List (Nat × Nat)} {R : Nat → Nat → Option MRef} (I : MI) (J : MJ) (v1 : Int32) (v2 : Int32) (hR : RF R) {r : (Int32 × MI) ⊕ (MI)} (hf : F_MD_isSet_15 I v1 v2 = some r) (hk : (Sum.elim (fun s : Int32 × MI => m_B G (m_rm 2 0 0) M_MD_isSet Q 0 0 15 [some (mR (12, 0, 177)), some (mI v1), some (mI s.1)] [] (L, s.2, J, R)) (fun s : MI => m_B G (m_rm 2 0 0) M_MD_isSet Q 0 0 38 [none, none, none] [] (L, s, J, R))) r) : m_B G (m_rm 2 0 0) M_MD_isSet Q 0 0 15 [some (mR (12, 0, 177)), some (mI v1), some (mI v2)] [] (L, I, J, R) := by
  unfold F_MD_isSet_15 at hf
  refine b_blk (pc' := 22) (ls' := [some (mR (12, 0, 177)), some (mI v1), some (mI v2)]) (st' := [mI (I 204 2), mI v2]) (S' := (L, I, J, R)) (P := ((True ∧ R 177 36 = some (20, 4, 204)) ∧ vp_in (2 : Int32) 4)) [(.iload_n 2, (0, 0, 0, 0, 0)), (.aload_n 0, (0, 0, 0, 0, 0)), (.getfield 93, (12, 36, 3, 0, 0)), (.iconst 2, (0, 0, 0, 2, 0)), (.iaload, (0, 0, 0, 0, 0))] [some (20, 4, 204)] (by decide +kernel) rfl ⟨⟨trivial, (r_177_36 hR)⟩, (vp_in_nI (n := 2) (N := 4) (by decide) (by decide))⟩ ?_
  refine b_icmp_ge (off := 16) (tgt := 38) (by decide +kernel) (by decide) (fun h1 => ?_) (fun h1 => ?_)
  · have hf := if_t h1 hf
    refine b_frg 0 ?_
    refine b_frg 1 ?_
    refine b_frg 2 ?_
    cases hf
    exact hk
  · have hf := if_f h1 hf
    refine b_blk (pc' := 29) (ls' := [some (mR (12, 0, 177)), some (mI v1), some (mI v2)]) (st' := [mI 0, mI v2, mI v1, mR (12, 0, 177)]) (S' := (L, I, J, R)) (P := True) [(.aload_n 0, (0, 0, 0, 0, 0)), (.iload_n 1, (0, 0, 0, 0, 0)), (.iload_n 2, (0, 0, 0, 0, 0)), (.iconst 0, (0, 0, 0, 0, 0))] [] (by decide +kernel) rfl trivial ?_
    obtain ⟨r2, hc2, hf⟩ := bnd_o hf
    refine b_cV (as := [mI v1, mI v2, mI 0]) (st := []) (by decide +kernel) k_12_426 n_MD_rowIs rfl (by decide) v_MD_rowIs (C_MD_rowIs I J v1 v2 (0 : Int32) hR hc2) (Nat.le_of_ble_eq_true rfl) (by decide) rfl rfl (fun _ h => h) ?_
    show m_B G (m_rm 2 0 0) M_MD_isSet Q 0 0 32 [some (mR (12, 0, 177)), some (mI v1), some (mI v2)] [] (L, r2, J, R)
    refine b_blk (pc' := 15) (ls' := [some (mR (12, 0, 177)), some (mI v1), some (mI (v2 + 1))]) (st' := []) (S' := (L, r2, J, R)) (P := True) [(.iinc 2 1, (0, 0, 0, 1, 0)), (.goto (-20), (0, 15, 0, 0, 0))] [] (by decide +kernel) rfl trivial ?_
    cases hf
    exact hk
noncomputable def F_MD_isSet (I : MI) (v1 : Int32) : Option (MI) :=
  gd ((7 : Int32) + ((8 : Int32) * v1)) 176 <| (wl (fun s : Int32 × MI => F_MD_isSet_15 s.2 v1 s.1) ((0 : Int32), m_up I 213 (((7 : Int32) + ((8 : Int32) * v1)).toNatClampNeg) (0 : Int32))).bind fun t2 => some t2
set_option maxRecDepth 100000 in
set_option maxHeartbeats 400000 in
theorem W_MD_isSet {G : MG} {Q : Option MV → MS → Prop} {L : List (Nat × Nat)} {R : Nat → Nat → Option MRef} (I : MI) (J : MJ) (v1 : Int32) (hR : RF R) {r : MI} (hf : F_MD_isSet I v1 = some r) (hk : (fun r : MI => Q (none) (L, r, J, R)) r) : m_B G (m_rm 2 0 0) M_MD_isSet Q 0 0 0 [some (mR (12, 0, 177)), some (mI v1), none] [] (L, I, J, R) := by
  unfold F_MD_isSet at hf
  obtain ⟨g1, hf⟩ := gd_s hf
  refine b_blk (pc' := 15) (ls' := [some (mR (12, 0, 177)), some (mI v1), some (mI 0)]) (st' := []) (S' := (L, m_up I 213 (((7 : Int32) + ((8 : Int32) * v1)).toNatClampNeg) (0 : Int32), J, R)) (P := ((True ∧ R 177 51 = some (20, 176, 213)) ∧ vp_in ((7 : Int32) + ((8 : Int32) * v1)) 176)) [(.aload_n 0, (0, 0, 0, 0, 0)), (.getfield 121, (12, 51, 3, 0, 0)), (.bipush 7, (0, 0, 0, 7, 0)), (.bipush 8, (0, 0, 0, 8, 0)), (.iload_n 1, (0, 0, 0, 0, 0)), (.imul, (0, 0, 0, 0, 0)), (.iadd, (0, 0, 0, 0, 0)), (.iconst 0, (0, 0, 0, 0, 0)), (.iastore, (0, 0, 0, 0, 0)), (.iconst 0, (0, 0, 0, 0, 0)), (.istore_n 2, (0, 0, 0, 0, 0))] [some (20, 176, 213)] (by decide +kernel) rfl ⟨⟨trivial, (r_177_51 hR)⟩, (in_n (n := 176) (by decide) g1.1 g1.2)⟩ ?_
  obtain ⟨t2, hw, hf⟩ := bnd_o hf
  refine wl_B (A := fun s : Int32 × MI => m_B G (m_rm 2 0 0) M_MD_isSet Q 0 0 15 [some (mR (12, 0, 177)), some (mI v1), some (mI s.1)] [] (L, s.2, J, R)) (B := (fun s : MI => m_B G (m_rm 2 0 0) M_MD_isSet Q 0 0 38 [none, none, none] [] (L, s, J, R))) (fun s r hs hr => W_MD_isSet_15 s.2 J v1 s.1 hR hs hr) hw ?_
  show m_B G (m_rm 2 0 0) M_MD_isSet Q 0 0 38 [none, none, none] [] (L, t2, J, R)
  cases hf
  exact b_vret (by decide +kernel) rfl hk
theorem C_MD_isSet {G : MG} {L : List (Nat × Nat)} {R : Nat → Nat → Option MRef} (I : MI) (J : MJ) (v1 : Int32) (hR : RF R) {r : MI} (hf : F_MD_isSet I v1 = some r) : m_met G 2 0 0 y_MD_isSet M_MD_isSet [mR (12, 0, 177), mI v1] (L, I, J, R) (m_is (none) (L, r, J, R)) :=
  m_met_in n_MD_isSet (plainFor_of_name (by decide)) (by decide) (Nat.le_of_ble_eq_true rfl) (ls := [some (mR (12, 0, 177)), some (mI v1), none]) rfl (W_MD_isSet I J v1 hR hf ⟨rfl, rfl⟩)
noncomputable def F_MD_isGone (I : MI) (v1 : Int32) (v2 : Int32) : Option (MI) :=
  (F_MD_rowIs I v1 v2 (-1 : Int32)).bind fun r1 => (F_MD_isKept (m_up r1 177 56 ((r1 177 56) + (1 : Int32))) v1 v2).bind fun r2 => some r2
set_option maxRecDepth 100000 in
set_option maxHeartbeats 400000 in
theorem W_MD_isGone {G : MG} {Q : Option MV → MS → Prop} {L : List (Nat × Nat)} {R : Nat → Nat → Option MRef} (I : MI) (J : MJ) (v1 : Int32) (v2 : Int32) (hR : RF R) {r : MI} (hf : F_MD_isGone I v1 v2 = some r) (hk : (fun r : MI => Q (none) (L, r, J, R)) r) : m_B G (m_rm 2 0 0) M_MD_isGone Q 0 0 0 [some (mR (12, 0, 177)), some (mI v1), some (mI v2)] [] (L, I, J, R) := by
  unfold F_MD_isGone at hf
  refine b_blk (pc' := 4) (ls' := [some (mR (12, 0, 177)), some (mI v1), some (mI v2)]) (st' := [mI (-1), mI v2, mI v1, mR (12, 0, 177)]) (S' := (L, I, J, R)) (P := True) [(.aload_n 0, (0, 0, 0, 0, 0)), (.iload_n 1, (0, 0, 0, 0, 0)), (.iload_n 2, (0, 0, 0, 0, 0)), (.iconst (-1), (0, 0, 0, (-1), 0))] [] (by decide +kernel) rfl trivial ?_
  obtain ⟨r1, hc1, hf⟩ := bnd_o hf
  refine b_cV (as := [mI v1, mI v2, mI (-1)]) (st := []) (by decide +kernel) k_12_426 n_MD_rowIs rfl (by decide) v_MD_rowIs (C_MD_rowIs I J v1 v2 (-1 : Int32) hR hc1) (Nat.le_of_ble_eq_true rfl) (by decide) rfl rfl (fun _ h => h) ?_
  show m_B G (m_rm 2 0 0) M_MD_isGone Q 0 0 7 [some (mR (12, 0, 177)), some (mI v1), some (mI v2)] [] (L, r1, J, R)
  refine b_blk (pc' := 20) (ls' := [some (mR (12, 0, 177)), some (mI v1), some (mI v2)]) (st' := [mI v2, mI v1, mR (12, 0, 177)]) (S' := (L, m_up r1 177 56 ((r1 177 56) + (1 : Int32)), J, R)) (P := True) [(.aload_n 0, (0, 0, 0, 0, 0)), (.dup, (0, 0, 0, 0, 0)), (.getfield 430, (12, 56, 0, 0, 0)), (.iconst 1, (0, 0, 0, 1, 0)), (.iadd, (0, 0, 0, 0, 0)), (.putfield 430, (12, 56, 0, 0, 0)), (.aload_n 0, (0, 0, 0, 0, 0)), (.iload_n 1, (0, 0, 0, 0, 0)), (.iload_n 2, (0, 0, 0, 0, 0))] [] (by decide +kernel) rfl trivial ?_
  obtain ⟨r2, hc2, hf⟩ := bnd_o hf
  refine b_cV (as := [mI v1, mI v2]) (st := []) (by decide +kernel) k_12_433 n_MD_isKept rfl (by decide) v_MD_isKept (C_MD_isKept (m_up r1 177 56 ((r1 177 56) + (1 : Int32))) J v1 v2 hR hc2) (Nat.le_of_ble_eq_true rfl) (by decide) rfl rfl (fun _ h => h) ?_
  show m_B G (m_rm 2 0 0) M_MD_isGone Q 0 0 23 [some (mR (12, 0, 177)), some (mI v1), some (mI v2)] [] (L, r2, J, R)
  cases hf
  exact b_vret (by decide +kernel) rfl hk
theorem C_MD_isGone {G : MG} {L : List (Nat × Nat)} {R : Nat → Nat → Option MRef} (I : MI) (J : MJ) (v1 : Int32) (v2 : Int32) (hR : RF R) {r : MI} (hf : F_MD_isGone I v1 v2 = some r) : m_met G 2 0 0 y_MD_isGone M_MD_isGone [mR (12, 0, 177), mI v1, mI v2] (L, I, J, R) (m_is (none) (L, r, J, R)) :=
  m_met_in n_MD_isGone (plainFor_of_name (by decide)) (by decide) (Nat.le_of_ble_eq_true rfl) (ls := [some (mR (12, 0, 177)), some (mI v1), some (mI v2)]) rfl (W_MD_isGone I J v1 v2 hR hf ⟨rfl, rfl⟩)
noncomputable def F_MD_stakeWalks_3 (I : MI) (v1 : Int32) (v2 : Int32) (v3 : Int32) (v4 : Int32) : Option ((Int32 × MI) ⊕ ((MI) ⊕ (MI))) :=
  if v3 ≤ v4 then (some (.inr (.inl I))) else ((F_MD_rowOf I v1 v2).bind fun r2 => (F_MD_isPost I v2 r2).bind fun r3 => if r3 = (0 : Int32) then (if (r2 + (1 : Int32)) = (I 204 3) then ((F_MD_isGone I v1 v2).bind fun r7 => some (.inr (.inr r7))) else ((F_MD_rowIs I v1 v2 (r2 + (1 : Int32))).bind fun r6 => some (.inl ((v4 + 1 : Int32), r6)))) else (some (.inr (.inr I))))
set_option maxRecDepth 100000 in
set_option maxHeartbeats 400000 in
theorem W_MD_stakeWalks_3 {G : MG} {Q : Option MV → MS → Prop} {L : List (Nat × Nat)} {R : Nat → Nat → Option MRef} (I : MI) (J : MJ) (v1 : Int32) (v2 : Int32) (v3 : Int32) (v4 : Int32) (hR : RF R) {r : (Int32 × MI) ⊕ ((MI) ⊕ (MI))} (hf : F_MD_stakeWalks_3 I v1 v2 v3 v4 = some r) (hk : (Sum.elim (fun s : Int32 × MI => m_B G (m_rm 3 0 0) M_MD_stakeWalks Q 0 0 3 [some (mR (12, 0, 177)), some (mI v1), some (mI v2), some (mI v3), some (mI s.1), none] [] (L, s.2, J, R)) (Sum.elim (fun s : MI => m_B G (m_rm 3 0 0) M_MD_stakeWalks Q 0 0 64 [none, none, none, none, none, none] [] (L, s, J, R)) (fun r : MI => Q (none) (L, r, J, R)))) r) : m_B G (m_rm 3 0 0) M_MD_stakeWalks Q 0 0 3 [some (mR (12, 0, 177)), some (mI v1), some (mI v2), some (mI v3), some (mI v4), none] [] (L, I, J, R) := by
  unfold F_MD_stakeWalks_3 at hf
  refine b_blk (pc' := 6) (ls' := [some (mR (12, 0, 177)), some (mI v1), some (mI v2), some (mI v3), some (mI v4), none]) (st' := [mI v3, mI v4]) (S' := (L, I, J, R)) (P := True) [(.iload 4, (0, 0, 0, 0, 0)), (.iload_n 3, (0, 0, 0, 0, 0))] [] (by decide +kernel) rfl trivial ?_
  refine b_icmp_ge (off := 58) (tgt := 64) (by decide +kernel) (by decide) (fun h1 => ?_) (fun h1 => ?_)
  · have hf := if_t h1 hf
    refine b_frg 0 ?_
    refine b_frg 1 ?_
    refine b_frg 2 ?_
    refine b_frg 3 ?_
    refine b_frg 4 ?_
    cases hf
    exact hk
  · have hf := if_f h1 hf
    refine b_blk (pc' := 12) (ls' := [some (mR (12, 0, 177)), some (mI v1), some (mI v2), some (mI v3), some (mI v4), none]) (st' := [mI v2, mI v1, mR (12, 0, 177)]) (S' := (L, I, J, R)) (P := True) [(.aload_n 0, (0, 0, 0, 0, 0)), (.iload_n 1, (0, 0, 0, 0, 0)), (.iload_n 2, (0, 0, 0, 0, 0))] [] (by decide +kernel) rfl trivial ?_
    obtain ⟨r2, hc2, hf⟩ := bnd_o hf
    refine b_cV (as := [mI v1, mI v2]) (st := []) (by decide +kernel) k_12_392 n_MD_rowOf rfl (by decide) v_MD_rowOf (C_MD_rowOf I J v1 v2 hR hc2) (Nat.le_of_ble_eq_true rfl) (by decide) rfl rfl (fun _ h => h) ?_
    show m_B G (m_rm 3 0 0) M_MD_stakeWalks Q 0 0 15 [some (mR (12, 0, 177)), some (mI v1), some (mI v2), some (mI v3), some (mI v4), none] [mI r2] (L, I, J, R)
    refine b_blk (pc' := 21) (ls' := [some (mR (12, 0, 177)), some (mI v1), some (mI v2), some (mI v3), some (mI v4), some (mI r2)]) (st' := [mI r2, mI v2, mR (12, 0, 177)]) (S' := (L, I, J, R)) (P := True) [(.istore 5, (0, 0, 0, 0, 0)), (.aload_n 0, (0, 0, 0, 0, 0)), (.iload_n 2, (0, 0, 0, 0, 0)), (.iload 5, (0, 0, 0, 0, 0))] [] (by decide +kernel) rfl trivial ?_
    obtain ⟨r3, hc3, hf⟩ := bnd_o hf
    refine b_cV (as := [mI v2, mI r2]) (st := []) (by decide +kernel) k_12_436 n_MD_isPost rfl (by decide) v_MD_isPost (C_MD_isPost I J v2 r2 hR hc3) (Nat.le_of_ble_eq_true rfl) (by decide) rfl rfl (fun _ h => h) ?_
    show m_B G (m_rm 3 0 0) M_MD_stakeWalks Q 0 0 24 [some (mR (12, 0, 177)), some (mI v1), some (mI v2), some (mI v3), some (mI v4), some (mI r2)] [mI r3] (L, I, J, R)
    refine b_if_eq (off := 4) (tgt := 28) (by decide +kernel) (by decide) (fun h4 => ?_) (fun h4 => ?_)
    · have hf := if_t h4 hf
      refine b_blk (pc' := 38) (ls' := [some (mR (12, 0, 177)), some (mI v1), some (mI v2), some (mI v3), some (mI v4), some (mI r2)]) (st' := [mI (I 204 3), mI (r2 + (1 : Int32))]) (S' := (L, I, J, R)) (P := ((True ∧ R 177 36 = some (20, 4, 204)) ∧ vp_in (3 : Int32) 4)) [(.iload 5, (0, 0, 0, 0, 0)), (.iconst 1, (0, 0, 0, 1, 0)), (.iadd, (0, 0, 0, 0, 0)), (.aload_n 0, (0, 0, 0, 0, 0)), (.getfield 93, (12, 36, 3, 0, 0)), (.iconst 3, (0, 0, 0, 3, 0)), (.iaload, (0, 0, 0, 0, 0))] [some (20, 4, 204)] (by decide +kernel) rfl ⟨⟨trivial, (r_177_36 hR)⟩, (vp_in_nI (n := 3) (N := 4) (by decide) (by decide))⟩ ?_
      refine b_icmp_ne (off := 10) (tgt := 48) (by decide +kernel) (by decide) (fun h5 => ?_) (fun h5 => ?_)
      · have hf := if_f h5 hf
        refine b_blk (pc' := 55) (ls' := [some (mR (12, 0, 177)), some (mI v1), some (mI v2), some (mI v3), some (mI v4), some (mI r2)]) (st' := [mI (r2 + (1 : Int32)), mI v2, mI v1, mR (12, 0, 177)]) (S' := (L, I, J, R)) (P := True) [(.aload_n 0, (0, 0, 0, 0, 0)), (.iload_n 1, (0, 0, 0, 0, 0)), (.iload_n 2, (0, 0, 0, 0, 0)), (.iload 5, (0, 0, 0, 0, 0)), (.iconst 1, (0, 0, 0, 1, 0)), (.iadd, (0, 0, 0, 0, 0))] [] (by decide +kernel) rfl trivial ?_
        obtain ⟨r6, hc6, hf⟩ := bnd_o hf
        refine b_cV (as := [mI v1, mI v2, mI (r2 + (1 : Int32))]) (st := []) (by decide +kernel) k_12_426 n_MD_rowIs rfl (by decide) v_MD_rowIs (C_MD_rowIs I J v1 v2 (r2 + (1 : Int32)) hR hc6) (Nat.le_of_ble_eq_true rfl) (by decide) rfl rfl (fun _ h => h) ?_
        show m_B G (m_rm 3 0 0) M_MD_stakeWalks Q 0 0 58 [some (mR (12, 0, 177)), some (mI v1), some (mI v2), some (mI v3), some (mI v4), some (mI r2)] [] (L, r6, J, R)
        refine b_blk (pc' := 3) (ls' := [some (mR (12, 0, 177)), some (mI v1), some (mI v2), some (mI v3), some (mI (v4 + 1)), some (mI r2)]) (st' := []) (S' := (L, r6, J, R)) (P := True) [(.iinc 4 1, (0, 0, 0, 1, 0)), (.goto (-58), (0, 3, 0, 0, 0))] [] (by decide +kernel) rfl trivial ?_
        refine b_frg 5 ?_
        cases hf
        exact hk
      · have hf := if_t h5 hf
        refine b_blk (pc' := 44) (ls' := [some (mR (12, 0, 177)), some (mI v1), some (mI v2), some (mI v3), some (mI v4), some (mI r2)]) (st' := [mI v2, mI v1, mR (12, 0, 177)]) (S' := (L, I, J, R)) (P := True) [(.aload_n 0, (0, 0, 0, 0, 0)), (.iload_n 1, (0, 0, 0, 0, 0)), (.iload_n 2, (0, 0, 0, 0, 0))] [] (by decide +kernel) rfl trivial ?_
        obtain ⟨r7, hc7, hf⟩ := bnd_o hf
        refine b_cV (as := [mI v1, mI v2]) (st := []) (by decide +kernel) k_12_440 n_MD_isGone rfl (by decide) v_MD_isGone (C_MD_isGone I J v1 v2 hR hc7) (Nat.le_of_ble_eq_true rfl) (by decide) rfl rfl (fun _ h => h) ?_
        show m_B G (m_rm 3 0 0) M_MD_stakeWalks Q 0 0 47 [some (mR (12, 0, 177)), some (mI v1), some (mI v2), some (mI v3), some (mI v4), some (mI r2)] [] (L, r7, J, R)
        cases hf
        exact b_vret (by decide +kernel) rfl hk
    · have hf := if_f h4 hf
      cases hf
      exact b_vret (by decide +kernel) rfl hk
noncomputable def F_MD_stakeWalks (I : MI) (v1 : Int32) (v2 : Int32) (v3 : Int32) : Option (MI) :=
  (wl (fun s : Int32 × MI => F_MD_stakeWalks_3 s.2 v1 v2 v3 s.1) ((0 : Int32), I)).bind <| sel (fun q => some q) fun t1 => some t1
set_option maxRecDepth 100000 in
set_option maxHeartbeats 400000 in
theorem W_MD_stakeWalks {G : MG} {Q : Option MV → MS → Prop} {L : List (Nat × Nat)} {R : Nat → Nat → Option MRef} (I : MI) (J : MJ) (v1 : Int32) (v2 : Int32) (v3 : Int32) (hR : RF R) {r : MI} (hf : F_MD_stakeWalks I v1 v2 v3 = some r) (hk : (fun r : MI => Q (none) (L, r, J, R)) r) : m_B G (m_rm 3 0 0) M_MD_stakeWalks Q 0 0 0 [some (mR (12, 0, 177)), some (mI v1), some (mI v2), some (mI v3), none, none] [] (L, I, J, R) := by
  unfold F_MD_stakeWalks at hf
  refine b_blk (pc' := 3) (ls' := [some (mR (12, 0, 177)), some (mI v1), some (mI v2), some (mI v3), some (mI 0), none]) (st' := []) (S' := (L, I, J, R)) (P := True) [(.iconst 0, (0, 0, 0, 0, 0)), (.istore 4, (0, 0, 0, 0, 0))] [] (by decide +kernel) rfl trivial ?_
  obtain ⟨t1, hw, hf⟩ := bnd_o hf
  refine wl_B (A := fun s : Int32 × MI => m_B G (m_rm 3 0 0) M_MD_stakeWalks Q 0 0 3 [some (mR (12, 0, 177)), some (mI v1), some (mI v2), some (mI v3), some (mI s.1), none] [] (L, s.2, J, R)) (B := (Sum.elim (fun s : MI => m_B G (m_rm 3 0 0) M_MD_stakeWalks Q 0 0 64 [none, none, none, none, none, none] [] (L, s, J, R)) (fun r : MI => Q (none) (L, r, J, R)))) (fun s r hs hr => W_MD_stakeWalks_3 s.2 J v1 v2 v3 s.1 hR hs hr) hw ?_
  rcases t1 with t1 | q
  rotate_left
  · cases se_r hf; exact hk
  replace hf := se_l hf
  show m_B G (m_rm 3 0 0) M_MD_stakeWalks Q 0 0 64 [none, none, none, none, none, none] [] (L, t1, J, R)
  cases hf
  exact b_vret (by decide +kernel) rfl hk
theorem C_MD_stakeWalks {G : MG} {L : List (Nat × Nat)} {R : Nat → Nat → Option MRef} (I : MI) (J : MJ) (v1 : Int32) (v2 : Int32) (v3 : Int32) (hR : RF R) {r : MI} (hf : F_MD_stakeWalks I v1 v2 v3 = some r) : m_met G 3 0 0 y_MD_stakeWalks M_MD_stakeWalks [mR (12, 0, 177), mI v1, mI v2, mI v3] (L, I, J, R) (m_is (none) (L, r, J, R)) :=
  m_met_in n_MD_stakeWalks (plainFor_of_name (by decide)) (by decide) (Nat.le_of_ble_eq_true rfl) (ls := [some (mR (12, 0, 177)), some (mI v1), some (mI v2), some (mI v3), none, none]) rfl (W_MD_stakeWalks I J v1 v2 v3 hR hf ⟨rfl, rfl⟩)
noncomputable def F_MD_yearGoes_12 (I : MI) (J : MJ) (v1 : Int32) (v2 : Int32) : Option ((Int32 × MI × MJ) ⊕ (MI × MJ)) :=
  if (I 204 2) ≤ v2 then (some (.inr (I, J))) else ((F_MD_isCut I v1).bind fun r2 => if r2 = (0 : Int32) then ((F_MD_rowOf I v1 v2).bind fun r5 => if r5 = (-1 : Int32) then (gd (((6 : Int32) * v1) + v2) 36 <| some (.inl ((v2 + 1 : Int32), m_up I 215 ((((6 : Int32) * v1) + v2).toNatClampNeg) (0 : Int32), J))) else ((F_MD_walkOf I J v1 v2).bind fun r7 => gd (((6 : Int32) * v1) + v2) 36 <| some (.inl ((v2 + 1 : Int32), m_up r7.2.1 215 ((((6 : Int32) * v1) + v2).toNatClampNeg) r7.1, r7.2.2)))) else (gd (((6 : Int32) * v1) + v2) 36 <| some (.inl ((v2 + 1 : Int32), m_up I 215 ((((6 : Int32) * v1) + v2).toNatClampNeg) (0 : Int32), J))))
set_option maxRecDepth 100000 in
set_option maxHeartbeats 400000 in
theorem W_MD_yearGoes_12 {G : MG} {Q : Option MV → MS → Prop} {L : List (Nat × Nat)} {R : Nat → Nat → Option MRef} (I : MI) (J : MJ) (v1 : Int32) (v2 : Int32) (hR : RF R) {r : (Int32 × MI × MJ) ⊕ (MI × MJ)} (hf : F_MD_yearGoes_12 I J v1 v2 = some r) (hk : (Sum.elim (fun s : Int32 × MI × MJ => m_B G (m_rm 7 0 0) M_MD_yearGoes Q 0 0 12 [some (mR (12, 0, 177)), some (mI v1), some (mI s.1)] [] (L, s.2.1, s.2.2, R)) (fun s : MI × MJ => m_B G (m_rm 7 0 0) M_MD_yearGoes Q 0 0 67 [some (mR (12, 0, 177)), some (mI v1), none] [] (L, s.1, s.2, R))) r) : m_B G (m_rm 7 0 0) M_MD_yearGoes Q 0 0 12 [some (mR (12, 0, 177)), some (mI v1), some (mI v2)] [] (L, I, J, R) := by
  unfold F_MD_yearGoes_12 at hf
  refine b_blk (pc' := 19) (ls' := [some (mR (12, 0, 177)), some (mI v1), some (mI v2)]) (st' := [mI (I 204 2), mI v2]) (S' := (L, I, J, R)) (P := ((True ∧ R 177 36 = some (20, 4, 204)) ∧ vp_in (2 : Int32) 4)) [(.iload_n 2, (0, 0, 0, 0, 0)), (.aload_n 0, (0, 0, 0, 0, 0)), (.getfield 93, (12, 36, 3, 0, 0)), (.iconst 2, (0, 0, 0, 2, 0)), (.iaload, (0, 0, 0, 0, 0))] [some (20, 4, 204)] (by decide +kernel) rfl ⟨⟨trivial, (r_177_36 hR)⟩, (vp_in_nI (n := 2) (N := 4) (by decide) (by decide))⟩ ?_
  refine b_icmp_ge (off := 48) (tgt := 67) (by decide +kernel) (by decide) (fun h1 => ?_) (fun h1 => ?_)
  · have hf := if_t h1 hf
    refine b_frg 2 ?_
    cases hf
    exact hk
  · have hf := if_f h1 hf
    refine b_blk (pc' := 34) (ls' := [some (mR (12, 0, 177)), some (mI v1), some (mI v2)]) (st' := [mI v1, mR (12, 0, 177), mI (((6 : Int32) * v1) + v2), mR (20, 36, 215)]) (S' := (L, I, J, R)) (P := (True ∧ R 177 57 = some (20, 36, 215))) [(.aload_n 0, (0, 0, 0, 0, 0)), (.getfield 127, (12, 57, 3, 0, 0)), (.bipush 6, (0, 0, 0, 6, 0)), (.iload_n 1, (0, 0, 0, 0, 0)), (.imul, (0, 0, 0, 0, 0)), (.iload_n 2, (0, 0, 0, 0, 0)), (.iadd, (0, 0, 0, 0, 0)), (.aload_n 0, (0, 0, 0, 0, 0)), (.iload_n 1, (0, 0, 0, 0, 0))] [some (20, 36, 215)] (by decide +kernel) rfl ⟨trivial, (r_177_57 hR)⟩ ?_
    obtain ⟨r2, hc2, hf⟩ := bnd_o hf
    refine b_cV (as := [mI v1]) (st := [mI (((6 : Int32) * v1) + v2), mR (20, 36, 215)]) (by decide +kernel) k_12_443 n_MD_isCut rfl (by decide) v_MD_isCut (C_MD_isCut I J v1 hR hc2) (Nat.le_of_ble_eq_true rfl) (by decide) rfl rfl (fun _ h => h) ?_
    show m_B G (m_rm 7 0 0) M_MD_yearGoes Q 0 0 37 [some (mR (12, 0, 177)), some (mI v1), some (mI v2)] [mI r2, mI (((6 : Int32) * v1) + v2), mR (20, 36, 215)] (L, I, J, R)
    refine b_if_ne (off := 13) (tgt := 50) (by decide +kernel) (by decide) (fun h3 => ?_) (fun h3 => ?_)
    · have hf := if_f h3 hf
      refine b_blk (pc' := 60) (ls' := [some (mR (12, 0, 177)), some (mI v1), some (mI v2)]) (st' := [mI 0, mI (((6 : Int32) * v1) + v2), mR (20, 36, 215)]) (S' := (L, I, J, R)) (P := True) [(.iconst 0, (0, 0, 0, 0, 0)), (.goto 9, (0, 60, 0, 0, 0))] [] (by decide +kernel) rfl trivial ?_
      obtain ⟨g4, hf⟩ := gd_s hf
      refine b_blk (pc' := 12) (ls' := [some (mR (12, 0, 177)), some (mI v1), some (mI (v2 + 1))]) (st' := []) (S' := (L, m_up I 215 ((((6 : Int32) * v1) + v2).toNatClampNeg) (0 : Int32), J, R)) (P := (True ∧ vp_in (((6 : Int32) * v1) + v2) 36)) [(.iastore, (0, 0, 0, 0, 0)), (.iinc 2 1, (0, 0, 0, 1, 0)), (.goto (-52), (0, 12, 0, 0, 0))] [] (by decide +kernel) rfl ⟨trivial, (in_n (n := 36) (by decide) g4.1 g4.2)⟩ ?_
      cases hf
      exact hk
    · have hf := if_t h3 hf
      refine b_blk (pc' := 43) (ls' := [some (mR (12, 0, 177)), some (mI v1), some (mI v2)]) (st' := [mI v2, mI v1, mR (12, 0, 177), mI (((6 : Int32) * v1) + v2), mR (20, 36, 215)]) (S' := (L, I, J, R)) (P := True) [(.aload_n 0, (0, 0, 0, 0, 0)), (.iload_n 1, (0, 0, 0, 0, 0)), (.iload_n 2, (0, 0, 0, 0, 0))] [] (by decide +kernel) rfl trivial ?_
      obtain ⟨r5, hc5, hf⟩ := bnd_o hf
      refine b_cV (as := [mI v1, mI v2]) (st := [mI (((6 : Int32) * v1) + v2), mR (20, 36, 215)]) (by decide +kernel) k_12_392 n_MD_rowOf rfl (by decide) v_MD_rowOf (C_MD_rowOf I J v1 v2 hR hc5) (Nat.le_of_ble_eq_true rfl) (by decide) rfl rfl (fun _ h => h) ?_
      show m_B G (m_rm 7 0 0) M_MD_yearGoes Q 0 0 46 [some (mR (12, 0, 177)), some (mI v1), some (mI v2)] [mI r5, mI (((6 : Int32) * v1) + v2), mR (20, 36, 215)] (L, I, J, R)
      refine b_blk (pc' := 47) (ls' := [some (mR (12, 0, 177)), some (mI v1), some (mI v2)]) (st' := [mI (-1), mI r5, mI (((6 : Int32) * v1) + v2), mR (20, 36, 215)]) (S' := (L, I, J, R)) (P := True) [(.iconst (-1), (0, 0, 0, (-1), 0))] [] (by decide +kernel) rfl trivial ?_
      refine b_icmp_ne (off := 7) (tgt := 54) (by decide +kernel) (by decide) (fun h6 => ?_) (fun h6 => ?_)
      · have hf := if_f h6 hf
        refine b_blk (pc' := 57) (ls' := [some (mR (12, 0, 177)), some (mI v1), some (mI v2)]) (st' := [mI v2, mI v1, mR (12, 0, 177), mI (((6 : Int32) * v1) + v2), mR (20, 36, 215)]) (S' := (L, I, J, R)) (P := True) [(.aload_n 0, (0, 0, 0, 0, 0)), (.iload_n 1, (0, 0, 0, 0, 0)), (.iload_n 2, (0, 0, 0, 0, 0))] [] (by decide +kernel) rfl trivial ?_
        obtain ⟨r7, hc7, hf⟩ := bnd_o hf
        refine b_cV (as := [mI v1, mI v2]) (st := [mI (((6 : Int32) * v1) + v2), mR (20, 36, 215)]) (by decide +kernel) k_12_446 n_MD_walkOf rfl (by decide) v_MD_walkOf (C_MD_walkOf I J v1 v2 hR hc7) (Nat.le_of_ble_eq_true rfl) (by decide) rfl rfl (fun _ h => h) ?_
        show m_B G (m_rm 7 0 0) M_MD_yearGoes Q 0 0 60 [some (mR (12, 0, 177)), some (mI v1), some (mI v2)] [mI r7.1, mI (((6 : Int32) * v1) + v2), mR (20, 36, 215)] (L, r7.2.1, r7.2.2, R)
        obtain ⟨g8, hf⟩ := gd_s hf
        refine b_blk (pc' := 12) (ls' := [some (mR (12, 0, 177)), some (mI v1), some (mI (v2 + 1))]) (st' := []) (S' := (L, m_up r7.2.1 215 ((((6 : Int32) * v1) + v2).toNatClampNeg) r7.1, r7.2.2, R)) (P := (True ∧ vp_in (((6 : Int32) * v1) + v2) 36)) [(.iastore, (0, 0, 0, 0, 0)), (.iinc 2 1, (0, 0, 0, 1, 0)), (.goto (-52), (0, 12, 0, 0, 0))] [] (by decide +kernel) rfl ⟨trivial, (in_n (n := 36) (by decide) g8.1 g8.2)⟩ ?_
        cases hf
        exact hk
      · have hf := if_t h6 hf
        refine b_blk (pc' := 60) (ls' := [some (mR (12, 0, 177)), some (mI v1), some (mI v2)]) (st' := [mI 0, mI (((6 : Int32) * v1) + v2), mR (20, 36, 215)]) (S' := (L, I, J, R)) (P := True) [(.iconst 0, (0, 0, 0, 0, 0)), (.goto 9, (0, 60, 0, 0, 0))] [] (by decide +kernel) rfl trivial ?_
        obtain ⟨g9, hf⟩ := gd_s hf
        refine b_blk (pc' := 12) (ls' := [some (mR (12, 0, 177)), some (mI v1), some (mI (v2 + 1))]) (st' := []) (S' := (L, m_up I 215 ((((6 : Int32) * v1) + v2).toNatClampNeg) (0 : Int32), J, R)) (P := (True ∧ vp_in (((6 : Int32) * v1) + v2) 36)) [(.iastore, (0, 0, 0, 0, 0)), (.iinc 2 1, (0, 0, 0, 1, 0)), (.goto (-52), (0, 12, 0, 0, 0))] [] (by decide +kernel) rfl ⟨trivial, (in_n (n := 36) (by decide) g9.1 g9.2)⟩ ?_
        cases hf
        exact hk
noncomputable def F_MD_yearGoes_2 (I : MI) (J : MJ) (v1 : Int32) : Option ((Int32 × MI × MJ) ⊕ (MI × MJ)) :=
  (F_MD_fenceMany I).bind fun r1 => if r1 ≤ v1 then (some (.inr (I, J))) else ((wl (fun s : Int32 × MI × MJ => F_MD_yearGoes_12 s.2.1 s.2.2 v1 s.1) ((0 : Int32), I, J)).bind fun t3 => some (.inl ((v1 + 1 : Int32), t3.1, t3.2)))
set_option maxRecDepth 100000 in
set_option maxHeartbeats 400000 in
theorem W_MD_yearGoes_2 {G : MG} {Q : Option MV → MS → Prop} {L : List (Nat × Nat)} {R : Nat → Nat → Option MRef} (I : MI) (J : MJ) (v1 : Int32) (hR : RF R) {r : (Int32 × MI × MJ) ⊕ (MI × MJ)} (hf : F_MD_yearGoes_2 I J v1 = some r) (hk : (Sum.elim (fun s : Int32 × MI × MJ => m_B G (m_rm 7 0 0) M_MD_yearGoes Q 0 0 2 [some (mR (12, 0, 177)), some (mI s.1), none] [] (L, s.2.1, s.2.2, R)) (fun s : MI × MJ => m_B G (m_rm 7 0 0) M_MD_yearGoes Q 0 0 73 [some (mR (12, 0, 177)), none, none] [] (L, s.1, s.2, R))) r) : m_B G (m_rm 7 0 0) M_MD_yearGoes Q 0 0 2 [some (mR (12, 0, 177)), some (mI v1), none] [] (L, I, J, R) := by
  unfold F_MD_yearGoes_2 at hf
  refine b_blk (pc' := 4) (ls' := [some (mR (12, 0, 177)), some (mI v1), none]) (st' := [mR (12, 0, 177), mI v1]) (S' := (L, I, J, R)) (P := True) [(.iload_n 1, (0, 0, 0, 0, 0)), (.aload_n 0, (0, 0, 0, 0, 0))] [] (by decide +kernel) rfl trivial ?_
  obtain ⟨r1, hc1, hf⟩ := bnd_o hf
  refine b_cV (as := []) (st := [mI v1]) (by decide +kernel) k_12_382 n_MD_fenceMany rfl (by decide) v_MD_fenceMany (C_MD_fenceMany I J hR hc1) (Nat.le_of_ble_eq_true rfl) (by decide) rfl rfl (fun _ h => h) ?_
  show m_B G (m_rm 7 0 0) M_MD_yearGoes Q 0 0 7 [some (mR (12, 0, 177)), some (mI v1), none] [mI r1, mI v1] (L, I, J, R)
  refine b_icmp_ge (off := 66) (tgt := 73) (by decide +kernel) (by decide) (fun h2 => ?_) (fun h2 => ?_)
  · have hf := if_t h2 hf
    refine b_frg 1 ?_
    cases hf
    exact hk
  · have hf := if_f h2 hf
    refine b_blk (pc' := 12) (ls' := [some (mR (12, 0, 177)), some (mI v1), some (mI 0)]) (st' := []) (S' := (L, I, J, R)) (P := True) [(.iconst 0, (0, 0, 0, 0, 0)), (.istore_n 2, (0, 0, 0, 0, 0))] [] (by decide +kernel) rfl trivial ?_
    obtain ⟨t3, hw, hf⟩ := bnd_o hf
    refine wl_B (A := fun s : Int32 × MI × MJ => m_B G (m_rm 7 0 0) M_MD_yearGoes Q 0 0 12 [some (mR (12, 0, 177)), some (mI v1), some (mI s.1)] [] (L, s.2.1, s.2.2, R)) (B := (fun s : MI × MJ => m_B G (m_rm 7 0 0) M_MD_yearGoes Q 0 0 67 [some (mR (12, 0, 177)), some (mI v1), none] [] (L, s.1, s.2, R))) (fun s r hs hr => W_MD_yearGoes_12 s.2.1 s.2.2 v1 s.1 hR hs hr) hw ?_
    show m_B G (m_rm 7 0 0) M_MD_yearGoes Q 0 0 67 [some (mR (12, 0, 177)), some (mI v1), none] [] (L, t3.1, t3.2, R)
    refine b_blk (pc' := 2) (ls' := [some (mR (12, 0, 177)), some (mI (v1 + 1)), none]) (st' := []) (S' := (L, t3.1, t3.2, R)) (P := True) [(.iinc 1 1, (0, 0, 0, 1, 0)), (.goto (-68), (0, 2, 0, 0, 0))] [] (by decide +kernel) rfl trivial ?_
    cases hf
    exact hk
noncomputable def F_MD_yearGoes_85 (I : MI) (v1 : Int32) (v2 : Int32) : Option ((Int32 × MI) ⊕ (MI)) :=
  if (I 204 2) ≤ v2 then (some (.inr I)) else ((F_MD_rowOf I v1 v2).bind fun r2 => if r2 = (-1 : Int32) then (some (.inl ((v2 + 1 : Int32), I))) else (gd (((6 : Int32) * v1) + v2) 36 <| (F_MD_stakeWalks I v1 v2 (I 215 (((6 : Int32) * v1) + v2).toNatClampNeg)).bind fun r5 => some (.inl ((v2 + 1 : Int32), r5))))
set_option maxRecDepth 100000 in
set_option maxHeartbeats 400000 in
theorem W_MD_yearGoes_85 {G : MG} {Q : Option MV → MS → Prop} {L : List (Nat × Nat)} {R : Nat → Nat → Option MRef} (I : MI) (J : MJ) (v1 : Int32) (v2 : Int32) (hR : RF R) {r : (Int32 × MI) ⊕ (MI)} (hf : F_MD_yearGoes_85 I v1 v2 = some r) (hk : (Sum.elim (fun s : Int32 × MI => m_B G (m_rm 7 0 0) M_MD_yearGoes Q 0 0 85 [some (mR (12, 0, 177)), some (mI v1), some (mI s.1)] [] (L, s.2, J, R)) (fun s : MI => m_B G (m_rm 7 0 0) M_MD_yearGoes Q 0 0 128 [some (mR (12, 0, 177)), some (mI v1), none] [] (L, s, J, R))) r) : m_B G (m_rm 7 0 0) M_MD_yearGoes Q 0 0 85 [some (mR (12, 0, 177)), some (mI v1), some (mI v2)] [] (L, I, J, R) := by
  unfold F_MD_yearGoes_85 at hf
  refine b_blk (pc' := 92) (ls' := [some (mR (12, 0, 177)), some (mI v1), some (mI v2)]) (st' := [mI (I 204 2), mI v2]) (S' := (L, I, J, R)) (P := ((True ∧ R 177 36 = some (20, 4, 204)) ∧ vp_in (2 : Int32) 4)) [(.iload_n 2, (0, 0, 0, 0, 0)), (.aload_n 0, (0, 0, 0, 0, 0)), (.getfield 93, (12, 36, 3, 0, 0)), (.iconst 2, (0, 0, 0, 2, 0)), (.iaload, (0, 0, 0, 0, 0))] [some (20, 4, 204)] (by decide +kernel) rfl ⟨⟨trivial, (r_177_36 hR)⟩, (vp_in_nI (n := 2) (N := 4) (by decide) (by decide))⟩ ?_
  refine b_icmp_ge (off := 36) (tgt := 128) (by decide +kernel) (by decide) (fun h1 => ?_) (fun h1 => ?_)
  · have hf := if_t h1 hf
    refine b_frg 2 ?_
    cases hf
    exact hk
  · have hf := if_f h1 hf
    refine b_blk (pc' := 98) (ls' := [some (mR (12, 0, 177)), some (mI v1), some (mI v2)]) (st' := [mI v2, mI v1, mR (12, 0, 177)]) (S' := (L, I, J, R)) (P := True) [(.aload_n 0, (0, 0, 0, 0, 0)), (.iload_n 1, (0, 0, 0, 0, 0)), (.iload_n 2, (0, 0, 0, 0, 0))] [] (by decide +kernel) rfl trivial ?_
    obtain ⟨r2, hc2, hf⟩ := bnd_o hf
    refine b_cV (as := [mI v1, mI v2]) (st := []) (by decide +kernel) k_12_392 n_MD_rowOf rfl (by decide) v_MD_rowOf (C_MD_rowOf I J v1 v2 hR hc2) (Nat.le_of_ble_eq_true rfl) (by decide) rfl rfl (fun _ h => h) ?_
    show m_B G (m_rm 7 0 0) M_MD_yearGoes Q 0 0 101 [some (mR (12, 0, 177)), some (mI v1), some (mI v2)] [mI r2] (L, I, J, R)
    refine b_blk (pc' := 102) (ls' := [some (mR (12, 0, 177)), some (mI v1), some (mI v2)]) (st' := [mI (-1), mI r2]) (S' := (L, I, J, R)) (P := True) [(.iconst (-1), (0, 0, 0, (-1), 0))] [] (by decide +kernel) rfl trivial ?_
    refine b_icmp_eq (off := 20) (tgt := 122) (by decide +kernel) (by decide) (fun h3 => ?_) (fun h3 => ?_)
    · have hf := if_t h3 hf
      refine b_blk (pc' := 85) (ls' := [some (mR (12, 0, 177)), some (mI v1), some (mI (v2 + 1))]) (st' := []) (S' := (L, I, J, R)) (P := True) [(.iinc 2 1, (0, 0, 0, 1, 0)), (.goto (-40), (0, 85, 0, 0, 0))] [] (by decide +kernel) rfl trivial ?_
      cases hf
      exact hk
    · have hf := if_f h3 hf
      obtain ⟨g4, hf⟩ := gd_s hf
      refine b_blk (pc' := 119) (ls' := [some (mR (12, 0, 177)), some (mI v1), some (mI v2)]) (st' := [mI (I 215 (((6 : Int32) * v1) + v2).toNatClampNeg), mI v2, mI v1, mR (12, 0, 177)]) (S' := (L, I, J, R)) (P := ((True ∧ R 177 57 = some (20, 36, 215)) ∧ vp_in (((6 : Int32) * v1) + v2) 36)) [(.aload_n 0, (0, 0, 0, 0, 0)), (.iload_n 1, (0, 0, 0, 0, 0)), (.iload_n 2, (0, 0, 0, 0, 0)), (.aload_n 0, (0, 0, 0, 0, 0)), (.getfield 127, (12, 57, 3, 0, 0)), (.bipush 6, (0, 0, 0, 6, 0)), (.iload_n 1, (0, 0, 0, 0, 0)), (.imul, (0, 0, 0, 0, 0)), (.iload_n 2, (0, 0, 0, 0, 0)), (.iadd, (0, 0, 0, 0, 0)), (.iaload, (0, 0, 0, 0, 0))] [some (20, 36, 215)] (by decide +kernel) rfl ⟨⟨trivial, (r_177_57 hR)⟩, (in_n (n := 36) (by decide) g4.1 g4.2)⟩ ?_
      obtain ⟨r5, hc5, hf⟩ := bnd_o hf
      refine b_cV (as := [mI v1, mI v2, mI (I 215 (((6 : Int32) * v1) + v2).toNatClampNeg)]) (st := []) (by decide +kernel) k_12_449 n_MD_stakeWalks rfl (by decide) v_MD_stakeWalks (C_MD_stakeWalks I J v1 v2 (I 215 (((6 : Int32) * v1) + v2).toNatClampNeg) hR hc5) (Nat.le_of_ble_eq_true rfl) (by decide) rfl rfl (fun _ h => h) ?_
      show m_B G (m_rm 7 0 0) M_MD_yearGoes Q 0 0 122 [some (mR (12, 0, 177)), some (mI v1), some (mI v2)] [] (L, r5, J, R)
      refine b_blk (pc' := 85) (ls' := [some (mR (12, 0, 177)), some (mI v1), some (mI (v2 + 1))]) (st' := []) (S' := (L, r5, J, R)) (P := True) [(.iinc 2 1, (0, 0, 0, 1, 0)), (.goto (-40), (0, 85, 0, 0, 0))] [] (by decide +kernel) rfl trivial ?_
      cases hf
      exact hk
noncomputable def F_MD_yearGoes_75 (I : MI) (v1 : Int32) : Option ((Int32 × MI) ⊕ (MI)) :=
  (F_MD_fenceMany I).bind fun r1 => if r1 ≤ v1 then (some (.inr I)) else ((wl (fun s : Int32 × MI => F_MD_yearGoes_85 s.2 v1 s.1) ((0 : Int32), I)).bind fun t3 => some (.inl ((v1 + 1 : Int32), t3)))
set_option maxRecDepth 100000 in
set_option maxHeartbeats 400000 in
theorem W_MD_yearGoes_75 {G : MG} {Q : Option MV → MS → Prop} {L : List (Nat × Nat)} {R : Nat → Nat → Option MRef} (I : MI) (J : MJ) (v1 : Int32) (hR : RF R) {r : (Int32 × MI) ⊕ (MI)} (hf : F_MD_yearGoes_75 I v1 = some r) (hk : (Sum.elim (fun s : Int32 × MI => m_B G (m_rm 7 0 0) M_MD_yearGoes Q 0 0 75 [some (mR (12, 0, 177)), some (mI s.1), none] [] (L, s.2, J, R)) (fun s : MI => m_B G (m_rm 7 0 0) M_MD_yearGoes Q 0 0 134 [some (mR (12, 0, 177)), none, none] [] (L, s, J, R))) r) : m_B G (m_rm 7 0 0) M_MD_yearGoes Q 0 0 75 [some (mR (12, 0, 177)), some (mI v1), none] [] (L, I, J, R) := by
  unfold F_MD_yearGoes_75 at hf
  refine b_blk (pc' := 77) (ls' := [some (mR (12, 0, 177)), some (mI v1), none]) (st' := [mR (12, 0, 177), mI v1]) (S' := (L, I, J, R)) (P := True) [(.iload_n 1, (0, 0, 0, 0, 0)), (.aload_n 0, (0, 0, 0, 0, 0))] [] (by decide +kernel) rfl trivial ?_
  obtain ⟨r1, hc1, hf⟩ := bnd_o hf
  refine b_cV (as := []) (st := [mI v1]) (by decide +kernel) k_12_382 n_MD_fenceMany rfl (by decide) v_MD_fenceMany (C_MD_fenceMany I J hR hc1) (Nat.le_of_ble_eq_true rfl) (by decide) rfl rfl (fun _ h => h) ?_
  show m_B G (m_rm 7 0 0) M_MD_yearGoes Q 0 0 80 [some (mR (12, 0, 177)), some (mI v1), none] [mI r1, mI v1] (L, I, J, R)
  refine b_icmp_ge (off := 54) (tgt := 134) (by decide +kernel) (by decide) (fun h2 => ?_) (fun h2 => ?_)
  · have hf := if_t h2 hf
    refine b_frg 1 ?_
    cases hf
    exact hk
  · have hf := if_f h2 hf
    refine b_blk (pc' := 85) (ls' := [some (mR (12, 0, 177)), some (mI v1), some (mI 0)]) (st' := []) (S' := (L, I, J, R)) (P := True) [(.iconst 0, (0, 0, 0, 0, 0)), (.istore_n 2, (0, 0, 0, 0, 0))] [] (by decide +kernel) rfl trivial ?_
    obtain ⟨t3, hw, hf⟩ := bnd_o hf
    refine wl_B (A := fun s : Int32 × MI => m_B G (m_rm 7 0 0) M_MD_yearGoes Q 0 0 85 [some (mR (12, 0, 177)), some (mI v1), some (mI s.1)] [] (L, s.2, J, R)) (B := (fun s : MI => m_B G (m_rm 7 0 0) M_MD_yearGoes Q 0 0 128 [some (mR (12, 0, 177)), some (mI v1), none] [] (L, s, J, R))) (fun s r hs hr => W_MD_yearGoes_85 s.2 J v1 s.1 hR hs hr) hw ?_
    show m_B G (m_rm 7 0 0) M_MD_yearGoes Q 0 0 128 [some (mR (12, 0, 177)), some (mI v1), none] [] (L, t3, J, R)
    refine b_blk (pc' := 75) (ls' := [some (mR (12, 0, 177)), some (mI (v1 + 1)), none]) (st' := []) (S' := (L, t3, J, R)) (P := True) [(.iinc 1 1, (0, 0, 0, 1, 0)), (.goto (-56), (0, 75, 0, 0, 0))] [] (by decide +kernel) rfl trivial ?_
    cases hf
    exact hk
noncomputable def F_MD_yearGoes_170 (I : MI) (v1 : Int32) : Option ((Int32 × MI) ⊕ (MI)) :=
  gd (((7 : Int32) + ((8 : Int32) * v1)) + (1 : Int32)) 176 <| some (.inl ((v1 + 1 : Int32), m_up I 213 ((((7 : Int32) + ((8 : Int32) * v1)) + (1 : Int32)).toNatClampNeg) (0 : Int32)))
set_option maxRecDepth 100000 in
set_option maxHeartbeats 400000 in
theorem W_MD_yearGoes_170 {G : MG} {Q : Option MV → MS → Prop} {L : List (Nat × Nat)} {R : Nat → Nat → Option MRef} (I : MI) (J : MJ) (v1 : Int32) (hR : RF R) {r : (Int32 × MI) ⊕ (MI)} (hf : F_MD_yearGoes_170 I v1 = some r) (hk : (Sum.elim (fun s : Int32 × MI => m_B G (m_rm 7 0 0) M_MD_yearGoes Q 0 0 136 [some (mR (12, 0, 177)), some (mI s.1), none] [] (L, s.2, J, R)) (fun s : MI => m_B G (m_rm 7 0 0) M_MD_yearGoes Q 0 0 191 [some (mR (12, 0, 177)), none, none] [] (L, s, J, R))) r) : m_B G (m_rm 7 0 0) M_MD_yearGoes Q 0 0 170 [some (mR (12, 0, 177)), some (mI v1), none] [] (L, I, J, R) := by
  unfold F_MD_yearGoes_170 at hf
  obtain ⟨g1, hf⟩ := gd_s hf
  refine b_blk (pc' := 136) (ls' := [some (mR (12, 0, 177)), some (mI (v1 + 1)), none]) (st' := []) (S' := (L, m_up I 213 ((((7 : Int32) + ((8 : Int32) * v1)) + (1 : Int32)).toNatClampNeg) (0 : Int32), J, R)) (P := ((True ∧ R 177 51 = some (20, 176, 213)) ∧ vp_in (((7 : Int32) + ((8 : Int32) * v1)) + (1 : Int32)) 176)) [(.aload_n 0, (0, 0, 0, 0, 0)), (.getfield 121, (12, 51, 3, 0, 0)), (.bipush 7, (0, 0, 0, 7, 0)), (.bipush 8, (0, 0, 0, 8, 0)), (.iload_n 1, (0, 0, 0, 0, 0)), (.imul, (0, 0, 0, 0, 0)), (.iadd, (0, 0, 0, 0, 0)), (.iconst 1, (0, 0, 0, 1, 0)), (.iadd, (0, 0, 0, 0, 0)), (.iconst 0, (0, 0, 0, 0, 0)), (.iastore, (0, 0, 0, 0, 0)), (.iinc 1 1, (0, 0, 0, 1, 0)), (.goto (-52), (0, 136, 0, 0, 0))] [some (20, 176, 213)] (by decide +kernel) rfl ⟨⟨trivial, (r_177_51 hR)⟩, (in_n (n := 176) (by decide) g1.1 g1.2)⟩ ?_
  cases hf
  exact hk
noncomputable def F_MD_yearGoes_136 (I : MI) (v1 : Int32) : Option ((Int32 × MI) ⊕ (MI)) :=
  (F_MD_fenceMany I).bind fun r1 => if r1 ≤ v1 then (some (.inr I)) else ((F_MD_ageOf I v1).bind fun r3 => if (99 : Int32) ≤ r3 then (F_MD_yearGoes_170 I v1) else (gd ((7 : Int32) + ((8 : Int32) * v1)) 176 <| gd ((7 : Int32) + ((8 : Int32) * v1)) 176 <| bnd (m_up I 213 (((7 : Int32) + ((8 : Int32) * v1)).toNatClampNeg) ((I 213 ((7 : Int32) + ((8 : Int32) * v1)).toNatClampNeg) + (1 : Int32)) : MI) fun x7 => F_MD_yearGoes_170 x7 v1))
set_option maxRecDepth 100000 in
set_option maxHeartbeats 400000 in
theorem W_MD_yearGoes_136 {G : MG} {Q : Option MV → MS → Prop} {L : List (Nat × Nat)} {R : Nat → Nat → Option MRef} (I : MI) (J : MJ) (v1 : Int32) (hR : RF R) {r : (Int32 × MI) ⊕ (MI)} (hf : F_MD_yearGoes_136 I v1 = some r) (hk : (Sum.elim (fun s : Int32 × MI => m_B G (m_rm 7 0 0) M_MD_yearGoes Q 0 0 136 [some (mR (12, 0, 177)), some (mI s.1), none] [] (L, s.2, J, R)) (fun s : MI => m_B G (m_rm 7 0 0) M_MD_yearGoes Q 0 0 191 [some (mR (12, 0, 177)), none, none] [] (L, s, J, R))) r) : m_B G (m_rm 7 0 0) M_MD_yearGoes Q 0 0 136 [some (mR (12, 0, 177)), some (mI v1), none] [] (L, I, J, R) := by
  unfold F_MD_yearGoes_136 at hf
  refine b_blk (pc' := 138) (ls' := [some (mR (12, 0, 177)), some (mI v1), none]) (st' := [mR (12, 0, 177), mI v1]) (S' := (L, I, J, R)) (P := True) [(.iload_n 1, (0, 0, 0, 0, 0)), (.aload_n 0, (0, 0, 0, 0, 0))] [] (by decide +kernel) rfl trivial ?_
  obtain ⟨r1, hc1, hf⟩ := bnd_o hf
  refine b_cV (as := []) (st := [mI v1]) (by decide +kernel) k_12_382 n_MD_fenceMany rfl (by decide) v_MD_fenceMany (C_MD_fenceMany I J hR hc1) (Nat.le_of_ble_eq_true rfl) (by decide) rfl rfl (fun _ h => h) ?_
  show m_B G (m_rm 7 0 0) M_MD_yearGoes Q 0 0 141 [some (mR (12, 0, 177)), some (mI v1), none] [mI r1, mI v1] (L, I, J, R)
  refine b_icmp_ge (off := 50) (tgt := 191) (by decide +kernel) (by decide) (fun h2 => ?_) (fun h2 => ?_)
  · have hf := if_t h2 hf
    refine b_frg 1 ?_
    cases hf
    exact hk
  · have hf := if_f h2 hf
    refine b_blk (pc' := 146) (ls' := [some (mR (12, 0, 177)), some (mI v1), none]) (st' := [mI v1, mR (12, 0, 177)]) (S' := (L, I, J, R)) (P := True) [(.aload_n 0, (0, 0, 0, 0, 0)), (.iload_n 1, (0, 0, 0, 0, 0))] [] (by decide +kernel) rfl trivial ?_
    obtain ⟨r3, hc3, hf⟩ := bnd_o hf
    refine b_cV (as := [mI v1]) (st := []) (by decide +kernel) k_12_452 n_MD_ageOf rfl (by decide) v_MD_ageOf (C_MD_ageOf I J v1 hR hc3) (Nat.le_of_ble_eq_true rfl) (by decide) rfl rfl (fun _ h => h) ?_
    show m_B G (m_rm 7 0 0) M_MD_yearGoes Q 0 0 149 [some (mR (12, 0, 177)), some (mI v1), none] [mI r3] (L, I, J, R)
    refine b_blk (pc' := 151) (ls' := [some (mR (12, 0, 177)), some (mI v1), none]) (st' := [mI 99, mI r3]) (S' := (L, I, J, R)) (P := True) [(.bipush 99, (0, 0, 0, 99, 0))] [] (by decide +kernel) rfl trivial ?_
    refine b_icmp_ge (off := 19) (tgt := 170) (by decide +kernel) (by decide) (fun h4 => ?_) (fun h4 => ?_)
    · have hf := if_t h4 hf
      exact m_B_cg rfl rfl rfl (W_MD_yearGoes_170 I J v1 hR hf hk)
    · have hf := if_f h4 hf
      obtain ⟨g5, hf⟩ := gd_s hf
      obtain ⟨g6, hf⟩ := gd_s hf
      refine b_blk (pc' := 170) (ls' := [some (mR (12, 0, 177)), some (mI v1), none]) (st' := []) (S' := (L, m_up I 213 (((7 : Int32) + ((8 : Int32) * v1)).toNatClampNeg) ((I 213 ((7 : Int32) + ((8 : Int32) * v1)).toNatClampNeg) + (1 : Int32)), J, R)) (P := (((True ∧ R 177 51 = some (20, 176, 213)) ∧ vp_in ((7 : Int32) + ((8 : Int32) * v1)) 176) ∧ vp_in ((7 : Int32) + ((8 : Int32) * v1)) 176)) [(.aload_n 0, (0, 0, 0, 0, 0)), (.getfield 121, (12, 51, 3, 0, 0)), (.bipush 7, (0, 0, 0, 7, 0)), (.bipush 8, (0, 0, 0, 8, 0)), (.iload_n 1, (0, 0, 0, 0, 0)), (.imul, (0, 0, 0, 0, 0)), (.iadd, (0, 0, 0, 0, 0)), (.dup2, (0, 0, 0, 0, 0)), (.iaload, (0, 0, 0, 0, 0)), (.iconst 1, (0, 0, 0, 1, 0)), (.iadd, (0, 0, 0, 0, 0)), (.iastore, (0, 0, 0, 0, 0))] [some (20, 176, 213)] (by decide +kernel) rfl ⟨⟨⟨trivial, (r_177_51 hR)⟩, (in_n (n := 176) (by decide) g5.1 g5.2)⟩, (in_n (n := 176) (by decide) g6.1 g6.2)⟩ ?_
      obtain ⟨x7, ex7, hf⟩ := bnd_s hf
      refine m_B_cg (ls' := [some (mR (12, 0, 177)), some (mI v1), none]) (st' := []) (S' := (L, x7, J, R)) (by first | with_reducible rfl | rw [ex7]) (by first | with_reducible rfl | rw [ex7]) (by first | with_reducible rfl | rw [ex7]) ?_
      exact m_B_cg rfl rfl rfl (W_MD_yearGoes_170 x7 J v1 hR hf hk)
noncomputable def F_MD_yearGoes_193 (I : MI) (J : MJ) (v1 : Int32) : Option ((Int32 × MI × MJ) ⊕ (MI × MJ)) :=
  (F_MD_fenceMany I).bind fun r1 => if r1 ≤ v1 then (some (.inr (I, J))) else ((F_MD_doesRoot I J v1).bind fun r3 => if r3.1 = (0 : Int32) then (some (.inl ((v1 + 1 : Int32), r3.2.1, r3.2.2))) else ((F_MD_isSet r3.2.1 v1).bind fun r5 => (F_MD_isKept r5 v1 (255 : Int32)).bind fun r6 => some (.inl ((v1 + 1 : Int32), r6, r3.2.2))))
set_option maxRecDepth 100000 in
set_option maxHeartbeats 400000 in
theorem W_MD_yearGoes_193 {G : MG} {Q : Option MV → MS → Prop} {L : List (Nat × Nat)} {R : Nat → Nat → Option MRef} (I : MI) (J : MJ) (v1 : Int32) (hR : RF R) {r : (Int32 × MI × MJ) ⊕ (MI × MJ)} (hf : F_MD_yearGoes_193 I J v1 = some r) (hk : (Sum.elim (fun s : Int32 × MI × MJ => m_B G (m_rm 7 0 0) M_MD_yearGoes Q 0 0 193 [some (mR (12, 0, 177)), some (mI s.1), none] [] (L, s.2.1, s.2.2, R)) (fun s : MI × MJ => m_B G (m_rm 7 0 0) M_MD_yearGoes Q 0 0 228 [some (mR (12, 0, 177)), none, none] [] (L, s.1, s.2, R))) r) : m_B G (m_rm 7 0 0) M_MD_yearGoes Q 0 0 193 [some (mR (12, 0, 177)), some (mI v1), none] [] (L, I, J, R) := by
  unfold F_MD_yearGoes_193 at hf
  refine b_blk (pc' := 195) (ls' := [some (mR (12, 0, 177)), some (mI v1), none]) (st' := [mR (12, 0, 177), mI v1]) (S' := (L, I, J, R)) (P := True) [(.iload_n 1, (0, 0, 0, 0, 0)), (.aload_n 0, (0, 0, 0, 0, 0))] [] (by decide +kernel) rfl trivial ?_
  obtain ⟨r1, hc1, hf⟩ := bnd_o hf
  refine b_cV (as := []) (st := [mI v1]) (by decide +kernel) k_12_382 n_MD_fenceMany rfl (by decide) v_MD_fenceMany (C_MD_fenceMany I J hR hc1) (Nat.le_of_ble_eq_true rfl) (by decide) rfl rfl (fun _ h => h) ?_
  show m_B G (m_rm 7 0 0) M_MD_yearGoes Q 0 0 198 [some (mR (12, 0, 177)), some (mI v1), none] [mI r1, mI v1] (L, I, J, R)
  refine b_icmp_ge (off := 30) (tgt := 228) (by decide +kernel) (by decide) (fun h2 => ?_) (fun h2 => ?_)
  · have hf := if_t h2 hf
    refine b_frg 1 ?_
    cases hf
    exact hk
  · have hf := if_f h2 hf
    refine b_blk (pc' := 203) (ls' := [some (mR (12, 0, 177)), some (mI v1), none]) (st' := [mI v1, mR (12, 0, 177)]) (S' := (L, I, J, R)) (P := True) [(.aload_n 0, (0, 0, 0, 0, 0)), (.iload_n 1, (0, 0, 0, 0, 0))] [] (by decide +kernel) rfl trivial ?_
    obtain ⟨r3, hc3, hf⟩ := bnd_o hf
    refine b_cV (as := [mI v1]) (st := []) (by decide +kernel) k_12_455 n_MD_doesRoot rfl (by decide) v_MD_doesRoot (C_MD_doesRoot I J v1 hR hc3) (Nat.le_of_ble_eq_true rfl) (by decide) rfl rfl (fun _ h => h) ?_
    show m_B G (m_rm 7 0 0) M_MD_yearGoes Q 0 0 206 [some (mR (12, 0, 177)), some (mI v1), none] [mI r3.1] (L, r3.2.1, r3.2.2, R)
    refine b_if_eq (off := 16) (tgt := 222) (by decide +kernel) (by decide) (fun h4 => ?_) (fun h4 => ?_)
    · have hf := if_t h4 hf
      refine b_blk (pc' := 193) (ls' := [some (mR (12, 0, 177)), some (mI (v1 + 1)), none]) (st' := []) (S' := (L, r3.2.1, r3.2.2, R)) (P := True) [(.iinc 1 1, (0, 0, 0, 1, 0)), (.goto (-32), (0, 193, 0, 0, 0))] [] (by decide +kernel) rfl trivial ?_
      cases hf
      exact hk
    · have hf := if_f h4 hf
      refine b_blk (pc' := 211) (ls' := [some (mR (12, 0, 177)), some (mI v1), none]) (st' := [mI v1, mR (12, 0, 177)]) (S' := (L, r3.2.1, r3.2.2, R)) (P := True) [(.aload_n 0, (0, 0, 0, 0, 0)), (.iload_n 1, (0, 0, 0, 0, 0))] [] (by decide +kernel) rfl trivial ?_
      obtain ⟨r5, hc5, hf⟩ := bnd_o hf
      refine b_cV (as := [mI v1]) (st := []) (by decide +kernel) k_12_458 n_MD_isSet rfl (by decide) v_MD_isSet (C_MD_isSet r3.2.1 r3.2.2 v1 hR hc5) (Nat.le_of_ble_eq_true rfl) (by decide) rfl rfl (fun _ h => h) ?_
      show m_B G (m_rm 7 0 0) M_MD_yearGoes Q 0 0 214 [some (mR (12, 0, 177)), some (mI v1), none] [] (L, r5, r3.2.2, R)
      refine b_blk (pc' := 219) (ls' := [some (mR (12, 0, 177)), some (mI v1), none]) (st' := [mI 255, mI v1, mR (12, 0, 177)]) (S' := (L, r5, r3.2.2, R)) (P := True) [(.aload_n 0, (0, 0, 0, 0, 0)), (.iload_n 1, (0, 0, 0, 0, 0)), (.sipush 255, (0, 0, 0, 255, 0))] [] (by decide +kernel) rfl trivial ?_
      obtain ⟨r6, hc6, hf⟩ := bnd_o hf
      refine b_cV (as := [mI v1, mI 255]) (st := []) (by decide +kernel) k_12_433 n_MD_isKept rfl (by decide) v_MD_isKept (C_MD_isKept r5 r3.2.2 v1 (255 : Int32) hR hc6) (Nat.le_of_ble_eq_true rfl) (by decide) rfl rfl (fun _ h => h) ?_
      show m_B G (m_rm 7 0 0) M_MD_yearGoes Q 0 0 222 [some (mR (12, 0, 177)), some (mI v1), none] [] (L, r6, r3.2.2, R)
      refine b_blk (pc' := 193) (ls' := [some (mR (12, 0, 177)), some (mI (v1 + 1)), none]) (st' := []) (S' := (L, r6, r3.2.2, R)) (P := True) [(.iinc 1 1, (0, 0, 0, 1, 0)), (.goto (-32), (0, 193, 0, 0, 0))] [] (by decide +kernel) rfl trivial ?_
      cases hf
      exact hk
noncomputable def F_MD_yearGoes (I : MI) (J : MJ) : Option (MI × MJ) :=
  (wl (fun s : Int32 × MI × MJ => F_MD_yearGoes_2 s.2.1 s.2.2 s.1) ((0 : Int32), I, J)).bind fun t1 => (wl (fun s : Int32 × MI => F_MD_yearGoes_75 s.2 s.1) ((0 : Int32), t1.1)).bind fun t2 => (wl (fun s : Int32 × MI => F_MD_yearGoes_136 s.2 s.1) ((0 : Int32), t2)).bind fun t3 => (wl (fun s : Int32 × MI × MJ => F_MD_yearGoes_193 s.2.1 s.2.2 s.1) ((0 : Int32), t3, t1.2)).bind fun t4 => some (m_up t4.1 213 0 ((t4.1 213 0) + (1 : Int32)), t4.2)
set_option maxRecDepth 100000 in
set_option maxHeartbeats 400000 in
theorem W_MD_yearGoes {G : MG} {Q : Option MV → MS → Prop} {L : List (Nat × Nat)} {R : Nat → Nat → Option MRef} (I : MI) (J : MJ) (hR : RF R) {r : MI × MJ} (hf : F_MD_yearGoes I J = some r) (hk : (fun r : MI × MJ => Q (none) (L, r.1, r.2, R)) r) : m_B G (m_rm 7 0 0) M_MD_yearGoes Q 0 0 0 [some (mR (12, 0, 177)), none, none] [] (L, I, J, R) := by
  unfold F_MD_yearGoes at hf
  refine b_blk (pc' := 2) (ls' := [some (mR (12, 0, 177)), some (mI 0), none]) (st' := []) (S' := (L, I, J, R)) (P := True) [(.iconst 0, (0, 0, 0, 0, 0)), (.istore_n 1, (0, 0, 0, 0, 0))] [] (by decide +kernel) rfl trivial ?_
  obtain ⟨t1, hw, hf⟩ := bnd_o hf
  refine wl_B (A := fun s : Int32 × MI × MJ => m_B G (m_rm 7 0 0) M_MD_yearGoes Q 0 0 2 [some (mR (12, 0, 177)), some (mI s.1), none] [] (L, s.2.1, s.2.2, R)) (B := (fun s : MI × MJ => m_B G (m_rm 7 0 0) M_MD_yearGoes Q 0 0 73 [some (mR (12, 0, 177)), none, none] [] (L, s.1, s.2, R))) (fun s r hs hr => W_MD_yearGoes_2 s.2.1 s.2.2 s.1 hR hs hr) hw ?_
  show m_B G (m_rm 7 0 0) M_MD_yearGoes Q 0 0 73 [some (mR (12, 0, 177)), none, none] [] (L, t1.1, t1.2, R)
  refine b_blk (pc' := 75) (ls' := [some (mR (12, 0, 177)), some (mI 0), none]) (st' := []) (S' := (L, t1.1, t1.2, R)) (P := True) [(.iconst 0, (0, 0, 0, 0, 0)), (.istore_n 1, (0, 0, 0, 0, 0))] [] (by decide +kernel) rfl trivial ?_
  obtain ⟨t2, hw, hf⟩ := bnd_o hf
  refine wl_B (A := fun s : Int32 × MI => m_B G (m_rm 7 0 0) M_MD_yearGoes Q 0 0 75 [some (mR (12, 0, 177)), some (mI s.1), none] [] (L, s.2, t1.2, R)) (B := (fun s : MI => m_B G (m_rm 7 0 0) M_MD_yearGoes Q 0 0 134 [some (mR (12, 0, 177)), none, none] [] (L, s, t1.2, R))) (fun s r hs hr => W_MD_yearGoes_75 s.2 t1.2 s.1 hR hs hr) hw ?_
  show m_B G (m_rm 7 0 0) M_MD_yearGoes Q 0 0 134 [some (mR (12, 0, 177)), none, none] [] (L, t2, t1.2, R)
  refine b_blk (pc' := 136) (ls' := [some (mR (12, 0, 177)), some (mI 0), none]) (st' := []) (S' := (L, t2, t1.2, R)) (P := True) [(.iconst 0, (0, 0, 0, 0, 0)), (.istore_n 1, (0, 0, 0, 0, 0))] [] (by decide +kernel) rfl trivial ?_
  obtain ⟨t3, hw, hf⟩ := bnd_o hf
  refine wl_B (A := fun s : Int32 × MI => m_B G (m_rm 7 0 0) M_MD_yearGoes Q 0 0 136 [some (mR (12, 0, 177)), some (mI s.1), none] [] (L, s.2, t1.2, R)) (B := (fun s : MI => m_B G (m_rm 7 0 0) M_MD_yearGoes Q 0 0 191 [some (mR (12, 0, 177)), none, none] [] (L, s, t1.2, R))) (fun s r hs hr => W_MD_yearGoes_136 s.2 t1.2 s.1 hR hs hr) hw ?_
  show m_B G (m_rm 7 0 0) M_MD_yearGoes Q 0 0 191 [some (mR (12, 0, 177)), none, none] [] (L, t3, t1.2, R)
  refine b_blk (pc' := 193) (ls' := [some (mR (12, 0, 177)), some (mI 0), none]) (st' := []) (S' := (L, t3, t1.2, R)) (P := True) [(.iconst 0, (0, 0, 0, 0, 0)), (.istore_n 1, (0, 0, 0, 0, 0))] [] (by decide +kernel) rfl trivial ?_
  obtain ⟨t4, hw, hf⟩ := bnd_o hf
  refine wl_B (A := fun s : Int32 × MI × MJ => m_B G (m_rm 7 0 0) M_MD_yearGoes Q 0 0 193 [some (mR (12, 0, 177)), some (mI s.1), none] [] (L, s.2.1, s.2.2, R)) (B := (fun s : MI × MJ => m_B G (m_rm 7 0 0) M_MD_yearGoes Q 0 0 228 [some (mR (12, 0, 177)), none, none] [] (L, s.1, s.2, R))) (fun s r hs hr => W_MD_yearGoes_193 s.2.1 s.2.2 s.1 hR hs hr) hw ?_
  show m_B G (m_rm 7 0 0) M_MD_yearGoes Q 0 0 228 [some (mR (12, 0, 177)), none, none] [] (L, t4.1, t4.2, R)
  refine b_blk (pc' := 238) (ls' := [some (mR (12, 0, 177)), none, none]) (st' := []) (S' := (L, m_up t4.1 213 0 ((t4.1 213 0) + (1 : Int32)), t4.2, R)) (P := (((True ∧ R 177 51 = some (20, 176, 213)) ∧ vp_in (0 : Int32) 176) ∧ vp_in (0 : Int32) 176)) [(.aload_n 0, (0, 0, 0, 0, 0)), (.getfield 121, (12, 51, 3, 0, 0)), (.iconst 0, (0, 0, 0, 0, 0)), (.dup2, (0, 0, 0, 0, 0)), (.iaload, (0, 0, 0, 0, 0)), (.iconst 1, (0, 0, 0, 1, 0)), (.iadd, (0, 0, 0, 0, 0)), (.iastore, (0, 0, 0, 0, 0))] [some (20, 176, 213)] (by decide +kernel) rfl ⟨⟨⟨trivial, (r_177_51 hR)⟩, (vp_in_nI (n := 0) (N := 176) (by decide) (by decide))⟩, (vp_in_nI (n := 0) (N := 176) (by decide) (by decide))⟩ ?_
  cases hf
  exact b_vret (by decide +kernel) rfl hk
theorem C_MD_yearGoes {G : MG} {L : List (Nat × Nat)} {R : Nat → Nat → Option MRef} (I : MI) (J : MJ) (hR : RF R) {r : MI × MJ} (hf : F_MD_yearGoes I J = some r) : m_met G 7 0 0 y_MD_yearGoes M_MD_yearGoes [mR (12, 0, 177)] (L, I, J, R) (m_is (none) (L, r.1, r.2, R)) :=
  m_met_in n_MD_yearGoes (plainFor_of_name (by decide)) (by decide) (Nat.le_of_ble_eq_true rfl) (ls := [some (mR (12, 0, 177)), none, none]) rfl (W_MD_yearGoes I J hR hf ⟨rfl, rfl⟩)
noncomputable def F_MD_yearsGo_2 (I : MI) (J : MJ) (v1 : Int32) (v2 : Int32) : Option ((Int32 × MI × MJ) ⊕ (MI × MJ)) :=
  if v1 ≤ v2 then (some (.inr (I, J))) else ((F_MD_yearGoes I J).bind fun r2 => some (.inl ((v2 + 1 : Int32), r2.1, r2.2)))
set_option maxRecDepth 100000 in
set_option maxHeartbeats 400000 in
theorem W_MD_yearsGo_2 {G : MG} {Q : Option MV → MS → Prop} {L : List (Nat × Nat)} {R : Nat → Nat → Option MRef} (I : MI) (J : MJ) (v1 : Int32) (v2 : Int32) (hR : RF R) {r : (Int32 × MI × MJ) ⊕ (MI × MJ)} (hf : F_MD_yearsGo_2 I J v1 v2 = some r) (hk : (Sum.elim (fun s : Int32 × MI × MJ => m_B G (m_rm 8 0 0) M_MD_yearsGo Q 0 0 2 [some (mR (12, 0, 177)), some (mI v1), some (mI s.1)] [] (L, s.2.1, s.2.2, R)) (fun s : MI × MJ => m_B G (m_rm 8 0 0) M_MD_yearsGo Q 0 0 17 [none, none, none] [] (L, s.1, s.2, R))) r) : m_B G (m_rm 8 0 0) M_MD_yearsGo Q 0 0 2 [some (mR (12, 0, 177)), some (mI v1), some (mI v2)] [] (L, I, J, R) := by
  unfold F_MD_yearsGo_2 at hf
  refine b_blk (pc' := 4) (ls' := [some (mR (12, 0, 177)), some (mI v1), some (mI v2)]) (st' := [mI v1, mI v2]) (S' := (L, I, J, R)) (P := True) [(.iload_n 2, (0, 0, 0, 0, 0)), (.iload_n 1, (0, 0, 0, 0, 0))] [] (by decide +kernel) rfl trivial ?_
  refine b_icmp_ge (off := 13) (tgt := 17) (by decide +kernel) (by decide) (fun h1 => ?_) (fun h1 => ?_)
  · have hf := if_t h1 hf
    refine b_frg 0 ?_
    refine b_frg 1 ?_
    refine b_frg 2 ?_
    cases hf
    exact hk
  · have hf := if_f h1 hf
    refine b_blk (pc' := 8) (ls' := [some (mR (12, 0, 177)), some (mI v1), some (mI v2)]) (st' := [mR (12, 0, 177)]) (S' := (L, I, J, R)) (P := True) [(.aload_n 0, (0, 0, 0, 0, 0))] [] (by decide +kernel) rfl trivial ?_
    obtain ⟨r2, hc2, hf⟩ := bnd_o hf
    refine b_cV (as := []) (st := []) (by decide +kernel) k_12_461 n_MD_yearGoes rfl (by decide) v_MD_yearGoes (C_MD_yearGoes I J hR hc2) (Nat.le_of_ble_eq_true rfl) (by decide) rfl rfl (fun _ h => h) ?_
    show m_B G (m_rm 8 0 0) M_MD_yearsGo Q 0 0 11 [some (mR (12, 0, 177)), some (mI v1), some (mI v2)] [] (L, r2.1, r2.2, R)
    refine b_blk (pc' := 2) (ls' := [some (mR (12, 0, 177)), some (mI v1), some (mI (v2 + 1))]) (st' := []) (S' := (L, r2.1, r2.2, R)) (P := True) [(.iinc 2 1, (0, 0, 0, 1, 0)), (.goto (-12), (0, 2, 0, 0, 0))] [] (by decide +kernel) rfl trivial ?_
    cases hf
    exact hk
noncomputable def F_MD_yearsGo (I : MI) (J : MJ) (v1 : Int32) : Option (MI × MJ) :=
  (wl (fun s : Int32 × MI × MJ => F_MD_yearsGo_2 s.2.1 s.2.2 v1 s.1) ((0 : Int32), I, J)).bind fun t1 => some (t1.1, t1.2)
set_option maxRecDepth 100000 in
set_option maxHeartbeats 400000 in
theorem W_MD_yearsGo {G : MG} {Q : Option MV → MS → Prop} {L : List (Nat × Nat)} {R : Nat → Nat → Option MRef} (I : MI) (J : MJ) (v1 : Int32) (hR : RF R) {r : MI × MJ} (hf : F_MD_yearsGo I J v1 = some r) (hk : (fun r : MI × MJ => Q (none) (L, r.1, r.2, R)) r) : m_B G (m_rm 8 0 0) M_MD_yearsGo Q 0 0 0 [some (mR (12, 0, 177)), some (mI v1), none] [] (L, I, J, R) := by
  unfold F_MD_yearsGo at hf
  refine b_blk (pc' := 2) (ls' := [some (mR (12, 0, 177)), some (mI v1), some (mI 0)]) (st' := []) (S' := (L, I, J, R)) (P := True) [(.iconst 0, (0, 0, 0, 0, 0)), (.istore_n 2, (0, 0, 0, 0, 0))] [] (by decide +kernel) rfl trivial ?_
  obtain ⟨t1, hw, hf⟩ := bnd_o hf
  refine wl_B (A := fun s : Int32 × MI × MJ => m_B G (m_rm 8 0 0) M_MD_yearsGo Q 0 0 2 [some (mR (12, 0, 177)), some (mI v1), some (mI s.1)] [] (L, s.2.1, s.2.2, R)) (B := (fun s : MI × MJ => m_B G (m_rm 8 0 0) M_MD_yearsGo Q 0 0 17 [none, none, none] [] (L, s.1, s.2, R))) (fun s r hs hr => W_MD_yearsGo_2 s.2.1 s.2.2 v1 s.1 hR hs hr) hw ?_
  show m_B G (m_rm 8 0 0) M_MD_yearsGo Q 0 0 17 [none, none, none] [] (L, t1.1, t1.2, R)
  cases hf
  exact b_vret (by decide +kernel) rfl hk
theorem C_MD_yearsGo {G : MG} {L : List (Nat × Nat)} {R : Nat → Nat → Option MRef} (I : MI) (J : MJ) (v1 : Int32) (hR : RF R) {r : MI × MJ} (hf : F_MD_yearsGo I J v1 = some r) : m_met G 8 0 0 y_MD_yearsGo M_MD_yearsGo [mR (12, 0, 177), mI v1] (L, I, J, R) (m_is (none) (L, r.1, r.2, R)) :=
  m_met_in n_MD_yearsGo (plainFor_of_name (by decide)) (by decide) (Nat.le_of_ble_eq_true rfl) (ls := [some (mR (12, 0, 177)), some (mI v1), none]) rfl (W_MD_yearsGo I J v1 hR hf ⟨rfl, rfl⟩)
noncomputable def F_MD_later (I : MI) (J : MJ) (v1 : Int32) (v2 : Int32) (v3 : Int32) : Option (Int32 × MI × MJ) :=
  (F_MD_isFence I v1).bind fun r1 => if r1 = (0 : Int32) then (some (((-1) : Int32), I, J)) else ((F_MD_isAhead I v2 (0 : Int32) (60 : Int32)).bind fun r3 => if r3 = (0 : Int32) then (some (((-1) : Int32), I, J)) else ((F_MD_isIn v3.toInt64 (0 : Int64) (2 : Int64)).bind fun r5 => if r5 = (0 : Int32) then (some (((-1) : Int32), I, J)) else ((F_MD_putsAside I).bind fun r7 => (F_MD_yearsGo r7 J v2).bind fun r8 => if v3 = (0 : Int32) then ((F_MD_fieldOf r8.1 v1).bind fun r15 => (F_MD_takesBack r8.1).bind fun r16 => some ((r15 : Int32), r16, r8.2)) else (if v3 = (1 : Int32) then ((F_MD_leftOf r8.1 v1).bind fun r13 => (F_MD_takesBack r8.1).bind fun r14 => some ((r13 : Int32), r14, r8.2)) else ((F_MD_ageOf r8.1 v1).bind fun r11 => (F_MD_takesBack r8.1).bind fun r12 => some ((r11 : Int32), r12, r8.2))))))
set_option maxRecDepth 100000 in
set_option maxHeartbeats 400000 in
theorem W_MD_later {G : MG} {Q : Option MV → MS → Prop} {L : List (Nat × Nat)} {R : Nat → Nat → Option MRef} (I : MI) (J : MJ) (v1 : Int32) (v2 : Int32) (v3 : Int32) (hR : RF R) {r : Int32 × MI × MJ} (hf : F_MD_later I J v1 v2 v3 = some r) (hk : (fun r : Int32 × MI × MJ => Q (some (mI r.1)) (L, r.2.1, r.2.2, R)) r) : m_B G (m_rm 9 0 0) M_MD_later Q 0 0 0 [some (mR (12, 0, 177)), some (mI v1), some (mI v2), some (mI v3), none] [] (L, I, J, R) := by
  unfold F_MD_later at hf
  refine b_blk (pc' := 2) (ls' := [some (mR (12, 0, 177)), some (mI v1), some (mI v2), some (mI v3), none]) (st' := [mI v1, mR (12, 0, 177)]) (S' := (L, I, J, R)) (P := True) [(.aload_n 0, (0, 0, 0, 0, 0)), (.iload_n 1, (0, 0, 0, 0, 0))] [] (by decide +kernel) rfl trivial ?_
  obtain ⟨r1, hc1, hf⟩ := bnd_o hf
  refine b_cV (as := [mI v1]) (st := []) (by decide +kernel) k_12_482 n_MD_isFence rfl (by decide) v_MD_isFence (C_MD_isFence I J v1 hR hc1) (Nat.le_of_ble_eq_true rfl) (by decide) rfl rfl (fun _ h => h) ?_
  show m_B G (m_rm 9 0 0) M_MD_later Q 0 0 5 [some (mR (12, 0, 177)), some (mI v1), some (mI v2), some (mI v3), none] [mI r1] (L, I, J, R)
  refine b_if_eq (off := 26) (tgt := 31) (by decide +kernel) (by decide) (fun h2 => ?_) (fun h2 => ?_)
  · have hf := if_t h2 hf
    refine b_blk (pc' := 32) (ls' := [some (mR (12, 0, 177)), some (mI v1), some (mI v2), some (mI v3), none]) (st' := [mI (-1)]) (S' := (L, I, J, R)) (P := True) [(.iconst (-1), (0, 0, 0, (-1), 0))] [] (by decide +kernel) rfl trivial ?_
    cases hf
    exact b_iret (by decide +kernel) rfl hk
  · have hf := if_f h2 hf
    refine b_blk (pc' := 13) (ls' := [some (mR (12, 0, 177)), some (mI v1), some (mI v2), some (mI v3), none]) (st' := [mI 60, mI 0, mI v2, mR (12, 0, 177)]) (S' := (L, I, J, R)) (P := True) [(.aload_n 0, (0, 0, 0, 0, 0)), (.iload_n 2, (0, 0, 0, 0, 0)), (.iconst 0, (0, 0, 0, 0, 0)), (.bipush 60, (0, 0, 0, 60, 0))] [] (by decide +kernel) rfl trivial ?_
    obtain ⟨r3, hc3, hf⟩ := bnd_o hf
    refine b_cV (as := [mI v2, mI 0, mI 60]) (st := []) (by decide +kernel) k_12_495 n_MD_isAhead rfl (by decide) v_MD_isAhead (C_MD_isAhead I J v2 (0 : Int32) (60 : Int32) hR hc3) (Nat.le_of_ble_eq_true rfl) (by decide) rfl rfl (fun _ h => h) ?_
    show m_B G (m_rm 9 0 0) M_MD_later Q 0 0 16 [some (mR (12, 0, 177)), some (mI v1), some (mI v2), some (mI v3), none] [mI r3] (L, I, J, R)
    refine b_if_eq (off := 15) (tgt := 31) (by decide +kernel) (by decide) (fun h4 => ?_) (fun h4 => ?_)
    · have hf := if_t h4 hf
      refine b_blk (pc' := 32) (ls' := [some (mR (12, 0, 177)), some (mI v1), some (mI v2), some (mI v3), none]) (st' := [mI (-1)]) (S' := (L, I, J, R)) (P := True) [(.iconst (-1), (0, 0, 0, (-1), 0))] [] (by decide +kernel) rfl trivial ?_
      cases hf
      exact b_iret (by decide +kernel) rfl hk
    · have hf := if_f h4 hf
      refine b_blk (pc' := 25) (ls' := [some (mR (12, 0, 177)), some (mI v1), some (mI v2), some (mI v3), none]) (st' := [mJ 2, mJ 0, mJ v3.toInt64]) (S' := (L, I, J, R)) (P := True) [(.iload_n 3, (0, 0, 0, 0, 0)), (.i2l, (0, 0, 0, 0, 0)), (.lconst 0, (0, 0, 0, 0, 0)), (.ldc2_w 493, (0, 0, 0, 0, 2))] [] (by decide +kernel) rfl trivial ?_
      obtain ⟨r5, hc5, hf⟩ := bnd_o hf
      refine b_cS (as := [mJ v3.toInt64, mJ 0, mJ 2]) (st := []) (by decide +kernel) k_12_277 n_MD_isIn s_MD_isIn (C_MD_isIn I J v3.toInt64 (0 : Int64) (2 : Int64) hR hc5) (Nat.le_of_ble_eq_true rfl) (by decide) rfl rfl (fun _ h => h) ?_
      show m_B G (m_rm 9 0 0) M_MD_later Q 0 0 28 [some (mR (12, 0, 177)), some (mI v1), some (mI v2), some (mI v3), none] [mI r5] (L, I, J, R)
      refine b_if_ne (off := 5) (tgt := 33) (by decide +kernel) (by decide) (fun h6 => ?_) (fun h6 => ?_)
      · have hf := if_f h6 hf
        refine b_blk (pc' := 34) (ls' := [some (mR (12, 0, 177)), some (mI v1), some (mI v2), some (mI v3), none]) (st' := [mR (12, 0, 177)]) (S' := (L, I, J, R)) (P := True) [(.aload_n 0, (0, 0, 0, 0, 0))] [] (by decide +kernel) rfl trivial ?_
        obtain ⟨r7, hc7, hf⟩ := bnd_o hf
        refine b_cV (as := []) (st := []) (by decide +kernel) k_12_499 n_MD_putsAside rfl (by decide) v_MD_putsAside (C_MD_putsAside I J hR hc7) (Nat.le_of_ble_eq_true rfl) (by decide) rfl rfl (fun _ h => h) ?_
        show m_B G (m_rm 9 0 0) M_MD_later Q 0 0 37 [some (mR (12, 0, 177)), some (mI v1), some (mI v2), some (mI v3), none] [] (L, r7, J, R)
        refine b_blk (pc' := 39) (ls' := [some (mR (12, 0, 177)), some (mI v1), some (mI v2), some (mI v3), none]) (st' := [mI v2, mR (12, 0, 177)]) (S' := (L, r7, J, R)) (P := True) [(.aload_n 0, (0, 0, 0, 0, 0)), (.iload_n 2, (0, 0, 0, 0, 0))] [] (by decide +kernel) rfl trivial ?_
        obtain ⟨r8, hc8, hf⟩ := bnd_o hf
        refine b_cV (as := [mI v2]) (st := []) (by decide +kernel) k_12_502 n_MD_yearsGo rfl (by decide) v_MD_yearsGo (C_MD_yearsGo r7 J v2 hR hc8) (Nat.le_of_ble_eq_true rfl) (by decide) rfl rfl (fun _ h => h) ?_
        show m_B G (m_rm 9 0 0) M_MD_later Q 0 0 42 [some (mR (12, 0, 177)), some (mI v1), some (mI v2), some (mI v3), none] [] (L, r8.1, r8.2, R)
        refine b_blk (pc' := 43) (ls' := [some (mR (12, 0, 177)), some (mI v1), some (mI v2), some (mI v3), none]) (st' := [mI v3]) (S' := (L, r8.1, r8.2, R)) (P := True) [(.iload_n 3, (0, 0, 0, 0, 0))] [] (by decide +kernel) rfl trivial ?_
        refine b_if_ne (off := 11) (tgt := 54) (by decide +kernel) (by decide) (fun h9 => ?_) (fun h9 => ?_)
        · have hf := if_f h9 hf
          refine b_blk (pc' := 56) (ls' := [some (mR (12, 0, 177)), some (mI v1), some (mI v2), some (mI v3), none]) (st' := [mI 1, mI v3]) (S' := (L, r8.1, r8.2, R)) (P := True) [(.iload_n 3, (0, 0, 0, 0, 0)), (.iconst 1, (0, 0, 0, 1, 0))] [] (by decide +kernel) rfl trivial ?_
          refine b_icmp_ne (off := 11) (tgt := 67) (by decide +kernel) (by decide) (fun h10 => ?_) (fun h10 => ?_)
          · have hf := if_f h10 hf
            refine b_blk (pc' := 69) (ls' := [some (mR (12, 0, 177)), some (mI v1), some (mI v2), some (mI v3), none]) (st' := [mI v1, mR (12, 0, 177)]) (S' := (L, r8.1, r8.2, R)) (P := True) [(.aload_n 0, (0, 0, 0, 0, 0)), (.iload_n 1, (0, 0, 0, 0, 0))] [] (by decide +kernel) rfl trivial ?_
            obtain ⟨r11, hc11, hf⟩ := bnd_o hf
            refine b_cV (as := [mI v1]) (st := []) (by decide +kernel) k_12_452 n_MD_ageOf rfl (by decide) v_MD_ageOf (C_MD_ageOf r8.1 r8.2 v1 hR hc11) (Nat.le_of_ble_eq_true rfl) (by decide) rfl rfl (fun _ h => h) ?_
            show m_B G (m_rm 9 0 0) M_MD_later Q 0 0 72 [some (mR (12, 0, 177)), some (mI v1), some (mI v2), some (mI v3), none] [mI r11] (L, r8.1, r8.2, R)
            refine b_blk (pc' := 75) (ls' := [some (mR (12, 0, 177)), some (mI v1), some (mI v2), some (mI v3), some (mI r11)]) (st' := [mR (12, 0, 177)]) (S' := (L, r8.1, r8.2, R)) (P := True) [(.istore 4, (0, 0, 0, 0, 0)), (.aload_n 0, (0, 0, 0, 0, 0))] [] (by decide +kernel) rfl trivial ?_
            obtain ⟨r12, hc12, hf⟩ := bnd_o hf
            refine b_cV (as := []) (st := []) (by decide +kernel) k_12_505 n_MD_takesBack rfl (by decide) v_MD_takesBack (C_MD_takesBack r8.1 r8.2 hR hc12) (Nat.le_of_ble_eq_true rfl) (by decide) rfl rfl (fun _ h => h) ?_
            show m_B G (m_rm 9 0 0) M_MD_later Q 0 0 78 [some (mR (12, 0, 177)), some (mI v1), some (mI v2), some (mI v3), some (mI r11)] [] (L, r12, r8.2, R)
            refine b_blk (pc' := 80) (ls' := [some (mR (12, 0, 177)), some (mI v1), some (mI v2), some (mI v3), some (mI r11)]) (st' := [mI r11]) (S' := (L, r12, r8.2, R)) (P := True) [(.iload 4, (0, 0, 0, 0, 0))] [] (by decide +kernel) rfl trivial ?_
            cases hf
            exact b_iret (by decide +kernel) rfl hk
          · have hf := if_t h10 hf
            refine b_blk (pc' := 61) (ls' := [some (mR (12, 0, 177)), some (mI v1), some (mI v2), some (mI v3), none]) (st' := [mI v1, mR (12, 0, 177)]) (S' := (L, r8.1, r8.2, R)) (P := True) [(.aload_n 0, (0, 0, 0, 0, 0)), (.iload_n 1, (0, 0, 0, 0, 0))] [] (by decide +kernel) rfl trivial ?_
            obtain ⟨r13, hc13, hf⟩ := bnd_o hf
            refine b_cV (as := [mI v1]) (st := []) (by decide +kernel) k_12_467 n_MD_leftOf rfl (by decide) v_MD_leftOf (C_MD_leftOf r8.1 r8.2 v1 hR hc13) (Nat.le_of_ble_eq_true rfl) (by decide) rfl rfl (fun _ h => h) ?_
            show m_B G (m_rm 9 0 0) M_MD_later Q 0 0 64 [some (mR (12, 0, 177)), some (mI v1), some (mI v2), some (mI v3), none] [mI r13] (L, r8.1, r8.2, R)
            refine b_blk (pc' := 72) (ls' := [some (mR (12, 0, 177)), some (mI v1), some (mI v2), some (mI v3), none]) (st' := [mI r13]) (S' := (L, r8.1, r8.2, R)) (P := True) [(.goto 8, (0, 72, 0, 0, 0))] [] (by decide +kernel) rfl trivial ?_
            refine b_blk (pc' := 75) (ls' := [some (mR (12, 0, 177)), some (mI v1), some (mI v2), some (mI v3), some (mI r13)]) (st' := [mR (12, 0, 177)]) (S' := (L, r8.1, r8.2, R)) (P := True) [(.istore 4, (0, 0, 0, 0, 0)), (.aload_n 0, (0, 0, 0, 0, 0))] [] (by decide +kernel) rfl trivial ?_
            obtain ⟨r14, hc14, hf⟩ := bnd_o hf
            refine b_cV (as := []) (st := []) (by decide +kernel) k_12_505 n_MD_takesBack rfl (by decide) v_MD_takesBack (C_MD_takesBack r8.1 r8.2 hR hc14) (Nat.le_of_ble_eq_true rfl) (by decide) rfl rfl (fun _ h => h) ?_
            show m_B G (m_rm 9 0 0) M_MD_later Q 0 0 78 [some (mR (12, 0, 177)), some (mI v1), some (mI v2), some (mI v3), some (mI r13)] [] (L, r14, r8.2, R)
            refine b_blk (pc' := 80) (ls' := [some (mR (12, 0, 177)), some (mI v1), some (mI v2), some (mI v3), some (mI r13)]) (st' := [mI r13]) (S' := (L, r14, r8.2, R)) (P := True) [(.iload 4, (0, 0, 0, 0, 0))] [] (by decide +kernel) rfl trivial ?_
            cases hf
            exact b_iret (by decide +kernel) rfl hk
        · have hf := if_t h9 hf
          refine b_blk (pc' := 48) (ls' := [some (mR (12, 0, 177)), some (mI v1), some (mI v2), some (mI v3), none]) (st' := [mI v1, mR (12, 0, 177)]) (S' := (L, r8.1, r8.2, R)) (P := True) [(.aload_n 0, (0, 0, 0, 0, 0)), (.iload_n 1, (0, 0, 0, 0, 0))] [] (by decide +kernel) rfl trivial ?_
          obtain ⟨r15, hc15, hf⟩ := bnd_o hf
          refine b_cV (as := [mI v1]) (st := []) (by decide +kernel) k_12_479 n_MD_fieldOf rfl (by decide) v_MD_fieldOf (C_MD_fieldOf r8.1 r8.2 v1 hR hc15) (Nat.le_of_ble_eq_true rfl) (by decide) rfl rfl (fun _ h => h) ?_
          show m_B G (m_rm 9 0 0) M_MD_later Q 0 0 51 [some (mR (12, 0, 177)), some (mI v1), some (mI v2), some (mI v3), none] [mI r15] (L, r8.1, r8.2, R)
          refine b_blk (pc' := 72) (ls' := [some (mR (12, 0, 177)), some (mI v1), some (mI v2), some (mI v3), none]) (st' := [mI r15]) (S' := (L, r8.1, r8.2, R)) (P := True) [(.goto 21, (0, 72, 0, 0, 0))] [] (by decide +kernel) rfl trivial ?_
          refine b_blk (pc' := 75) (ls' := [some (mR (12, 0, 177)), some (mI v1), some (mI v2), some (mI v3), some (mI r15)]) (st' := [mR (12, 0, 177)]) (S' := (L, r8.1, r8.2, R)) (P := True) [(.istore 4, (0, 0, 0, 0, 0)), (.aload_n 0, (0, 0, 0, 0, 0))] [] (by decide +kernel) rfl trivial ?_
          obtain ⟨r16, hc16, hf⟩ := bnd_o hf
          refine b_cV (as := []) (st := []) (by decide +kernel) k_12_505 n_MD_takesBack rfl (by decide) v_MD_takesBack (C_MD_takesBack r8.1 r8.2 hR hc16) (Nat.le_of_ble_eq_true rfl) (by decide) rfl rfl (fun _ h => h) ?_
          show m_B G (m_rm 9 0 0) M_MD_later Q 0 0 78 [some (mR (12, 0, 177)), some (mI v1), some (mI v2), some (mI v3), some (mI r15)] [] (L, r16, r8.2, R)
          refine b_blk (pc' := 80) (ls' := [some (mR (12, 0, 177)), some (mI v1), some (mI v2), some (mI v3), some (mI r15)]) (st' := [mI r15]) (S' := (L, r16, r8.2, R)) (P := True) [(.iload 4, (0, 0, 0, 0, 0))] [] (by decide +kernel) rfl trivial ?_
          cases hf
          exact b_iret (by decide +kernel) rfl hk
      · have hf := if_t h6 hf
        refine b_blk (pc' := 32) (ls' := [some (mR (12, 0, 177)), some (mI v1), some (mI v2), some (mI v3), none]) (st' := [mI (-1)]) (S' := (L, I, J, R)) (P := True) [(.iconst (-1), (0, 0, 0, (-1), 0))] [] (by decide +kernel) rfl trivial ?_
        cases hf
        exact b_iret (by decide +kernel) rfl hk
theorem C_MD_later {G : MG} {L : List (Nat × Nat)} {R : Nat → Nat → Option MRef} (I : MI) (J : MJ) (v1 : Int32) (v2 : Int32) (v3 : Int32) (hR : RF R) {r : Int32 × MI × MJ} (hf : F_MD_later I J v1 v2 v3 = some r) : m_met G 9 0 0 y_MD_later M_MD_later [mR (12, 0, 177), mI v1, mI v2, mI v3] (L, I, J, R) (m_is (some (mI r.1)) (L, r.2.1, r.2.2, R)) :=
  m_met_in n_MD_later (plainFor_of_name (by decide)) (by decide) (Nat.le_of_ble_eq_true rfl) (ls := [some (mR (12, 0, 177)), some (mI v1), some (mI v2), some (mI v3), none]) rfl (W_MD_later I J v1 v2 v3 hR hf ⟨rfl, rfl⟩)
noncomputable def F_MD_whose (I : MI) (J : MJ) (v1 : Int32) (v2 : Int32) (v3 : Int32) : Option (Int32 × MI × MJ) :=
  (F_MD_isPlace I v1 v2).bind fun r1 => if r1 = (0 : Int32) then (some (((-1) : Int32), I, J)) else ((F_MD_isAhead I v3 (0 : Int32) (60 : Int32)).bind fun r3 => if r3 = (0 : Int32) then (some (((-1) : Int32), I, J)) else ((F_MD_putsAside I).bind fun r5 => (F_MD_yearsGo r5 J v3).bind fun r6 => (F_MD_whoseIs r6.1 v1 v2).bind fun r7 => (F_MD_takesBack r6.1).bind fun r8 => some ((r7 : Int32), r8, r6.2)))
set_option maxRecDepth 100000 in
set_option maxHeartbeats 400000 in
theorem W_MD_whose {G : MG} {Q : Option MV → MS → Prop} {L : List (Nat × Nat)} {R : Nat → Nat → Option MRef} (I : MI) (J : MJ) (v1 : Int32) (v2 : Int32) (v3 : Int32) (hR : RF R) {r : Int32 × MI × MJ} (hf : F_MD_whose I J v1 v2 v3 = some r) (hk : (fun r : Int32 × MI × MJ => Q (some (mI r.1)) (L, r.2.1, r.2.2, R)) r) : m_B G (m_rm 9 0 0) M_MD_whose Q 0 0 0 [some (mR (12, 0, 177)), some (mI v1), some (mI v2), some (mI v3), none] [] (L, I, J, R) := by
  unfold F_MD_whose at hf
  refine b_blk (pc' := 3) (ls' := [some (mR (12, 0, 177)), some (mI v1), some (mI v2), some (mI v3), none]) (st' := [mI v2, mI v1, mR (12, 0, 177)]) (S' := (L, I, J, R)) (P := True) [(.aload_n 0, (0, 0, 0, 0, 0)), (.iload_n 1, (0, 0, 0, 0, 0)), (.iload_n 2, (0, 0, 0, 0, 0))] [] (by decide +kernel) rfl trivial ?_
  obtain ⟨r1, hc1, hf⟩ := bnd_o hf
  refine b_cV (as := [mI v1, mI v2]) (st := []) (by decide +kernel) k_12_487 n_MD_isPlace rfl (by decide) v_MD_isPlace (C_MD_isPlace I J v1 v2 hR hc1) (Nat.le_of_ble_eq_true rfl) (by decide) rfl rfl (fun _ h => h) ?_
  show m_B G (m_rm 9 0 0) M_MD_whose Q 0 0 6 [some (mR (12, 0, 177)), some (mI v1), some (mI v2), some (mI v3), none] [mI r1] (L, I, J, R)
  refine b_if_eq (off := 14) (tgt := 20) (by decide +kernel) (by decide) (fun h2 => ?_) (fun h2 => ?_)
  · have hf := if_t h2 hf
    refine b_blk (pc' := 21) (ls' := [some (mR (12, 0, 177)), some (mI v1), some (mI v2), some (mI v3), none]) (st' := [mI (-1)]) (S' := (L, I, J, R)) (P := True) [(.iconst (-1), (0, 0, 0, (-1), 0))] [] (by decide +kernel) rfl trivial ?_
    cases hf
    exact b_iret (by decide +kernel) rfl hk
  · have hf := if_f h2 hf
    refine b_blk (pc' := 14) (ls' := [some (mR (12, 0, 177)), some (mI v1), some (mI v2), some (mI v3), none]) (st' := [mI 60, mI 0, mI v3, mR (12, 0, 177)]) (S' := (L, I, J, R)) (P := True) [(.aload_n 0, (0, 0, 0, 0, 0)), (.iload_n 3, (0, 0, 0, 0, 0)), (.iconst 0, (0, 0, 0, 0, 0)), (.bipush 60, (0, 0, 0, 60, 0))] [] (by decide +kernel) rfl trivial ?_
    obtain ⟨r3, hc3, hf⟩ := bnd_o hf
    refine b_cV (as := [mI v3, mI 0, mI 60]) (st := []) (by decide +kernel) k_12_495 n_MD_isAhead rfl (by decide) v_MD_isAhead (C_MD_isAhead I J v3 (0 : Int32) (60 : Int32) hR hc3) (Nat.le_of_ble_eq_true rfl) (by decide) rfl rfl (fun _ h => h) ?_
    show m_B G (m_rm 9 0 0) M_MD_whose Q 0 0 17 [some (mR (12, 0, 177)), some (mI v1), some (mI v2), some (mI v3), none] [mI r3] (L, I, J, R)
    refine b_if_ne (off := 5) (tgt := 22) (by decide +kernel) (by decide) (fun h4 => ?_) (fun h4 => ?_)
    · have hf := if_f h4 hf
      refine b_blk (pc' := 23) (ls' := [some (mR (12, 0, 177)), some (mI v1), some (mI v2), some (mI v3), none]) (st' := [mR (12, 0, 177)]) (S' := (L, I, J, R)) (P := True) [(.aload_n 0, (0, 0, 0, 0, 0))] [] (by decide +kernel) rfl trivial ?_
      obtain ⟨r5, hc5, hf⟩ := bnd_o hf
      refine b_cV (as := []) (st := []) (by decide +kernel) k_12_499 n_MD_putsAside rfl (by decide) v_MD_putsAside (C_MD_putsAside I J hR hc5) (Nat.le_of_ble_eq_true rfl) (by decide) rfl rfl (fun _ h => h) ?_
      show m_B G (m_rm 9 0 0) M_MD_whose Q 0 0 26 [some (mR (12, 0, 177)), some (mI v1), some (mI v2), some (mI v3), none] [] (L, r5, J, R)
      refine b_blk (pc' := 28) (ls' := [some (mR (12, 0, 177)), some (mI v1), some (mI v2), some (mI v3), none]) (st' := [mI v3, mR (12, 0, 177)]) (S' := (L, r5, J, R)) (P := True) [(.aload_n 0, (0, 0, 0, 0, 0)), (.iload_n 3, (0, 0, 0, 0, 0))] [] (by decide +kernel) rfl trivial ?_
      obtain ⟨r6, hc6, hf⟩ := bnd_o hf
      refine b_cV (as := [mI v3]) (st := []) (by decide +kernel) k_12_502 n_MD_yearsGo rfl (by decide) v_MD_yearsGo (C_MD_yearsGo r5 J v3 hR hc6) (Nat.le_of_ble_eq_true rfl) (by decide) rfl rfl (fun _ h => h) ?_
      show m_B G (m_rm 9 0 0) M_MD_whose Q 0 0 31 [some (mR (12, 0, 177)), some (mI v1), some (mI v2), some (mI v3), none] [] (L, r6.1, r6.2, R)
      refine b_blk (pc' := 34) (ls' := [some (mR (12, 0, 177)), some (mI v1), some (mI v2), some (mI v3), none]) (st' := [mI v2, mI v1, mR (12, 0, 177)]) (S' := (L, r6.1, r6.2, R)) (P := True) [(.aload_n 0, (0, 0, 0, 0, 0)), (.iload_n 1, (0, 0, 0, 0, 0)), (.iload_n 2, (0, 0, 0, 0, 0))] [] (by decide +kernel) rfl trivial ?_
      obtain ⟨r7, hc7, hf⟩ := bnd_o hf
      refine b_cV (as := [mI v1, mI v2]) (st := []) (by decide +kernel) k_12_395 n_MD_whoseIs rfl (by decide) v_MD_whoseIs (C_MD_whoseIs r6.1 r6.2 v1 v2 hR hc7) (Nat.le_of_ble_eq_true rfl) (by decide) rfl rfl (fun _ h => h) ?_
      show m_B G (m_rm 9 0 0) M_MD_whose Q 0 0 37 [some (mR (12, 0, 177)), some (mI v1), some (mI v2), some (mI v3), none] [mI r7] (L, r6.1, r6.2, R)
      refine b_blk (pc' := 40) (ls' := [some (mR (12, 0, 177)), some (mI v1), some (mI v2), some (mI v3), some (mI r7)]) (st' := [mR (12, 0, 177)]) (S' := (L, r6.1, r6.2, R)) (P := True) [(.istore 4, (0, 0, 0, 0, 0)), (.aload_n 0, (0, 0, 0, 0, 0))] [] (by decide +kernel) rfl trivial ?_
      obtain ⟨r8, hc8, hf⟩ := bnd_o hf
      refine b_cV (as := []) (st := []) (by decide +kernel) k_12_505 n_MD_takesBack rfl (by decide) v_MD_takesBack (C_MD_takesBack r6.1 r6.2 hR hc8) (Nat.le_of_ble_eq_true rfl) (by decide) rfl rfl (fun _ h => h) ?_
      show m_B G (m_rm 9 0 0) M_MD_whose Q 0 0 43 [some (mR (12, 0, 177)), some (mI v1), some (mI v2), some (mI v3), some (mI r7)] [] (L, r8, r6.2, R)
      refine b_blk (pc' := 45) (ls' := [some (mR (12, 0, 177)), some (mI v1), some (mI v2), some (mI v3), some (mI r7)]) (st' := [mI r7]) (S' := (L, r8, r6.2, R)) (P := True) [(.iload 4, (0, 0, 0, 0, 0))] [] (by decide +kernel) rfl trivial ?_
      cases hf
      exact b_iret (by decide +kernel) rfl hk
    · have hf := if_t h4 hf
      refine b_blk (pc' := 21) (ls' := [some (mR (12, 0, 177)), some (mI v1), some (mI v2), some (mI v3), none]) (st' := [mI (-1)]) (S' := (L, I, J, R)) (P := True) [(.iconst (-1), (0, 0, 0, (-1), 0))] [] (by decide +kernel) rfl trivial ?_
      cases hf
      exact b_iret (by decide +kernel) rfl hk
theorem C_MD_whose {G : MG} {L : List (Nat × Nat)} {R : Nat → Nat → Option MRef} (I : MI) (J : MJ) (v1 : Int32) (v2 : Int32) (v3 : Int32) (hR : RF R) {r : Int32 × MI × MJ} (hf : F_MD_whose I J v1 v2 v3 = some r) : m_met G 9 0 0 y_MD_whose M_MD_whose [mR (12, 0, 177), mI v1, mI v2, mI v3] (L, I, J, R) (m_is (some (mI r.1)) (L, r.2.1, r.2.2, R)) :=
  m_met_in n_MD_whose (plainFor_of_name (by decide)) (by decide) (Nat.le_of_ble_eq_true rfl) (ls := [some (mR (12, 0, 177)), some (mI v1), some (mI v2), some (mI v3), none]) rfl (W_MD_whose I J v1 v2 v3 hR hf ⟨rfl, rfl⟩)
noncomputable def F_MD_areTwo (I : MI) (v1 : Int32) (v2 : Int32) : Option (Int32) :=
  (F_MD_isFence I v1).bind fun r1 => if r1 = (0 : Int32) then (some (0 : Int32)) else ((F_MD_isFence I v2).bind fun r3 => if r3 = (0 : Int32) then (some (0 : Int32)) else (if v1 = v2 then (some (0 : Int32)) else (some (1 : Int32))))
set_option maxRecDepth 100000 in
set_option maxHeartbeats 400000 in
theorem W_MD_areTwo {G : MG} {Q : Option MV → MS → Prop} {L : List (Nat × Nat)} {R : Nat → Nat → Option MRef} (I : MI) (J : MJ) (v1 : Int32) (v2 : Int32) (hR : RF R) {r : Int32} (hf : F_MD_areTwo I v1 v2 = some r) (hk : (fun r : Int32 => Q (some (mI r)) (L, I, J, R)) r) : m_B G (m_rm 3 0 0) M_MD_areTwo Q 0 0 0 [some (mR (12, 0, 177)), some (mI v1), some (mI v2)] [] (L, I, J, R) := by
  unfold F_MD_areTwo at hf
  refine b_blk (pc' := 2) (ls' := [some (mR (12, 0, 177)), some (mI v1), some (mI v2)]) (st' := [mI v1, mR (12, 0, 177)]) (S' := (L, I, J, R)) (P := True) [(.aload_n 0, (0, 0, 0, 0, 0)), (.iload_n 1, (0, 0, 0, 0, 0))] [] (by decide +kernel) rfl trivial ?_
  obtain ⟨r1, hc1, hf⟩ := bnd_o hf
  refine b_cV (as := [mI v1]) (st := []) (by decide +kernel) k_12_482 n_MD_isFence rfl (by decide) v_MD_isFence (C_MD_isFence I J v1 hR hc1) (Nat.le_of_ble_eq_true rfl) (by decide) rfl rfl (fun _ h => h) ?_
  show m_B G (m_rm 3 0 0) M_MD_areTwo Q 0 0 5 [some (mR (12, 0, 177)), some (mI v1), some (mI v2)] [mI r1] (L, I, J, R)
  refine b_if_eq (off := 20) (tgt := 25) (by decide +kernel) (by decide) (fun h2 => ?_) (fun h2 => ?_)
  · have hf := if_t h2 hf
    refine b_blk (pc' := 26) (ls' := [some (mR (12, 0, 177)), some (mI v1), some (mI v2)]) (st' := [mI 0]) (S' := (L, I, J, R)) (P := True) [(.iconst 0, (0, 0, 0, 0, 0))] [] (by decide +kernel) rfl trivial ?_
    cases hf
    exact b_zret (by decide +kernel) rfl (by decide) hk
  · have hf := if_f h2 hf
    refine b_blk (pc' := 10) (ls' := [some (mR (12, 0, 177)), some (mI v1), some (mI v2)]) (st' := [mI v2, mR (12, 0, 177)]) (S' := (L, I, J, R)) (P := True) [(.aload_n 0, (0, 0, 0, 0, 0)), (.iload_n 2, (0, 0, 0, 0, 0))] [] (by decide +kernel) rfl trivial ?_
    obtain ⟨r3, hc3, hf⟩ := bnd_o hf
    refine b_cV (as := [mI v2]) (st := []) (by decide +kernel) k_12_482 n_MD_isFence rfl (by decide) v_MD_isFence (C_MD_isFence I J v2 hR hc3) (Nat.le_of_ble_eq_true rfl) (by decide) rfl rfl (fun _ h => h) ?_
    show m_B G (m_rm 3 0 0) M_MD_areTwo Q 0 0 13 [some (mR (12, 0, 177)), some (mI v1), some (mI v2)] [mI r3] (L, I, J, R)
    refine b_if_eq (off := 12) (tgt := 25) (by decide +kernel) (by decide) (fun h4 => ?_) (fun h4 => ?_)
    · have hf := if_t h4 hf
      refine b_blk (pc' := 26) (ls' := [some (mR (12, 0, 177)), some (mI v1), some (mI v2)]) (st' := [mI 0]) (S' := (L, I, J, R)) (P := True) [(.iconst 0, (0, 0, 0, 0, 0))] [] (by decide +kernel) rfl trivial ?_
      cases hf
      exact b_zret (by decide +kernel) rfl (by decide) hk
    · have hf := if_f h4 hf
      refine b_blk (pc' := 18) (ls' := [some (mR (12, 0, 177)), some (mI v1), some (mI v2)]) (st' := [mI v2, mI v1]) (S' := (L, I, J, R)) (P := True) [(.iload_n 1, (0, 0, 0, 0, 0)), (.iload_n 2, (0, 0, 0, 0, 0))] [] (by decide +kernel) rfl trivial ?_
      refine b_icmp_eq (off := 7) (tgt := 25) (by decide +kernel) (by decide) (fun h5 => ?_) (fun h5 => ?_)
      · have hf := if_t h5 hf
        refine b_blk (pc' := 26) (ls' := [some (mR (12, 0, 177)), some (mI v1), some (mI v2)]) (st' := [mI 0]) (S' := (L, I, J, R)) (P := True) [(.iconst 0, (0, 0, 0, 0, 0))] [] (by decide +kernel) rfl trivial ?_
        cases hf
        exact b_zret (by decide +kernel) rfl (by decide) hk
      · have hf := if_f h5 hf
        refine b_blk (pc' := 26) (ls' := [some (mR (12, 0, 177)), some (mI v1), some (mI v2)]) (st' := [mI 1]) (S' := (L, I, J, R)) (P := True) [(.iconst 1, (0, 0, 0, 1, 0)), (.goto 4, (0, 26, 0, 0, 0))] [] (by decide +kernel) rfl trivial ?_
        cases hf
        exact b_zret (by decide +kernel) rfl (by decide) hk
theorem C_MD_areTwo {G : MG} {L : List (Nat × Nat)} {R : Nat → Nat → Option MRef} (I : MI) (J : MJ) (v1 : Int32) (v2 : Int32) (hR : RF R) {r : Int32} (hf : F_MD_areTwo I v1 v2 = some r) : m_met G 3 0 0 y_MD_areTwo M_MD_areTwo [mR (12, 0, 177), mI v1, mI v2] (L, I, J, R) (m_is (some (mI r)) (L, I, J, R)) :=
  m_met_in n_MD_areTwo (plainFor_of_name (by decide)) (by decide) (Nat.le_of_ble_eq_true rfl) (ls := [some (mR (12, 0, 177)), some (mI v1), some (mI v2)]) rfl (W_MD_areTwo I J v1 v2 hR hf ⟨rfl, rfl⟩)
noncomputable def F_MD_doMeet_2 (I : MI) (v1 : Int32) (v2 : Int32) (v3 : Int32) : Option ((Int32) ⊕ ((Unit) ⊕ (Int32))) :=
  if (I 204 2) ≤ v3 then (some (.inr (.inl ()))) else ((F_MD_rowOf I v1 v3).bind fun r2 => if r2 = (-1 : Int32) then (some (.inl (v3 + 1 : Int32))) else ((F_MD_rowOf I v1 v3).bind fun r4 => (F_MD_rowOf I v2 v3).bind fun r5 => if r4 = r5 then (some (.inr (.inr (1 : Int32)))) else (some (.inl (v3 + 1 : Int32)))))
set_option maxRecDepth 100000 in
set_option maxHeartbeats 400000 in
theorem W_MD_doMeet_2 {G : MG} {Q : Option MV → MS → Prop} {L : List (Nat × Nat)} {R : Nat → Nat → Option MRef} (I : MI) (J : MJ) (v1 : Int32) (v2 : Int32) (v3 : Int32) (hR : RF R) {r : (Int32) ⊕ ((Unit) ⊕ (Int32))} (hf : F_MD_doMeet_2 I v1 v2 v3 = some r) (hk : (Sum.elim (fun s : Int32 => m_B G (m_rm 2 0 0) M_MD_doMeet Q 0 0 2 [some (mR (12, 0, 177)), some (mI v1), some (mI v2), some (mI s)] [] (L, I, J, R)) (Sum.elim (fun s : Unit => m_B G (m_rm 2 0 0) M_MD_doMeet Q 0 0 45 [none, none, none, none] [] (L, I, J, R)) (fun r : Int32 => Q (some (mI r)) (L, I, J, R)))) r) : m_B G (m_rm 2 0 0) M_MD_doMeet Q 0 0 2 [some (mR (12, 0, 177)), some (mI v1), some (mI v2), some (mI v3)] [] (L, I, J, R) := by
  unfold F_MD_doMeet_2 at hf
  refine b_blk (pc' := 9) (ls' := [some (mR (12, 0, 177)), some (mI v1), some (mI v2), some (mI v3)]) (st' := [mI (I 204 2), mI v3]) (S' := (L, I, J, R)) (P := ((True ∧ R 177 36 = some (20, 4, 204)) ∧ vp_in (2 : Int32) 4)) [(.iload_n 3, (0, 0, 0, 0, 0)), (.aload_n 0, (0, 0, 0, 0, 0)), (.getfield 93, (12, 36, 3, 0, 0)), (.iconst 2, (0, 0, 0, 2, 0)), (.iaload, (0, 0, 0, 0, 0))] [some (20, 4, 204)] (by decide +kernel) rfl ⟨⟨trivial, (r_177_36 hR)⟩, (vp_in_nI (n := 2) (N := 4) (by decide) (by decide))⟩ ?_
  refine b_icmp_ge (off := 36) (tgt := 45) (by decide +kernel) (by decide) (fun h1 => ?_) (fun h1 => ?_)
  · have hf := if_t h1 hf
    refine b_frg 0 ?_
    refine b_frg 1 ?_
    refine b_frg 2 ?_
    refine b_frg 3 ?_
    cases hf
    exact hk
  · have hf := if_f h1 hf
    refine b_blk (pc' := 15) (ls' := [some (mR (12, 0, 177)), some (mI v1), some (mI v2), some (mI v3)]) (st' := [mI v3, mI v1, mR (12, 0, 177)]) (S' := (L, I, J, R)) (P := True) [(.aload_n 0, (0, 0, 0, 0, 0)), (.iload_n 1, (0, 0, 0, 0, 0)), (.iload_n 3, (0, 0, 0, 0, 0))] [] (by decide +kernel) rfl trivial ?_
    obtain ⟨r2, hc2, hf⟩ := bnd_o hf
    refine b_cV (as := [mI v1, mI v3]) (st := []) (by decide +kernel) k_12_392 n_MD_rowOf rfl (by decide) v_MD_rowOf (C_MD_rowOf I J v1 v3 hR hc2) (Nat.le_of_ble_eq_true rfl) (by decide) rfl rfl (fun _ h => h) ?_
    show m_B G (m_rm 2 0 0) M_MD_doMeet Q 0 0 18 [some (mR (12, 0, 177)), some (mI v1), some (mI v2), some (mI v3)] [mI r2] (L, I, J, R)
    refine b_blk (pc' := 19) (ls' := [some (mR (12, 0, 177)), some (mI v1), some (mI v2), some (mI v3)]) (st' := [mI (-1), mI r2]) (S' := (L, I, J, R)) (P := True) [(.iconst (-1), (0, 0, 0, (-1), 0))] [] (by decide +kernel) rfl trivial ?_
    refine b_icmp_eq (off := 20) (tgt := 39) (by decide +kernel) (by decide) (fun h3 => ?_) (fun h3 => ?_)
    · have hf := if_t h3 hf
      refine b_blk (pc' := 2) (ls' := [some (mR (12, 0, 177)), some (mI v1), some (mI v2), some (mI (v3 + 1))]) (st' := []) (S' := (L, I, J, R)) (P := True) [(.iinc 3 1, (0, 0, 0, 1, 0)), (.goto (-40), (0, 2, 0, 0, 0))] [] (by decide +kernel) rfl trivial ?_
      cases hf
      exact hk
    · have hf := if_f h3 hf
      refine b_blk (pc' := 25) (ls' := [some (mR (12, 0, 177)), some (mI v1), some (mI v2), some (mI v3)]) (st' := [mI v3, mI v1, mR (12, 0, 177)]) (S' := (L, I, J, R)) (P := True) [(.aload_n 0, (0, 0, 0, 0, 0)), (.iload_n 1, (0, 0, 0, 0, 0)), (.iload_n 3, (0, 0, 0, 0, 0))] [] (by decide +kernel) rfl trivial ?_
      obtain ⟨r4, hc4, hf⟩ := bnd_o hf
      refine b_cV (as := [mI v1, mI v3]) (st := []) (by decide +kernel) k_12_392 n_MD_rowOf rfl (by decide) v_MD_rowOf (C_MD_rowOf I J v1 v3 hR hc4) (Nat.le_of_ble_eq_true rfl) (by decide) rfl rfl (fun _ h => h) ?_
      show m_B G (m_rm 2 0 0) M_MD_doMeet Q 0 0 28 [some (mR (12, 0, 177)), some (mI v1), some (mI v2), some (mI v3)] [mI r4] (L, I, J, R)
      refine b_blk (pc' := 31) (ls' := [some (mR (12, 0, 177)), some (mI v1), some (mI v2), some (mI v3)]) (st' := [mI v3, mI v2, mR (12, 0, 177), mI r4]) (S' := (L, I, J, R)) (P := True) [(.aload_n 0, (0, 0, 0, 0, 0)), (.iload_n 2, (0, 0, 0, 0, 0)), (.iload_n 3, (0, 0, 0, 0, 0))] [] (by decide +kernel) rfl trivial ?_
      obtain ⟨r5, hc5, hf⟩ := bnd_o hf
      refine b_cV (as := [mI v2, mI v3]) (st := [mI r4]) (by decide +kernel) k_12_392 n_MD_rowOf rfl (by decide) v_MD_rowOf (C_MD_rowOf I J v2 v3 hR hc5) (Nat.le_of_ble_eq_true rfl) (by decide) rfl rfl (fun _ h => h) ?_
      show m_B G (m_rm 2 0 0) M_MD_doMeet Q 0 0 34 [some (mR (12, 0, 177)), some (mI v1), some (mI v2), some (mI v3)] [mI r5, mI r4] (L, I, J, R)
      refine b_icmp_ne (off := 5) (tgt := 39) (by decide +kernel) (by decide) (fun h6 => ?_) (fun h6 => ?_)
      · have hf := if_f h6 hf
        refine b_blk (pc' := 2) (ls' := [some (mR (12, 0, 177)), some (mI v1), some (mI v2), some (mI (v3 + 1))]) (st' := []) (S' := (L, I, J, R)) (P := True) [(.iinc 3 1, (0, 0, 0, 1, 0)), (.goto (-40), (0, 2, 0, 0, 0))] [] (by decide +kernel) rfl trivial ?_
        cases hf
        exact hk
      · have hf := if_t h6 hf
        refine b_blk (pc' := 38) (ls' := [some (mR (12, 0, 177)), some (mI v1), some (mI v2), some (mI v3)]) (st' := [mI 1]) (S' := (L, I, J, R)) (P := True) [(.iconst 1, (0, 0, 0, 1, 0))] [] (by decide +kernel) rfl trivial ?_
        cases hf
        exact b_zret (by decide +kernel) rfl (by decide) hk
noncomputable def F_MD_doMeet (I : MI) (v1 : Int32) (v2 : Int32) : Option (Int32) :=
  (wl (fun s : Int32 => F_MD_doMeet_2 I v1 v2 s) (0 : Int32)).bind <| sel (fun q => some q) fun t1 => some (0 : Int32)
set_option maxRecDepth 100000 in
set_option maxHeartbeats 400000 in
theorem W_MD_doMeet {G : MG} {Q : Option MV → MS → Prop} {L : List (Nat × Nat)} {R : Nat → Nat → Option MRef} (I : MI) (J : MJ) (v1 : Int32) (v2 : Int32) (hR : RF R) {r : Int32} (hf : F_MD_doMeet I v1 v2 = some r) (hk : (fun r : Int32 => Q (some (mI r)) (L, I, J, R)) r) : m_B G (m_rm 2 0 0) M_MD_doMeet Q 0 0 0 [some (mR (12, 0, 177)), some (mI v1), some (mI v2), none] [] (L, I, J, R) := by
  unfold F_MD_doMeet at hf
  refine b_blk (pc' := 2) (ls' := [some (mR (12, 0, 177)), some (mI v1), some (mI v2), some (mI 0)]) (st' := []) (S' := (L, I, J, R)) (P := True) [(.iconst 0, (0, 0, 0, 0, 0)), (.istore_n 3, (0, 0, 0, 0, 0))] [] (by decide +kernel) rfl trivial ?_
  obtain ⟨t1, hw, hf⟩ := bnd_o hf
  refine wl_B (A := fun s : Int32 => m_B G (m_rm 2 0 0) M_MD_doMeet Q 0 0 2 [some (mR (12, 0, 177)), some (mI v1), some (mI v2), some (mI s)] [] (L, I, J, R)) (B := (Sum.elim (fun s : Unit => m_B G (m_rm 2 0 0) M_MD_doMeet Q 0 0 45 [none, none, none, none] [] (L, I, J, R)) (fun r : Int32 => Q (some (mI r)) (L, I, J, R)))) (fun s r hs hr => W_MD_doMeet_2 I J v1 v2 s hR hs hr) hw ?_
  rcases t1 with t1 | q
  rotate_left
  · cases se_r hf; exact hk
  replace hf := se_l hf
  show m_B G (m_rm 2 0 0) M_MD_doMeet Q 0 0 45 [none, none, none, none] [] (L, I, J, R)
  refine b_blk (pc' := 46) (ls' := [none, none, none, none]) (st' := [mI 0]) (S' := (L, I, J, R)) (P := True) [(.iconst 0, (0, 0, 0, 0, 0))] [] (by decide +kernel) rfl trivial ?_
  cases hf
  exact b_zret (by decide +kernel) rfl (by decide) hk
theorem C_MD_doMeet {G : MG} {L : List (Nat × Nat)} {R : Nat → Nat → Option MRef} (I : MI) (J : MJ) (v1 : Int32) (v2 : Int32) (hR : RF R) {r : Int32} (hf : F_MD_doMeet I v1 v2 = some r) : m_met G 2 0 0 y_MD_doMeet M_MD_doMeet [mR (12, 0, 177), mI v1, mI v2] (L, I, J, R) (m_is (some (mI r)) (L, I, J, R)) :=
  m_met_in n_MD_doMeet (plainFor_of_name (by decide)) (by decide) (Nat.le_of_ble_eq_true rfl) (ls := [some (mR (12, 0, 177)), some (mI v1), some (mI v2), none]) rfl (W_MD_doMeet I J v1 v2 hR hf ⟨rfl, rfl⟩)
noncomputable def F_MD_meets_17 (I : MI) (J : MJ) (v1 : Int32) (v2 : Int32) (v3 : Int32) : Option ((Int32 × MI × MJ) ⊕ (Int32 × MI × MJ)) :=
  (F_MD_doMeet I v1 v2).bind fun r1 => if r1 = (0 : Int32) then (if (60 : Int32) ≤ v3 then (some (.inr ((v3 : Int32), I, J))) else (if (999 : Int32) ≤ (I 213 0) then (some (.inr ((v3 : Int32), I, J))) else ((F_MD_yearGoes I J).bind fun r5 => some (.inl ((v3 + 1 : Int32), r5.1, r5.2))))) else (some (.inr ((v3 : Int32), I, J)))
set_option maxRecDepth 100000 in
set_option maxHeartbeats 400000 in
theorem W_MD_meets_17 {G : MG} {Q : Option MV → MS → Prop} {L : List (Nat × Nat)} {R : Nat → Nat → Option MRef} (I : MI) (J : MJ) (v1 : Int32) (v2 : Int32) (v3 : Int32) (hR : RF R) {r : (Int32 × MI × MJ) ⊕ (Int32 × MI × MJ)} (hf : F_MD_meets_17 I J v1 v2 v3 = some r) (hk : (Sum.elim (fun s : Int32 × MI × MJ => m_B G (m_rm 8 0 0) M_MD_meets Q 0 0 17 [some (mR (12, 0, 177)), some (mI v1), some (mI v2), some (mI s.1), none] [] (L, s.2.1, s.2.2, R)) (fun s : Int32 × MI × MJ => m_B G (m_rm 8 0 0) M_MD_meets Q 0 0 54 [some (mR (12, 0, 177)), some (mI v1), some (mI v2), some (mI s.1), none] [] (L, s.2.1, s.2.2, R))) r) : m_B G (m_rm 8 0 0) M_MD_meets Q 0 0 17 [some (mR (12, 0, 177)), some (mI v1), some (mI v2), some (mI v3), none] [] (L, I, J, R) := by
  unfold F_MD_meets_17 at hf
  refine b_blk (pc' := 20) (ls' := [some (mR (12, 0, 177)), some (mI v1), some (mI v2), some (mI v3), none]) (st' := [mI v2, mI v1, mR (12, 0, 177)]) (S' := (L, I, J, R)) (P := True) [(.aload_n 0, (0, 0, 0, 0, 0)), (.iload_n 1, (0, 0, 0, 0, 0)), (.iload_n 2, (0, 0, 0, 0, 0))] [] (by decide +kernel) rfl trivial ?_
  obtain ⟨r1, hc1, hf⟩ := bnd_o hf
  refine b_cV (as := [mI v1, mI v2]) (st := []) (by decide +kernel) k_12_511 n_MD_doMeet rfl (by decide) v_MD_doMeet (C_MD_doMeet I J v1 v2 hR hc1) (Nat.le_of_ble_eq_true rfl) (by decide) rfl rfl (fun _ h => h) ?_
  show m_B G (m_rm 8 0 0) M_MD_meets Q 0 0 23 [some (mR (12, 0, 177)), some (mI v1), some (mI v2), some (mI v3), none] [mI r1] (L, I, J, R)
  refine b_if_ne (off := 31) (tgt := 54) (by decide +kernel) (by decide) (fun h2 => ?_) (fun h2 => ?_)
  · have hf := if_f h2 hf
    cases hf
    exact hk
  · have hf := if_t h2 hf
    refine b_blk (pc' := 29) (ls' := [some (mR (12, 0, 177)), some (mI v1), some (mI v2), some (mI v3), none]) (st' := [mI 60, mI v3]) (S' := (L, I, J, R)) (P := True) [(.iload_n 3, (0, 0, 0, 0, 0)), (.bipush 60, (0, 0, 0, 60, 0))] [] (by decide +kernel) rfl trivial ?_
    refine b_icmp_ge (off := 25) (tgt := 54) (by decide +kernel) (by decide) (fun h3 => ?_) (fun h3 => ?_)
    · have hf := if_t h3 hf
      cases hf
      exact hk
    · have hf := if_f h3 hf
      refine b_blk (pc' := 41) (ls' := [some (mR (12, 0, 177)), some (mI v1), some (mI v2), some (mI v3), none]) (st' := [mI 999, mI (I 213 0)]) (S' := (L, I, J, R)) (P := ((True ∧ R 177 51 = some (20, 176, 213)) ∧ vp_in (0 : Int32) 176)) [(.aload_n 0, (0, 0, 0, 0, 0)), (.getfield 121, (12, 51, 3, 0, 0)), (.iconst 0, (0, 0, 0, 0, 0)), (.iaload, (0, 0, 0, 0, 0)), (.sipush 999, (0, 0, 0, 999, 0))] [some (20, 176, 213)] (by decide +kernel) rfl ⟨⟨trivial, (r_177_51 hR)⟩, (vp_in_nI (n := 0) (N := 176) (by decide) (by decide))⟩ ?_
      refine b_icmp_ge (off := 13) (tgt := 54) (by decide +kernel) (by decide) (fun h4 => ?_) (fun h4 => ?_)
      · have hf := if_t h4 hf
        cases hf
        exact hk
      · have hf := if_f h4 hf
        refine b_blk (pc' := 45) (ls' := [some (mR (12, 0, 177)), some (mI v1), some (mI v2), some (mI v3), none]) (st' := [mR (12, 0, 177)]) (S' := (L, I, J, R)) (P := True) [(.aload_n 0, (0, 0, 0, 0, 0))] [] (by decide +kernel) rfl trivial ?_
        obtain ⟨r5, hc5, hf⟩ := bnd_o hf
        refine b_cV (as := []) (st := []) (by decide +kernel) k_12_461 n_MD_yearGoes rfl (by decide) v_MD_yearGoes (C_MD_yearGoes I J hR hc5) (Nat.le_of_ble_eq_true rfl) (by decide) rfl rfl (fun _ h => h) ?_
        show m_B G (m_rm 8 0 0) M_MD_meets Q 0 0 48 [some (mR (12, 0, 177)), some (mI v1), some (mI v2), some (mI v3), none] [] (L, r5.1, r5.2, R)
        refine b_blk (pc' := 17) (ls' := [some (mR (12, 0, 177)), some (mI v1), some (mI v2), some (mI (v3 + 1)), none]) (st' := []) (S' := (L, r5.1, r5.2, R)) (P := True) [(.iinc 3 1, (0, 0, 0, 1, 0)), (.goto (-34), (0, 17, 0, 0, 0))] [] (by decide +kernel) rfl trivial ?_
        cases hf
        exact hk
noncomputable def F_MD_meets_54 (I : MI) (J : MJ) (v1 : Int32) (v2 : Int32) (v3 : Int32) : Option (Int32 × MI × MJ) :=
  (F_MD_doMeet I v1 v2).bind fun r1 => (F_MD_takesBack I).bind fun r2 => if r1 = (0 : Int32) then (some (((-1) : Int32), r2, J)) else (some ((v3 : Int32), r2, J))
set_option maxRecDepth 100000 in
set_option maxHeartbeats 400000 in
theorem W_MD_meets_54 {G : MG} {Q : Option MV → MS → Prop} {L : List (Nat × Nat)} {R : Nat → Nat → Option MRef} (I : MI) (J : MJ) (v1 : Int32) (v2 : Int32) (v3 : Int32) (hR : RF R) {r : Int32 × MI × MJ} (hf : F_MD_meets_54 I J v1 v2 v3 = some r) (hk : (fun r : Int32 × MI × MJ => Q (some (mI r.1)) (L, r.2.1, r.2.2, R)) r) : m_B G (m_rm 8 0 0) M_MD_meets Q 0 0 54 [some (mR (12, 0, 177)), some (mI v1), some (mI v2), some (mI v3), none] [] (L, I, J, R) := by
  unfold F_MD_meets_54 at hf
  refine b_blk (pc' := 57) (ls' := [some (mR (12, 0, 177)), some (mI v1), some (mI v2), some (mI v3), none]) (st' := [mI v2, mI v1, mR (12, 0, 177)]) (S' := (L, I, J, R)) (P := True) [(.aload_n 0, (0, 0, 0, 0, 0)), (.iload_n 1, (0, 0, 0, 0, 0)), (.iload_n 2, (0, 0, 0, 0, 0))] [] (by decide +kernel) rfl trivial ?_
  obtain ⟨r1, hc1, hf⟩ := bnd_o hf
  refine b_cV (as := [mI v1, mI v2]) (st := []) (by decide +kernel) k_12_511 n_MD_doMeet rfl (by decide) v_MD_doMeet (C_MD_doMeet I J v1 v2 hR hc1) (Nat.le_of_ble_eq_true rfl) (by decide) rfl rfl (fun _ h => h) ?_
  show m_B G (m_rm 8 0 0) M_MD_meets Q 0 0 60 [some (mR (12, 0, 177)), some (mI v1), some (mI v2), some (mI v3), none] [mI r1] (L, I, J, R)
  refine b_blk (pc' := 63) (ls' := [some (mR (12, 0, 177)), some (mI v1), some (mI v2), some (mI v3), some (mI r1)]) (st' := [mR (12, 0, 177)]) (S' := (L, I, J, R)) (P := True) [(.istore 4, (0, 0, 0, 0, 0)), (.aload_n 0, (0, 0, 0, 0, 0))] [] (by decide +kernel) rfl trivial ?_
  obtain ⟨r2, hc2, hf⟩ := bnd_o hf
  refine b_cV (as := []) (st := []) (by decide +kernel) k_12_505 n_MD_takesBack rfl (by decide) v_MD_takesBack (C_MD_takesBack I J hR hc2) (Nat.le_of_ble_eq_true rfl) (by decide) rfl rfl (fun _ h => h) ?_
  show m_B G (m_rm 8 0 0) M_MD_meets Q 0 0 66 [some (mR (12, 0, 177)), some (mI v1), some (mI v2), some (mI v3), some (mI r1)] [] (L, r2, J, R)
  refine b_blk (pc' := 68) (ls' := [some (mR (12, 0, 177)), some (mI v1), some (mI v2), some (mI v3), some (mI r1)]) (st' := [mI r1]) (S' := (L, r2, J, R)) (P := True) [(.iload 4, (0, 0, 0, 0, 0))] [] (by decide +kernel) rfl trivial ?_
  refine b_if_eq (off := 7) (tgt := 75) (by decide +kernel) (by decide) (fun h3 => ?_) (fun h3 => ?_)
  · have hf := if_t h3 hf
    refine b_blk (pc' := 76) (ls' := [some (mR (12, 0, 177)), some (mI v1), some (mI v2), some (mI v3), some (mI r1)]) (st' := [mI (-1)]) (S' := (L, r2, J, R)) (P := True) [(.iconst (-1), (0, 0, 0, (-1), 0))] [] (by decide +kernel) rfl trivial ?_
    cases hf
    exact b_iret (by decide +kernel) rfl hk
  · have hf := if_f h3 hf
    refine b_blk (pc' := 76) (ls' := [some (mR (12, 0, 177)), some (mI v1), some (mI v2), some (mI v3), some (mI r1)]) (st' := [mI v3]) (S' := (L, r2, J, R)) (P := True) [(.iload_n 3, (0, 0, 0, 0, 0)), (.goto 4, (0, 76, 0, 0, 0))] [] (by decide +kernel) rfl trivial ?_
    cases hf
    exact b_iret (by decide +kernel) rfl hk
noncomputable def F_MD_meets (I : MI) (J : MJ) (v1 : Int32) (v2 : Int32) : Option (Int32 × MI × MJ) :=
  (F_MD_areTwo I v1 v2).bind fun r1 => if r1 = (0 : Int32) then (some (((-1) : Int32), I, J)) else ((F_MD_putsAside I).bind fun r3 => (wl (fun s : Int32 × MI × MJ => F_MD_meets_17 s.2.1 s.2.2 v1 v2 s.1) ((0 : Int32), r3, J)).bind fun t4 => F_MD_meets_54 t4.2.1 t4.2.2 v1 v2 t4.1)
set_option maxRecDepth 100000 in
set_option maxHeartbeats 400000 in
theorem W_MD_meets {G : MG} {Q : Option MV → MS → Prop} {L : List (Nat × Nat)} {R : Nat → Nat → Option MRef} (I : MI) (J : MJ) (v1 : Int32) (v2 : Int32) (hR : RF R) {r : Int32 × MI × MJ} (hf : F_MD_meets I J v1 v2 = some r) (hk : (fun r : Int32 × MI × MJ => Q (some (mI r.1)) (L, r.2.1, r.2.2, R)) r) : m_B G (m_rm 8 0 0) M_MD_meets Q 0 0 0 [some (mR (12, 0, 177)), some (mI v1), some (mI v2), none, none] [] (L, I, J, R) := by
  unfold F_MD_meets at hf
  refine b_blk (pc' := 3) (ls' := [some (mR (12, 0, 177)), some (mI v1), some (mI v2), none, none]) (st' := [mI v2, mI v1, mR (12, 0, 177)]) (S' := (L, I, J, R)) (P := True) [(.aload_n 0, (0, 0, 0, 0, 0)), (.iload_n 1, (0, 0, 0, 0, 0)), (.iload_n 2, (0, 0, 0, 0, 0))] [] (by decide +kernel) rfl trivial ?_
  obtain ⟨r1, hc1, hf⟩ := bnd_o hf
  refine b_cV (as := [mI v1, mI v2]) (st := []) (by decide +kernel) k_12_508 n_MD_areTwo rfl (by decide) v_MD_areTwo (C_MD_areTwo I J v1 v2 hR hc1) (Nat.le_of_ble_eq_true rfl) (by decide) rfl rfl (fun _ h => h) ?_
  show m_B G (m_rm 8 0 0) M_MD_meets Q 0 0 6 [some (mR (12, 0, 177)), some (mI v1), some (mI v2), none, none] [mI r1] (L, I, J, R)
  refine b_if_ne (off := 5) (tgt := 11) (by decide +kernel) (by decide) (fun h2 => ?_) (fun h2 => ?_)
  · have hf := if_f h2 hf
    refine b_blk (pc' := 14) (ls' := [some (mR (12, 0, 177)), some (mI v1), some (mI v2), some (mI 0), none]) (st' := [mR (12, 0, 177)]) (S' := (L, I, J, R)) (P := True) [(.iconst 0, (0, 0, 0, 0, 0)), (.istore_n 3, (0, 0, 0, 0, 0)), (.aload_n 0, (0, 0, 0, 0, 0))] [] (by decide +kernel) rfl trivial ?_
    obtain ⟨r3, hc3, hf⟩ := bnd_o hf
    refine b_cV (as := []) (st := []) (by decide +kernel) k_12_499 n_MD_putsAside rfl (by decide) v_MD_putsAside (C_MD_putsAside I J hR hc3) (Nat.le_of_ble_eq_true rfl) (by decide) rfl rfl (fun _ h => h) ?_
    show m_B G (m_rm 8 0 0) M_MD_meets Q 0 0 17 [some (mR (12, 0, 177)), some (mI v1), some (mI v2), some (mI 0), none] [] (L, r3, J, R)
    obtain ⟨t4, hw, hf⟩ := bnd_o hf
    refine wl_B (A := fun s : Int32 × MI × MJ => m_B G (m_rm 8 0 0) M_MD_meets Q 0 0 17 [some (mR (12, 0, 177)), some (mI v1), some (mI v2), some (mI s.1), none] [] (L, s.2.1, s.2.2, R)) (B := (fun s : Int32 × MI × MJ => m_B G (m_rm 8 0 0) M_MD_meets Q 0 0 54 [some (mR (12, 0, 177)), some (mI v1), some (mI v2), some (mI s.1), none] [] (L, s.2.1, s.2.2, R))) (fun s r hs hr => W_MD_meets_17 s.2.1 s.2.2 v1 v2 s.1 hR hs hr) hw ?_
    show m_B G (m_rm 8 0 0) M_MD_meets Q 0 0 54 [some (mR (12, 0, 177)), some (mI v1), some (mI v2), some (mI t4.1), none] [] (L, t4.2.1, t4.2.2, R)
    exact m_B_cg rfl rfl rfl (W_MD_meets_54 t4.2.1 t4.2.2 v1 v2 t4.1 hR hf hk)
  · have hf := if_t h2 hf
    refine b_blk (pc' := 10) (ls' := [some (mR (12, 0, 177)), some (mI v1), some (mI v2), none, none]) (st' := [mI (-1)]) (S' := (L, I, J, R)) (P := True) [(.iconst (-1), (0, 0, 0, (-1), 0))] [] (by decide +kernel) rfl trivial ?_
    cases hf
    exact b_iret (by decide +kernel) rfl hk
theorem C_MD_meets {G : MG} {L : List (Nat × Nat)} {R : Nat → Nat → Option MRef} (I : MI) (J : MJ) (v1 : Int32) (v2 : Int32) (hR : RF R) {r : Int32 × MI × MJ} (hf : F_MD_meets I J v1 v2 = some r) : m_met G 8 0 0 y_MD_meets M_MD_meets [mR (12, 0, 177), mI v1, mI v2] (L, I, J, R) (m_is (some (mI r.1)) (L, r.2.1, r.2.2, R)) :=
  m_met_in n_MD_meets (plainFor_of_name (by decide)) (by decide) (Nat.le_of_ble_eq_true rfl) (ls := [some (mR (12, 0, 177)), some (mI v1), some (mI v2), none, none]) rfl (W_MD_meets I J v1 v2 hR hf ⟨rfl, rfl⟩)
noncomputable def F_MD_belows_5 (I : MI) (v1 : Int32) (v2 : Int32) (v3 : Int32) (v4 : Int32) : Option ((Int32 × Int32) ⊕ (Int32)) :=
  if (I 204 2) ≤ v4 then (some (.inr (v3 : Int32))) else ((F_MD_rowOf I v1 v4).bind fun r2 => if r2 = (-1 : Int32) then (some (.inl ((v3 : Int32), (v4 + 1 : Int32)))) else ((F_MD_rowOf I v2 v4).bind fun r4 => if r4 = (-1 : Int32) then (some (.inl ((v3 : Int32), (v4 + 1 : Int32)))) else ((F_MD_rowOf I v1 v4).bind fun r6 => (F_MD_rowOf I v2 v4).bind fun r7 => if r6 ≤ r7 then (some (.inl ((v3 : Int32), (v4 + 1 : Int32)))) else (some (.inl ((v3 + 1 : Int32), (v4 + 1 : Int32)))))))
set_option maxRecDepth 100000 in
set_option maxHeartbeats 400000 in
theorem W_MD_belows_5 {G : MG} {Q : Option MV → MS → Prop} {L : List (Nat × Nat)} {R : Nat → Nat → Option MRef} (I : MI) (J : MJ) (v1 : Int32) (v2 : Int32) (v3 : Int32) (v4 : Int32) (hR : RF R) {r : (Int32 × Int32) ⊕ (Int32)} (hf : F_MD_belows_5 I v1 v2 v3 v4 = some r) (hk : (Sum.elim (fun s : Int32 × Int32 => m_B G (m_rm 2 0 0) M_MD_belows Q 0 0 5 [some (mR (12, 0, 177)), some (mI v1), some (mI v2), some (mI s.1), some (mI s.2)] [] (L, I, J, R)) (fun s : Int32 => m_B G (m_rm 2 0 0) M_MD_belows Q 0 0 64 [none, none, none, some (mI s), none] [] (L, I, J, R))) r) : m_B G (m_rm 2 0 0) M_MD_belows Q 0 0 5 [some (mR (12, 0, 177)), some (mI v1), some (mI v2), some (mI v3), some (mI v4)] [] (L, I, J, R) := by
  unfold F_MD_belows_5 at hf
  refine b_blk (pc' := 13) (ls' := [some (mR (12, 0, 177)), some (mI v1), some (mI v2), some (mI v3), some (mI v4)]) (st' := [mI (I 204 2), mI v4]) (S' := (L, I, J, R)) (P := ((True ∧ R 177 36 = some (20, 4, 204)) ∧ vp_in (2 : Int32) 4)) [(.iload 4, (0, 0, 0, 0, 0)), (.aload_n 0, (0, 0, 0, 0, 0)), (.getfield 93, (12, 36, 3, 0, 0)), (.iconst 2, (0, 0, 0, 2, 0)), (.iaload, (0, 0, 0, 0, 0))] [some (20, 4, 204)] (by decide +kernel) rfl ⟨⟨trivial, (r_177_36 hR)⟩, (vp_in_nI (n := 2) (N := 4) (by decide) (by decide))⟩ ?_
  refine b_icmp_ge (off := 51) (tgt := 64) (by decide +kernel) (by decide) (fun h1 => ?_) (fun h1 => ?_)
  · have hf := if_t h1 hf
    refine b_frg 0 ?_
    refine b_frg 1 ?_
    refine b_frg 2 ?_
    refine b_frg 4 ?_
    cases hf
    exact hk
  · have hf := if_f h1 hf
    refine b_blk (pc' := 20) (ls' := [some (mR (12, 0, 177)), some (mI v1), some (mI v2), some (mI v3), some (mI v4)]) (st' := [mI v4, mI v1, mR (12, 0, 177)]) (S' := (L, I, J, R)) (P := True) [(.aload_n 0, (0, 0, 0, 0, 0)), (.iload_n 1, (0, 0, 0, 0, 0)), (.iload 4, (0, 0, 0, 0, 0))] [] (by decide +kernel) rfl trivial ?_
    obtain ⟨r2, hc2, hf⟩ := bnd_o hf
    refine b_cV (as := [mI v1, mI v4]) (st := []) (by decide +kernel) k_12_392 n_MD_rowOf rfl (by decide) v_MD_rowOf (C_MD_rowOf I J v1 v4 hR hc2) (Nat.le_of_ble_eq_true rfl) (by decide) rfl rfl (fun _ h => h) ?_
    show m_B G (m_rm 2 0 0) M_MD_belows Q 0 0 23 [some (mR (12, 0, 177)), some (mI v1), some (mI v2), some (mI v3), some (mI v4)] [mI r2] (L, I, J, R)
    refine b_blk (pc' := 24) (ls' := [some (mR (12, 0, 177)), some (mI v1), some (mI v2), some (mI v3), some (mI v4)]) (st' := [mI (-1), mI r2]) (S' := (L, I, J, R)) (P := True) [(.iconst (-1), (0, 0, 0, (-1), 0))] [] (by decide +kernel) rfl trivial ?_
    refine b_icmp_eq (off := 34) (tgt := 58) (by decide +kernel) (by decide) (fun h3 => ?_) (fun h3 => ?_)
    · have hf := if_t h3 hf
      refine b_blk (pc' := 5) (ls' := [some (mR (12, 0, 177)), some (mI v1), some (mI v2), some (mI v3), some (mI (v4 + 1))]) (st' := []) (S' := (L, I, J, R)) (P := True) [(.iinc 4 1, (0, 0, 0, 1, 0)), (.goto (-56), (0, 5, 0, 0, 0))] [] (by decide +kernel) rfl trivial ?_
      cases hf
      exact hk
    · have hf := if_f h3 hf
      refine b_blk (pc' := 31) (ls' := [some (mR (12, 0, 177)), some (mI v1), some (mI v2), some (mI v3), some (mI v4)]) (st' := [mI v4, mI v2, mR (12, 0, 177)]) (S' := (L, I, J, R)) (P := True) [(.aload_n 0, (0, 0, 0, 0, 0)), (.iload_n 2, (0, 0, 0, 0, 0)), (.iload 4, (0, 0, 0, 0, 0))] [] (by decide +kernel) rfl trivial ?_
      obtain ⟨r4, hc4, hf⟩ := bnd_o hf
      refine b_cV (as := [mI v2, mI v4]) (st := []) (by decide +kernel) k_12_392 n_MD_rowOf rfl (by decide) v_MD_rowOf (C_MD_rowOf I J v2 v4 hR hc4) (Nat.le_of_ble_eq_true rfl) (by decide) rfl rfl (fun _ h => h) ?_
      show m_B G (m_rm 2 0 0) M_MD_belows Q 0 0 34 [some (mR (12, 0, 177)), some (mI v1), some (mI v2), some (mI v3), some (mI v4)] [mI r4] (L, I, J, R)
      refine b_blk (pc' := 35) (ls' := [some (mR (12, 0, 177)), some (mI v1), some (mI v2), some (mI v3), some (mI v4)]) (st' := [mI (-1), mI r4]) (S' := (L, I, J, R)) (P := True) [(.iconst (-1), (0, 0, 0, (-1), 0))] [] (by decide +kernel) rfl trivial ?_
      refine b_icmp_eq (off := 23) (tgt := 58) (by decide +kernel) (by decide) (fun h5 => ?_) (fun h5 => ?_)
      · have hf := if_t h5 hf
        refine b_blk (pc' := 5) (ls' := [some (mR (12, 0, 177)), some (mI v1), some (mI v2), some (mI v3), some (mI (v4 + 1))]) (st' := []) (S' := (L, I, J, R)) (P := True) [(.iinc 4 1, (0, 0, 0, 1, 0)), (.goto (-56), (0, 5, 0, 0, 0))] [] (by decide +kernel) rfl trivial ?_
        cases hf
        exact hk
      · have hf := if_f h5 hf
        refine b_blk (pc' := 42) (ls' := [some (mR (12, 0, 177)), some (mI v1), some (mI v2), some (mI v3), some (mI v4)]) (st' := [mI v4, mI v1, mR (12, 0, 177)]) (S' := (L, I, J, R)) (P := True) [(.aload_n 0, (0, 0, 0, 0, 0)), (.iload_n 1, (0, 0, 0, 0, 0)), (.iload 4, (0, 0, 0, 0, 0))] [] (by decide +kernel) rfl trivial ?_
        obtain ⟨r6, hc6, hf⟩ := bnd_o hf
        refine b_cV (as := [mI v1, mI v4]) (st := []) (by decide +kernel) k_12_392 n_MD_rowOf rfl (by decide) v_MD_rowOf (C_MD_rowOf I J v1 v4 hR hc6) (Nat.le_of_ble_eq_true rfl) (by decide) rfl rfl (fun _ h => h) ?_
        show m_B G (m_rm 2 0 0) M_MD_belows Q 0 0 45 [some (mR (12, 0, 177)), some (mI v1), some (mI v2), some (mI v3), some (mI v4)] [mI r6] (L, I, J, R)
        refine b_blk (pc' := 49) (ls' := [some (mR (12, 0, 177)), some (mI v1), some (mI v2), some (mI v3), some (mI v4)]) (st' := [mI v4, mI v2, mR (12, 0, 177), mI r6]) (S' := (L, I, J, R)) (P := True) [(.aload_n 0, (0, 0, 0, 0, 0)), (.iload_n 2, (0, 0, 0, 0, 0)), (.iload 4, (0, 0, 0, 0, 0))] [] (by decide +kernel) rfl trivial ?_
        obtain ⟨r7, hc7, hf⟩ := bnd_o hf
        refine b_cV (as := [mI v2, mI v4]) (st := [mI r6]) (by decide +kernel) k_12_392 n_MD_rowOf rfl (by decide) v_MD_rowOf (C_MD_rowOf I J v2 v4 hR hc7) (Nat.le_of_ble_eq_true rfl) (by decide) rfl rfl (fun _ h => h) ?_
        show m_B G (m_rm 2 0 0) M_MD_belows Q 0 0 52 [some (mR (12, 0, 177)), some (mI v1), some (mI v2), some (mI v3), some (mI v4)] [mI r7, mI r6] (L, I, J, R)
        refine b_icmp_le (off := 6) (tgt := 58) (by decide +kernel) (by decide) (fun h8 => ?_) (fun h8 => ?_)
        · have hf := if_t h8 hf
          refine b_blk (pc' := 5) (ls' := [some (mR (12, 0, 177)), some (mI v1), some (mI v2), some (mI v3), some (mI (v4 + 1))]) (st' := []) (S' := (L, I, J, R)) (P := True) [(.iinc 4 1, (0, 0, 0, 1, 0)), (.goto (-56), (0, 5, 0, 0, 0))] [] (by decide +kernel) rfl trivial ?_
          cases hf
          exact hk
        · have hf := if_f h8 hf
          refine b_blk (pc' := 5) (ls' := [some (mR (12, 0, 177)), some (mI v1), some (mI v2), some (mI (v3 + 1)), some (mI (v4 + 1))]) (st' := []) (S' := (L, I, J, R)) (P := True) [(.iinc 3 1, (0, 0, 0, 1, 0)), (.iinc 4 1, (0, 0, 0, 1, 0)), (.goto (-56), (0, 5, 0, 0, 0))] [] (by decide +kernel) rfl trivial ?_
          cases hf
          exact hk
noncomputable def F_MD_belows (I : MI) (v1 : Int32) (v2 : Int32) : Option (Int32) :=
  (wl (fun s : Int32 × Int32 => F_MD_belows_5 I v1 v2 s.1 s.2) ((0 : Int32), (0 : Int32))).bind fun t1 => some (t1 : Int32)
set_option maxRecDepth 100000 in
set_option maxHeartbeats 400000 in
theorem W_MD_belows {G : MG} {Q : Option MV → MS → Prop} {L : List (Nat × Nat)} {R : Nat → Nat → Option MRef} (I : MI) (J : MJ) (v1 : Int32) (v2 : Int32) (hR : RF R) {r : Int32} (hf : F_MD_belows I v1 v2 = some r) (hk : (fun r : Int32 => Q (some (mI r)) (L, I, J, R)) r) : m_B G (m_rm 2 0 0) M_MD_belows Q 0 0 0 [some (mR (12, 0, 177)), some (mI v1), some (mI v2), none, none] [] (L, I, J, R) := by
  unfold F_MD_belows at hf
  refine b_blk (pc' := 5) (ls' := [some (mR (12, 0, 177)), some (mI v1), some (mI v2), some (mI 0), some (mI 0)]) (st' := []) (S' := (L, I, J, R)) (P := True) [(.iconst 0, (0, 0, 0, 0, 0)), (.istore_n 3, (0, 0, 0, 0, 0)), (.iconst 0, (0, 0, 0, 0, 0)), (.istore 4, (0, 0, 0, 0, 0))] [] (by decide +kernel) rfl trivial ?_
  obtain ⟨t1, hw, hf⟩ := bnd_o hf
  refine wl_B (A := fun s : Int32 × Int32 => m_B G (m_rm 2 0 0) M_MD_belows Q 0 0 5 [some (mR (12, 0, 177)), some (mI v1), some (mI v2), some (mI s.1), some (mI s.2)] [] (L, I, J, R)) (B := (fun s : Int32 => m_B G (m_rm 2 0 0) M_MD_belows Q 0 0 64 [none, none, none, some (mI s), none] [] (L, I, J, R))) (fun s r hs hr => W_MD_belows_5 I J v1 v2 s.1 s.2 hR hs hr) hw ?_
  show m_B G (m_rm 2 0 0) M_MD_belows Q 0 0 64 [none, none, none, some (mI t1), none] [] (L, I, J, R)
  refine b_blk (pc' := 65) (ls' := [none, none, none, some (mI t1), none]) (st' := [mI t1]) (S' := (L, I, J, R)) (P := True) [(.iload_n 3, (0, 0, 0, 0, 0))] [] (by decide +kernel) rfl trivial ?_
  cases hf
  exact b_iret (by decide +kernel) rfl hk
theorem C_MD_belows {G : MG} {L : List (Nat × Nat)} {R : Nat → Nat → Option MRef} (I : MI) (J : MJ) (v1 : Int32) (v2 : Int32) (hR : RF R) {r : Int32} (hf : F_MD_belows I v1 v2 = some r) : m_met G 2 0 0 y_MD_belows M_MD_belows [mR (12, 0, 177), mI v1, mI v2] (L, I, J, R) (m_is (some (mI r)) (L, I, J, R)) :=
  m_met_in n_MD_belows (plainFor_of_name (by decide)) (by decide) (Nat.le_of_ble_eq_true rfl) (ls := [some (mR (12, 0, 177)), some (mI v1), some (mI v2), none, none]) rfl (W_MD_belows I J v1 v2 hR hf ⟨rfl, rfl⟩)
noncomputable def F_MD_below (I : MI) (v1 : Int32) (v2 : Int32) : Option (Int32) :=
  (F_MD_areTwo I v1 v2).bind fun r1 => if r1 = (0 : Int32) then (some ((-1) : Int32)) else ((F_MD_belows I v1 v2).bind fun r3 => some (r3 : Int32))
set_option maxRecDepth 100000 in
set_option maxHeartbeats 400000 in
theorem W_MD_below {G : MG} {Q : Option MV → MS → Prop} {L : List (Nat × Nat)} {R : Nat → Nat → Option MRef} (I : MI) (J : MJ) (v1 : Int32) (v2 : Int32) (hR : RF R) {r : Int32} (hf : F_MD_below I v1 v2 = some r) (hk : (fun r : Int32 => Q (some (mI r)) (L, I, J, R)) r) : m_B G (m_rm 4 0 0) M_MD_below Q 0 0 0 [some (mR (12, 0, 177)), some (mI v1), some (mI v2)] [] (L, I, J, R) := by
  unfold F_MD_below at hf
  refine b_blk (pc' := 3) (ls' := [some (mR (12, 0, 177)), some (mI v1), some (mI v2)]) (st' := [mI v2, mI v1, mR (12, 0, 177)]) (S' := (L, I, J, R)) (P := True) [(.aload_n 0, (0, 0, 0, 0, 0)), (.iload_n 1, (0, 0, 0, 0, 0)), (.iload_n 2, (0, 0, 0, 0, 0))] [] (by decide +kernel) rfl trivial ?_
  obtain ⟨r1, hc1, hf⟩ := bnd_o hf
  refine b_cV (as := [mI v1, mI v2]) (st := []) (by decide +kernel) k_12_508 n_MD_areTwo rfl (by decide) v_MD_areTwo (C_MD_areTwo I J v1 v2 hR hc1) (Nat.le_of_ble_eq_true rfl) (by decide) rfl rfl (fun _ h => h) ?_
  show m_B G (m_rm 4 0 0) M_MD_below Q 0 0 6 [some (mR (12, 0, 177)), some (mI v1), some (mI v2)] [mI r1] (L, I, J, R)
  refine b_if_eq (off := 12) (tgt := 18) (by decide +kernel) (by decide) (fun h2 => ?_) (fun h2 => ?_)
  · have hf := if_t h2 hf
    refine b_blk (pc' := 19) (ls' := [some (mR (12, 0, 177)), some (mI v1), some (mI v2)]) (st' := [mI (-1)]) (S' := (L, I, J, R)) (P := True) [(.iconst (-1), (0, 0, 0, (-1), 0))] [] (by decide +kernel) rfl trivial ?_
    cases hf
    exact b_iret (by decide +kernel) rfl hk
  · have hf := if_f h2 hf
    refine b_blk (pc' := 12) (ls' := [some (mR (12, 0, 177)), some (mI v1), some (mI v2)]) (st' := [mI v2, mI v1, mR (12, 0, 177)]) (S' := (L, I, J, R)) (P := True) [(.aload_n 0, (0, 0, 0, 0, 0)), (.iload_n 1, (0, 0, 0, 0, 0)), (.iload_n 2, (0, 0, 0, 0, 0))] [] (by decide +kernel) rfl trivial ?_
    obtain ⟨r3, hc3, hf⟩ := bnd_o hf
    refine b_cV (as := [mI v1, mI v2]) (st := []) (by decide +kernel) k_12_514 n_MD_belows rfl (by decide) v_MD_belows (C_MD_belows I J v1 v2 hR hc3) (Nat.le_of_ble_eq_true rfl) (by decide) rfl rfl (fun _ h => h) ?_
    show m_B G (m_rm 4 0 0) M_MD_below Q 0 0 15 [some (mR (12, 0, 177)), some (mI v1), some (mI v2)] [mI r3] (L, I, J, R)
    refine b_blk (pc' := 19) (ls' := [some (mR (12, 0, 177)), some (mI v1), some (mI v2)]) (st' := [mI r3]) (S' := (L, I, J, R)) (P := True) [(.goto 4, (0, 19, 0, 0, 0))] [] (by decide +kernel) rfl trivial ?_
    cases hf
    exact b_iret (by decide +kernel) rfl hk
theorem C_MD_below {G : MG} {L : List (Nat × Nat)} {R : Nat → Nat → Option MRef} (I : MI) (J : MJ) (v1 : Int32) (v2 : Int32) (hR : RF R) {r : Int32} (hf : F_MD_below I v1 v2 = some r) : m_met G 4 0 0 y_MD_below M_MD_below [mR (12, 0, 177), mI v1, mI v2] (L, I, J, R) (m_is (some (mI r)) (L, I, J, R)) :=
  m_met_in n_MD_below (plainFor_of_name (by decide)) (by decide) (Nat.le_of_ble_eq_true rfl) (ls := [some (mR (12, 0, 177)), some (mI v1), some (mI v2)]) rfl (W_MD_below I J v1 v2 hR hf ⟨rfl, rfl⟩)
