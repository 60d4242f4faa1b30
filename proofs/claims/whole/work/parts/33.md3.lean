/-! the reference: methods 3 -/
noncomputable def F_MD_nameOf_2 (I : MI) (J : MJ) (v1 : Int64) (v3 : Int32) : Option ((Int32) ⊕ ((Unit) ⊕ (Int32))) :=
  if (I 205 0) ≤ v3 then (some (.inr (.inl ()))) else (gd v3 12 <| if (lg_cmp (J 206 v3.toNatClampNeg) v1) = (0 : Int32) then (some (.inr (.inr (v3 : Int32)))) else (some (.inl (v3 + 1 : Int32))))
set_option maxRecDepth 100000 in
set_option maxHeartbeats 400000 in
theorem W_MD_nameOf_2 {G : MG} {Q : Option MV → MS → Prop} {L : List (Nat × Nat)} {R : Nat → Nat → Option MRef} (I : MI) (J : MJ) (v1 : Int64) (v3 : Int32) (hR : RF R) {r : (Int32) ⊕ ((Unit) ⊕ (Int32))} (hf : F_MD_nameOf_2 I J v1 v3 = some r) (hk : (Sum.elim (fun s : Int32 => m_B G (m_rm 1 0 0) M_MD_nameOf Q 0 0 2 [some (mR (12, 0, 177)), some (mJ v1), none, some (mI s)] [] (L, I, J, R)) (Sum.elim (fun s : Unit => m_B G (m_rm 1 0 0) M_MD_nameOf Q 0 0 31 [none, none, none, none] [] (L, I, J, R)) (fun r : Int32 => Q (some (mI r)) (L, I, J, R)))) r) : m_B G (m_rm 1 0 0) M_MD_nameOf Q 0 0 2 [some (mR (12, 0, 177)), some (mJ v1), none, some (mI v3)] [] (L, I, J, R) := by
  unfold F_MD_nameOf_2 at hf
  refine b_blk (pc' := 9) (ls' := [some (mR (12, 0, 177)), some (mJ v1), none, some (mI v3)]) (st' := [mI (I 205 0), mI v3]) (S' := (L, I, J, R)) (P := ((True ∧ R 177 37 = some (20, 4, 205)) ∧ vp_in (0 : Int32) 4)) [(.iload_n 3, (0, 0, 0, 0, 0)), (.aload_n 0, (0, 0, 0, 0, 0)), (.getfield 96, (12, 37, 3, 0, 0)), (.iconst 0, (0, 0, 0, 0, 0)), (.iaload, (0, 0, 0, 0, 0))] [some (20, 4, 205)] (by decide +kernel) rfl ⟨⟨trivial, (r_177_37 hR)⟩, (vp_in_nI (n := 0) (N := 4) (by decide) (by decide))⟩ ?_
  refine b_icmp_ge (off := 22) (tgt := 31) (by decide +kernel) (by decide) (fun h1 => ?_) (fun h1 => ?_)
  · have hf := if_t h1 hf
    refine b_frg 0 ?_
    refine b_frg 1 ?_
    refine b_frg 3 ?_
    cases hf
    exact hk
  · have hf := if_f h1 hf
    obtain ⟨g2, hf⟩ := gd_s hf
    refine b_blk (pc' := 20) (ls' := [some (mR (12, 0, 177)), some (mJ v1), none, some (mI v3)]) (st' := [mI (lg_cmp (J 206 v3.toNatClampNeg) v1)]) (S' := (L, I, J, R)) (P := ((True ∧ R 177 38 = some (21, 12, 206)) ∧ vp_in v3 12)) [(.aload_n 0, (0, 0, 0, 0, 0)), (.getfield 99, (12, 38, 3, 0, 0)), (.iload_n 3, (0, 0, 0, 0, 0)), (.laload, (0, 0, 0, 0, 0)), (.lload_n 1, (0, 0, 0, 0, 0)), (.lcmp, (0, 0, 0, 0, 0))] [some (21, 12, 206)] (by decide +kernel) rfl ⟨⟨trivial, (r_177_38 hR)⟩, (in_n (n := 12) (by decide) g2.1 g2.2)⟩ ?_
    refine b_if_ne (off := 5) (tgt := 25) (by decide +kernel) (by decide) (fun h3 => ?_) (fun h3 => ?_)
    · have hf := if_f h3 hf
      refine b_blk (pc' := 2) (ls' := [some (mR (12, 0, 177)), some (mJ v1), none, some (mI (v3 + 1))]) (st' := []) (S' := (L, I, J, R)) (P := True) [(.iinc 3 1, (0, 0, 0, 1, 0)), (.goto (-26), (0, 2, 0, 0, 0))] [] (by decide +kernel) rfl trivial ?_
      cases hf
      exact hk
    · have hf := if_t h3 hf
      refine b_blk (pc' := 24) (ls' := [some (mR (12, 0, 177)), some (mJ v1), none, some (mI v3)]) (st' := [mI v3]) (S' := (L, I, J, R)) (P := True) [(.iload_n 3, (0, 0, 0, 0, 0))] [] (by decide +kernel) rfl trivial ?_
      cases hf
      exact b_iret (by decide +kernel) rfl hk
noncomputable def F_MD_nameOf (I : MI) (J : MJ) (v1 : Int64) : Option (Int32) :=
  (wl (fun s : Int32 => F_MD_nameOf_2 I J v1 s) (0 : Int32)).bind <| sel (fun q => some q) fun t1 => some ((-1) : Int32)
set_option maxRecDepth 100000 in
set_option maxHeartbeats 400000 in
theorem W_MD_nameOf {G : MG} {Q : Option MV → MS → Prop} {L : List (Nat × Nat)} {R : Nat → Nat → Option MRef} (I : MI) (J : MJ) (v1 : Int64) (hR : RF R) {r : Int32} (hf : F_MD_nameOf I J v1 = some r) (hk : (fun r : Int32 => Q (some (mI r)) (L, I, J, R)) r) : m_B G (m_rm 1 0 0) M_MD_nameOf Q 0 0 0 [some (mR (12, 0, 177)), some (mJ v1), none, none] [] (L, I, J, R) := by
  unfold F_MD_nameOf at hf
  refine b_blk (pc' := 2) (ls' := [some (mR (12, 0, 177)), some (mJ v1), none, some (mI 0)]) (st' := []) (S' := (L, I, J, R)) (P := True) [(.iconst 0, (0, 0, 0, 0, 0)), (.istore_n 3, (0, 0, 0, 0, 0))] [] (by decide +kernel) rfl trivial ?_
  obtain ⟨t1, hw, hf⟩ := bnd_o hf
  refine wl_B (A := fun s : Int32 => m_B G (m_rm 1 0 0) M_MD_nameOf Q 0 0 2 [some (mR (12, 0, 177)), some (mJ v1), none, some (mI s)] [] (L, I, J, R)) (B := (Sum.elim (fun s : Unit => m_B G (m_rm 1 0 0) M_MD_nameOf Q 0 0 31 [none, none, none, none] [] (L, I, J, R)) (fun r : Int32 => Q (some (mI r)) (L, I, J, R)))) (fun s r hs hr => W_MD_nameOf_2 I J v1 s hR hs hr) hw ?_
  rcases t1 with t1 | q
  rotate_left
  · cases se_r hf; exact hk
  replace hf := se_l hf
  show m_B G (m_rm 1 0 0) M_MD_nameOf Q 0 0 31 [none, none, none, none] [] (L, I, J, R)
  refine b_blk (pc' := 32) (ls' := [none, none, none, none]) (st' := [mI (-1)]) (S' := (L, I, J, R)) (P := True) [(.iconst (-1), (0, 0, 0, (-1), 0))] [] (by decide +kernel) rfl trivial ?_
  cases hf
  exact b_iret (by decide +kernel) rfl hk
theorem C_MD_nameOf {G : MG} {L : List (Nat × Nat)} {R : Nat → Nat → Option MRef} (I : MI) (J : MJ) (v1 : Int64) (hR : RF R) {r : Int32} (hf : F_MD_nameOf I J v1 = some r) : m_met G 1 0 0 y_MD_nameOf M_MD_nameOf [mR (12, 0, 177), mJ v1] (L, I, J, R) (m_is (some (mI r)) (L, I, J, R)) :=
  m_met_in n_MD_nameOf (plainFor_of_name (by decide)) (by decide) (Nat.le_of_ble_eq_true rfl) (ls := [some (mR (12, 0, 177)), some (mJ v1), none, none]) rfl (W_MD_nameOf I J v1 hR hf ⟨rfl, rfl⟩)
noncomputable def F_MD_fenceTold_145 (I : MI) (v4 : Int32) (v6 : Int32) (v7 : Int32) : Option ((Int32 × MI) ⊕ (MI)) :=
  if (6 : Int32) ≤ v7 then (some (.inr I)) else (gd ((v6 + (1 : Int32)) + v7) 42 <| some (.inl ((v7 + 1 : Int32), m_up I 209 (((v6 + (1 : Int32)) + v7).toNatClampNeg) v4)))
set_option maxRecDepth 100000 in
set_option maxHeartbeats 400000 in
theorem W_MD_fenceTold_145 {G : MG} {Q : Option MV → MS → Prop} {L : List (Nat × Nat)} {R : Nat → Nat → Option MRef} (I : MI) (J : MJ) (v4 : Int32) (v6 : Int32) (v7 : Int32) (hR : RF R) {r : (Int32 × MI) ⊕ (MI)} (hf : F_MD_fenceTold_145 I v4 v6 v7 = some r) (hk : (Sum.elim (fun s : Int32 × MI => m_B G (m_rm 5 0 0) M_MD_fenceTold Q 0 0 145 [some (mR (12, 0, 177)), none, none, none, some (mI v4), none, some (mI v6), some (mI s.1)] [] (L, s.2, J, R)) (fun s : MI => m_B G (m_rm 5 0 0) M_MD_fenceTold Q 0 0 172 [some (mR (12, 0, 177)), none, none, none, none, none, none, none] [] (L, s, J, R))) r) : m_B G (m_rm 5 0 0) M_MD_fenceTold Q 0 0 145 [some (mR (12, 0, 177)), none, none, none, some (mI v4), none, some (mI v6), some (mI v7)] [] (L, I, J, R) := by
  unfold F_MD_fenceTold_145 at hf
  refine b_blk (pc' := 149) (ls' := [some (mR (12, 0, 177)), none, none, none, some (mI v4), none, some (mI v6), some (mI v7)]) (st' := [mI 6, mI v7]) (S' := (L, I, J, R)) (P := True) [(.iload 7, (0, 0, 0, 0, 0)), (.bipush 6, (0, 0, 0, 6, 0))] [] (by decide +kernel) rfl trivial ?_
  refine b_icmp_ge (off := 23) (tgt := 172) (by decide +kernel) (by decide) (fun h1 => ?_) (fun h1 => ?_)
  · have hf := if_t h1 hf
    refine b_frg 4 ?_
    refine b_frg 6 ?_
    refine b_frg 7 ?_
    cases hf
    exact hk
  · have hf := if_f h1 hf
    obtain ⟨g2, hf⟩ := gd_s hf
    refine b_blk (pc' := 145) (ls' := [some (mR (12, 0, 177)), none, none, none, some (mI v4), none, some (mI v6), some (mI (v7 + 1))]) (st' := []) (S' := (L, m_up I 209 (((v6 + (1 : Int32)) + v7).toNatClampNeg) v4, J, R)) (P := ((True ∧ R 177 41 = some (20, 42, 209)) ∧ vp_in ((v6 + (1 : Int32)) + v7) 42)) [(.aload_n 0, (0, 0, 0, 0, 0)), (.getfield 109, (12, 41, 3, 0, 0)), (.iload 6, (0, 0, 0, 0, 0)), (.iconst 1, (0, 0, 0, 1, 0)), (.iadd, (0, 0, 0, 0, 0)), (.iload 7, (0, 0, 0, 0, 0)), (.iadd, (0, 0, 0, 0, 0)), (.iload 4, (0, 0, 0, 0, 0)), (.iastore, (0, 0, 0, 0, 0)), (.iinc 7 1, (0, 0, 0, 1, 0)), (.goto (-24), (0, 145, 0, 0, 0))] [some (20, 42, 209)] (by decide +kernel) rfl ⟨⟨trivial, (r_177_41 hR)⟩, (in_n (n := 42) (by decide) g2.1 g2.2)⟩ ?_
    cases hf
    exact hk
noncomputable def F_MD_fenceTold_62 (I : MI) (J : MJ) (v2 : Int64) : Option (MI × MJ) :=
  (F_MD_asks 185 3 I).bind fun r1 => (F_MD_number r1 (0 : Int32) ((r1 204 1) - (1 : Int32))).bind fun r2 => (F_MD_asks 186 3 r2.2).bind fun r3 => (F_MD_number r3 (0 : Int32) (99 : Int32)).bind fun r4 => if (r4.2 177 5) = (0 : Int32) then (gd (r4.2 205 0) 12 <| gd ((7 : Int32) * (r4.2 205 0)) 42 <| (wl (fun s : Int32 × MI => F_MD_fenceTold_145 s.2 r2.1 ((7 : Int32) * (r4.2 205 0)) s.1) ((0 : Int32), m_up r4.2 209 (((7 : Int32) * (r4.2 205 0)).toNatClampNeg) r4.1)).bind fun t8 => some (m_up t8 205 0 ((t8 205 0) + (1 : Int32)), m_up J 206 ((r4.2 205 0).toNatClampNeg) v2)) else (some (r4.2, J))
set_option maxRecDepth 100000 in
set_option maxHeartbeats 400000 in
theorem W_MD_fenceTold_62 {G : MG} {Q : Option MV → MS → Prop} {L : List (Nat × Nat)} {R : Nat → Nat → Option MRef} (I : MI) (J : MJ) (v2 : Int64) (hR : RF R) {r : MI × MJ} (hf : F_MD_fenceTold_62 I J v2 = some r) (hk : (fun r : MI × MJ => Q (none) (L, r.1, r.2, R)) r) : m_B G (m_rm 5 0 0) M_MD_fenceTold Q 0 0 62 [some (mR (12, 0, 177)), none, some (mJ v2), none, none, none, none, none] [] (L, I, J, R) := by
  unfold F_MD_fenceTold_62 at hf
  refine b_blk (pc' := 67) (ls' := [some (mR (12, 0, 177)), none, some (mJ v2), none, none, none, none, none]) (st' := [mR (23, 3, 185), mR (12, 0, 177)]) (S' := (L, I, J, R)) (P := (True ∧ R 177 16 = some (23, 3, 185))) [(.aload_n 0, (0, 0, 0, 0, 0)), (.aload_n 0, (0, 0, 0, 0, 0)), (.getfield 36, (12, 16, 3, 0, 0))] [some (23, 3, 185)] (by decide +kernel) rfl ⟨trivial, (r_177_16 hR)⟩ ?_
  obtain ⟨r1, hc1, hf⟩ := bnd_o hf
  refine b_cV (as := [mR (23, 3, 185)]) (st := []) (by decide +kernel) k_12_295 n_MD_asks rfl (by decide) v_MD_asks (C_MD_asks 185 3 I J hR (by decide) hc1) (Nat.le_of_ble_eq_true rfl) (by decide) rfl rfl (fun _ h => h) ?_
  show m_B G (m_rm 5 0 0) M_MD_fenceTold Q 0 0 70 [some (mR (12, 0, 177)), none, some (mJ v2), none, none, none, none, none] [] (L, r1, J, R)
  refine b_blk (pc' := 80) (ls' := [some (mR (12, 0, 177)), none, some (mJ v2), none, none, none, none, none]) (st' := [mI ((r1 204 1) - (1 : Int32)), mI 0, mR (12, 0, 177)]) (S' := (L, r1, J, R)) (P := ((True ∧ R 177 36 = some (20, 4, 204)) ∧ vp_in (1 : Int32) 4)) [(.aload_n 0, (0, 0, 0, 0, 0)), (.iconst 0, (0, 0, 0, 0, 0)), (.aload_n 0, (0, 0, 0, 0, 0)), (.getfield 93, (12, 36, 3, 0, 0)), (.iconst 1, (0, 0, 0, 1, 0)), (.iaload, (0, 0, 0, 0, 0)), (.iconst 1, (0, 0, 0, 1, 0)), (.isub, (0, 0, 0, 0, 0))] [some (20, 4, 204)] (by decide +kernel) rfl ⟨⟨trivial, (r_177_36 hR)⟩, (vp_in_nI (n := 1) (N := 4) (by decide) (by decide))⟩ ?_
  obtain ⟨r2, hc2, hf⟩ := bnd_o hf
  refine b_cV (as := [mI 0, mI ((r1 204 1) - (1 : Int32))]) (st := []) (by decide +kernel) k_12_299 n_MD_number rfl (by decide) v_MD_number (C_MD_number r1 J (0 : Int32) ((r1 204 1) - (1 : Int32)) hR hc2) (Nat.le_of_ble_eq_true rfl) (by decide) rfl rfl (fun _ h => h) ?_
  show m_B G (m_rm 5 0 0) M_MD_fenceTold Q 0 0 83 [some (mR (12, 0, 177)), none, some (mJ v2), none, none, none, none, none] [mI r2.1] (L, r2.2, J, R)
  refine b_blk (pc' := 90) (ls' := [some (mR (12, 0, 177)), none, some (mJ v2), none, some (mI r2.1), none, none, none]) (st' := [mR (23, 3, 186), mR (12, 0, 177)]) (S' := (L, r2.2, J, R)) (P := (True ∧ R 177 17 = some (23, 3, 186))) [(.istore 4, (0, 0, 0, 0, 0)), (.aload_n 0, (0, 0, 0, 0, 0)), (.aload_n 0, (0, 0, 0, 0, 0)), (.getfield 39, (12, 17, 3, 0, 0))] [some (23, 3, 186)] (by decide +kernel) rfl ⟨trivial, (r_177_17 hR)⟩ ?_
  obtain ⟨r3, hc3, hf⟩ := bnd_o hf
  refine b_cV (as := [mR (23, 3, 186)]) (st := []) (by decide +kernel) k_12_295 n_MD_asks rfl (by decide) v_MD_asks (C_MD_asks 186 3 r2.2 J hR (by decide) hc3) (Nat.le_of_ble_eq_true rfl) (by decide) rfl rfl (fun _ h => h) ?_
  show m_B G (m_rm 5 0 0) M_MD_fenceTold Q 0 0 93 [some (mR (12, 0, 177)), none, some (mJ v2), none, some (mI r2.1), none, none, none] [] (L, r3, J, R)
  refine b_blk (pc' := 97) (ls' := [some (mR (12, 0, 177)), none, some (mJ v2), none, some (mI r2.1), none, none, none]) (st' := [mI 99, mI 0, mR (12, 0, 177)]) (S' := (L, r3, J, R)) (P := True) [(.aload_n 0, (0, 0, 0, 0, 0)), (.iconst 0, (0, 0, 0, 0, 0)), (.bipush 99, (0, 0, 0, 99, 0))] [] (by decide +kernel) rfl trivial ?_
  obtain ⟨r4, hc4, hf⟩ := bnd_o hf
  refine b_cV (as := [mI 0, mI 99]) (st := []) (by decide +kernel) k_12_299 n_MD_number rfl (by decide) v_MD_number (C_MD_number r3 J (0 : Int32) (99 : Int32) hR hc4) (Nat.le_of_ble_eq_true rfl) (by decide) rfl rfl (fun _ h => h) ?_
  show m_B G (m_rm 5 0 0) M_MD_fenceTold Q 0 0 100 [some (mR (12, 0, 177)), none, some (mJ v2), none, some (mI r2.1), none, none, none] [mI r4.1] (L, r4.2, J, R)
  refine b_blk (pc' := 106) (ls' := [some (mR (12, 0, 177)), none, some (mJ v2), none, some (mI r2.1), some (mI r4.1), none, none]) (st' := [mI (r4.2 177 5)]) (S' := (L, r4.2, J, R)) (P := True) [(.istore 5, (0, 0, 0, 0, 0)), (.aload_n 0, (0, 0, 0, 0, 0)), (.getfield 234, (12, 5, 0, 0, 0))] [] (by decide +kernel) rfl trivial ?_
  refine b_if_eq (off := 4) (tgt := 110) (by decide +kernel) (by decide) (fun h5 => ?_) (fun h5 => ?_)
  · have hf := if_t h5 hf
    obtain ⟨g6, hf⟩ := gd_s hf
    obtain ⟨g7, hf⟩ := gd_s hf
    refine b_blk (pc' := 145) (ls' := [some (mR (12, 0, 177)), none, some (mJ v2), none, some (mI r2.1), some (mI r4.1), some (mI ((7 : Int32) * (r4.2 205 0))), some (mI 0)]) (st' := []) (S' := (L, m_up r4.2 209 (((7 : Int32) * (r4.2 205 0)).toNatClampNeg) r4.1, m_up J 206 ((r4.2 205 0).toNatClampNeg) v2, R)) (P := ((((((((True ∧ R 177 37 = some (20, 4, 205)) ∧ vp_in (0 : Int32) 4) ∧ R 177 38 = some (21, 12, 206)) ∧ R 177 37 = some (20, 4, 205)) ∧ vp_in (0 : Int32) 4) ∧ vp_in (r4.2 205 0) 12) ∧ R 177 41 = some (20, 42, 209)) ∧ vp_in ((7 : Int32) * (r4.2 205 0)) 42)) [(.bipush 7, (0, 0, 0, 7, 0)), (.aload_n 0, (0, 0, 0, 0, 0)), (.getfield 96, (12, 37, 3, 0, 0)), (.iconst 0, (0, 0, 0, 0, 0)), (.iaload, (0, 0, 0, 0, 0)), (.imul, (0, 0, 0, 0, 0)), (.istore 6, (0, 0, 0, 0, 0)), (.aload_n 0, (0, 0, 0, 0, 0)), (.getfield 99, (12, 38, 3, 0, 0)), (.aload_n 0, (0, 0, 0, 0, 0)), (.getfield 96, (12, 37, 3, 0, 0)), (.iconst 0, (0, 0, 0, 0, 0)), (.iaload, (0, 0, 0, 0, 0)), (.lload_n 2, (0, 0, 0, 0, 0)), (.lastore, (0, 0, 0, 0, 0)), (.aload_n 0, (0, 0, 0, 0, 0)), (.getfield 109, (12, 41, 3, 0, 0)), (.iload 6, (0, 0, 0, 0, 0)), (.iload 5, (0, 0, 0, 0, 0)), (.iastore, (0, 0, 0, 0, 0)), (.iconst 0, (0, 0, 0, 0, 0)), (.istore 7, (0, 0, 0, 0, 0))] [some (20, 4, 205), some (21, 12, 206), some (20, 4, 205), some (20, 42, 209)] (by decide +kernel) rfl ⟨⟨⟨⟨⟨⟨⟨⟨trivial, (r_177_37 hR)⟩, (vp_in_nI (n := 0) (N := 4) (by decide) (by decide))⟩, (r_177_38 hR)⟩, (r_177_37 hR)⟩, (vp_in_nI (n := 0) (N := 4) (by decide) (by decide))⟩, (in_n (n := 12) (by decide) g6.1 g6.2)⟩, (r_177_41 hR)⟩, (in_n (n := 42) (by decide) g7.1 g7.2)⟩ ?_
    refine b_frg 2 ?_
    refine b_frg 5 ?_
    obtain ⟨t8, hw, hf⟩ := bnd_o hf
    refine wl_B (A := fun s : Int32 × MI => m_B G (m_rm 5 0 0) M_MD_fenceTold Q 0 0 145 [some (mR (12, 0, 177)), none, none, none, some (mI r2.1), none, some (mI ((7 : Int32) * (r4.2 205 0))), some (mI s.1)] [] (L, s.2, m_up J 206 ((r4.2 205 0).toNatClampNeg) v2, R)) (B := (fun s : MI => m_B G (m_rm 5 0 0) M_MD_fenceTold Q 0 0 172 [some (mR (12, 0, 177)), none, none, none, none, none, none, none] [] (L, s, m_up J 206 ((r4.2 205 0).toNatClampNeg) v2, R))) (fun s r hs hr => W_MD_fenceTold_145 s.2 (m_up J 206 ((r4.2 205 0).toNatClampNeg) v2) r2.1 ((7 : Int32) * (r4.2 205 0)) s.1 hR hs hr) hw ?_
    show m_B G (m_rm 5 0 0) M_MD_fenceTold Q 0 0 172 [some (mR (12, 0, 177)), none, none, none, none, none, none, none] [] (L, t8, m_up J 206 ((r4.2 205 0).toNatClampNeg) v2, R)
    refine b_blk (pc' := 182) (ls' := [some (mR (12, 0, 177)), none, none, none, none, none, none, none]) (st' := []) (S' := (L, m_up t8 205 0 ((t8 205 0) + (1 : Int32)), m_up J 206 ((r4.2 205 0).toNatClampNeg) v2, R)) (P := (((True ∧ R 177 37 = some (20, 4, 205)) ∧ vp_in (0 : Int32) 4) ∧ vp_in (0 : Int32) 4)) [(.aload_n 0, (0, 0, 0, 0, 0)), (.getfield 96, (12, 37, 3, 0, 0)), (.iconst 0, (0, 0, 0, 0, 0)), (.dup2, (0, 0, 0, 0, 0)), (.iaload, (0, 0, 0, 0, 0)), (.iconst 1, (0, 0, 0, 1, 0)), (.iadd, (0, 0, 0, 0, 0)), (.iastore, (0, 0, 0, 0, 0))] [some (20, 4, 205)] (by decide +kernel) rfl ⟨⟨⟨trivial, (r_177_37 hR)⟩, (vp_in_nI (n := 0) (N := 4) (by decide) (by decide))⟩, (vp_in_nI (n := 0) (N := 4) (by decide) (by decide))⟩ ?_
    cases hf
    exact b_vret (by decide +kernel) rfl hk
  · have hf := if_f h5 hf
    cases hf
    exact b_vret (by decide +kernel) rfl hk
noncomputable def F_MD_fenceTold_24 (I : MI) (J : MJ) : Option (MI × MJ) :=
  if (I 177 5) = (0 : Int32) then ((F_MD_name I).bind fun r2 => if (r2.2 177 5) = (0 : Int32) then ((F_MD_nameOf r2.2 J r2.1).bind fun r4 => if r4 = (-1 : Int32) then (F_MD_fenceTold_62 r2.2 J r2.1) else ((F_MD_fail r2.2 (3 : Int32) (r2.2 177 35)).bind fun r6 => F_MD_fenceTold_62 r6 J r2.1)) else (F_MD_fenceTold_62 r2.2 J r2.1)) else (some (I, J))
set_option maxRecDepth 100000 in
set_option maxHeartbeats 400000 in
theorem W_MD_fenceTold_24 {G : MG} {Q : Option MV → MS → Prop} {L : List (Nat × Nat)} {R : Nat → Nat → Option MRef} (I : MI) (J : MJ) (hR : RF R) {r : MI × MJ} (hf : F_MD_fenceTold_24 I J = some r) (hk : (fun r : MI × MJ => Q (none) (L, r.1, r.2, R)) r) : m_B G (m_rm 5 0 0) M_MD_fenceTold Q 0 0 24 [some (mR (12, 0, 177)), none, none, none, none, none, none, none] [] (L, I, J, R) := by
  unfold F_MD_fenceTold_24 at hf
  refine b_blk (pc' := 28) (ls' := [some (mR (12, 0, 177)), none, none, none, none, none, none, none]) (st' := [mI (I 177 5)]) (S' := (L, I, J, R)) (P := True) [(.aload_n 0, (0, 0, 0, 0, 0)), (.getfield 234, (12, 5, 0, 0, 0))] [] (by decide +kernel) rfl trivial ?_
  refine b_if_eq (off := 4) (tgt := 32) (by decide +kernel) (by decide) (fun h1 => ?_) (fun h1 => ?_)
  · have hf := if_t h1 hf
    refine b_blk (pc' := 33) (ls' := [some (mR (12, 0, 177)), none, none, none, none, none, none, none]) (st' := [mR (12, 0, 177)]) (S' := (L, I, J, R)) (P := True) [(.aload_n 0, (0, 0, 0, 0, 0))] [] (by decide +kernel) rfl trivial ?_
    obtain ⟨r2, hc2, hf⟩ := bnd_o hf
    refine b_cV (as := []) (st := []) (by decide +kernel) k_12_307 n_MD_name rfl (by decide) v_MD_name (C_MD_name I J hR hc2) (Nat.le_of_ble_eq_true rfl) (by decide) rfl rfl (fun _ h => h) ?_
    show m_B G (m_rm 5 0 0) M_MD_fenceTold Q 0 0 36 [some (mR (12, 0, 177)), none, none, none, none, none, none, none] [mJ r2.1] (L, r2.2, J, R)
    refine b_blk (pc' := 41) (ls' := [some (mR (12, 0, 177)), none, some (mJ r2.1), none, none, none, none, none]) (st' := [mI (r2.2 177 5)]) (S' := (L, r2.2, J, R)) (P := True) [(.lstore_n 2, (0, 0, 0, 0, 0)), (.aload_n 0, (0, 0, 0, 0, 0)), (.getfield 234, (12, 5, 0, 0, 0))] [] (by decide +kernel) rfl trivial ?_
    refine b_if_ne (off := 21) (tgt := 62) (by decide +kernel) (by decide) (fun h3 => ?_) (fun h3 => ?_)
    · have hf := if_f h3 hf
      exact m_B_cg rfl rfl rfl (W_MD_fenceTold_62 r2.2 J r2.1 hR hf hk)
    · have hf := if_t h3 hf
      refine b_blk (pc' := 46) (ls' := [some (mR (12, 0, 177)), none, some (mJ r2.1), none, none, none, none, none]) (st' := [mJ r2.1, mR (12, 0, 177)]) (S' := (L, r2.2, J, R)) (P := True) [(.aload_n 0, (0, 0, 0, 0, 0)), (.lload_n 2, (0, 0, 0, 0, 0))] [] (by decide +kernel) rfl trivial ?_
      obtain ⟨r4, hc4, hf⟩ := bnd_o hf
      refine b_cV (as := [mJ r2.1]) (st := []) (by decide +kernel) k_12_311 n_MD_nameOf rfl (by decide) v_MD_nameOf (C_MD_nameOf r2.2 J r2.1 hR hc4) (Nat.le_of_ble_eq_true rfl) (by decide) rfl rfl (fun _ h => h) ?_
      show m_B G (m_rm 5 0 0) M_MD_fenceTold Q 0 0 49 [some (mR (12, 0, 177)), none, some (mJ r2.1), none, none, none, none, none] [mI r4] (L, r2.2, J, R)
      refine b_blk (pc' := 50) (ls' := [some (mR (12, 0, 177)), none, some (mJ r2.1), none, none, none, none, none]) (st' := [mI (-1), mI r4]) (S' := (L, r2.2, J, R)) (P := True) [(.iconst (-1), (0, 0, 0, (-1), 0))] [] (by decide +kernel) rfl trivial ?_
      refine b_icmp_eq (off := 12) (tgt := 62) (by decide +kernel) (by decide) (fun h5 => ?_) (fun h5 => ?_)
      · have hf := if_t h5 hf
        exact m_B_cg rfl rfl rfl (W_MD_fenceTold_62 r2.2 J r2.1 hR hf hk)
      · have hf := if_f h5 hf
        refine b_blk (pc' := 59) (ls' := [some (mR (12, 0, 177)), none, some (mJ r2.1), none, none, none, none, none]) (st' := [mI (r2.2 177 35), mI 3, mR (12, 0, 177)]) (S' := (L, r2.2, J, R)) (P := True) [(.aload_n 0, (0, 0, 0, 0, 0)), (.iconst 3, (0, 0, 0, 3, 0)), (.aload_n 0, (0, 0, 0, 0, 0)), (.getfield 285, (12, 35, 0, 0, 0))] [] (by decide +kernel) rfl trivial ?_
        obtain ⟨r6, hc6, hf⟩ := bnd_o hf
        refine b_cV (as := [mI 3, mI (r2.2 177 35)]) (st := []) (by decide +kernel) k_12_264 n_MD_fail rfl (by decide) v_MD_fail (C_MD_fail r2.2 J (3 : Int32) (r2.2 177 35) hR hc6) (Nat.le_of_ble_eq_true rfl) (by decide) rfl rfl (fun _ h => h) ?_
        show m_B G (m_rm 5 0 0) M_MD_fenceTold Q 0 0 62 [some (mR (12, 0, 177)), none, some (mJ r2.1), none, none, none, none, none] [] (L, r6, J, R)
        exact m_B_cg rfl rfl rfl (W_MD_fenceTold_62 r6 J r2.1 hR hf hk)
  · have hf := if_f h1 hf
    cases hf
    exact b_vret (by decide +kernel) rfl hk
noncomputable def F_MD_fenceTold (I : MI) (J : MJ) (v1 : Int32) : Option (MI × MJ) :=
  if (I 177 5) = (0 : Int32) then (if (I 205 0) = (6 : Int32) then ((F_MD_fail I (5 : Int32) v1).bind fun r3 => F_MD_fenceTold_24 r3 J) else (F_MD_fenceTold_24 I J)) else (F_MD_fenceTold_24 I J)
set_option maxRecDepth 100000 in
set_option maxHeartbeats 400000 in
theorem W_MD_fenceTold {G : MG} {Q : Option MV → MS → Prop} {L : List (Nat × Nat)} {R : Nat → Nat → Option MRef} (I : MI) (J : MJ) (v1 : Int32) (hR : RF R) {r : MI × MJ} (hf : F_MD_fenceTold I J v1 = some r) (hk : (fun r : MI × MJ => Q (none) (L, r.1, r.2, R)) r) : m_B G (m_rm 5 0 0) M_MD_fenceTold Q 0 0 0 [some (mR (12, 0, 177)), some (mI v1), none, none, none, none, none, none] [] (L, I, J, R) := by
  unfold F_MD_fenceTold at hf
  refine b_blk (pc' := 4) (ls' := [some (mR (12, 0, 177)), some (mI v1), none, none, none, none, none, none]) (st' := [mI (I 177 5)]) (S' := (L, I, J, R)) (P := True) [(.aload_n 0, (0, 0, 0, 0, 0)), (.getfield 234, (12, 5, 0, 0, 0))] [] (by decide +kernel) rfl trivial ?_
  refine b_if_ne (off := 20) (tgt := 24) (by decide +kernel) (by decide) (fun h1 => ?_) (fun h1 => ?_)
  · have hf := if_f h1 hf
    refine b_frg 1 ?_
    exact m_B_cg rfl rfl rfl (W_MD_fenceTold_24 I J hR hf hk)
  · have hf := if_t h1 hf
    refine b_blk (pc' := 15) (ls' := [some (mR (12, 0, 177)), some (mI v1), none, none, none, none, none, none]) (st' := [mI 6, mI (I 205 0)]) (S' := (L, I, J, R)) (P := ((True ∧ R 177 37 = some (20, 4, 205)) ∧ vp_in (0 : Int32) 4)) [(.aload_n 0, (0, 0, 0, 0, 0)), (.getfield 96, (12, 37, 3, 0, 0)), (.iconst 0, (0, 0, 0, 0, 0)), (.iaload, (0, 0, 0, 0, 0)), (.bipush 6, (0, 0, 0, 6, 0))] [some (20, 4, 205)] (by decide +kernel) rfl ⟨⟨trivial, (r_177_37 hR)⟩, (vp_in_nI (n := 0) (N := 4) (by decide) (by decide))⟩ ?_
    refine b_icmp_ne (off := 9) (tgt := 24) (by decide +kernel) (by decide) (fun h2 => ?_) (fun h2 => ?_)
    · have hf := if_f h2 hf
      refine b_frg 1 ?_
      exact m_B_cg rfl rfl rfl (W_MD_fenceTold_24 I J hR hf hk)
    · have hf := if_t h2 hf
      refine b_blk (pc' := 21) (ls' := [some (mR (12, 0, 177)), some (mI v1), none, none, none, none, none, none]) (st' := [mI v1, mI 5, mR (12, 0, 177)]) (S' := (L, I, J, R)) (P := True) [(.aload_n 0, (0, 0, 0, 0, 0)), (.iconst 5, (0, 0, 0, 5, 0)), (.iload_n 1, (0, 0, 0, 0, 0))] [] (by decide +kernel) rfl trivial ?_
      obtain ⟨r3, hc3, hf⟩ := bnd_o hf
      refine b_cV (as := [mI 5, mI v1]) (st := []) (by decide +kernel) k_12_264 n_MD_fail rfl (by decide) v_MD_fail (C_MD_fail I J (5 : Int32) v1 hR hc3) (Nat.le_of_ble_eq_true rfl) (by decide) rfl rfl (fun _ h => h) ?_
      show m_B G (m_rm 5 0 0) M_MD_fenceTold Q 0 0 24 [some (mR (12, 0, 177)), some (mI v1), none, none, none, none, none, none] [] (L, r3, J, R)
      refine b_frg 1 ?_
      exact m_B_cg rfl rfl rfl (W_MD_fenceTold_24 r3 J hR hf hk)
theorem C_MD_fenceTold {G : MG} {L : List (Nat × Nat)} {R : Nat → Nat → Option MRef} (I : MI) (J : MJ) (v1 : Int32) (hR : RF R) {r : MI × MJ} (hf : F_MD_fenceTold I J v1 = some r) : m_met G 5 0 0 y_MD_fenceTold M_MD_fenceTold [mR (12, 0, 177), mI v1] (L, I, J, R) (m_is (none) (L, r.1, r.2, R)) :=
  m_met_in n_MD_fenceTold (plainFor_of_name (by decide)) (by decide) (Nat.le_of_ble_eq_true rfl) (ls := [some (mR (12, 0, 177)), some (mI v1), none, none, none, none, none, none]) rfl (W_MD_fenceTold I J v1 hR hf ⟨rfl, rfl⟩)
noncomputable def F_MD_ironTold_82 (I : MI) (v2 : Int32) (v3 : Int32) : Option (MI) :=
  if (I 177 5) = (0 : Int32) then (gd v2 6 <| gd v2 6 <| bnd (m_up (m_up I 208 (v2.toNatClampNeg) ((I 208 v2.toNatClampNeg) ||| ((1 : Int32) <<< (v3 &&& 31)))) 205 1 ((I 205 1) + (1 : Int32)) : MI) fun x4 => some x4) else (some I)
set_option maxRecDepth 100000 in
set_option maxHeartbeats 400000 in
theorem W_MD_ironTold_82 {G : MG} {Q : Option MV → MS → Prop} {L : List (Nat × Nat)} {R : Nat → Nat → Option MRef} (I : MI) (J : MJ) (v2 : Int32) (v3 : Int32) (hR : RF R) {r : MI} (hf : F_MD_ironTold_82 I v2 v3 = some r) (hk : (fun r : MI => Q (none) (L, r, J, R)) r) : m_B G (m_rm 3 0 0) M_MD_ironTold Q 0 0 82 [some (mR (12, 0, 177)), none, some (mI v2), some (mI v3)] [] (L, I, J, R) := by
  unfold F_MD_ironTold_82 at hf
  refine b_blk (pc' := 86) (ls' := [some (mR (12, 0, 177)), none, some (mI v2), some (mI v3)]) (st' := [mI (I 177 5)]) (S' := (L, I, J, R)) (P := True) [(.aload_n 0, (0, 0, 0, 0, 0)), (.getfield 234, (12, 5, 0, 0, 0))] [] (by decide +kernel) rfl trivial ?_
  refine b_if_eq (off := 4) (tgt := 90) (by decide +kernel) (by decide) (fun h1 => ?_) (fun h1 => ?_)
  · have hf := if_t h1 hf
    obtain ⟨g2, hf⟩ := gd_s hf
    obtain ⟨g3, hf⟩ := gd_s hf
    refine b_blk (pc' := 112) (ls' := [some (mR (12, 0, 177)), none, some (mI v2), some (mI v3)]) (st' := []) (S' := (L, m_up (m_up I 208 (v2.toNatClampNeg) ((I 208 v2.toNatClampNeg) ||| ((1 : Int32) <<< (v3 &&& 31)))) 205 1 ((I 205 1) + (1 : Int32)), J, R)) (P := ((((((True ∧ R 177 40 = some (20, 6, 208)) ∧ vp_in v2 6) ∧ vp_in v2 6) ∧ R 177 37 = some (20, 4, 205)) ∧ vp_in (1 : Int32) 4) ∧ vp_in (1 : Int32) 4)) [(.aload_n 0, (0, 0, 0, 0, 0)), (.getfield 106, (12, 40, 3, 0, 0)), (.iload_n 2, (0, 0, 0, 0, 0)), (.dup2, (0, 0, 0, 0, 0)), (.iaload, (0, 0, 0, 0, 0)), (.iconst 1, (0, 0, 0, 1, 0)), (.iload_n 3, (0, 0, 0, 0, 0)), (.ishl, (0, 0, 0, 0, 0)), (.ior, (0, 0, 0, 0, 0)), (.iastore, (0, 0, 0, 0, 0)), (.aload_n 0, (0, 0, 0, 0, 0)), (.getfield 96, (12, 37, 3, 0, 0)), (.iconst 1, (0, 0, 0, 1, 0)), (.dup2, (0, 0, 0, 0, 0)), (.iaload, (0, 0, 0, 0, 0)), (.iconst 1, (0, 0, 0, 1, 0)), (.iadd, (0, 0, 0, 0, 0)), (.iastore, (0, 0, 0, 0, 0))] [some (20, 6, 208), some (20, 4, 205)] (by decide +kernel) rfl ⟨⟨⟨⟨⟨⟨trivial, (r_177_40 hR)⟩, (in_n (n := 6) (by decide) g2.1 g2.2)⟩, (in_n (n := 6) (by decide) g3.1 g3.2)⟩, (r_177_37 hR)⟩, (vp_in_nI (n := 1) (N := 4) (by decide) (by decide))⟩, (vp_in_nI (n := 1) (N := 4) (by decide) (by decide))⟩ ?_
    obtain ⟨x4, ex4, hf⟩ := bnd_s hf
    refine m_B_cg (ls' := [some (mR (12, 0, 177)), none, some (mI v2), some (mI v3)]) (st' := []) (S' := (L, x4, J, R)) (by first | with_reducible rfl | rw [ex4]) (by first | with_reducible rfl | rw [ex4]) (by first | with_reducible rfl | rw [ex4]) ?_
    cases hf
    exact b_vret (by decide +kernel) rfl hk
  · have hf := if_f h1 hf
    cases hf
    exact b_vret (by decide +kernel) rfl hk
noncomputable def F_MD_ironTold_24 (I : MI) : Option (MI) :=
  (F_MD_number I (0 : Int32) ((I 204 0) - (1 : Int32))).bind fun r1 => (F_MD_number r1.2 (0 : Int32) ((r1.2 204 1) - (1 : Int32))).bind fun r2 => if (r2.2 177 5) = (0 : Int32) then (gd r1.1 6 <| if (((r2.2 208 r1.1.toNatClampNeg) >>> (r2.1 &&& 31)) &&& (1 : Int32)) = (1 : Int32) then ((F_MD_fail r2.2 (2 : Int32) (r2.2 177 10)).bind fun r6 => F_MD_ironTold_82 r6 r1.1 r2.1) else (F_MD_ironTold_82 r2.2 r1.1 r2.1)) else (F_MD_ironTold_82 r2.2 r1.1 r2.1)
set_option maxRecDepth 100000 in
set_option maxHeartbeats 400000 in
theorem W_MD_ironTold_24 {G : MG} {Q : Option MV → MS → Prop} {L : List (Nat × Nat)} {R : Nat → Nat → Option MRef} (I : MI) (J : MJ) (hR : RF R) {r : MI} (hf : F_MD_ironTold_24 I = some r) (hk : (fun r : MI => Q (none) (L, r, J, R)) r) : m_B G (m_rm 3 0 0) M_MD_ironTold Q 0 0 24 [some (mR (12, 0, 177)), none, none, none] [] (L, I, J, R) := by
  unfold F_MD_ironTold_24 at hf
  refine b_blk (pc' := 34) (ls' := [some (mR (12, 0, 177)), none, none, none]) (st' := [mI ((I 204 0) - (1 : Int32)), mI 0, mR (12, 0, 177)]) (S' := (L, I, J, R)) (P := ((True ∧ R 177 36 = some (20, 4, 204)) ∧ vp_in (0 : Int32) 4)) [(.aload_n 0, (0, 0, 0, 0, 0)), (.iconst 0, (0, 0, 0, 0, 0)), (.aload_n 0, (0, 0, 0, 0, 0)), (.getfield 93, (12, 36, 3, 0, 0)), (.iconst 0, (0, 0, 0, 0, 0)), (.iaload, (0, 0, 0, 0, 0)), (.iconst 1, (0, 0, 0, 1, 0)), (.isub, (0, 0, 0, 0, 0))] [some (20, 4, 204)] (by decide +kernel) rfl ⟨⟨trivial, (r_177_36 hR)⟩, (vp_in_nI (n := 0) (N := 4) (by decide) (by decide))⟩ ?_
  obtain ⟨r1, hc1, hf⟩ := bnd_o hf
  refine b_cV (as := [mI 0, mI ((I 204 0) - (1 : Int32))]) (st := []) (by decide +kernel) k_12_299 n_MD_number rfl (by decide) v_MD_number (C_MD_number I J (0 : Int32) ((I 204 0) - (1 : Int32)) hR hc1) (Nat.le_of_ble_eq_true rfl) (by decide) rfl rfl (fun _ h => h) ?_
  show m_B G (m_rm 3 0 0) M_MD_ironTold Q 0 0 37 [some (mR (12, 0, 177)), none, none, none] [mI r1.1] (L, r1.2, J, R)
  refine b_blk (pc' := 48) (ls' := [some (mR (12, 0, 177)), none, some (mI r1.1), none]) (st' := [mI ((r1.2 204 1) - (1 : Int32)), mI 0, mR (12, 0, 177)]) (S' := (L, r1.2, J, R)) (P := ((True ∧ R 177 36 = some (20, 4, 204)) ∧ vp_in (1 : Int32) 4)) [(.istore_n 2, (0, 0, 0, 0, 0)), (.aload_n 0, (0, 0, 0, 0, 0)), (.iconst 0, (0, 0, 0, 0, 0)), (.aload_n 0, (0, 0, 0, 0, 0)), (.getfield 93, (12, 36, 3, 0, 0)), (.iconst 1, (0, 0, 0, 1, 0)), (.iaload, (0, 0, 0, 0, 0)), (.iconst 1, (0, 0, 0, 1, 0)), (.isub, (0, 0, 0, 0, 0))] [some (20, 4, 204)] (by decide +kernel) rfl ⟨⟨trivial, (r_177_36 hR)⟩, (vp_in_nI (n := 1) (N := 4) (by decide) (by decide))⟩ ?_
  obtain ⟨r2, hc2, hf⟩ := bnd_o hf
  refine b_cV (as := [mI 0, mI ((r1.2 204 1) - (1 : Int32))]) (st := []) (by decide +kernel) k_12_299 n_MD_number rfl (by decide) v_MD_number (C_MD_number r1.2 J (0 : Int32) ((r1.2 204 1) - (1 : Int32)) hR hc2) (Nat.le_of_ble_eq_true rfl) (by decide) rfl rfl (fun _ h => h) ?_
  show m_B G (m_rm 3 0 0) M_MD_ironTold Q 0 0 51 [some (mR (12, 0, 177)), none, some (mI r1.1), none] [mI r2.1] (L, r2.2, J, R)
  refine b_blk (pc' := 56) (ls' := [some (mR (12, 0, 177)), none, some (mI r1.1), some (mI r2.1)]) (st' := [mI (r2.2 177 5)]) (S' := (L, r2.2, J, R)) (P := True) [(.istore_n 3, (0, 0, 0, 0, 0)), (.aload_n 0, (0, 0, 0, 0, 0)), (.getfield 234, (12, 5, 0, 0, 0))] [] (by decide +kernel) rfl trivial ?_
  refine b_if_ne (off := 26) (tgt := 82) (by decide +kernel) (by decide) (fun h3 => ?_) (fun h3 => ?_)
  · have hf := if_f h3 hf
    exact m_B_cg rfl rfl rfl (W_MD_ironTold_82 r2.2 J r1.1 r2.1 hR hf hk)
  · have hf := if_t h3 hf
    obtain ⟨g4, hf⟩ := gd_s hf
    refine b_blk (pc' := 70) (ls' := [some (mR (12, 0, 177)), none, some (mI r1.1), some (mI r2.1)]) (st' := [mI 1, mI (((r2.2 208 r1.1.toNatClampNeg) >>> (r2.1 &&& 31)) &&& (1 : Int32))]) (S' := (L, r2.2, J, R)) (P := ((True ∧ R 177 40 = some (20, 6, 208)) ∧ vp_in r1.1 6)) [(.aload_n 0, (0, 0, 0, 0, 0)), (.getfield 106, (12, 40, 3, 0, 0)), (.iload_n 2, (0, 0, 0, 0, 0)), (.iaload, (0, 0, 0, 0, 0)), (.iload_n 3, (0, 0, 0, 0, 0)), (.ishr, (0, 0, 0, 0, 0)), (.iconst 1, (0, 0, 0, 1, 0)), (.iand, (0, 0, 0, 0, 0)), (.iconst 1, (0, 0, 0, 1, 0))] [some (20, 6, 208)] (by decide +kernel) rfl ⟨⟨trivial, (r_177_40 hR)⟩, (in_n (n := 6) (by decide) g4.1 g4.2)⟩ ?_
    refine b_icmp_ne (off := 12) (tgt := 82) (by decide +kernel) (by decide) (fun h5 => ?_) (fun h5 => ?_)
    · have hf := if_f h5 hf
      exact m_B_cg rfl rfl rfl (W_MD_ironTold_82 r2.2 J r1.1 r2.1 hR hf hk)
    · have hf := if_t h5 hf
      refine b_blk (pc' := 79) (ls' := [some (mR (12, 0, 177)), none, some (mI r1.1), some (mI r2.1)]) (st' := [mI (r2.2 177 10), mI 2, mR (12, 0, 177)]) (S' := (L, r2.2, J, R)) (P := True) [(.aload_n 0, (0, 0, 0, 0, 0)), (.iconst 2, (0, 0, 0, 2, 0)), (.aload_n 0, (0, 0, 0, 0, 0)), (.getfield 274, (12, 10, 0, 0, 0))] [] (by decide +kernel) rfl trivial ?_
      obtain ⟨r6, hc6, hf⟩ := bnd_o hf
      refine b_cV (as := [mI 2, mI (r2.2 177 10)]) (st := []) (by decide +kernel) k_12_264 n_MD_fail rfl (by decide) v_MD_fail (C_MD_fail r2.2 J (2 : Int32) (r2.2 177 10) hR hc6) (Nat.le_of_ble_eq_true rfl) (by decide) rfl rfl (fun _ h => h) ?_
      show m_B G (m_rm 3 0 0) M_MD_ironTold Q 0 0 82 [some (mR (12, 0, 177)), none, some (mI r1.1), some (mI r2.1)] [] (L, r6, J, R)
      exact m_B_cg rfl rfl rfl (W_MD_ironTold_82 r6 J r1.1 r2.1 hR hf hk)
noncomputable def F_MD_ironTold (I : MI) (v1 : Int32) : Option (MI) :=
  if (I 177 5) = (0 : Int32) then (if (I 205 1) = (12 : Int32) then ((F_MD_fail I (5 : Int32) v1).bind fun r3 => F_MD_ironTold_24 r3) else (F_MD_ironTold_24 I)) else (F_MD_ironTold_24 I)
set_option maxRecDepth 100000 in
set_option maxHeartbeats 400000 in
theorem W_MD_ironTold {G : MG} {Q : Option MV → MS → Prop} {L : List (Nat × Nat)} {R : Nat → Nat → Option MRef} (I : MI) (J : MJ) (v1 : Int32) (hR : RF R) {r : MI} (hf : F_MD_ironTold I v1 = some r) (hk : (fun r : MI => Q (none) (L, r, J, R)) r) : m_B G (m_rm 3 0 0) M_MD_ironTold Q 0 0 0 [some (mR (12, 0, 177)), some (mI v1), none, none] [] (L, I, J, R) := by
  unfold F_MD_ironTold at hf
  refine b_blk (pc' := 4) (ls' := [some (mR (12, 0, 177)), some (mI v1), none, none]) (st' := [mI (I 177 5)]) (S' := (L, I, J, R)) (P := True) [(.aload_n 0, (0, 0, 0, 0, 0)), (.getfield 234, (12, 5, 0, 0, 0))] [] (by decide +kernel) rfl trivial ?_
  refine b_if_ne (off := 20) (tgt := 24) (by decide +kernel) (by decide) (fun h1 => ?_) (fun h1 => ?_)
  · have hf := if_f h1 hf
    refine b_frg 1 ?_
    exact m_B_cg rfl rfl rfl (W_MD_ironTold_24 I J hR hf hk)
  · have hf := if_t h1 hf
    refine b_blk (pc' := 15) (ls' := [some (mR (12, 0, 177)), some (mI v1), none, none]) (st' := [mI 12, mI (I 205 1)]) (S' := (L, I, J, R)) (P := ((True ∧ R 177 37 = some (20, 4, 205)) ∧ vp_in (1 : Int32) 4)) [(.aload_n 0, (0, 0, 0, 0, 0)), (.getfield 96, (12, 37, 3, 0, 0)), (.iconst 1, (0, 0, 0, 1, 0)), (.iaload, (0, 0, 0, 0, 0)), (.bipush 12, (0, 0, 0, 12, 0))] [some (20, 4, 205)] (by decide +kernel) rfl ⟨⟨trivial, (r_177_37 hR)⟩, (vp_in_nI (n := 1) (N := 4) (by decide) (by decide))⟩ ?_
    refine b_icmp_ne (off := 9) (tgt := 24) (by decide +kernel) (by decide) (fun h2 => ?_) (fun h2 => ?_)
    · have hf := if_f h2 hf
      refine b_frg 1 ?_
      exact m_B_cg rfl rfl rfl (W_MD_ironTold_24 I J hR hf hk)
    · have hf := if_t h2 hf
      refine b_blk (pc' := 21) (ls' := [some (mR (12, 0, 177)), some (mI v1), none, none]) (st' := [mI v1, mI 5, mR (12, 0, 177)]) (S' := (L, I, J, R)) (P := True) [(.aload_n 0, (0, 0, 0, 0, 0)), (.iconst 5, (0, 0, 0, 5, 0)), (.iload_n 1, (0, 0, 0, 0, 0))] [] (by decide +kernel) rfl trivial ?_
      obtain ⟨r3, hc3, hf⟩ := bnd_o hf
      refine b_cV (as := [mI 5, mI v1]) (st := []) (by decide +kernel) k_12_264 n_MD_fail rfl (by decide) v_MD_fail (C_MD_fail I J (5 : Int32) v1 hR hc3) (Nat.le_of_ble_eq_true rfl) (by decide) rfl rfl (fun _ h => h) ?_
      show m_B G (m_rm 3 0 0) M_MD_ironTold Q 0 0 24 [some (mR (12, 0, 177)), some (mI v1), none, none] [] (L, r3, J, R)
      refine b_frg 1 ?_
      exact m_B_cg rfl rfl rfl (W_MD_ironTold_24 r3 J hR hf hk)
theorem C_MD_ironTold {G : MG} {L : List (Nat × Nat)} {R : Nat → Nat → Option MRef} (I : MI) (J : MJ) (v1 : Int32) (hR : RF R) {r : MI} (hf : F_MD_ironTold I v1 = some r) : m_met G 3 0 0 y_MD_ironTold M_MD_ironTold [mR (12, 0, 177), mI v1] (L, I, J, R) (m_is (none) (L, r, J, R)) :=
  m_met_in n_MD_ironTold (plainFor_of_name (by decide)) (by decide) (Nat.le_of_ble_eq_true rfl) (ls := [some (mR (12, 0, 177)), some (mI v1), none, none]) rfl (W_MD_ironTold I J v1 hR hf ⟨rfl, rfl⟩)
noncomputable def F_MD_stakeTold_32 (I : MI) (v3 : Int32) : Option (MI) :=
  (F_MD_number I (0 : Int32) ((I 204 0) - (1 : Int32))).bind fun r1 => (F_MD_asks 185 3 r1.2).bind fun r2 => (F_MD_number r2 (0 : Int32) ((r2 204 1) - (1 : Int32))).bind fun r3 => if (r3.2 177 5) = (0 : Int32) then (gd ((((7 : Int32) * v3) + (1 : Int32)) + r1.1) 42 <| some (m_up r3.2 209 (((((7 : Int32) * v3) + (1 : Int32)) + r1.1).toNatClampNeg) r3.1)) else (some r3.2)
set_option maxRecDepth 100000 in
set_option maxHeartbeats 400000 in
theorem W_MD_stakeTold_32 {G : MG} {Q : Option MV → MS → Prop} {L : List (Nat × Nat)} {R : Nat → Nat → Option MRef} (I : MI) (J : MJ) (v3 : Int32) (hR : RF R) {r : MI} (hf : F_MD_stakeTold_32 I v3 = some r) (hk : (fun r : MI => Q (none) (L, r, J, R)) r) : m_B G (m_rm 5 0 0) M_MD_stakeTold Q 0 0 32 [some (mR (12, 0, 177)), none, none, some (mI v3), none, none] [] (L, I, J, R) := by
  unfold F_MD_stakeTold_32 at hf
  refine b_blk (pc' := 42) (ls' := [some (mR (12, 0, 177)), none, none, some (mI v3), none, none]) (st' := [mI ((I 204 0) - (1 : Int32)), mI 0, mR (12, 0, 177)]) (S' := (L, I, J, R)) (P := ((True ∧ R 177 36 = some (20, 4, 204)) ∧ vp_in (0 : Int32) 4)) [(.aload_n 0, (0, 0, 0, 0, 0)), (.iconst 0, (0, 0, 0, 0, 0)), (.aload_n 0, (0, 0, 0, 0, 0)), (.getfield 93, (12, 36, 3, 0, 0)), (.iconst 0, (0, 0, 0, 0, 0)), (.iaload, (0, 0, 0, 0, 0)), (.iconst 1, (0, 0, 0, 1, 0)), (.isub, (0, 0, 0, 0, 0))] [some (20, 4, 204)] (by decide +kernel) rfl ⟨⟨trivial, (r_177_36 hR)⟩, (vp_in_nI (n := 0) (N := 4) (by decide) (by decide))⟩ ?_
  obtain ⟨r1, hc1, hf⟩ := bnd_o hf
  refine b_cV (as := [mI 0, mI ((I 204 0) - (1 : Int32))]) (st := []) (by decide +kernel) k_12_299 n_MD_number rfl (by decide) v_MD_number (C_MD_number I J (0 : Int32) ((I 204 0) - (1 : Int32)) hR hc1) (Nat.le_of_ble_eq_true rfl) (by decide) rfl rfl (fun _ h => h) ?_
  show m_B G (m_rm 5 0 0) M_MD_stakeTold Q 0 0 45 [some (mR (12, 0, 177)), none, none, some (mI v3), none, none] [mI r1.1] (L, r1.2, J, R)
  refine b_blk (pc' := 52) (ls' := [some (mR (12, 0, 177)), none, none, some (mI v3), some (mI r1.1), none]) (st' := [mR (23, 3, 185), mR (12, 0, 177)]) (S' := (L, r1.2, J, R)) (P := (True ∧ R 177 16 = some (23, 3, 185))) [(.istore 4, (0, 0, 0, 0, 0)), (.aload_n 0, (0, 0, 0, 0, 0)), (.aload_n 0, (0, 0, 0, 0, 0)), (.getfield 36, (12, 16, 3, 0, 0))] [some (23, 3, 185)] (by decide +kernel) rfl ⟨trivial, (r_177_16 hR)⟩ ?_
  obtain ⟨r2, hc2, hf⟩ := bnd_o hf
  refine b_cV (as := [mR (23, 3, 185)]) (st := []) (by decide +kernel) k_12_295 n_MD_asks rfl (by decide) v_MD_asks (C_MD_asks 185 3 r1.2 J hR (by decide) hc2) (Nat.le_of_ble_eq_true rfl) (by decide) rfl rfl (fun _ h => h) ?_
  show m_B G (m_rm 5 0 0) M_MD_stakeTold Q 0 0 55 [some (mR (12, 0, 177)), none, none, some (mI v3), some (mI r1.1), none] [] (L, r2, J, R)
  refine b_blk (pc' := 65) (ls' := [some (mR (12, 0, 177)), none, none, some (mI v3), some (mI r1.1), none]) (st' := [mI ((r2 204 1) - (1 : Int32)), mI 0, mR (12, 0, 177)]) (S' := (L, r2, J, R)) (P := ((True ∧ R 177 36 = some (20, 4, 204)) ∧ vp_in (1 : Int32) 4)) [(.aload_n 0, (0, 0, 0, 0, 0)), (.iconst 0, (0, 0, 0, 0, 0)), (.aload_n 0, (0, 0, 0, 0, 0)), (.getfield 93, (12, 36, 3, 0, 0)), (.iconst 1, (0, 0, 0, 1, 0)), (.iaload, (0, 0, 0, 0, 0)), (.iconst 1, (0, 0, 0, 1, 0)), (.isub, (0, 0, 0, 0, 0))] [some (20, 4, 204)] (by decide +kernel) rfl ⟨⟨trivial, (r_177_36 hR)⟩, (vp_in_nI (n := 1) (N := 4) (by decide) (by decide))⟩ ?_
  obtain ⟨r3, hc3, hf⟩ := bnd_o hf
  refine b_cV (as := [mI 0, mI ((r2 204 1) - (1 : Int32))]) (st := []) (by decide +kernel) k_12_299 n_MD_number rfl (by decide) v_MD_number (C_MD_number r2 J (0 : Int32) ((r2 204 1) - (1 : Int32)) hR hc3) (Nat.le_of_ble_eq_true rfl) (by decide) rfl rfl (fun _ h => h) ?_
  show m_B G (m_rm 5 0 0) M_MD_stakeTold Q 0 0 68 [some (mR (12, 0, 177)), none, none, some (mI v3), some (mI r1.1), none] [mI r3.1] (L, r3.2, J, R)
  refine b_blk (pc' := 74) (ls' := [some (mR (12, 0, 177)), none, none, some (mI v3), some (mI r1.1), some (mI r3.1)]) (st' := [mI (r3.2 177 5)]) (S' := (L, r3.2, J, R)) (P := True) [(.istore 5, (0, 0, 0, 0, 0)), (.aload_n 0, (0, 0, 0, 0, 0)), (.getfield 234, (12, 5, 0, 0, 0))] [] (by decide +kernel) rfl trivial ?_
  refine b_if_ne (off := 19) (tgt := 93) (by decide +kernel) (by decide) (fun h4 => ?_) (fun h4 => ?_)
  · have hf := if_f h4 hf
    cases hf
    exact b_vret (by decide +kernel) rfl hk
  · have hf := if_t h4 hf
    obtain ⟨g5, hf⟩ := gd_s hf
    refine b_blk (pc' := 93) (ls' := [some (mR (12, 0, 177)), none, none, some (mI v3), some (mI r1.1), some (mI r3.1)]) (st' := []) (S' := (L, m_up r3.2 209 (((((7 : Int32) * v3) + (1 : Int32)) + r1.1).toNatClampNeg) r3.1, J, R)) (P := ((True ∧ R 177 41 = some (20, 42, 209)) ∧ vp_in ((((7 : Int32) * v3) + (1 : Int32)) + r1.1) 42)) [(.aload_n 0, (0, 0, 0, 0, 0)), (.getfield 109, (12, 41, 3, 0, 0)), (.bipush 7, (0, 0, 0, 7, 0)), (.iload_n 3, (0, 0, 0, 0, 0)), (.imul, (0, 0, 0, 0, 0)), (.iconst 1, (0, 0, 0, 1, 0)), (.iadd, (0, 0, 0, 0, 0)), (.iload 4, (0, 0, 0, 0, 0)), (.iadd, (0, 0, 0, 0, 0)), (.iload 5, (0, 0, 0, 0, 0)), (.iastore, (0, 0, 0, 0, 0))] [some (20, 42, 209)] (by decide +kernel) rfl ⟨⟨trivial, (r_177_41 hR)⟩, (in_n (n := 42) (by decide) g5.1 g5.2)⟩ ?_
    cases hf
    exact b_vret (by decide +kernel) rfl hk
noncomputable def F_MD_stakeTold (I : MI) (J : MJ) : Option (MI) :=
  (F_MD_name I).bind fun r1 => (F_MD_nameOf r1.2 J r1.1).bind fun r2 => if (r1.2 177 5) = (0 : Int32) then (if r2 = (-1 : Int32) then ((F_MD_fail r1.2 (3 : Int32) (r1.2 177 35)).bind fun r5 => F_MD_stakeTold_32 r5 r2) else (F_MD_stakeTold_32 r1.2 r2)) else (F_MD_stakeTold_32 r1.2 r2)
set_option maxRecDepth 100000 in
set_option maxHeartbeats 400000 in
theorem W_MD_stakeTold {G : MG} {Q : Option MV → MS → Prop} {L : List (Nat × Nat)} {R : Nat → Nat → Option MRef} (I : MI) (J : MJ) (hR : RF R) {r : MI} (hf : F_MD_stakeTold I J = some r) (hk : (fun r : MI => Q (none) (L, r, J, R)) r) : m_B G (m_rm 5 0 0) M_MD_stakeTold Q 0 0 0 [some (mR (12, 0, 177)), none, none, none, none, none] [] (L, I, J, R) := by
  unfold F_MD_stakeTold at hf
  refine b_blk (pc' := 1) (ls' := [some (mR (12, 0, 177)), none, none, none, none, none]) (st' := [mR (12, 0, 177)]) (S' := (L, I, J, R)) (P := True) [(.aload_n 0, (0, 0, 0, 0, 0))] [] (by decide +kernel) rfl trivial ?_
  obtain ⟨r1, hc1, hf⟩ := bnd_o hf
  refine b_cV (as := []) (st := []) (by decide +kernel) k_12_307 n_MD_name rfl (by decide) v_MD_name (C_MD_name I J hR hc1) (Nat.le_of_ble_eq_true rfl) (by decide) rfl rfl (fun _ h => h) ?_
  show m_B G (m_rm 5 0 0) M_MD_stakeTold Q 0 0 4 [some (mR (12, 0, 177)), none, none, none, none, none] [mJ r1.1] (L, r1.2, J, R)
  refine b_blk (pc' := 7) (ls' := [some (mR (12, 0, 177)), some (mJ r1.1), none, none, none, none]) (st' := [mJ r1.1, mR (12, 0, 177)]) (S' := (L, r1.2, J, R)) (P := True) [(.lstore_n 1, (0, 0, 0, 0, 0)), (.aload_n 0, (0, 0, 0, 0, 0)), (.lload_n 1, (0, 0, 0, 0, 0))] [] (by decide +kernel) rfl trivial ?_
  obtain ⟨r2, hc2, hf⟩ := bnd_o hf
  refine b_cV (as := [mJ r1.1]) (st := []) (by decide +kernel) k_12_311 n_MD_nameOf rfl (by decide) v_MD_nameOf (C_MD_nameOf r1.2 J r1.1 hR hc2) (Nat.le_of_ble_eq_true rfl) (by decide) rfl rfl (fun _ h => h) ?_
  show m_B G (m_rm 5 0 0) M_MD_stakeTold Q 0 0 10 [some (mR (12, 0, 177)), some (mJ r1.1), none, none, none, none] [mI r2] (L, r1.2, J, R)
  refine b_blk (pc' := 15) (ls' := [some (mR (12, 0, 177)), some (mJ r1.1), none, some (mI r2), none, none]) (st' := [mI (r1.2 177 5)]) (S' := (L, r1.2, J, R)) (P := True) [(.istore_n 3, (0, 0, 0, 0, 0)), (.aload_n 0, (0, 0, 0, 0, 0)), (.getfield 234, (12, 5, 0, 0, 0))] [] (by decide +kernel) rfl trivial ?_
  refine b_if_ne (off := 17) (tgt := 32) (by decide +kernel) (by decide) (fun h3 => ?_) (fun h3 => ?_)
  · have hf := if_f h3 hf
    refine b_frg 1 ?_
    exact m_B_cg rfl rfl rfl (W_MD_stakeTold_32 r1.2 J r2 hR hf hk)
  · have hf := if_t h3 hf
    refine b_blk (pc' := 20) (ls' := [some (mR (12, 0, 177)), some (mJ r1.1), none, some (mI r2), none, none]) (st' := [mI (-1), mI r2]) (S' := (L, r1.2, J, R)) (P := True) [(.iload_n 3, (0, 0, 0, 0, 0)), (.iconst (-1), (0, 0, 0, (-1), 0))] [] (by decide +kernel) rfl trivial ?_
    refine b_icmp_ne (off := 12) (tgt := 32) (by decide +kernel) (by decide) (fun h4 => ?_) (fun h4 => ?_)
    · have hf := if_f h4 hf
      refine b_frg 1 ?_
      exact m_B_cg rfl rfl rfl (W_MD_stakeTold_32 r1.2 J r2 hR hf hk)
    · have hf := if_t h4 hf
      refine b_blk (pc' := 29) (ls' := [some (mR (12, 0, 177)), some (mJ r1.1), none, some (mI r2), none, none]) (st' := [mI (r1.2 177 35), mI 3, mR (12, 0, 177)]) (S' := (L, r1.2, J, R)) (P := True) [(.aload_n 0, (0, 0, 0, 0, 0)), (.iconst 3, (0, 0, 0, 3, 0)), (.aload_n 0, (0, 0, 0, 0, 0)), (.getfield 285, (12, 35, 0, 0, 0))] [] (by decide +kernel) rfl trivial ?_
      obtain ⟨r5, hc5, hf⟩ := bnd_o hf
      refine b_cV (as := [mI 3, mI (r1.2 177 35)]) (st := []) (by decide +kernel) k_12_264 n_MD_fail rfl (by decide) v_MD_fail (C_MD_fail r1.2 J (3 : Int32) (r1.2 177 35) hR hc5) (Nat.le_of_ble_eq_true rfl) (by decide) rfl rfl (fun _ h => h) ?_
      show m_B G (m_rm 5 0 0) M_MD_stakeTold Q 0 0 32 [some (mR (12, 0, 177)), some (mJ r1.1), none, some (mI r2), none, none] [] (L, r5, J, R)
      refine b_frg 1 ?_
      exact m_B_cg rfl rfl rfl (W_MD_stakeTold_32 r5 J r2 hR hf hk)
theorem C_MD_stakeTold {G : MG} {L : List (Nat × Nat)} {R : Nat → Nat → Option MRef} (I : MI) (J : MJ) (hR : RF R) {r : MI} (hf : F_MD_stakeTold I J = some r) : m_met G 5 0 0 y_MD_stakeTold M_MD_stakeTold [mR (12, 0, 177)] (L, I, J, R) (m_is (none) (L, r, J, R)) :=
  m_met_in n_MD_stakeTold (plainFor_of_name (by decide)) (by decide) (Nat.le_of_ble_eq_true rfl) (ls := [some (mR (12, 0, 177)), none, none, none, none, none]) rfl (W_MD_stakeTold I J hR hf ⟨rfl, rfl⟩)
noncomputable def F_MD_steepTold (I : MI) : Option (MI) :=
  (F_MD_number I (0 : Int32) ((I 204 0) - (1 : Int32))).bind fun r1 => (F_MD_number r1.2 (0 : Int32) (9 : Int32)).bind fun r2 => if (r2.2 177 5) = (0 : Int32) then (gd r1.1 12 <| some (m_up r2.2 207 (r1.1.toNatClampNeg) r2.1)) else (some r2.2)
set_option maxRecDepth 100000 in
set_option maxHeartbeats 400000 in
theorem W_MD_steepTold {G : MG} {Q : Option MV → MS → Prop} {L : List (Nat × Nat)} {R : Nat → Nat → Option MRef} (I : MI) (J : MJ) (hR : RF R) {r : MI} (hf : F_MD_steepTold I = some r) (hk : (fun r : MI => Q (none) (L, r, J, R)) r) : m_B G (m_rm 3 0 0) M_MD_steepTold Q 0 0 0 [some (mR (12, 0, 177)), none, none] [] (L, I, J, R) := by
  unfold F_MD_steepTold at hf
  refine b_blk (pc' := 10) (ls' := [some (mR (12, 0, 177)), none, none]) (st' := [mI ((I 204 0) - (1 : Int32)), mI 0, mR (12, 0, 177)]) (S' := (L, I, J, R)) (P := ((True ∧ R 177 36 = some (20, 4, 204)) ∧ vp_in (0 : Int32) 4)) [(.aload_n 0, (0, 0, 0, 0, 0)), (.iconst 0, (0, 0, 0, 0, 0)), (.aload_n 0, (0, 0, 0, 0, 0)), (.getfield 93, (12, 36, 3, 0, 0)), (.iconst 0, (0, 0, 0, 0, 0)), (.iaload, (0, 0, 0, 0, 0)), (.iconst 1, (0, 0, 0, 1, 0)), (.isub, (0, 0, 0, 0, 0))] [some (20, 4, 204)] (by decide +kernel) rfl ⟨⟨trivial, (r_177_36 hR)⟩, (vp_in_nI (n := 0) (N := 4) (by decide) (by decide))⟩ ?_
  obtain ⟨r1, hc1, hf⟩ := bnd_o hf
  refine b_cV (as := [mI 0, mI ((I 204 0) - (1 : Int32))]) (st := []) (by decide +kernel) k_12_299 n_MD_number rfl (by decide) v_MD_number (C_MD_number I J (0 : Int32) ((I 204 0) - (1 : Int32)) hR hc1) (Nat.le_of_ble_eq_true rfl) (by decide) rfl rfl (fun _ h => h) ?_
  show m_B G (m_rm 3 0 0) M_MD_steepTold Q 0 0 13 [some (mR (12, 0, 177)), none, none] [mI r1.1] (L, r1.2, J, R)
  refine b_blk (pc' := 18) (ls' := [some (mR (12, 0, 177)), some (mI r1.1), none]) (st' := [mI 9, mI 0, mR (12, 0, 177)]) (S' := (L, r1.2, J, R)) (P := True) [(.istore_n 1, (0, 0, 0, 0, 0)), (.aload_n 0, (0, 0, 0, 0, 0)), (.iconst 0, (0, 0, 0, 0, 0)), (.bipush 9, (0, 0, 0, 9, 0))] [] (by decide +kernel) rfl trivial ?_
  obtain ⟨r2, hc2, hf⟩ := bnd_o hf
  refine b_cV (as := [mI 0, mI 9]) (st := []) (by decide +kernel) k_12_299 n_MD_number rfl (by decide) v_MD_number (C_MD_number r1.2 J (0 : Int32) (9 : Int32) hR hc2) (Nat.le_of_ble_eq_true rfl) (by decide) rfl rfl (fun _ h => h) ?_
  show m_B G (m_rm 3 0 0) M_MD_steepTold Q 0 0 21 [some (mR (12, 0, 177)), some (mI r1.1), none] [mI r2.1] (L, r2.2, J, R)
  refine b_blk (pc' := 26) (ls' := [some (mR (12, 0, 177)), some (mI r1.1), some (mI r2.1)]) (st' := [mI (r2.2 177 5)]) (S' := (L, r2.2, J, R)) (P := True) [(.istore_n 2, (0, 0, 0, 0, 0)), (.aload_n 0, (0, 0, 0, 0, 0)), (.getfield 234, (12, 5, 0, 0, 0))] [] (by decide +kernel) rfl trivial ?_
  refine b_if_ne (off := 10) (tgt := 36) (by decide +kernel) (by decide) (fun h3 => ?_) (fun h3 => ?_)
  · have hf := if_f h3 hf
    cases hf
    exact b_vret (by decide +kernel) rfl hk
  · have hf := if_t h3 hf
    obtain ⟨g4, hf⟩ := gd_s hf
    refine b_blk (pc' := 36) (ls' := [some (mR (12, 0, 177)), some (mI r1.1), some (mI r2.1)]) (st' := []) (S' := (L, m_up r2.2 207 (r1.1.toNatClampNeg) r2.1, J, R)) (P := ((True ∧ R 177 39 = some (20, 12, 207)) ∧ vp_in r1.1 12)) [(.aload_n 0, (0, 0, 0, 0, 0)), (.getfield 103, (12, 39, 3, 0, 0)), (.iload_n 1, (0, 0, 0, 0, 0)), (.iload_n 2, (0, 0, 0, 0, 0)), (.iastore, (0, 0, 0, 0, 0))] [some (20, 12, 207)] (by decide +kernel) rfl ⟨⟨trivial, (r_177_39 hR)⟩, (in_n (n := 12) (by decide) g4.1 g4.2)⟩ ?_
    cases hf
    exact b_vret (by decide +kernel) rfl hk
theorem C_MD_steepTold {G : MG} {L : List (Nat × Nat)} {R : Nat → Nat → Option MRef} (I : MI) (J : MJ) (hR : RF R) {r : MI} (hf : F_MD_steepTold I = some r) : m_met G 3 0 0 y_MD_steepTold M_MD_steepTold [mR (12, 0, 177)] (L, I, J, R) (m_is (none) (L, r, J, R)) :=
  m_met_in n_MD_steepTold (plainFor_of_name (by decide)) (by decide) (Nat.le_of_ble_eq_true rfl) (ls := [some (mR (12, 0, 177)), none, none]) rfl (W_MD_steepTold I J hR hf ⟨rfl, rfl⟩)
noncomputable def F_MD_statementTold_154 (I : MI) (J : MJ) : Option (MI × MJ) :=
  (F_MD_asksSign I (59 : Int32)).bind fun r1 => some (m_up r1 177 48 ((r1 177 48) + (1 : Int32)), J)
set_option maxRecDepth 100000 in
set_option maxHeartbeats 400000 in
theorem W_MD_statementTold_154 {G : MG} {Q : Option MV → MS → Prop} {L : List (Nat × Nat)} {R : Nat → Nat → Option MRef} (I : MI) (J : MJ) (hR : RF R) {r : MI × MJ} (hf : F_MD_statementTold_154 I J = some r) (hk : (fun r : MI × MJ => Q (none) (L, r.1, r.2, R)) r) : m_B G (m_rm 11 0 0) M_MD_statementTold Q 0 0 154 [some (mR (12, 0, 177)), none] [] (L, I, J, R) := by
  unfold F_MD_statementTold_154 at hf
  refine b_blk (pc' := 157) (ls' := [some (mR (12, 0, 177)), none]) (st' := [mI 59, mR (12, 0, 177)]) (S' := (L, I, J, R)) (P := True) [(.aload_n 0, (0, 0, 0, 0, 0)), (.bipush 59, (0, 0, 0, 59, 0))] [] (by decide +kernel) rfl trivial ?_
  obtain ⟨r1, hc1, hf⟩ := bnd_o hf
  refine b_cV (as := [mI 59]) (st := []) (by decide +kernel) k_12_303 n_MD_asksSign rfl (by decide) v_MD_asksSign (C_MD_asksSign I J (59 : Int32) hR hc1) (Nat.le_of_ble_eq_true rfl) (by decide) rfl rfl (fun _ h => h) ?_
  show m_B G (m_rm 11 0 0) M_MD_statementTold Q 0 0 160 [some (mR (12, 0, 177)), none] [] (L, r1, J, R)
  refine b_blk (pc' := 170) (ls' := [some (mR (12, 0, 177)), none]) (st' := []) (S' := (L, m_up r1 177 48 ((r1 177 48) + (1 : Int32)), J, R)) (P := True) [(.aload_n 0, (0, 0, 0, 0, 0)), (.dup, (0, 0, 0, 0, 0)), (.getfield 336, (12, 48, 0, 0, 0)), (.iconst 1, (0, 0, 0, 1, 0)), (.iadd, (0, 0, 0, 0, 0)), (.putfield 336, (12, 48, 0, 0, 0))] [] (by decide +kernel) rfl trivial ?_
  cases hf
  exact b_vret (by decide +kernel) rfl hk
noncomputable def F_MD_statementTold (I : MI) (J : MJ) : Option (MI × MJ) :=
  if (I 177 48) = (80 : Int32) then ((F_MD_fail I (5 : Int32) (I 177 2)).bind fun r22 => some (r22, J)) else ((F_MD_takes 182 5 I).bind fun r2 => if r2.1 = (0 : Int32) then ((F_MD_takes 183 4 r2.2).bind fun r4 => if r4.1 = (0 : Int32) then ((F_MD_takes 184 5 r4.2).bind fun r6 => if r6.1 = (0 : Int32) then ((F_MD_takes 187 5 r6.2).bind fun r8 => if r8.1 = (0 : Int32) then ((F_MD_takes 188 5 r8.2).bind fun r10 => if r10.1 = (0 : Int32) then ((F_MD_takes 189 5 r10.2).bind fun r12 => if r12.1 = (0 : Int32) then ((F_MD_asks 190 4 r12.2).bind fun r14 => (F_MD_number r14 (0 : Int32) (100 : Int32)).bind fun r15 => F_MD_statementTold_154 (m_up r15.2 177 42 r15.1) J) else ((F_MD_codesTold r12.2 (1 : Int32) (I 177 2)).bind fun r16 => F_MD_statementTold_154 r16 J)) else ((F_MD_codesTold r10.2 (0 : Int32) (I 177 2)).bind fun r17 => F_MD_statementTold_154 r17 J)) else ((F_MD_stakeTold r8.2 J).bind fun r18 => F_MD_statementTold_154 r18 J)) else ((F_MD_fenceTold r6.2 J (I 177 2)).bind fun r19 => F_MD_statementTold_154 r19.1 r19.2)) else ((F_MD_ironTold r4.2 (I 177 2)).bind fun r20 => F_MD_statementTold_154 r20 J)) else ((F_MD_steepTold r2.2).bind fun r21 => F_MD_statementTold_154 r21 J))
set_option maxRecDepth 100000 in
set_option maxHeartbeats 400000 in
theorem W_MD_statementTold {G : MG} {Q : Option MV → MS → Prop} {L : List (Nat × Nat)} {R : Nat → Nat → Option MRef} (I : MI) (J : MJ) (hR : RF R) {r : MI × MJ} (hf : F_MD_statementTold I J = some r) (hk : (fun r : MI × MJ => Q (none) (L, r.1, r.2, R)) r) : m_B G (m_rm 11 0 0) M_MD_statementTold Q 0 0 0 [some (mR (12, 0, 177)), none] [] (L, I, J, R) := by
  unfold F_MD_statementTold at hf
  refine b_blk (pc' := 11) (ls' := [some (mR (12, 0, 177)), some (mI (I 177 2))]) (st' := [mI 80, mI (I 177 48)]) (S' := (L, I, J, R)) (P := True) [(.aload_n 0, (0, 0, 0, 0, 0)), (.getfield 240, (12, 2, 0, 0, 0)), (.istore_n 1, (0, 0, 0, 0, 0)), (.aload_n 0, (0, 0, 0, 0, 0)), (.getfield 336, (12, 48, 0, 0, 0)), (.bipush 80, (0, 0, 0, 80, 0))] [] (by decide +kernel) rfl trivial ?_
  refine b_icmp_ne (off := 10) (tgt := 21) (by decide +kernel) (by decide) (fun h1 => ?_) (fun h1 => ?_)
  · have hf := if_f h1 hf
    refine b_blk (pc' := 26) (ls' := [some (mR (12, 0, 177)), some (mI (I 177 2))]) (st' := [mR (23, 5, 182), mR (12, 0, 177)]) (S' := (L, I, J, R)) (P := (True ∧ R 177 13 = some (23, 5, 182))) [(.aload_n 0, (0, 0, 0, 0, 0)), (.aload_n 0, (0, 0, 0, 0, 0)), (.getfield 27, (12, 13, 3, 0, 0))] [some (23, 5, 182)] (by decide +kernel) rfl ⟨trivial, (r_177_13 hR)⟩ ?_
    obtain ⟨r2, hc2, hf⟩ := bnd_o hf
    refine b_cV (as := [mR (23, 5, 182)]) (st := []) (by decide +kernel) k_12_261 n_MD_takes rfl (by decide) v_MD_takes (C_MD_takes 182 5 I J hR (by decide) hc2) (Nat.le_of_ble_eq_true rfl) (by decide) rfl rfl (fun _ h => h) ?_
    show m_B G (m_rm 11 0 0) M_MD_statementTold Q 0 0 29 [some (mR (12, 0, 177)), some (mI (I 177 2))] [mI r2.1] (L, r2.2, J, R)
    refine b_if_eq (off := 10) (tgt := 39) (by decide +kernel) (by decide) (fun h3 => ?_) (fun h3 => ?_)
    · have hf := if_t h3 hf
      refine b_blk (pc' := 44) (ls' := [some (mR (12, 0, 177)), some (mI (I 177 2))]) (st' := [mR (23, 4, 183), mR (12, 0, 177)]) (S' := (L, r2.2, J, R)) (P := (True ∧ R 177 14 = some (23, 4, 183))) [(.aload_n 0, (0, 0, 0, 0, 0)), (.aload_n 0, (0, 0, 0, 0, 0)), (.getfield 30, (12, 14, 3, 0, 0))] [some (23, 4, 183)] (by decide +kernel) rfl ⟨trivial, (r_177_14 hR)⟩ ?_
      obtain ⟨r4, hc4, hf⟩ := bnd_o hf
      refine b_cV (as := [mR (23, 4, 183)]) (st := []) (by decide +kernel) k_12_261 n_MD_takes rfl (by decide) v_MD_takes (C_MD_takes 183 4 r2.2 J hR (by decide) hc4) (Nat.le_of_ble_eq_true rfl) (by decide) rfl rfl (fun _ h => h) ?_
      show m_B G (m_rm 11 0 0) M_MD_statementTold Q 0 0 47 [some (mR (12, 0, 177)), some (mI (I 177 2))] [mI r4.1] (L, r4.2, J, R)
      refine b_if_eq (off := 11) (tgt := 58) (by decide +kernel) (by decide) (fun h5 => ?_) (fun h5 => ?_)
      · have hf := if_t h5 hf
        refine b_blk (pc' := 63) (ls' := [some (mR (12, 0, 177)), some (mI (I 177 2))]) (st' := [mR (23, 5, 184), mR (12, 0, 177)]) (S' := (L, r4.2, J, R)) (P := (True ∧ R 177 15 = some (23, 5, 184))) [(.aload_n 0, (0, 0, 0, 0, 0)), (.aload_n 0, (0, 0, 0, 0, 0)), (.getfield 33, (12, 15, 3, 0, 0))] [some (23, 5, 184)] (by decide +kernel) rfl ⟨trivial, (r_177_15 hR)⟩ ?_
        obtain ⟨r6, hc6, hf⟩ := bnd_o hf
        refine b_cV (as := [mR (23, 5, 184)]) (st := []) (by decide +kernel) k_12_261 n_MD_takes rfl (by decide) v_MD_takes (C_MD_takes 184 5 r4.2 J hR (by decide) hc6) (Nat.le_of_ble_eq_true rfl) (by decide) rfl rfl (fun _ h => h) ?_
        show m_B G (m_rm 11 0 0) M_MD_statementTold Q 0 0 66 [some (mR (12, 0, 177)), some (mI (I 177 2))] [mI r6.1] (L, r6.2, J, R)
        refine b_if_eq (off := 11) (tgt := 77) (by decide +kernel) (by decide) (fun h7 => ?_) (fun h7 => ?_)
        · have hf := if_t h7 hf
          refine b_blk (pc' := 82) (ls' := [some (mR (12, 0, 177)), some (mI (I 177 2))]) (st' := [mR (23, 5, 187), mR (12, 0, 177)]) (S' := (L, r6.2, J, R)) (P := (True ∧ R 177 18 = some (23, 5, 187))) [(.aload_n 0, (0, 0, 0, 0, 0)), (.aload_n 0, (0, 0, 0, 0, 0)), (.getfield 42, (12, 18, 3, 0, 0))] [some (23, 5, 187)] (by decide +kernel) rfl ⟨trivial, (r_177_18 hR)⟩ ?_
          obtain ⟨r8, hc8, hf⟩ := bnd_o hf
          refine b_cV (as := [mR (23, 5, 187)]) (st := []) (by decide +kernel) k_12_261 n_MD_takes rfl (by decide) v_MD_takes (C_MD_takes 187 5 r6.2 J hR (by decide) hc8) (Nat.le_of_ble_eq_true rfl) (by decide) rfl rfl (fun _ h => h) ?_
          show m_B G (m_rm 11 0 0) M_MD_statementTold Q 0 0 85 [some (mR (12, 0, 177)), some (mI (I 177 2))] [mI r8.1] (L, r8.2, J, R)
          refine b_if_eq (off := 10) (tgt := 95) (by decide +kernel) (by decide) (fun h9 => ?_) (fun h9 => ?_)
          · have hf := if_t h9 hf
            refine b_blk (pc' := 100) (ls' := [some (mR (12, 0, 177)), some (mI (I 177 2))]) (st' := [mR (23, 5, 188), mR (12, 0, 177)]) (S' := (L, r8.2, J, R)) (P := (True ∧ R 177 19 = some (23, 5, 188))) [(.aload_n 0, (0, 0, 0, 0, 0)), (.aload_n 0, (0, 0, 0, 0, 0)), (.getfield 45, (12, 19, 3, 0, 0))] [some (23, 5, 188)] (by decide +kernel) rfl ⟨trivial, (r_177_19 hR)⟩ ?_
            obtain ⟨r10, hc10, hf⟩ := bnd_o hf
            refine b_cV (as := [mR (23, 5, 188)]) (st := []) (by decide +kernel) k_12_261 n_MD_takes rfl (by decide) v_MD_takes (C_MD_takes 188 5 r8.2 J hR (by decide) hc10) (Nat.le_of_ble_eq_true rfl) (by decide) rfl rfl (fun _ h => h) ?_
            show m_B G (m_rm 11 0 0) M_MD_statementTold Q 0 0 103 [some (mR (12, 0, 177)), some (mI (I 177 2))] [mI r10.1] (L, r10.2, J, R)
            refine b_if_eq (off := 12) (tgt := 115) (by decide +kernel) (by decide) (fun h11 => ?_) (fun h11 => ?_)
            · have hf := if_t h11 hf
              refine b_blk (pc' := 120) (ls' := [some (mR (12, 0, 177)), some (mI (I 177 2))]) (st' := [mR (23, 5, 189), mR (12, 0, 177)]) (S' := (L, r10.2, J, R)) (P := (True ∧ R 177 20 = some (23, 5, 189))) [(.aload_n 0, (0, 0, 0, 0, 0)), (.aload_n 0, (0, 0, 0, 0, 0)), (.getfield 48, (12, 20, 3, 0, 0))] [some (23, 5, 189)] (by decide +kernel) rfl ⟨trivial, (r_177_20 hR)⟩ ?_
              obtain ⟨r12, hc12, hf⟩ := bnd_o hf
              refine b_cV (as := [mR (23, 5, 189)]) (st := []) (by decide +kernel) k_12_261 n_MD_takes rfl (by decide) v_MD_takes (C_MD_takes 189 5 r10.2 J hR (by decide) hc12) (Nat.le_of_ble_eq_true rfl) (by decide) rfl rfl (fun _ h => h) ?_
              show m_B G (m_rm 11 0 0) M_MD_statementTold Q 0 0 123 [some (mR (12, 0, 177)), some (mI (I 177 2))] [mI r12.1] (L, r12.2, J, R)
              refine b_if_eq (off := 12) (tgt := 135) (by decide +kernel) (by decide) (fun h13 => ?_) (fun h13 => ?_)
              · have hf := if_t h13 hf
                refine b_blk (pc' := 140) (ls' := [some (mR (12, 0, 177)), some (mI (I 177 2))]) (st' := [mR (23, 4, 190), mR (12, 0, 177)]) (S' := (L, r12.2, J, R)) (P := (True ∧ R 177 21 = some (23, 4, 190))) [(.aload_n 0, (0, 0, 0, 0, 0)), (.aload_n 0, (0, 0, 0, 0, 0)), (.getfield 51, (12, 21, 3, 0, 0))] [some (23, 4, 190)] (by decide +kernel) rfl ⟨trivial, (r_177_21 hR)⟩ ?_
                obtain ⟨r14, hc14, hf⟩ := bnd_o hf
                refine b_cV (as := [mR (23, 4, 190)]) (st := []) (by decide +kernel) k_12_295 n_MD_asks rfl (by decide) v_MD_asks (C_MD_asks 190 4 r12.2 J hR (by decide) hc14) (Nat.le_of_ble_eq_true rfl) (by decide) rfl rfl (fun _ h => h) ?_
                show m_B G (m_rm 11 0 0) M_MD_statementTold Q 0 0 143 [some (mR (12, 0, 177)), some (mI (I 177 2))] [] (L, r14, J, R)
                refine b_blk (pc' := 148) (ls' := [some (mR (12, 0, 177)), some (mI (I 177 2))]) (st' := [mI 100, mI 0, mR (12, 0, 177), mR (12, 0, 177)]) (S' := (L, r14, J, R)) (P := True) [(.aload_n 0, (0, 0, 0, 0, 0)), (.aload_n 0, (0, 0, 0, 0, 0)), (.iconst 0, (0, 0, 0, 0, 0)), (.bipush 100, (0, 0, 0, 100, 0))] [] (by decide +kernel) rfl trivial ?_
                obtain ⟨r15, hc15, hf⟩ := bnd_o hf
                refine b_cV (as := [mI 0, mI 100]) (st := [mR (12, 0, 177)]) (by decide +kernel) k_12_299 n_MD_number rfl (by decide) v_MD_number (C_MD_number r14 J (0 : Int32) (100 : Int32) hR hc15) (Nat.le_of_ble_eq_true rfl) (by decide) rfl rfl (fun _ h => h) ?_
                show m_B G (m_rm 11 0 0) M_MD_statementTold Q 0 0 151 [some (mR (12, 0, 177)), some (mI (I 177 2))] [mI r15.1, mR (12, 0, 177)] (L, r15.2, J, R)
                refine b_blk (pc' := 154) (ls' := [some (mR (12, 0, 177)), some (mI (I 177 2))]) (st' := []) (S' := (L, m_up r15.2 177 42 r15.1, J, R)) (P := True) [(.putfield 354, (12, 42, 0, 0, 0))] [] (by decide +kernel) rfl trivial ?_
                refine b_frg 1 ?_
                exact m_B_cg rfl rfl rfl (W_MD_statementTold_154 (m_up r15.2 177 42 r15.1) J hR hf hk)
              · have hf := if_f h13 hf
                refine b_blk (pc' := 129) (ls' := [some (mR (12, 0, 177)), some (mI (I 177 2))]) (st' := [mI (I 177 2), mI 1, mR (12, 0, 177)]) (S' := (L, r12.2, J, R)) (P := True) [(.aload_n 0, (0, 0, 0, 0, 0)), (.iconst 1, (0, 0, 0, 1, 0)), (.iload_n 1, (0, 0, 0, 0, 0))] [] (by decide +kernel) rfl trivial ?_
                obtain ⟨r16, hc16, hf⟩ := bnd_o hf
                refine b_cV (as := [mI 1, mI (I 177 2)]) (st := []) (by decide +kernel) k_12_351 n_MD_codesTold rfl (by decide) v_MD_codesTold (C_MD_codesTold r12.2 J (1 : Int32) (I 177 2) hR hc16) (Nat.le_of_ble_eq_true rfl) (by decide) rfl rfl (fun _ h => h) ?_
                show m_B G (m_rm 11 0 0) M_MD_statementTold Q 0 0 132 [some (mR (12, 0, 177)), some (mI (I 177 2))] [] (L, r16, J, R)
                refine b_blk (pc' := 154) (ls' := [some (mR (12, 0, 177)), some (mI (I 177 2))]) (st' := []) (S' := (L, r16, J, R)) (P := True) [(.goto 22, (0, 154, 0, 0, 0))] [] (by decide +kernel) rfl trivial ?_
                refine b_frg 1 ?_
                exact m_B_cg rfl rfl rfl (W_MD_statementTold_154 r16 J hR hf hk)
            · have hf := if_f h11 hf
              refine b_blk (pc' := 109) (ls' := [some (mR (12, 0, 177)), some (mI (I 177 2))]) (st' := [mI (I 177 2), mI 0, mR (12, 0, 177)]) (S' := (L, r10.2, J, R)) (P := True) [(.aload_n 0, (0, 0, 0, 0, 0)), (.iconst 0, (0, 0, 0, 0, 0)), (.iload_n 1, (0, 0, 0, 0, 0))] [] (by decide +kernel) rfl trivial ?_
              obtain ⟨r17, hc17, hf⟩ := bnd_o hf
              refine b_cV (as := [mI 0, mI (I 177 2)]) (st := []) (by decide +kernel) k_12_351 n_MD_codesTold rfl (by decide) v_MD_codesTold (C_MD_codesTold r10.2 J (0 : Int32) (I 177 2) hR hc17) (Nat.le_of_ble_eq_true rfl) (by decide) rfl rfl (fun _ h => h) ?_
              show m_B G (m_rm 11 0 0) M_MD_statementTold Q 0 0 112 [some (mR (12, 0, 177)), some (mI (I 177 2))] [] (L, r17, J, R)
              refine b_blk (pc' := 154) (ls' := [some (mR (12, 0, 177)), some (mI (I 177 2))]) (st' := []) (S' := (L, r17, J, R)) (P := True) [(.goto 42, (0, 154, 0, 0, 0))] [] (by decide +kernel) rfl trivial ?_
              refine b_frg 1 ?_
              exact m_B_cg rfl rfl rfl (W_MD_statementTold_154 r17 J hR hf hk)
          · have hf := if_f h9 hf
            refine b_blk (pc' := 89) (ls' := [some (mR (12, 0, 177)), some (mI (I 177 2))]) (st' := [mR (12, 0, 177)]) (S' := (L, r8.2, J, R)) (P := True) [(.aload_n 0, (0, 0, 0, 0, 0))] [] (by decide +kernel) rfl trivial ?_
            obtain ⟨r18, hc18, hf⟩ := bnd_o hf
            refine b_cV (as := []) (st := []) (by decide +kernel) k_12_348 n_MD_stakeTold rfl (by decide) v_MD_stakeTold (C_MD_stakeTold r8.2 J hR hc18) (Nat.le_of_ble_eq_true rfl) (by decide) rfl rfl (fun _ h => h) ?_
            show m_B G (m_rm 11 0 0) M_MD_statementTold Q 0 0 92 [some (mR (12, 0, 177)), some (mI (I 177 2))] [] (L, r18, J, R)
            refine b_blk (pc' := 154) (ls' := [some (mR (12, 0, 177)), some (mI (I 177 2))]) (st' := []) (S' := (L, r18, J, R)) (P := True) [(.goto 62, (0, 154, 0, 0, 0))] [] (by decide +kernel) rfl trivial ?_
            refine b_frg 1 ?_
            exact m_B_cg rfl rfl rfl (W_MD_statementTold_154 r18 J hR hf hk)
        · have hf := if_f h7 hf
          refine b_blk (pc' := 71) (ls' := [some (mR (12, 0, 177)), some (mI (I 177 2))]) (st' := [mI (I 177 2), mR (12, 0, 177)]) (S' := (L, r6.2, J, R)) (P := True) [(.aload_n 0, (0, 0, 0, 0, 0)), (.iload_n 1, (0, 0, 0, 0, 0))] [] (by decide +kernel) rfl trivial ?_
          obtain ⟨r19, hc19, hf⟩ := bnd_o hf
          refine b_cV (as := [mI (I 177 2)]) (st := []) (by decide +kernel) k_12_345 n_MD_fenceTold rfl (by decide) v_MD_fenceTold (C_MD_fenceTold r6.2 J (I 177 2) hR hc19) (Nat.le_of_ble_eq_true rfl) (by decide) rfl rfl (fun _ h => h) ?_
          show m_B G (m_rm 11 0 0) M_MD_statementTold Q 0 0 74 [some (mR (12, 0, 177)), some (mI (I 177 2))] [] (L, r19.1, r19.2, R)
          refine b_blk (pc' := 154) (ls' := [some (mR (12, 0, 177)), some (mI (I 177 2))]) (st' := []) (S' := (L, r19.1, r19.2, R)) (P := True) [(.goto 80, (0, 154, 0, 0, 0))] [] (by decide +kernel) rfl trivial ?_
          refine b_frg 1 ?_
          exact m_B_cg rfl rfl rfl (W_MD_statementTold_154 r19.1 r19.2 hR hf hk)
      · have hf := if_f h5 hf
        refine b_blk (pc' := 52) (ls' := [some (mR (12, 0, 177)), some (mI (I 177 2))]) (st' := [mI (I 177 2), mR (12, 0, 177)]) (S' := (L, r4.2, J, R)) (P := True) [(.aload_n 0, (0, 0, 0, 0, 0)), (.iload_n 1, (0, 0, 0, 0, 0))] [] (by decide +kernel) rfl trivial ?_
        obtain ⟨r20, hc20, hf⟩ := bnd_o hf
        refine b_cV (as := [mI (I 177 2)]) (st := []) (by decide +kernel) k_12_342 n_MD_ironTold rfl (by decide) v_MD_ironTold (C_MD_ironTold r4.2 J (I 177 2) hR hc20) (Nat.le_of_ble_eq_true rfl) (by decide) rfl rfl (fun _ h => h) ?_
        show m_B G (m_rm 11 0 0) M_MD_statementTold Q 0 0 55 [some (mR (12, 0, 177)), some (mI (I 177 2))] [] (L, r20, J, R)
        refine b_blk (pc' := 154) (ls' := [some (mR (12, 0, 177)), some (mI (I 177 2))]) (st' := []) (S' := (L, r20, J, R)) (P := True) [(.goto 99, (0, 154, 0, 0, 0))] [] (by decide +kernel) rfl trivial ?_
        refine b_frg 1 ?_
        exact m_B_cg rfl rfl rfl (W_MD_statementTold_154 r20 J hR hf hk)
    · have hf := if_f h3 hf
      refine b_blk (pc' := 33) (ls' := [some (mR (12, 0, 177)), some (mI (I 177 2))]) (st' := [mR (12, 0, 177)]) (S' := (L, r2.2, J, R)) (P := True) [(.aload_n 0, (0, 0, 0, 0, 0))] [] (by decide +kernel) rfl trivial ?_
      obtain ⟨r21, hc21, hf⟩ := bnd_o hf
      refine b_cV (as := []) (st := []) (by decide +kernel) k_12_339 n_MD_steepTold rfl (by decide) v_MD_steepTold (C_MD_steepTold r2.2 J hR hc21) (Nat.le_of_ble_eq_true rfl) (by decide) rfl rfl (fun _ h => h) ?_
      show m_B G (m_rm 11 0 0) M_MD_statementTold Q 0 0 36 [some (mR (12, 0, 177)), some (mI (I 177 2))] [] (L, r21, J, R)
      refine b_blk (pc' := 154) (ls' := [some (mR (12, 0, 177)), some (mI (I 177 2))]) (st' := []) (S' := (L, r21, J, R)) (P := True) [(.goto 118, (0, 154, 0, 0, 0))] [] (by decide +kernel) rfl trivial ?_
      refine b_frg 1 ?_
      exact m_B_cg rfl rfl rfl (W_MD_statementTold_154 r21 J hR hf hk)
  · have hf := if_t h1 hf
    refine b_blk (pc' := 17) (ls' := [some (mR (12, 0, 177)), some (mI (I 177 2))]) (st' := [mI (I 177 2), mI 5, mR (12, 0, 177)]) (S' := (L, I, J, R)) (P := True) [(.aload_n 0, (0, 0, 0, 0, 0)), (.iconst 5, (0, 0, 0, 5, 0)), (.iload_n 1, (0, 0, 0, 0, 0))] [] (by decide +kernel) rfl trivial ?_
    obtain ⟨r22, hc22, hf⟩ := bnd_o hf
    refine b_cV (as := [mI 5, mI (I 177 2)]) (st := []) (by decide +kernel) k_12_264 n_MD_fail rfl (by decide) v_MD_fail (C_MD_fail I J (5 : Int32) (I 177 2) hR hc22) (Nat.le_of_ble_eq_true rfl) (by decide) rfl rfl (fun _ h => h) ?_
    show m_B G (m_rm 11 0 0) M_MD_statementTold Q 0 0 20 [some (mR (12, 0, 177)), some (mI (I 177 2))] [] (L, r22, J, R)
    cases hf
    exact b_vret (by decide +kernel) rfl hk
theorem C_MD_statementTold {G : MG} {L : List (Nat × Nat)} {R : Nat → Nat → Option MRef} (I : MI) (J : MJ) (hR : RF R) {r : MI × MJ} (hf : F_MD_statementTold I J = some r) : m_met G 11 0 0 y_MD_statementTold M_MD_statementTold [mR (12, 0, 177)] (L, I, J, R) (m_is (none) (L, r.1, r.2, R)) :=
  m_met_in n_MD_statementTold (plainFor_of_name (by decide)) (by decide) (Nat.le_of_ble_eq_true rfl) (ls := [some (mR (12, 0, 177)), none]) rfl (W_MD_statementTold I J hR hf ⟨rfl, rfl⟩)
noncomputable def F_MD_slope_54 (I : MI) (v1 : Int32) : Option ((Int32 × MI) ⊕ (MI)) :=
  if (6 : Int32) ≤ v1 then (some (.inr I)) else (gd v1 12 <| gd v1 6 <| some (.inl ((v1 + 1 : Int32), m_up (m_up I 207 (v1.toNatClampNeg) (1 : Int32)) 208 (v1.toNatClampNeg) (0 : Int32))))
set_option maxRecDepth 100000 in
set_option maxHeartbeats 400000 in
theorem W_MD_slope_54 {G : MG} {Q : Option MV → MS → Prop} {L : List (Nat × Nat)} {R : Nat → Nat → Option MRef} (I : MI) (J : MJ) (v1 : Int32) (hR : RF R) {r : (Int32 × MI) ⊕ (MI)} (hf : F_MD_slope_54 I v1 = some r) (hk : (Sum.elim (fun s : Int32 × MI => m_B G (m_rm 12 0 0) M_MD_slope Q 0 0 54 [some (mR (12, 0, 177)), some (mI s.1)] [] (L, s.2, J, R)) (fun s : MI => m_B G (m_rm 12 0 0) M_MD_slope Q 0 0 80 [some (mR (12, 0, 177)), none] [] (L, s, J, R))) r) : m_B G (m_rm 12 0 0) M_MD_slope Q 0 0 54 [some (mR (12, 0, 177)), some (mI v1)] [] (L, I, J, R) := by
  unfold F_MD_slope_54 at hf
  refine b_blk (pc' := 57) (ls' := [some (mR (12, 0, 177)), some (mI v1)]) (st' := [mI 6, mI v1]) (S' := (L, I, J, R)) (P := True) [(.iload_n 1, (0, 0, 0, 0, 0)), (.bipush 6, (0, 0, 0, 6, 0))] [] (by decide +kernel) rfl trivial ?_
  refine b_icmp_ge (off := 23) (tgt := 80) (by decide +kernel) (by decide) (fun h1 => ?_) (fun h1 => ?_)
  · have hf := if_t h1 hf
    refine b_frg 1 ?_
    cases hf
    exact hk
  · have hf := if_f h1 hf
    obtain ⟨g2, hf⟩ := gd_s hf
    obtain ⟨g3, hf⟩ := gd_s hf
    refine b_blk (pc' := 54) (ls' := [some (mR (12, 0, 177)), some (mI (v1 + 1))]) (st' := []) (S' := (L, m_up (m_up I 207 (v1.toNatClampNeg) (1 : Int32)) 208 (v1.toNatClampNeg) (0 : Int32), J, R)) (P := ((((True ∧ R 177 39 = some (20, 12, 207)) ∧ vp_in v1 12) ∧ R 177 40 = some (20, 6, 208)) ∧ vp_in v1 6)) [(.aload_n 0, (0, 0, 0, 0, 0)), (.getfield 103, (12, 39, 3, 0, 0)), (.iload_n 1, (0, 0, 0, 0, 0)), (.iconst 1, (0, 0, 0, 1, 0)), (.iastore, (0, 0, 0, 0, 0)), (.aload_n 0, (0, 0, 0, 0, 0)), (.getfield 106, (12, 40, 3, 0, 0)), (.iload_n 1, (0, 0, 0, 0, 0)), (.iconst 0, (0, 0, 0, 0, 0)), (.iastore, (0, 0, 0, 0, 0)), (.iinc 1 1, (0, 0, 0, 1, 0)), (.goto (-23), (0, 54, 0, 0, 0))] [some (20, 12, 207), some (20, 6, 208)] (by decide +kernel) rfl ⟨⟨⟨⟨trivial, (r_177_39 hR)⟩, (in_n (n := 12) (by decide) g2.1 g2.2)⟩, (r_177_40 hR)⟩, (in_n (n := 6) (by decide) g3.1 g3.2)⟩ ?_
    cases hf
    exact hk
noncomputable def F_MD_slope_108 (I : MI) (J : MJ) : Option ((MI × MJ) ⊕ (MI × MJ)) :=
  if (I 177 5) = (0 : Int32) then ((F_MD_look I).bind fun r2 => if r2.1 = (-1 : Int32) then (some (.inr (r2.2, J))) else ((F_MD_statementTold r2.2 J).bind fun r4 => some (.inl (r4.1, r4.2)))) else (some (.inr (I, J)))
set_option maxRecDepth 100000 in
set_option maxHeartbeats 400000 in
theorem W_MD_slope_108 {G : MG} {Q : Option MV → MS → Prop} {L : List (Nat × Nat)} {R : Nat → Nat → Option MRef} (I : MI) (J : MJ) (hR : RF R) {r : (MI × MJ) ⊕ (MI × MJ)} (hf : F_MD_slope_108 I J = some r) (hk : (Sum.elim (fun s : MI × MJ => m_B G (m_rm 12 0 0) M_MD_slope Q 0 0 108 [some (mR (12, 0, 177)), none] [] (L, s.1, s.2, R)) (fun s : MI × MJ => m_B G (m_rm 12 0 0) M_MD_slope Q 0 0 130 [some (mR (12, 0, 177)), none] [] (L, s.1, s.2, R))) r) : m_B G (m_rm 12 0 0) M_MD_slope Q 0 0 108 [some (mR (12, 0, 177)), none] [] (L, I, J, R) := by
  unfold F_MD_slope_108 at hf
  refine b_blk (pc' := 112) (ls' := [some (mR (12, 0, 177)), none]) (st' := [mI (I 177 5)]) (S' := (L, I, J, R)) (P := True) [(.aload_n 0, (0, 0, 0, 0, 0)), (.getfield 234, (12, 5, 0, 0, 0))] [] (by decide +kernel) rfl trivial ?_
  refine b_if_ne (off := 18) (tgt := 130) (by decide +kernel) (by decide) (fun h1 => ?_) (fun h1 => ?_)
  · have hf := if_f h1 hf
    cases hf
    exact hk
  · have hf := if_t h1 hf
    refine b_blk (pc' := 116) (ls' := [some (mR (12, 0, 177)), none]) (st' := [mR (12, 0, 177)]) (S' := (L, I, J, R)) (P := True) [(.aload_n 0, (0, 0, 0, 0, 0))] [] (by decide +kernel) rfl trivial ?_
    obtain ⟨r2, hc2, hf⟩ := bnd_o hf
    refine b_cV (as := []) (st := []) (by decide +kernel) k_12_246 n_MD_look rfl (by decide) v_MD_look (C_MD_look I J hR hc2) (Nat.le_of_ble_eq_true rfl) (by decide) rfl rfl (fun _ h => h) ?_
    show m_B G (m_rm 12 0 0) M_MD_slope Q 0 0 119 [some (mR (12, 0, 177)), none] [mI r2.1] (L, r2.2, J, R)
    refine b_blk (pc' := 120) (ls' := [some (mR (12, 0, 177)), none]) (st' := [mI (-1), mI r2.1]) (S' := (L, r2.2, J, R)) (P := True) [(.iconst (-1), (0, 0, 0, (-1), 0))] [] (by decide +kernel) rfl trivial ?_
    refine b_icmp_eq (off := 10) (tgt := 130) (by decide +kernel) (by decide) (fun h3 => ?_) (fun h3 => ?_)
    · have hf := if_t h3 hf
      cases hf
      exact hk
    · have hf := if_f h3 hf
      refine b_blk (pc' := 124) (ls' := [some (mR (12, 0, 177)), none]) (st' := [mR (12, 0, 177)]) (S' := (L, r2.2, J, R)) (P := True) [(.aload_n 0, (0, 0, 0, 0, 0))] [] (by decide +kernel) rfl trivial ?_
      obtain ⟨r4, hc4, hf⟩ := bnd_o hf
      refine b_cV (as := []) (st := []) (by decide +kernel) k_12_360 n_MD_statementTold rfl (by decide) v_MD_statementTold (C_MD_statementTold r2.2 J hR hc4) (Nat.le_of_ble_eq_true rfl) (by decide) rfl rfl (fun _ h => h) ?_
      show m_B G (m_rm 12 0 0) M_MD_slope Q 0 0 127 [some (mR (12, 0, 177)), none] [] (L, r4.1, r4.2, R)
      refine b_blk (pc' := 108) (ls' := [some (mR (12, 0, 177)), none]) (st' := []) (S' := (L, r4.1, r4.2, R)) (P := True) [(.goto (-19), (0, 108, 0, 0, 0))] [] (by decide +kernel) rfl trivial ?_
      cases hf
      exact hk
noncomputable def F_MD_slope_130 (I : MI) (J : MJ) : Option (Int32 × MI × MJ) :=
  if (I 177 5) = (0 : Int32) then ((F_MD_stands (m_up (m_up I 177 7 (I 177 5)) 177 8 (I 177 6)) J).bind fun r2 => some ((r2.1 177 48 : Int32), r2.1, r2.2)) else (some (((-1) : Int32), m_up (m_up (m_up I 177 7 (I 177 5)) 177 8 (I 177 6)) 179 1 ((I 179 1) + (1 : Int32)), J))
set_option maxRecDepth 100000 in
set_option maxHeartbeats 400000 in
theorem W_MD_slope_130 {G : MG} {Q : Option MV → MS → Prop} {L : List (Nat × Nat)} {R : Nat → Nat → Option MRef} (I : MI) (J : MJ) (hR : RF R) {r : Int32 × MI × MJ} (hf : F_MD_slope_130 I J = some r) (hk : (fun r : Int32 × MI × MJ => Q (some (mI r.1)) (L, r.2.1, r.2.2, R)) r) : m_B G (m_rm 12 0 0) M_MD_slope Q 0 0 130 [some (mR (12, 0, 177)), none] [] (L, I, J, R) := by
  unfold F_MD_slope_130 at hf
  refine b_blk (pc' := 150) (ls' := [some (mR (12, 0, 177)), none]) (st' := [mI (I 177 5)]) (S' := (L, m_up (m_up I 177 7 (I 177 5)) 177 8 (I 177 6), J, R)) (P := True) [(.aload_n 0, (0, 0, 0, 0, 0)), (.aload_n 0, (0, 0, 0, 0, 0)), (.getfield 234, (12, 5, 0, 0, 0)), (.putfield 363, (12, 7, 0, 0, 0)), (.aload_n 0, (0, 0, 0, 0, 0)), (.aload_n 0, (0, 0, 0, 0, 0)), (.getfield 237, (12, 6, 0, 0, 0)), (.putfield 13, (12, 8, 0, 0, 0)), (.aload_n 0, (0, 0, 0, 0, 0)), (.getfield 234, (12, 5, 0, 0, 0))] [] (by decide +kernel) rfl trivial ?_
  refine b_if_eq (off := 15) (tgt := 165) (by decide +kernel) (by decide) (fun h1 => ?_) (fun h1 => ?_)
  · have hf := if_t h1 hf
    refine b_blk (pc' := 166) (ls' := [some (mR (12, 0, 177)), none]) (st' := [mR (12, 0, 177)]) (S' := (L, m_up (m_up I 177 7 (I 177 5)) 177 8 (I 177 6), J, R)) (P := True) [(.aload_n 0, (0, 0, 0, 0, 0))] [] (by decide +kernel) rfl trivial ?_
    obtain ⟨r2, hc2, hf⟩ := bnd_o hf
    refine b_cV (as := []) (st := []) (by decide +kernel) k_12_366 n_MD_stands rfl (by decide) v_MD_stands (C_MD_stands (m_up (m_up I 177 7 (I 177 5)) 177 8 (I 177 6)) J hR hc2) (Nat.le_of_ble_eq_true rfl) (by decide) rfl rfl (fun _ h => h) ?_
    show m_B G (m_rm 12 0 0) M_MD_slope Q 0 0 169 [some (mR (12, 0, 177)), none] [] (L, r2.1, r2.2, R)
    refine b_blk (pc' := 173) (ls' := [some (mR (12, 0, 177)), none]) (st' := [mI (r2.1 177 48)]) (S' := (L, r2.1, r2.2, R)) (P := True) [(.aload_n 0, (0, 0, 0, 0, 0)), (.getfield 336, (12, 48, 0, 0, 0))] [] (by decide +kernel) rfl trivial ?_
    cases hf
    exact b_iret (by decide +kernel) rfl hk
  · have hf := if_f h1 hf
    refine b_blk (pc' := 164) (ls' := [some (mR (12, 0, 177)), none]) (st' := [mI (-1)]) (S' := (L, m_up (m_up (m_up I 177 7 (I 177 5)) 177 8 (I 177 6)) 179 1 ((I 179 1) + (1 : Int32)), J, R)) (P := (((True ∧ R 177 9 = some (20, 6, 179)) ∧ vp_in (1 : Int32) 6) ∧ vp_in (1 : Int32) 6)) [(.aload_n 0, (0, 0, 0, 0, 0)), (.getfield 17, (12, 9, 3, 0, 0)), (.iconst 1, (0, 0, 0, 1, 0)), (.dup2, (0, 0, 0, 0, 0)), (.iaload, (0, 0, 0, 0, 0)), (.iconst 1, (0, 0, 0, 1, 0)), (.iadd, (0, 0, 0, 0, 0)), (.iastore, (0, 0, 0, 0, 0)), (.iconst (-1), (0, 0, 0, (-1), 0))] [some (20, 6, 179)] (by decide +kernel) rfl ⟨⟨⟨trivial, (r_177_9 hR)⟩, (vp_in_nI (n := 1) (N := 6) (by decide) (by decide))⟩, (vp_in_nI (n := 1) (N := 6) (by decide) (by decide))⟩ ?_
    cases hf
    exact b_iret (by decide +kernel) rfl hk
noncomputable def F_MD_slope (I : MI) (J : MJ) : Option (Int32 × MI × MJ) :=
  bnd (m_up (m_up (m_up (m_up (m_up (m_up (m_up I 177 3 (I 177 1)) 177 1 (0 : Int32)) 177 2 (0 : Int32)) 177 4 (-1 : Int32)) 177 5 (0 : Int32)) 177 6 (-1 : Int32)) 177 47 (0 : Int32) : MI) fun x1 => (wl (fun s : Int32 × MI => F_MD_slope_54 s.2 s.1) ((0 : Int32), m_up (m_up x1 205 0 (0 : Int32)) 205 1 (0 : Int32))).bind fun t2 => (F_MD_slopeTold (m_up (m_up (m_up t2 210 0 (-1 : Int32)) 210 1 (-1 : Int32)) 177 42 (0 : Int32))).bind fun r3 => (wl (fun s : MI × MJ => F_MD_slope_108 s.1 s.2) (m_up r3 177 48 (1 : Int32), J)).bind fun t4 => F_MD_slope_130 t4.1 t4.2
set_option maxRecDepth 100000 in
set_option maxHeartbeats 400000 in
theorem W_MD_slope {G : MG} {Q : Option MV → MS → Prop} {L : List (Nat × Nat)} {R : Nat → Nat → Option MRef} (I : MI) (J : MJ) (hR : RF R) {r : Int32 × MI × MJ} (hf : F_MD_slope I J = some r) (hk : (fun r : Int32 × MI × MJ => Q (some (mI r.1)) (L, r.2.1, r.2.2, R)) r) : m_B G (m_rm 12 0 0) M_MD_slope Q 0 0 0 [some (mR (12, 0, 177)), none] [] (L, I, J, R) := by
  unfold F_MD_slope at hf
  refine b_blk (pc' := 42) (ls' := [some (mR (12, 0, 177)), none]) (st' := [mR (20, 4, 205)]) (S' := (L, m_up (m_up (m_up (m_up (m_up (m_up (m_up I 177 3 (I 177 1)) 177 1 (0 : Int32)) 177 2 (0 : Int32)) 177 4 (-1 : Int32)) 177 5 (0 : Int32)) 177 6 (-1 : Int32)) 177 47 (0 : Int32), J, R)) (P := (True ∧ R 177 37 = some (20, 4, 205))) [(.aload_n 0, (0, 0, 0, 0, 0)), (.aload_n 0, (0, 0, 0, 0, 0)), (.getfield 231, (12, 1, 0, 0, 0)), (.putfield 243, (12, 3, 0, 0, 0)), (.aload_n 0, (0, 0, 0, 0, 0)), (.iconst 0, (0, 0, 0, 0, 0)), (.putfield 231, (12, 1, 0, 0, 0)), (.aload_n 0, (0, 0, 0, 0, 0)), (.iconst 0, (0, 0, 0, 0, 0)), (.putfield 240, (12, 2, 0, 0, 0)), (.aload_n 0, (0, 0, 0, 0, 0)), (.iconst (-1), (0, 0, 0, (-1), 0)), (.putfield 254, (12, 4, 0, 0, 0)), (.aload_n 0, (0, 0, 0, 0, 0)), (.iconst 0, (0, 0, 0, 0, 0)), (.putfield 234, (12, 5, 0, 0, 0)), (.aload_n 0, (0, 0, 0, 0, 0)), (.iconst (-1), (0, 0, 0, (-1), 0)), (.putfield 237, (12, 6, 0, 0, 0)), (.aload_n 0, (0, 0, 0, 0, 0)), (.iconst 0, (0, 0, 0, 0, 0)), (.putfield 333, (12, 47, 0, 0, 0)), (.aload_n 0, (0, 0, 0, 0, 0)), (.getfield 96, (12, 37, 3, 0, 0))] [some (20, 4, 205)] (by decide +kernel) rfl ⟨trivial, (r_177_37 hR)⟩ ?_
  obtain ⟨x1, ex1, hf⟩ := bnd_s hf
  refine m_B_cg (ls' := [some (mR (12, 0, 177)), none]) (st' := [mR (20, 4, 205)]) (S' := (L, x1, J, R)) (by first | with_reducible rfl | rw [ex1]) (by first | with_reducible rfl | rw [ex1]) (by first | with_reducible rfl | rw [ex1]) ?_
  refine b_blk (pc' := 54) (ls' := [some (mR (12, 0, 177)), some (mI 0)]) (st' := []) (S' := (L, m_up (m_up x1 205 0 (0 : Int32)) 205 1 (0 : Int32), J, R)) (P := (((True ∧ vp_in (0 : Int32) 4) ∧ R 177 37 = some (20, 4, 205)) ∧ vp_in (1 : Int32) 4)) [(.iconst 0, (0, 0, 0, 0, 0)), (.iconst 0, (0, 0, 0, 0, 0)), (.iastore, (0, 0, 0, 0, 0)), (.aload_n 0, (0, 0, 0, 0, 0)), (.getfield 96, (12, 37, 3, 0, 0)), (.iconst 1, (0, 0, 0, 1, 0)), (.iconst 0, (0, 0, 0, 0, 0)), (.iastore, (0, 0, 0, 0, 0)), (.iconst 0, (0, 0, 0, 0, 0)), (.istore_n 1, (0, 0, 0, 0, 0))] [some (20, 4, 205)] (by decide +kernel) rfl ⟨⟨⟨trivial, (vp_in_nI (n := 0) (N := 4) (by decide) (by decide))⟩, (r_177_37 hR)⟩, (vp_in_nI (n := 1) (N := 4) (by decide) (by decide))⟩ ?_
  obtain ⟨t2, hw, hf⟩ := bnd_o hf
  refine wl_B (A := fun s : Int32 × MI => m_B G (m_rm 12 0 0) M_MD_slope Q 0 0 54 [some (mR (12, 0, 177)), some (mI s.1)] [] (L, s.2, J, R)) (B := (fun s : MI => m_B G (m_rm 12 0 0) M_MD_slope Q 0 0 80 [some (mR (12, 0, 177)), none] [] (L, s, J, R))) (fun s r hs hr => W_MD_slope_54 s.2 J s.1 hR hs hr) hw ?_
  show m_B G (m_rm 12 0 0) M_MD_slope Q 0 0 80 [some (mR (12, 0, 177)), none] [] (L, t2, J, R)
  refine b_blk (pc' := 100) (ls' := [some (mR (12, 0, 177)), none]) (st' := [mR (12, 0, 177)]) (S' := (L, m_up (m_up (m_up t2 210 0 (-1 : Int32)) 210 1 (-1 : Int32)) 177 42 (0 : Int32), J, R)) (P := ((((True ∧ R 177 44 = some (20, 4, 210)) ∧ vp_in (0 : Int32) 4) ∧ R 177 44 = some (20, 4, 210)) ∧ vp_in (1 : Int32) 4)) [(.aload_n 0, (0, 0, 0, 0, 0)), (.getfield 112, (12, 44, 3, 0, 0)), (.iconst 0, (0, 0, 0, 0, 0)), (.iconst (-1), (0, 0, 0, (-1), 0)), (.iastore, (0, 0, 0, 0, 0)), (.aload_n 0, (0, 0, 0, 0, 0)), (.getfield 112, (12, 44, 3, 0, 0)), (.iconst 1, (0, 0, 0, 1, 0)), (.iconst (-1), (0, 0, 0, (-1), 0)), (.iastore, (0, 0, 0, 0, 0)), (.aload_n 0, (0, 0, 0, 0, 0)), (.iconst 0, (0, 0, 0, 0, 0)), (.putfield 354, (12, 42, 0, 0, 0)), (.aload_n 0, (0, 0, 0, 0, 0))] [some (20, 4, 210), some (20, 4, 210)] (by decide +kernel) rfl ⟨⟨⟨⟨trivial, (r_177_44 hR)⟩, (vp_in_nI (n := 0) (N := 4) (by decide) (by decide))⟩, (r_177_44 hR)⟩, (vp_in_nI (n := 1) (N := 4) (by decide) (by decide))⟩ ?_
  obtain ⟨r3, hc3, hf⟩ := bnd_o hf
  refine b_cV (as := []) (st := []) (by decide +kernel) k_12_357 n_MD_slopeTold rfl (by decide) v_MD_slopeTold (C_MD_slopeTold (m_up (m_up (m_up t2 210 0 (-1 : Int32)) 210 1 (-1 : Int32)) 177 42 (0 : Int32)) J hR hc3) (Nat.le_of_ble_eq_true rfl) (by decide) rfl rfl (fun _ h => h) ?_
  show m_B G (m_rm 12 0 0) M_MD_slope Q 0 0 103 [some (mR (12, 0, 177)), none] [] (L, r3, J, R)
  refine b_blk (pc' := 108) (ls' := [some (mR (12, 0, 177)), none]) (st' := []) (S' := (L, m_up r3 177 48 (1 : Int32), J, R)) (P := True) [(.aload_n 0, (0, 0, 0, 0, 0)), (.iconst 1, (0, 0, 0, 1, 0)), (.putfield 336, (12, 48, 0, 0, 0))] [] (by decide +kernel) rfl trivial ?_
  obtain ⟨t4, hw, hf⟩ := bnd_o hf
  refine wl_B (A := fun s : MI × MJ => m_B G (m_rm 12 0 0) M_MD_slope Q 0 0 108 [some (mR (12, 0, 177)), none] [] (L, s.1, s.2, R)) (B := (fun s : MI × MJ => m_B G (m_rm 12 0 0) M_MD_slope Q 0 0 130 [some (mR (12, 0, 177)), none] [] (L, s.1, s.2, R))) (fun s r hs hr => W_MD_slope_108 s.1 s.2 hR hs hr) hw ?_
  show m_B G (m_rm 12 0 0) M_MD_slope Q 0 0 130 [some (mR (12, 0, 177)), none] [] (L, t4.1, t4.2, R)
  exact m_B_cg rfl rfl rfl (W_MD_slope_130 t4.1 t4.2 hR hf hk)
theorem C_MD_slope {G : MG} {L : List (Nat × Nat)} {R : Nat → Nat → Option MRef} (I : MI) (J : MJ) (hR : RF R) {r : Int32 × MI × MJ} (hf : F_MD_slope I J = some r) : m_met G 12 0 0 y_MD_slope M_MD_slope [mR (12, 0, 177)] (L, I, J, R) (m_is (some (mI r.1)) (L, r.2.1, r.2.2, R)) :=
  m_met_in n_MD_slope (plainFor_of_name (by decide)) (by decide) (Nat.le_of_ble_eq_true rfl) (ls := [some (mR (12, 0, 177)), none]) rfl (W_MD_slope I J hR hf ⟨rfl, rfl⟩)
noncomputable def F_MD_fault (I : MI) (v1 : Int32) : Option (Int32) :=
  if v1 = (0 : Int32) then (some (I 177 7 : Int32)) else (if v1 = (1 : Int32) then (some (I 177 8 : Int32)) else (some ((-1) : Int32)))
set_option maxRecDepth 100000 in
set_option maxHeartbeats 400000 in
theorem W_MD_fault {G : MG} {Q : Option MV → MS → Prop} {L : List (Nat × Nat)} {R : Nat → Nat → Option MRef} (I : MI) (J : MJ) (v1 : Int32) (hR : RF R) {r : Int32} (hf : F_MD_fault I v1 = some r) (hk : (fun r : Int32 => Q (some (mI r)) (L, I, J, R)) r) : m_B G (m_rm 1 0 0) M_MD_fault Q 0 0 0 [some (mR (12, 0, 177)), some (mI v1)] [] (L, I, J, R) := by
  unfold F_MD_fault at hf
  refine b_blk (pc' := 1) (ls' := [some (mR (12, 0, 177)), some (mI v1)]) (st' := [mI v1]) (S' := (L, I, J, R)) (P := True) [(.iload_n 1, (0, 0, 0, 0, 0))] [] (by decide +kernel) rfl trivial ?_
  refine b_if_ne (off := 10) (tgt := 11) (by decide +kernel) (by decide) (fun h1 => ?_) (fun h1 => ?_)
  · have hf := if_f h1 hf
    refine b_blk (pc' := 13) (ls' := [some (mR (12, 0, 177)), some (mI v1)]) (st' := [mI 1, mI v1]) (S' := (L, I, J, R)) (P := True) [(.iload_n 1, (0, 0, 0, 0, 0)), (.iconst 1, (0, 0, 0, 1, 0))] [] (by decide +kernel) rfl trivial ?_
    refine b_icmp_ne (off := 10) (tgt := 23) (by decide +kernel) (by decide) (fun h2 => ?_) (fun h2 => ?_)
    · have hf := if_f h2 hf
      refine b_blk (pc' := 24) (ls' := [some (mR (12, 0, 177)), some (mI v1)]) (st' := [mI (-1)]) (S' := (L, I, J, R)) (P := True) [(.iconst (-1), (0, 0, 0, (-1), 0))] [] (by decide +kernel) rfl trivial ?_
      cases hf
      exact b_iret (by decide +kernel) rfl hk
    · have hf := if_t h2 hf
      refine b_blk (pc' := 24) (ls' := [some (mR (12, 0, 177)), some (mI v1)]) (st' := [mI (I 177 8)]) (S' := (L, I, J, R)) (P := True) [(.aload_n 0, (0, 0, 0, 0, 0)), (.getfield 13, (12, 8, 0, 0, 0)), (.goto 4, (0, 24, 0, 0, 0))] [] (by decide +kernel) rfl trivial ?_
      cases hf
      exact b_iret (by decide +kernel) rfl hk
  · have hf := if_t h1 hf
    refine b_blk (pc' := 24) (ls' := [some (mR (12, 0, 177)), some (mI v1)]) (st' := [mI (I 177 7)]) (S' := (L, I, J, R)) (P := True) [(.aload_n 0, (0, 0, 0, 0, 0)), (.getfield 363, (12, 7, 0, 0, 0)), (.goto 16, (0, 24, 0, 0, 0))] [] (by decide +kernel) rfl trivial ?_
    cases hf
    exact b_iret (by decide +kernel) rfl hk
theorem C_MD_fault {G : MG} {L : List (Nat × Nat)} {R : Nat → Nat → Option MRef} (I : MI) (J : MJ) (v1 : Int32) (hR : RF R) {r : Int32} (hf : F_MD_fault I v1 = some r) : m_met G 1 0 0 y_MD_fault M_MD_fault [mR (12, 0, 177), mI v1] (L, I, J, R) (m_is (some (mI r)) (L, I, J, R)) :=
  m_met_in n_MD_fault (plainFor_of_name (by decide)) (by decide) (Nat.le_of_ble_eq_true rfl) (ls := [some (mR (12, 0, 177)), some (mI v1)]) rfl (W_MD_fault I J v1 hR hf ⟨rfl, rfl⟩)
noncomputable def F_MD_bits_4 (v1 : Int32) (v2 : Int32) : Option ((Int32 × Int32) ⊕ (Int32)) :=
  if v2 = (0 : Int32) then (some (.inr (v1 : Int32))) else (some (.inl ((v1 + 1 : Int32), (v2 &&& (v2 - (1 : Int32)) : Int32))))
set_option maxRecDepth 100000 in
set_option maxHeartbeats 400000 in
theorem W_MD_bits_4 {G : MG} {Q : Option MV → MS → Prop} {L : List (Nat × Nat)} {R : Nat → Nat → Option MRef} (I : MI) (J : MJ) (v1 : Int32) (v2 : Int32) (hR : RF R) {r : (Int32 × Int32) ⊕ (Int32)} (hf : F_MD_bits_4 v1 v2 = some r) (hk : (Sum.elim (fun s : Int32 × Int32 => m_B G (m_rm 1 0 0) M_MD_bits Q 0 0 4 [none, some (mI s.1), some (mI s.2)] [] (L, I, J, R)) (fun s : Int32 => m_B G (m_rm 1 0 0) M_MD_bits Q 0 0 20 [none, some (mI s), none] [] (L, I, J, R))) r) : m_B G (m_rm 1 0 0) M_MD_bits Q 0 0 4 [none, some (mI v1), some (mI v2)] [] (L, I, J, R) := by
  unfold F_MD_bits_4 at hf
  refine b_blk (pc' := 5) (ls' := [none, some (mI v1), some (mI v2)]) (st' := [mI v2]) (S' := (L, I, J, R)) (P := True) [(.iload_n 2, (0, 0, 0, 0, 0))] [] (by decide +kernel) rfl trivial ?_
  refine b_if_eq (off := 15) (tgt := 20) (by decide +kernel) (by decide) (fun h1 => ?_) (fun h1 => ?_)
  · have hf := if_t h1 hf
    refine b_frg 2 ?_
    cases hf
    exact hk
  · have hf := if_f h1 hf
    refine b_blk (pc' := 4) (ls' := [none, some (mI (v1 + 1)), some (mI (v2 &&& (v2 - (1 : Int32))))]) (st' := []) (S' := (L, I, J, R)) (P := True) [(.iinc 1 1, (0, 0, 0, 1, 0)), (.iload_n 2, (0, 0, 0, 0, 0)), (.iload_n 2, (0, 0, 0, 0, 0)), (.iconst 1, (0, 0, 0, 1, 0)), (.isub, (0, 0, 0, 0, 0)), (.iand, (0, 0, 0, 0, 0)), (.istore_n 2, (0, 0, 0, 0, 0)), (.goto (-13), (0, 4, 0, 0, 0))] [] (by decide +kernel) rfl trivial ?_
    cases hf
    exact hk
noncomputable def F_MD_bits (v0 : Int32) : Option (Int32) :=
  (wl (fun s : Int32 × Int32 => F_MD_bits_4 s.1 s.2) ((0 : Int32), (v0 : Int32))).bind fun t1 => some (t1 : Int32)
set_option maxRecDepth 100000 in
set_option maxHeartbeats 400000 in
theorem W_MD_bits {G : MG} {Q : Option MV → MS → Prop} {L : List (Nat × Nat)} {R : Nat → Nat → Option MRef} (I : MI) (J : MJ) (v0 : Int32) (hR : RF R) {r : Int32} (hf : F_MD_bits v0 = some r) (hk : (fun r : Int32 => Q (some (mI r)) (L, I, J, R)) r) : m_B G (m_rm 1 0 0) M_MD_bits Q 0 0 0 [some (mI v0), none, none] [] (L, I, J, R) := by
  unfold F_MD_bits at hf
  refine b_blk (pc' := 4) (ls' := [some (mI v0), some (mI 0), some (mI v0)]) (st' := []) (S' := (L, I, J, R)) (P := True) [(.iconst 0, (0, 0, 0, 0, 0)), (.istore_n 1, (0, 0, 0, 0, 0)), (.iload_n 0, (0, 0, 0, 0, 0)), (.istore_n 2, (0, 0, 0, 0, 0))] [] (by decide +kernel) rfl trivial ?_
  refine b_frg 0 ?_
  obtain ⟨t1, hw, hf⟩ := bnd_o hf
  refine wl_B (A := fun s : Int32 × Int32 => m_B G (m_rm 1 0 0) M_MD_bits Q 0 0 4 [none, some (mI s.1), some (mI s.2)] [] (L, I, J, R)) (B := (fun s : Int32 => m_B G (m_rm 1 0 0) M_MD_bits Q 0 0 20 [none, some (mI s), none] [] (L, I, J, R))) (fun s r hs hr => W_MD_bits_4 I J s.1 s.2 hR hs hr) hw ?_
  show m_B G (m_rm 1 0 0) M_MD_bits Q 0 0 20 [none, some (mI t1), none] [] (L, I, J, R)
  refine b_blk (pc' := 21) (ls' := [none, some (mI t1), none]) (st' := [mI t1]) (S' := (L, I, J, R)) (P := True) [(.iload_n 1, (0, 0, 0, 0, 0))] [] (by decide +kernel) rfl trivial ?_
  cases hf
  exact b_iret (by decide +kernel) rfl hk
theorem C_MD_bits {G : MG} {L : List (Nat × Nat)} {R : Nat → Nat → Option MRef} (I : MI) (J : MJ) (v0 : Int32) (hR : RF R) {r : Int32} (hf : F_MD_bits v0 = some r) : m_met G 1 0 0 y_MD_bits M_MD_bits [mI v0] (L, I, J, R) (m_is (some (mI r)) (L, I, J, R)) :=
  m_met_in n_MD_bits (plainFor_of_name (by decide)) (by decide) (Nat.le_of_ble_eq_true rfl) (ls := [some (mI v0), none, none]) rfl (W_MD_bits I J v0 hR hf ⟨rfl, rfl⟩)
noncomputable def F_MD_fenceMany (I : MI) : Option (Int32) :=
  some (I 205 2 : Int32)
set_option maxRecDepth 100000 in
set_option maxHeartbeats 400000 in
theorem W_MD_fenceMany {G : MG} {Q : Option MV → MS → Prop} {L : List (Nat × Nat)} {R : Nat → Nat → Option MRef} (I : MI) (J : MJ) (hR : RF R) {r : Int32} (hf : F_MD_fenceMany I = some r) (hk : (fun r : Int32 => Q (some (mI r)) (L, I, J, R)) r) : m_B G (m_rm 1 0 0) M_MD_fenceMany Q 0 0 0 [some (mR (12, 0, 177))] [] (L, I, J, R) := by
  unfold F_MD_fenceMany at hf
  refine b_blk (pc' := 6) (ls' := [some (mR (12, 0, 177))]) (st' := [mI (I 205 2)]) (S' := (L, I, J, R)) (P := ((True ∧ R 177 37 = some (20, 4, 205)) ∧ vp_in (2 : Int32) 4)) [(.aload_n 0, (0, 0, 0, 0, 0)), (.getfield 96, (12, 37, 3, 0, 0)), (.iconst 2, (0, 0, 0, 2, 0)), (.iaload, (0, 0, 0, 0, 0))] [some (20, 4, 205)] (by decide +kernel) rfl ⟨⟨trivial, (r_177_37 hR)⟩, (vp_in_nI (n := 2) (N := 4) (by decide) (by decide))⟩ ?_
  cases hf
  exact b_iret (by decide +kernel) rfl hk
theorem C_MD_fenceMany {G : MG} {L : List (Nat × Nat)} {R : Nat → Nat → Option MRef} (I : MI) (J : MJ) (hR : RF R) {r : Int32} (hf : F_MD_fenceMany I = some r) : m_met G 1 0 0 y_MD_fenceMany M_MD_fenceMany [mR (12, 0, 177)] (L, I, J, R) (m_is (some (mI r)) (L, I, J, R)) :=
  m_met_in n_MD_fenceMany (plainFor_of_name (by decide)) (by decide) (Nat.le_of_ble_eq_true rfl) (ls := [some (mR (12, 0, 177))]) rfl (W_MD_fenceMany I J hR hf ⟨rfl, rfl⟩)
noncomputable def F_MD_isCut (I : MI) (v1 : Int32) : Option (Int32) :=
  gd (((7 : Int32) + ((8 : Int32) * v1)) + (1 : Int32)) 176 <| if (I 213 (((7 : Int32) + ((8 : Int32) * v1)) + (1 : Int32)).toNatClampNeg) = (1 : Int32) then (some (1 : Int32)) else (some (0 : Int32))
set_option maxRecDepth 100000 in
set_option maxHeartbeats 400000 in
theorem W_MD_isCut {G : MG} {Q : Option MV → MS → Prop} {L : List (Nat × Nat)} {R : Nat → Nat → Option MRef} (I : MI) (J : MJ) (v1 : Int32) (hR : RF R) {r : Int32} (hf : F_MD_isCut I v1 = some r) (hk : (fun r : Int32 => Q (some (mI r)) (L, I, J, R)) r) : m_B G (m_rm 1 0 0) M_MD_isCut Q 0 0 0 [some (mR (12, 0, 177)), some (mI v1)] [] (L, I, J, R) := by
  unfold F_MD_isCut at hf
  obtain ⟨g1, hf⟩ := gd_s hf
  refine b_blk (pc' := 15) (ls' := [some (mR (12, 0, 177)), some (mI v1)]) (st' := [mI 1, mI (I 213 (((7 : Int32) + ((8 : Int32) * v1)) + (1 : Int32)).toNatClampNeg)]) (S' := (L, I, J, R)) (P := ((True ∧ R 177 51 = some (20, 176, 213)) ∧ vp_in (((7 : Int32) + ((8 : Int32) * v1)) + (1 : Int32)) 176)) [(.aload_n 0, (0, 0, 0, 0, 0)), (.getfield 121, (12, 51, 3, 0, 0)), (.bipush 7, (0, 0, 0, 7, 0)), (.bipush 8, (0, 0, 0, 8, 0)), (.iload_n 1, (0, 0, 0, 0, 0)), (.imul, (0, 0, 0, 0, 0)), (.iadd, (0, 0, 0, 0, 0)), (.iconst 1, (0, 0, 0, 1, 0)), (.iadd, (0, 0, 0, 0, 0)), (.iaload, (0, 0, 0, 0, 0)), (.iconst 1, (0, 0, 0, 1, 0))] [some (20, 176, 213)] (by decide +kernel) rfl ⟨⟨trivial, (r_177_51 hR)⟩, (in_n (n := 176) (by decide) g1.1 g1.2)⟩ ?_
  refine b_icmp_ne (off := 7) (tgt := 22) (by decide +kernel) (by decide) (fun h2 => ?_) (fun h2 => ?_)
  · have hf := if_f h2 hf
    refine b_blk (pc' := 23) (ls' := [some (mR (12, 0, 177)), some (mI v1)]) (st' := [mI 0]) (S' := (L, I, J, R)) (P := True) [(.iconst 0, (0, 0, 0, 0, 0))] [] (by decide +kernel) rfl trivial ?_
    cases hf
    exact b_zret (by decide +kernel) rfl (by decide) hk
  · have hf := if_t h2 hf
    refine b_blk (pc' := 23) (ls' := [some (mR (12, 0, 177)), some (mI v1)]) (st' := [mI 1]) (S' := (L, I, J, R)) (P := True) [(.iconst 1, (0, 0, 0, 1, 0)), (.goto 4, (0, 23, 0, 0, 0))] [] (by decide +kernel) rfl trivial ?_
    cases hf
    exact b_zret (by decide +kernel) rfl (by decide) hk
theorem C_MD_isCut {G : MG} {L : List (Nat × Nat)} {R : Nat → Nat → Option MRef} (I : MI) (J : MJ) (v1 : Int32) (hR : RF R) {r : Int32} (hf : F_MD_isCut I v1 = some r) : m_met G 1 0 0 y_MD_isCut M_MD_isCut [mR (12, 0, 177), mI v1] (L, I, J, R) (m_is (some (mI r)) (L, I, J, R)) :=
  m_met_in n_MD_isCut (plainFor_of_name (by decide)) (by decide) (Nat.le_of_ble_eq_true rfl) (ls := [some (mR (12, 0, 177)), some (mI v1)]) rfl (W_MD_isCut I J v1 hR hf ⟨rfl, rfl⟩)
noncomputable def F_MD_cutSet_4 (I : MI) (v1 : Int32) (v2 : Int32) : Option ((Int32 × Int32) ⊕ (Int32)) :=
  (F_MD_fenceMany I).bind fun r1 => if r1 ≤ v2 then (some (.inr (v1 : Int32))) else ((F_MD_isCut I v2).bind fun r3 => if r3 = (0 : Int32) then (some (.inl ((v1 : Int32), (v2 + 1 : Int32)))) else (some (.inl ((v1 ||| ((1 : Int32) <<< (v2 &&& 31)) : Int32), (v2 + 1 : Int32)))))
set_option maxRecDepth 100000 in
set_option maxHeartbeats 400000 in
theorem W_MD_cutSet_4 {G : MG} {Q : Option MV → MS → Prop} {L : List (Nat × Nat)} {R : Nat → Nat → Option MRef} (I : MI) (J : MJ) (v1 : Int32) (v2 : Int32) (hR : RF R) {r : (Int32 × Int32) ⊕ (Int32)} (hf : F_MD_cutSet_4 I v1 v2 = some r) (hk : (Sum.elim (fun s : Int32 × Int32 => m_B G (m_rm 2 0 0) M_MD_cutSet Q 0 0 4 [some (mR (12, 0, 177)), some (mI s.1), some (mI s.2)] [] (L, I, J, R)) (fun s : Int32 => m_B G (m_rm 2 0 0) M_MD_cutSet Q 0 0 32 [none, some (mI s), none] [] (L, I, J, R))) r) : m_B G (m_rm 2 0 0) M_MD_cutSet Q 0 0 4 [some (mR (12, 0, 177)), some (mI v1), some (mI v2)] [] (L, I, J, R) := by
  unfold F_MD_cutSet_4 at hf
  refine b_blk (pc' := 6) (ls' := [some (mR (12, 0, 177)), some (mI v1), some (mI v2)]) (st' := [mR (12, 0, 177), mI v2]) (S' := (L, I, J, R)) (P := True) [(.iload_n 2, (0, 0, 0, 0, 0)), (.aload_n 0, (0, 0, 0, 0, 0))] [] (by decide +kernel) rfl trivial ?_
  obtain ⟨r1, hc1, hf⟩ := bnd_o hf
  refine b_cV (as := []) (st := [mI v2]) (by decide +kernel) k_12_382 n_MD_fenceMany rfl (by decide) v_MD_fenceMany (C_MD_fenceMany I J hR hc1) (Nat.le_of_ble_eq_true rfl) (by decide) rfl rfl (fun _ h => h) ?_
  show m_B G (m_rm 2 0 0) M_MD_cutSet Q 0 0 9 [some (mR (12, 0, 177)), some (mI v1), some (mI v2)] [mI r1, mI v2] (L, I, J, R)
  refine b_icmp_ge (off := 23) (tgt := 32) (by decide +kernel) (by decide) (fun h2 => ?_) (fun h2 => ?_)
  · have hf := if_t h2 hf
    refine b_frg 0 ?_
    refine b_frg 2 ?_
    cases hf
    exact hk
  · have hf := if_f h2 hf
    refine b_blk (pc' := 14) (ls' := [some (mR (12, 0, 177)), some (mI v1), some (mI v2)]) (st' := [mI v2, mR (12, 0, 177)]) (S' := (L, I, J, R)) (P := True) [(.aload_n 0, (0, 0, 0, 0, 0)), (.iload_n 2, (0, 0, 0, 0, 0))] [] (by decide +kernel) rfl trivial ?_
    obtain ⟨r3, hc3, hf⟩ := bnd_o hf
    refine b_cV (as := [mI v2]) (st := []) (by decide +kernel) k_12_443 n_MD_isCut rfl (by decide) v_MD_isCut (C_MD_isCut I J v2 hR hc3) (Nat.le_of_ble_eq_true rfl) (by decide) rfl rfl (fun _ h => h) ?_
    show m_B G (m_rm 2 0 0) M_MD_cutSet Q 0 0 17 [some (mR (12, 0, 177)), some (mI v1), some (mI v2)] [mI r3] (L, I, J, R)
    refine b_if_eq (off := 9) (tgt := 26) (by decide +kernel) (by decide) (fun h4 => ?_) (fun h4 => ?_)
    · have hf := if_t h4 hf
      refine b_blk (pc' := 4) (ls' := [some (mR (12, 0, 177)), some (mI v1), some (mI (v2 + 1))]) (st' := []) (S' := (L, I, J, R)) (P := True) [(.iinc 2 1, (0, 0, 0, 1, 0)), (.goto (-25), (0, 4, 0, 0, 0))] [] (by decide +kernel) rfl trivial ?_
      cases hf
      exact hk
    · have hf := if_f h4 hf
      refine b_blk (pc' := 4) (ls' := [some (mR (12, 0, 177)), some (mI (v1 ||| ((1 : Int32) <<< (v2 &&& 31)))), some (mI (v2 + 1))]) (st' := []) (S' := (L, I, J, R)) (P := True) [(.iload_n 1, (0, 0, 0, 0, 0)), (.iconst 1, (0, 0, 0, 1, 0)), (.iload_n 2, (0, 0, 0, 0, 0)), (.ishl, (0, 0, 0, 0, 0)), (.ior, (0, 0, 0, 0, 0)), (.istore_n 1, (0, 0, 0, 0, 0)), (.iinc 2 1, (0, 0, 0, 1, 0)), (.goto (-25), (0, 4, 0, 0, 0))] [] (by decide +kernel) rfl trivial ?_
      cases hf
      exact hk
noncomputable def F_MD_cutSet (I : MI) : Option (Int32) :=
  (wl (fun s : Int32 × Int32 => F_MD_cutSet_4 I s.1 s.2) ((0 : Int32), (0 : Int32))).bind fun t1 => some (t1 : Int32)
set_option maxRecDepth 100000 in
set_option maxHeartbeats 400000 in
theorem W_MD_cutSet {G : MG} {Q : Option MV → MS → Prop} {L : List (Nat × Nat)} {R : Nat → Nat → Option MRef} (I : MI) (J : MJ) (hR : RF R) {r : Int32} (hf : F_MD_cutSet I = some r) (hk : (fun r : Int32 => Q (some (mI r)) (L, I, J, R)) r) : m_B G (m_rm 2 0 0) M_MD_cutSet Q 0 0 0 [some (mR (12, 0, 177)), none, none] [] (L, I, J, R) := by
  unfold F_MD_cutSet at hf
  refine b_blk (pc' := 4) (ls' := [some (mR (12, 0, 177)), some (mI 0), some (mI 0)]) (st' := []) (S' := (L, I, J, R)) (P := True) [(.iconst 0, (0, 0, 0, 0, 0)), (.istore_n 1, (0, 0, 0, 0, 0)), (.iconst 0, (0, 0, 0, 0, 0)), (.istore_n 2, (0, 0, 0, 0, 0))] [] (by decide +kernel) rfl trivial ?_
  obtain ⟨t1, hw, hf⟩ := bnd_o hf
  refine wl_B (A := fun s : Int32 × Int32 => m_B G (m_rm 2 0 0) M_MD_cutSet Q 0 0 4 [some (mR (12, 0, 177)), some (mI s.1), some (mI s.2)] [] (L, I, J, R)) (B := (fun s : Int32 => m_B G (m_rm 2 0 0) M_MD_cutSet Q 0 0 32 [none, some (mI s), none] [] (L, I, J, R))) (fun s r hs hr => W_MD_cutSet_4 I J s.1 s.2 hR hs hr) hw ?_
  show m_B G (m_rm 2 0 0) M_MD_cutSet Q 0 0 32 [none, some (mI t1), none] [] (L, I, J, R)
  refine b_blk (pc' := 33) (ls' := [none, some (mI t1), none]) (st' := [mI t1]) (S' := (L, I, J, R)) (P := True) [(.iload_n 1, (0, 0, 0, 0, 0))] [] (by decide +kernel) rfl trivial ?_
  cases hf
  exact b_iret (by decide +kernel) rfl hk
theorem C_MD_cutSet {G : MG} {L : List (Nat × Nat)} {R : Nat → Nat → Option MRef} (I : MI) (J : MJ) (hR : RF R) {r : Int32} (hf : F_MD_cutSet I = some r) : m_met G 2 0 0 y_MD_cutSet M_MD_cutSet [mR (12, 0, 177)] (L, I, J, R) (m_is (some (mI r)) (L, I, J, R)) :=
  m_met_in n_MD_cutSet (plainFor_of_name (by decide)) (by decide) (Nat.le_of_ble_eq_true rfl) (ls := [some (mR (12, 0, 177)), none, none]) rfl (W_MD_cutSet I J hR hf ⟨rfl, rfl⟩)
noncomputable def F_MD_rowOf (I : MI) (v1 : Int32) (v2 : Int32) : Option (Int32) :=
  gd ((((7 : Int32) + ((8 : Int32) * v1)) + (2 : Int32)) + v2) 176 <| some (I 213 ((((7 : Int32) + ((8 : Int32) * v1)) + (2 : Int32)) + v2).toNatClampNeg : Int32)
set_option maxRecDepth 100000 in
set_option maxHeartbeats 400000 in
theorem W_MD_rowOf {G : MG} {Q : Option MV → MS → Prop} {L : List (Nat × Nat)} {R : Nat → Nat → Option MRef} (I : MI) (J : MJ) (v1 : Int32) (v2 : Int32) (hR : RF R) {r : Int32} (hf : F_MD_rowOf I v1 v2 = some r) (hk : (fun r : Int32 => Q (some (mI r)) (L, I, J, R)) r) : m_B G (m_rm 1 0 0) M_MD_rowOf Q 0 0 0 [some (mR (12, 0, 177)), some (mI v1), some (mI v2)] [] (L, I, J, R) := by
  unfold F_MD_rowOf at hf
  obtain ⟨g1, hf⟩ := gd_s hf
  refine b_blk (pc' := 16) (ls' := [some (mR (12, 0, 177)), some (mI v1), some (mI v2)]) (st' := [mI (I 213 ((((7 : Int32) + ((8 : Int32) * v1)) + (2 : Int32)) + v2).toNatClampNeg)]) (S' := (L, I, J, R)) (P := ((True ∧ R 177 51 = some (20, 176, 213)) ∧ vp_in ((((7 : Int32) + ((8 : Int32) * v1)) + (2 : Int32)) + v2) 176)) [(.aload_n 0, (0, 0, 0, 0, 0)), (.getfield 121, (12, 51, 3, 0, 0)), (.bipush 7, (0, 0, 0, 7, 0)), (.bipush 8, (0, 0, 0, 8, 0)), (.iload_n 1, (0, 0, 0, 0, 0)), (.imul, (0, 0, 0, 0, 0)), (.iadd, (0, 0, 0, 0, 0)), (.iconst 2, (0, 0, 0, 2, 0)), (.iadd, (0, 0, 0, 0, 0)), (.iload_n 2, (0, 0, 0, 0, 0)), (.iadd, (0, 0, 0, 0, 0)), (.iaload, (0, 0, 0, 0, 0))] [some (20, 176, 213)] (by decide +kernel) rfl ⟨⟨trivial, (r_177_51 hR)⟩, (in_n (n := 176) (by decide) g1.1 g1.2)⟩ ?_
  cases hf
  exact b_iret (by decide +kernel) rfl hk
theorem C_MD_rowOf {G : MG} {L : List (Nat × Nat)} {R : Nat → Nat → Option MRef} (I : MI) (J : MJ) (v1 : Int32) (v2 : Int32) (hR : RF R) {r : Int32} (hf : F_MD_rowOf I v1 v2 = some r) : m_met G 1 0 0 y_MD_rowOf M_MD_rowOf [mR (12, 0, 177), mI v1, mI v2] (L, I, J, R) (m_is (some (mI r)) (L, I, J, R)) :=
  m_met_in n_MD_rowOf (plainFor_of_name (by decide)) (by decide) (Nat.le_of_ble_eq_true rfl) (ls := [some (mR (12, 0, 177)), some (mI v1), some (mI v2)]) rfl (W_MD_rowOf I J v1 v2 hR hf ⟨rfl, rfl⟩)
noncomputable def F_MD_whoseIs_8 (I : MI) (v1 : Int32) (v2 : Int32) (v3 : Int32) (v4 : Int32) (v5 : Int32) : Option ((Int32 × Int32 × Int32) ⊕ (Int32)) :=
  (F_MD_fenceMany I).bind fun r1 => if r1 ≤ v5 then (some (.inr (v3 : Int32))) else ((F_MD_rowOf I v5 v1).bind fun r3 => if r3 = (-1 : Int32) then (some (.inl ((v3 : Int32), (v4 : Int32), (v5 + 1 : Int32)))) else (if v2 < r3 then (some (.inl ((v3 : Int32), (v4 : Int32), (v5 + 1 : Int32)))) else (if v4 < r3 then (some (.inl ((v5 : Int32), (r3 : Int32), (v5 + 1 : Int32)))) else (some (.inl ((v3 : Int32), (v4 : Int32), (v5 + 1 : Int32)))))))
set_option maxRecDepth 100000 in
set_option maxHeartbeats 400000 in
theorem W_MD_whoseIs_8 {G : MG} {Q : Option MV → MS → Prop} {L : List (Nat × Nat)} {R : Nat → Nat → Option MRef} (I : MI) (J : MJ) (v1 : Int32) (v2 : Int32) (v3 : Int32) (v4 : Int32) (v5 : Int32) (hR : RF R) {r : (Int32 × Int32 × Int32) ⊕ (Int32)} (hf : F_MD_whoseIs_8 I v1 v2 v3 v4 v5 = some r) (hk : (Sum.elim (fun s : Int32 × Int32 × Int32 => m_B G (m_rm 2 0 0) M_MD_whoseIs Q 0 0 8 [some (mR (12, 0, 177)), some (mI v1), some (mI v2), some (mI s.1), some (mI s.2.1), some (mI s.2.2), none] [] (L, I, J, R)) (fun s : Int32 => m_B G (m_rm 2 0 0) M_MD_whoseIs Q 0 0 61 [none, none, none, some (mI s), none, none, none] [] (L, I, J, R))) r) : m_B G (m_rm 2 0 0) M_MD_whoseIs Q 0 0 8 [some (mR (12, 0, 177)), some (mI v1), some (mI v2), some (mI v3), some (mI v4), some (mI v5), none] [] (L, I, J, R) := by
  unfold F_MD_whoseIs_8 at hf
  refine b_blk (pc' := 11) (ls' := [some (mR (12, 0, 177)), some (mI v1), some (mI v2), some (mI v3), some (mI v4), some (mI v5), none]) (st' := [mR (12, 0, 177), mI v5]) (S' := (L, I, J, R)) (P := True) [(.iload 5, (0, 0, 0, 0, 0)), (.aload_n 0, (0, 0, 0, 0, 0))] [] (by decide +kernel) rfl trivial ?_
  obtain ⟨r1, hc1, hf⟩ := bnd_o hf
  refine b_cV (as := []) (st := [mI v5]) (by decide +kernel) k_12_382 n_MD_fenceMany rfl (by decide) v_MD_fenceMany (C_MD_fenceMany I J hR hc1) (Nat.le_of_ble_eq_true rfl) (by decide) rfl rfl (fun _ h => h) ?_
  show m_B G (m_rm 2 0 0) M_MD_whoseIs Q 0 0 14 [some (mR (12, 0, 177)), some (mI v1), some (mI v2), some (mI v3), some (mI v4), some (mI v5), none] [mI r1, mI v5] (L, I, J, R)
  refine b_icmp_ge (off := 47) (tgt := 61) (by decide +kernel) (by decide) (fun h2 => ?_) (fun h2 => ?_)
  · have hf := if_t h2 hf
    refine b_frg 0 ?_
    refine b_frg 1 ?_
    refine b_frg 2 ?_
    refine b_frg 4 ?_
    refine b_frg 5 ?_
    cases hf
    exact hk
  · have hf := if_f h2 hf
    refine b_blk (pc' := 21) (ls' := [some (mR (12, 0, 177)), some (mI v1), some (mI v2), some (mI v3), some (mI v4), some (mI v5), none]) (st' := [mI v1, mI v5, mR (12, 0, 177)]) (S' := (L, I, J, R)) (P := True) [(.aload_n 0, (0, 0, 0, 0, 0)), (.iload 5, (0, 0, 0, 0, 0)), (.iload_n 1, (0, 0, 0, 0, 0))] [] (by decide +kernel) rfl trivial ?_
    obtain ⟨r3, hc3, hf⟩ := bnd_o hf
    refine b_cV (as := [mI v5, mI v1]) (st := []) (by decide +kernel) k_12_392 n_MD_rowOf rfl (by decide) v_MD_rowOf (C_MD_rowOf I J v5 v1 hR hc3) (Nat.le_of_ble_eq_true rfl) (by decide) rfl rfl (fun _ h => h) ?_
    show m_B G (m_rm 2 0 0) M_MD_whoseIs Q 0 0 24 [some (mR (12, 0, 177)), some (mI v1), some (mI v2), some (mI v3), some (mI v4), some (mI v5), none] [mI r3] (L, I, J, R)
    refine b_blk (pc' := 29) (ls' := [some (mR (12, 0, 177)), some (mI v1), some (mI v2), some (mI v3), some (mI v4), some (mI v5), some (mI r3)]) (st' := [mI (-1), mI r3]) (S' := (L, I, J, R)) (P := True) [(.istore 6, (0, 0, 0, 0, 0)), (.iload 6, (0, 0, 0, 0, 0)), (.iconst (-1), (0, 0, 0, (-1), 0))] [] (by decide +kernel) rfl trivial ?_
    refine b_icmp_eq (off := 26) (tgt := 55) (by decide +kernel) (by decide) (fun h4 => ?_) (fun h4 => ?_)
    · have hf := if_t h4 hf
      refine b_blk (pc' := 8) (ls' := [some (mR (12, 0, 177)), some (mI v1), some (mI v2), some (mI v3), some (mI v4), some (mI (v5 + 1)), some (mI r3)]) (st' := []) (S' := (L, I, J, R)) (P := True) [(.iinc 5 1, (0, 0, 0, 1, 0)), (.goto (-50), (0, 8, 0, 0, 0))] [] (by decide +kernel) rfl trivial ?_
      refine b_frg 6 ?_
      cases hf
      exact hk
    · have hf := if_f h4 hf
      refine b_blk (pc' := 35) (ls' := [some (mR (12, 0, 177)), some (mI v1), some (mI v2), some (mI v3), some (mI v4), some (mI v5), some (mI r3)]) (st' := [mI v2, mI r3]) (S' := (L, I, J, R)) (P := True) [(.iload 6, (0, 0, 0, 0, 0)), (.iload_n 2, (0, 0, 0, 0, 0))] [] (by decide +kernel) rfl trivial ?_
      refine b_icmp_gt (off := 20) (tgt := 55) (by decide +kernel) (by decide) (fun h5 => ?_) (fun h5 => ?_)
      · have hf := if_t h5 hf
        refine b_blk (pc' := 8) (ls' := [some (mR (12, 0, 177)), some (mI v1), some (mI v2), some (mI v3), some (mI v4), some (mI (v5 + 1)), some (mI r3)]) (st' := []) (S' := (L, I, J, R)) (P := True) [(.iinc 5 1, (0, 0, 0, 1, 0)), (.goto (-50), (0, 8, 0, 0, 0))] [] (by decide +kernel) rfl trivial ?_
        refine b_frg 6 ?_
        cases hf
        exact hk
      · have hf := if_f h5 hf
        refine b_blk (pc' := 42) (ls' := [some (mR (12, 0, 177)), some (mI v1), some (mI v2), some (mI v3), some (mI v4), some (mI v5), some (mI r3)]) (st' := [mI v4, mI r3]) (S' := (L, I, J, R)) (P := True) [(.iload 6, (0, 0, 0, 0, 0)), (.iload 4, (0, 0, 0, 0, 0))] [] (by decide +kernel) rfl trivial ?_
        refine b_icmp_gt (off := 6) (tgt := 48) (by decide +kernel) (by decide) (fun h6 => ?_) (fun h6 => ?_)
        · have hf := if_t h6 hf
          refine b_blk (pc' := 8) (ls' := [some (mR (12, 0, 177)), some (mI v1), some (mI v2), some (mI v5), some (mI r3), some (mI (v5 + 1)), some (mI r3)]) (st' := []) (S' := (L, I, J, R)) (P := True) [(.iload 6, (0, 0, 0, 0, 0)), (.istore 4, (0, 0, 0, 0, 0)), (.iload 5, (0, 0, 0, 0, 0)), (.istore_n 3, (0, 0, 0, 0, 0)), (.iinc 5 1, (0, 0, 0, 1, 0)), (.goto (-50), (0, 8, 0, 0, 0))] [] (by decide +kernel) rfl trivial ?_
          refine b_frg 6 ?_
          cases hf
          exact hk
        · have hf := if_f h6 hf
          refine b_blk (pc' := 55) (ls' := [some (mR (12, 0, 177)), some (mI v1), some (mI v2), some (mI v3), some (mI v4), some (mI v5), some (mI r3)]) (st' := []) (S' := (L, I, J, R)) (P := True) [(.goto 10, (0, 55, 0, 0, 0))] [] (by decide +kernel) rfl trivial ?_
          refine b_blk (pc' := 8) (ls' := [some (mR (12, 0, 177)), some (mI v1), some (mI v2), some (mI v3), some (mI v4), some (mI (v5 + 1)), some (mI r3)]) (st' := []) (S' := (L, I, J, R)) (P := True) [(.iinc 5 1, (0, 0, 0, 1, 0)), (.goto (-50), (0, 8, 0, 0, 0))] [] (by decide +kernel) rfl trivial ?_
          refine b_frg 6 ?_
          cases hf
          exact hk
noncomputable def F_MD_whoseIs (I : MI) (v1 : Int32) (v2 : Int32) : Option (Int32) :=
  (wl (fun s : Int32 × Int32 × Int32 => F_MD_whoseIs_8 I v1 v2 s.1 s.2.1 s.2.2) (((-1) : Int32), ((-1) : Int32), (0 : Int32))).bind fun t1 => some (t1 : Int32)
set_option maxRecDepth 100000 in
set_option maxHeartbeats 400000 in
theorem W_MD_whoseIs {G : MG} {Q : Option MV → MS → Prop} {L : List (Nat × Nat)} {R : Nat → Nat → Option MRef} (I : MI) (J : MJ) (v1 : Int32) (v2 : Int32) (hR : RF R) {r : Int32} (hf : F_MD_whoseIs I v1 v2 = some r) (hk : (fun r : Int32 => Q (some (mI r)) (L, I, J, R)) r) : m_B G (m_rm 2 0 0) M_MD_whoseIs Q 0 0 0 [some (mR (12, 0, 177)), some (mI v1), some (mI v2), none, none, none, none] [] (L, I, J, R) := by
  unfold F_MD_whoseIs at hf
  refine b_blk (pc' := 8) (ls' := [some (mR (12, 0, 177)), some (mI v1), some (mI v2), some (mI (-1)), some (mI (-1)), some (mI 0), none]) (st' := []) (S' := (L, I, J, R)) (P := True) [(.iconst (-1), (0, 0, 0, (-1), 0)), (.istore_n 3, (0, 0, 0, 0, 0)), (.iconst (-1), (0, 0, 0, (-1), 0)), (.istore 4, (0, 0, 0, 0, 0)), (.iconst 0, (0, 0, 0, 0, 0)), (.istore 5, (0, 0, 0, 0, 0))] [] (by decide +kernel) rfl trivial ?_
  obtain ⟨t1, hw, hf⟩ := bnd_o hf
  refine wl_B (A := fun s : Int32 × Int32 × Int32 => m_B G (m_rm 2 0 0) M_MD_whoseIs Q 0 0 8 [some (mR (12, 0, 177)), some (mI v1), some (mI v2), some (mI s.1), some (mI s.2.1), some (mI s.2.2), none] [] (L, I, J, R)) (B := (fun s : Int32 => m_B G (m_rm 2 0 0) M_MD_whoseIs Q 0 0 61 [none, none, none, some (mI s), none, none, none] [] (L, I, J, R))) (fun s r hs hr => W_MD_whoseIs_8 I J v1 v2 s.1 s.2.1 s.2.2 hR hs hr) hw ?_
  show m_B G (m_rm 2 0 0) M_MD_whoseIs Q 0 0 61 [none, none, none, some (mI t1), none, none, none] [] (L, I, J, R)
  refine b_blk (pc' := 62) (ls' := [none, none, none, some (mI t1), none, none, none]) (st' := [mI t1]) (S' := (L, I, J, R)) (P := True) [(.iload_n 3, (0, 0, 0, 0, 0))] [] (by decide +kernel) rfl trivial ?_
  cases hf
  exact b_iret (by decide +kernel) rfl hk
theorem C_MD_whoseIs {G : MG} {L : List (Nat × Nat)} {R : Nat → Nat → Option MRef} (I : MI) (J : MJ) (v1 : Int32) (v2 : Int32) (hR : RF R) {r : Int32} (hf : F_MD_whoseIs I v1 v2 = some r) : m_met G 2 0 0 y_MD_whoseIs M_MD_whoseIs [mR (12, 0, 177), mI v1, mI v2] (L, I, J, R) (m_is (some (mI r)) (L, I, J, R)) :=
  m_met_in n_MD_whoseIs (plainFor_of_name (by decide)) (by decide) (Nat.le_of_ble_eq_true rfl) (ls := [some (mR (12, 0, 177)), some (mI v1), some (mI v2), none, none, none, none]) rfl (W_MD_whoseIs I J v1 v2 hR hf ⟨rfl, rfl⟩)
noncomputable def F_MD_fieldOf_17 (I : MI) (v1 : Int32) (v2 : Int32) (v3 : Int32) (v4 : Int32) : Option ((Int32 × Int32) ⊕ (Int32)) :=
  if (I 204 3) ≤ v4 then (some (.inr (v2 : Int32))) else ((F_MD_whoseIs I v3 v4).bind fun r2 => if r2 = v1 then (some (.inl ((v2 + 1 : Int32), (v4 + 1 : Int32)))) else (some (.inl ((v2 : Int32), (v4 + 1 : Int32)))))
set_option maxRecDepth 100000 in
set_option maxHeartbeats 400000 in
theorem W_MD_fieldOf_17 {G : MG} {Q : Option MV → MS → Prop} {L : List (Nat × Nat)} {R : Nat → Nat → Option MRef} (I : MI) (J : MJ) (v1 : Int32) (v2 : Int32) (v3 : Int32) (v4 : Int32) (hR : RF R) {r : (Int32 × Int32) ⊕ (Int32)} (hf : F_MD_fieldOf_17 I v1 v2 v3 v4 = some r) (hk : (Sum.elim (fun s : Int32 × Int32 => m_B G (m_rm 3 0 0) M_MD_fieldOf Q 0 0 17 [some (mR (12, 0, 177)), some (mI v1), some (mI s.1), some (mI v3), some (mI s.2)] [] (L, I, J, R)) (fun s : Int32 => m_B G (m_rm 3 0 0) M_MD_fieldOf Q 0 0 48 [some (mR (12, 0, 177)), some (mI v1), some (mI s), some (mI v3), none] [] (L, I, J, R))) r) : m_B G (m_rm 3 0 0) M_MD_fieldOf Q 0 0 17 [some (mR (12, 0, 177)), some (mI v1), some (mI v2), some (mI v3), some (mI v4)] [] (L, I, J, R) := by
  unfold F_MD_fieldOf_17 at hf
  refine b_blk (pc' := 25) (ls' := [some (mR (12, 0, 177)), some (mI v1), some (mI v2), some (mI v3), some (mI v4)]) (st' := [mI (I 204 3), mI v4]) (S' := (L, I, J, R)) (P := ((True ∧ R 177 36 = some (20, 4, 204)) ∧ vp_in (3 : Int32) 4)) [(.iload 4, (0, 0, 0, 0, 0)), (.aload_n 0, (0, 0, 0, 0, 0)), (.getfield 93, (12, 36, 3, 0, 0)), (.iconst 3, (0, 0, 0, 3, 0)), (.iaload, (0, 0, 0, 0, 0))] [some (20, 4, 204)] (by decide +kernel) rfl ⟨⟨trivial, (r_177_36 hR)⟩, (vp_in_nI (n := 3) (N := 4) (by decide) (by decide))⟩ ?_
  refine b_icmp_ge (off := 23) (tgt := 48) (by decide +kernel) (by decide) (fun h1 => ?_) (fun h1 => ?_)
  · have hf := if_t h1 hf
    refine b_frg 4 ?_
    cases hf
    exact hk
  · have hf := if_f h1 hf
    refine b_blk (pc' := 32) (ls' := [some (mR (12, 0, 177)), some (mI v1), some (mI v2), some (mI v3), some (mI v4)]) (st' := [mI v4, mI v3, mR (12, 0, 177)]) (S' := (L, I, J, R)) (P := True) [(.aload_n 0, (0, 0, 0, 0, 0)), (.iload_n 3, (0, 0, 0, 0, 0)), (.iload 4, (0, 0, 0, 0, 0))] [] (by decide +kernel) rfl trivial ?_
    obtain ⟨r2, hc2, hf⟩ := bnd_o hf
    refine b_cV (as := [mI v3, mI v4]) (st := []) (by decide +kernel) k_12_395 n_MD_whoseIs rfl (by decide) v_MD_whoseIs (C_MD_whoseIs I J v3 v4 hR hc2) (Nat.le_of_ble_eq_true rfl) (by decide) rfl rfl (fun _ h => h) ?_
    show m_B G (m_rm 3 0 0) M_MD_fieldOf Q 0 0 35 [some (mR (12, 0, 177)), some (mI v1), some (mI v2), some (mI v3), some (mI v4)] [mI r2] (L, I, J, R)
    refine b_blk (pc' := 36) (ls' := [some (mR (12, 0, 177)), some (mI v1), some (mI v2), some (mI v3), some (mI v4)]) (st' := [mI v1, mI r2]) (S' := (L, I, J, R)) (P := True) [(.iload_n 1, (0, 0, 0, 0, 0))] [] (by decide +kernel) rfl trivial ?_
    refine b_icmp_ne (off := 6) (tgt := 42) (by decide +kernel) (by decide) (fun h3 => ?_) (fun h3 => ?_)
    · have hf := if_f h3 hf
      refine b_blk (pc' := 17) (ls' := [some (mR (12, 0, 177)), some (mI v1), some (mI v2), some (mI v3), some (mI (v4 + 1))]) (st' := []) (S' := (L, I, J, R)) (P := True) [(.iinc 4 1, (0, 0, 0, 1, 0)), (.goto (-28), (0, 17, 0, 0, 0))] [] (by decide +kernel) rfl trivial ?_
      cases hf
      exact hk
    · have hf := if_t h3 hf
      refine b_blk (pc' := 17) (ls' := [some (mR (12, 0, 177)), some (mI v1), some (mI (v2 + 1)), some (mI v3), some (mI (v4 + 1))]) (st' := []) (S' := (L, I, J, R)) (P := True) [(.iinc 2 1, (0, 0, 0, 1, 0)), (.iinc 4 1, (0, 0, 0, 1, 0)), (.goto (-28), (0, 17, 0, 0, 0))] [] (by decide +kernel) rfl trivial ?_
      cases hf
      exact hk
noncomputable def F_MD_fieldOf_4 (I : MI) (v1 : Int32) (v2 : Int32) (v3 : Int32) : Option ((Int32 × Int32) ⊕ (Int32)) :=
  if (I 204 2) ≤ v3 then (some (.inr (v2 : Int32))) else ((wl (fun s : Int32 × Int32 => F_MD_fieldOf_17 I v1 s.1 v3 s.2) ((v2 : Int32), (0 : Int32))).bind fun t2 => some (.inl ((t2 : Int32), (v3 + 1 : Int32))))
set_option maxRecDepth 100000 in
set_option maxHeartbeats 400000 in
theorem W_MD_fieldOf_4 {G : MG} {Q : Option MV → MS → Prop} {L : List (Nat × Nat)} {R : Nat → Nat → Option MRef} (I : MI) (J : MJ) (v1 : Int32) (v2 : Int32) (v3 : Int32) (hR : RF R) {r : (Int32 × Int32) ⊕ (Int32)} (hf : F_MD_fieldOf_4 I v1 v2 v3 = some r) (hk : (Sum.elim (fun s : Int32 × Int32 => m_B G (m_rm 3 0 0) M_MD_fieldOf Q 0 0 4 [some (mR (12, 0, 177)), some (mI v1), some (mI s.1), some (mI s.2), none] [] (L, I, J, R)) (fun s : Int32 => m_B G (m_rm 3 0 0) M_MD_fieldOf Q 0 0 54 [none, none, some (mI s), none, none] [] (L, I, J, R))) r) : m_B G (m_rm 3 0 0) M_MD_fieldOf Q 0 0 4 [some (mR (12, 0, 177)), some (mI v1), some (mI v2), some (mI v3), none] [] (L, I, J, R) := by
  unfold F_MD_fieldOf_4 at hf
  refine b_blk (pc' := 11) (ls' := [some (mR (12, 0, 177)), some (mI v1), some (mI v2), some (mI v3), none]) (st' := [mI (I 204 2), mI v3]) (S' := (L, I, J, R)) (P := ((True ∧ R 177 36 = some (20, 4, 204)) ∧ vp_in (2 : Int32) 4)) [(.iload_n 3, (0, 0, 0, 0, 0)), (.aload_n 0, (0, 0, 0, 0, 0)), (.getfield 93, (12, 36, 3, 0, 0)), (.iconst 2, (0, 0, 0, 2, 0)), (.iaload, (0, 0, 0, 0, 0))] [some (20, 4, 204)] (by decide +kernel) rfl ⟨⟨trivial, (r_177_36 hR)⟩, (vp_in_nI (n := 2) (N := 4) (by decide) (by decide))⟩ ?_
  refine b_icmp_ge (off := 43) (tgt := 54) (by decide +kernel) (by decide) (fun h1 => ?_) (fun h1 => ?_)
  · have hf := if_t h1 hf
    refine b_frg 0 ?_
    refine b_frg 1 ?_
    refine b_frg 3 ?_
    cases hf
    exact hk
  · have hf := if_f h1 hf
    refine b_blk (pc' := 17) (ls' := [some (mR (12, 0, 177)), some (mI v1), some (mI v2), some (mI v3), some (mI 0)]) (st' := []) (S' := (L, I, J, R)) (P := True) [(.iconst 0, (0, 0, 0, 0, 0)), (.istore 4, (0, 0, 0, 0, 0))] [] (by decide +kernel) rfl trivial ?_
    obtain ⟨t2, hw, hf⟩ := bnd_o hf
    refine wl_B (A := fun s : Int32 × Int32 => m_B G (m_rm 3 0 0) M_MD_fieldOf Q 0 0 17 [some (mR (12, 0, 177)), some (mI v1), some (mI s.1), some (mI v3), some (mI s.2)] [] (L, I, J, R)) (B := (fun s : Int32 => m_B G (m_rm 3 0 0) M_MD_fieldOf Q 0 0 48 [some (mR (12, 0, 177)), some (mI v1), some (mI s), some (mI v3), none] [] (L, I, J, R))) (fun s r hs hr => W_MD_fieldOf_17 I J v1 s.1 v3 s.2 hR hs hr) hw ?_
    show m_B G (m_rm 3 0 0) M_MD_fieldOf Q 0 0 48 [some (mR (12, 0, 177)), some (mI v1), some (mI t2), some (mI v3), none] [] (L, I, J, R)
    refine b_blk (pc' := 4) (ls' := [some (mR (12, 0, 177)), some (mI v1), some (mI t2), some (mI (v3 + 1)), none]) (st' := []) (S' := (L, I, J, R)) (P := True) [(.iinc 3 1, (0, 0, 0, 1, 0)), (.goto (-47), (0, 4, 0, 0, 0))] [] (by decide +kernel) rfl trivial ?_
    cases hf
    exact hk
noncomputable def F_MD_fieldOf (I : MI) (v1 : Int32) : Option (Int32) :=
  (wl (fun s : Int32 × Int32 => F_MD_fieldOf_4 I v1 s.1 s.2) ((0 : Int32), (0 : Int32))).bind fun t1 => some (t1 : Int32)
set_option maxRecDepth 100000 in
set_option maxHeartbeats 400000 in
theorem W_MD_fieldOf {G : MG} {Q : Option MV → MS → Prop} {L : List (Nat × Nat)} {R : Nat → Nat → Option MRef} (I : MI) (J : MJ) (v1 : Int32) (hR : RF R) {r : Int32} (hf : F_MD_fieldOf I v1 = some r) (hk : (fun r : Int32 => Q (some (mI r)) (L, I, J, R)) r) : m_B G (m_rm 3 0 0) M_MD_fieldOf Q 0 0 0 [some (mR (12, 0, 177)), some (mI v1), none, none, none] [] (L, I, J, R) := by
  unfold F_MD_fieldOf at hf
  refine b_blk (pc' := 4) (ls' := [some (mR (12, 0, 177)), some (mI v1), some (mI 0), some (mI 0), none]) (st' := []) (S' := (L, I, J, R)) (P := True) [(.iconst 0, (0, 0, 0, 0, 0)), (.istore_n 2, (0, 0, 0, 0, 0)), (.iconst 0, (0, 0, 0, 0, 0)), (.istore_n 3, (0, 0, 0, 0, 0))] [] (by decide +kernel) rfl trivial ?_
  obtain ⟨t1, hw, hf⟩ := bnd_o hf
  refine wl_B (A := fun s : Int32 × Int32 => m_B G (m_rm 3 0 0) M_MD_fieldOf Q 0 0 4 [some (mR (12, 0, 177)), some (mI v1), some (mI s.1), some (mI s.2), none] [] (L, I, J, R)) (B := (fun s : Int32 => m_B G (m_rm 3 0 0) M_MD_fieldOf Q 0 0 54 [none, none, some (mI s), none, none] [] (L, I, J, R))) (fun s r hs hr => W_MD_fieldOf_4 I J v1 s.1 s.2 hR hs hr) hw ?_
  show m_B G (m_rm 3 0 0) M_MD_fieldOf Q 0 0 54 [none, none, some (mI t1), none, none] [] (L, I, J, R)
  refine b_blk (pc' := 55) (ls' := [none, none, some (mI t1), none, none]) (st' := [mI t1]) (S' := (L, I, J, R)) (P := True) [(.iload_n 2, (0, 0, 0, 0, 0))] [] (by decide +kernel) rfl trivial ?_
  cases hf
  exact b_iret (by decide +kernel) rfl hk
theorem C_MD_fieldOf {G : MG} {L : List (Nat × Nat)} {R : Nat → Nat → Option MRef} (I : MI) (J : MJ) (v1 : Int32) (hR : RF R) {r : Int32} (hf : F_MD_fieldOf I v1 = some r) : m_met G 3 0 0 y_MD_fieldOf M_MD_fieldOf [mR (12, 0, 177), mI v1] (L, I, J, R) (m_is (some (mI r)) (L, I, J, R)) :=
  m_met_in n_MD_fieldOf (plainFor_of_name (by decide)) (by decide) (Nat.le_of_ble_eq_true rfl) (ls := [some (mR (12, 0, 177)), some (mI v1), none, none, none]) rfl (W_MD_fieldOf I J v1 hR hf ⟨rfl, rfl⟩)
noncomputable def F_MD_leftOf_4 (I : MI) (v1 : Int32) (v2 : Int32) (v3 : Int32) : Option ((Int32 × Int32) ⊕ (Int32)) :=
  if (I 204 2) ≤ v3 then (some (.inr (v2 : Int32))) else ((F_MD_rowOf I v1 v3).bind fun r2 => if r2 = (-1 : Int32) then (some (.inl ((v2 : Int32), (v3 + 1 : Int32)))) else (some (.inl ((v2 + 1 : Int32), (v3 + 1 : Int32)))))
set_option maxRecDepth 100000 in
set_option maxHeartbeats 400000 in
theorem W_MD_leftOf_4 {G : MG} {Q : Option MV → MS → Prop} {L : List (Nat × Nat)} {R : Nat → Nat → Option MRef} (I : MI) (J : MJ) (v1 : Int32) (v2 : Int32) (v3 : Int32) (hR : RF R) {r : (Int32 × Int32) ⊕ (Int32)} (hf : F_MD_leftOf_4 I v1 v2 v3 = some r) (hk : (Sum.elim (fun s : Int32 × Int32 => m_B G (m_rm 2 0 0) M_MD_leftOf Q 0 0 4 [some (mR (12, 0, 177)), some (mI v1), some (mI s.1), some (mI s.2)] [] (L, I, J, R)) (fun s : Int32 => m_B G (m_rm 2 0 0) M_MD_leftOf Q 0 0 33 [none, none, some (mI s), none] [] (L, I, J, R))) r) : m_B G (m_rm 2 0 0) M_MD_leftOf Q 0 0 4 [some (mR (12, 0, 177)), some (mI v1), some (mI v2), some (mI v3)] [] (L, I, J, R) := by
  unfold F_MD_leftOf_4 at hf
  refine b_blk (pc' := 11) (ls' := [some (mR (12, 0, 177)), some (mI v1), some (mI v2), some (mI v3)]) (st' := [mI (I 204 2), mI v3]) (S' := (L, I, J, R)) (P := ((True ∧ R 177 36 = some (20, 4, 204)) ∧ vp_in (2 : Int32) 4)) [(.iload_n 3, (0, 0, 0, 0, 0)), (.aload_n 0, (0, 0, 0, 0, 0)), (.getfield 93, (12, 36, 3, 0, 0)), (.iconst 2, (0, 0, 0, 2, 0)), (.iaload, (0, 0, 0, 0, 0))] [some (20, 4, 204)] (by decide +kernel) rfl ⟨⟨trivial, (r_177_36 hR)⟩, (vp_in_nI (n := 2) (N := 4) (by decide) (by decide))⟩ ?_
  refine b_icmp_ge (off := 22) (tgt := 33) (by decide +kernel) (by decide) (fun h1 => ?_) (fun h1 => ?_)
  · have hf := if_t h1 hf
    refine b_frg 0 ?_
    refine b_frg 1 ?_
    refine b_frg 3 ?_
    cases hf
    exact hk
  · have hf := if_f h1 hf
    refine b_blk (pc' := 17) (ls' := [some (mR (12, 0, 177)), some (mI v1), some (mI v2), some (mI v3)]) (st' := [mI v3, mI v1, mR (12, 0, 177)]) (S' := (L, I, J, R)) (P := True) [(.aload_n 0, (0, 0, 0, 0, 0)), (.iload_n 1, (0, 0, 0, 0, 0)), (.iload_n 3, (0, 0, 0, 0, 0))] [] (by decide +kernel) rfl trivial ?_
    obtain ⟨r2, hc2, hf⟩ := bnd_o hf
    refine b_cV (as := [mI v1, mI v3]) (st := []) (by decide +kernel) k_12_392 n_MD_rowOf rfl (by decide) v_MD_rowOf (C_MD_rowOf I J v1 v3 hR hc2) (Nat.le_of_ble_eq_true rfl) (by decide) rfl rfl (fun _ h => h) ?_
    show m_B G (m_rm 2 0 0) M_MD_leftOf Q 0 0 20 [some (mR (12, 0, 177)), some (mI v1), some (mI v2), some (mI v3)] [mI r2] (L, I, J, R)
    refine b_blk (pc' := 21) (ls' := [some (mR (12, 0, 177)), some (mI v1), some (mI v2), some (mI v3)]) (st' := [mI (-1), mI r2]) (S' := (L, I, J, R)) (P := True) [(.iconst (-1), (0, 0, 0, (-1), 0))] [] (by decide +kernel) rfl trivial ?_
    refine b_icmp_eq (off := 6) (tgt := 27) (by decide +kernel) (by decide) (fun h3 => ?_) (fun h3 => ?_)
    · have hf := if_t h3 hf
      refine b_blk (pc' := 4) (ls' := [some (mR (12, 0, 177)), some (mI v1), some (mI v2), some (mI (v3 + 1))]) (st' := []) (S' := (L, I, J, R)) (P := True) [(.iinc 3 1, (0, 0, 0, 1, 0)), (.goto (-26), (0, 4, 0, 0, 0))] [] (by decide +kernel) rfl trivial ?_
      cases hf
      exact hk
    · have hf := if_f h3 hf
      refine b_blk (pc' := 4) (ls' := [some (mR (12, 0, 177)), some (mI v1), some (mI (v2 + 1)), some (mI (v3 + 1))]) (st' := []) (S' := (L, I, J, R)) (P := True) [(.iinc 2 1, (0, 0, 0, 1, 0)), (.iinc 3 1, (0, 0, 0, 1, 0)), (.goto (-26), (0, 4, 0, 0, 0))] [] (by decide +kernel) rfl trivial ?_
      cases hf
      exact hk
noncomputable def F_MD_leftOf (I : MI) (v1 : Int32) : Option (Int32) :=
  (wl (fun s : Int32 × Int32 => F_MD_leftOf_4 I v1 s.1 s.2) ((0 : Int32), (0 : Int32))).bind fun t1 => some (t1 : Int32)
set_option maxRecDepth 100000 in
set_option maxHeartbeats 400000 in
theorem W_MD_leftOf {G : MG} {Q : Option MV → MS → Prop} {L : List (Nat × Nat)} {R : Nat → Nat → Option MRef} (I : MI) (J : MJ) (v1 : Int32) (hR : RF R) {r : Int32} (hf : F_MD_leftOf I v1 = some r) (hk : (fun r : Int32 => Q (some (mI r)) (L, I, J, R)) r) : m_B G (m_rm 2 0 0) M_MD_leftOf Q 0 0 0 [some (mR (12, 0, 177)), some (mI v1), none, none] [] (L, I, J, R) := by
  unfold F_MD_leftOf at hf
  refine b_blk (pc' := 4) (ls' := [some (mR (12, 0, 177)), some (mI v1), some (mI 0), some (mI 0)]) (st' := []) (S' := (L, I, J, R)) (P := True) [(.iconst 0, (0, 0, 0, 0, 0)), (.istore_n 2, (0, 0, 0, 0, 0)), (.iconst 0, (0, 0, 0, 0, 0)), (.istore_n 3, (0, 0, 0, 0, 0))] [] (by decide +kernel) rfl trivial ?_
  obtain ⟨t1, hw, hf⟩ := bnd_o hf
  refine wl_B (A := fun s : Int32 × Int32 => m_B G (m_rm 2 0 0) M_MD_leftOf Q 0 0 4 [some (mR (12, 0, 177)), some (mI v1), some (mI s.1), some (mI s.2)] [] (L, I, J, R)) (B := (fun s : Int32 => m_B G (m_rm 2 0 0) M_MD_leftOf Q 0 0 33 [none, none, some (mI s), none] [] (L, I, J, R))) (fun s r hs hr => W_MD_leftOf_4 I J v1 s.1 s.2 hR hs hr) hw ?_
  show m_B G (m_rm 2 0 0) M_MD_leftOf Q 0 0 33 [none, none, some (mI t1), none] [] (L, I, J, R)
  refine b_blk (pc' := 34) (ls' := [none, none, some (mI t1), none]) (st' := [mI t1]) (S' := (L, I, J, R)) (P := True) [(.iload_n 2, (0, 0, 0, 0, 0))] [] (by decide +kernel) rfl trivial ?_
  cases hf
  exact b_iret (by decide +kernel) rfl hk
theorem C_MD_leftOf {G : MG} {L : List (Nat × Nat)} {R : Nat → Nat → Option MRef} (I : MI) (J : MJ) (v1 : Int32) (hR : RF R) {r : Int32} (hf : F_MD_leftOf I v1 = some r) : m_met G 2 0 0 y_MD_leftOf M_MD_leftOf [mR (12, 0, 177), mI v1] (L, I, J, R) (m_is (some (mI r)) (L, I, J, R)) :=
  m_met_in n_MD_leftOf (plainFor_of_name (by decide)) (by decide) (Nat.le_of_ble_eq_true rfl) (ls := [some (mR (12, 0, 177)), some (mI v1), none, none]) rfl (W_MD_leftOf I J v1 hR hf ⟨rfl, rfl⟩)
noncomputable def F_MD_leftAll_4 (I : MI) (v1 : Int32) (v2 : Int32) : Option ((Int32 × Int32) ⊕ (Int32)) :=
  (F_MD_fenceMany I).bind fun r1 => if r1 ≤ v2 then (some (.inr (v1 : Int32))) else ((F_MD_leftOf I v2).bind fun r3 => some (.inl ((v1 + r3 : Int32), (v2 + 1 : Int32))))
set_option maxRecDepth 100000 in
set_option maxHeartbeats 400000 in
theorem W_MD_leftAll_4 {G : MG} {Q : Option MV → MS → Prop} {L : List (Nat × Nat)} {R : Nat → Nat → Option MRef} (I : MI) (J : MJ) (v1 : Int32) (v2 : Int32) (hR : RF R) {r : (Int32 × Int32) ⊕ (Int32)} (hf : F_MD_leftAll_4 I v1 v2 = some r) (hk : (Sum.elim (fun s : Int32 × Int32 => m_B G (m_rm 3 0 0) M_MD_leftAll Q 0 0 4 [some (mR (12, 0, 177)), some (mI s.1), some (mI s.2)] [] (L, I, J, R)) (fun s : Int32 => m_B G (m_rm 3 0 0) M_MD_leftAll Q 0 0 26 [none, some (mI s), none] [] (L, I, J, R))) r) : m_B G (m_rm 3 0 0) M_MD_leftAll Q 0 0 4 [some (mR (12, 0, 177)), some (mI v1), some (mI v2)] [] (L, I, J, R) := by
  unfold F_MD_leftAll_4 at hf
  refine b_blk (pc' := 6) (ls' := [some (mR (12, 0, 177)), some (mI v1), some (mI v2)]) (st' := [mR (12, 0, 177), mI v2]) (S' := (L, I, J, R)) (P := True) [(.iload_n 2, (0, 0, 0, 0, 0)), (.aload_n 0, (0, 0, 0, 0, 0))] [] (by decide +kernel) rfl trivial ?_
  obtain ⟨r1, hc1, hf⟩ := bnd_o hf
  refine b_cV (as := []) (st := [mI v2]) (by decide +kernel) k_12_382 n_MD_fenceMany rfl (by decide) v_MD_fenceMany (C_MD_fenceMany I J hR hc1) (Nat.le_of_ble_eq_true rfl) (by decide) rfl rfl (fun _ h => h) ?_
  show m_B G (m_rm 3 0 0) M_MD_leftAll Q 0 0 9 [some (mR (12, 0, 177)), some (mI v1), some (mI v2)] [mI r1, mI v2] (L, I, J, R)
  refine b_icmp_ge (off := 17) (tgt := 26) (by decide +kernel) (by decide) (fun h2 => ?_) (fun h2 => ?_)
  · have hf := if_t h2 hf
    refine b_frg 0 ?_
    refine b_frg 2 ?_
    cases hf
    exact hk
  · have hf := if_f h2 hf
    refine b_blk (pc' := 15) (ls' := [some (mR (12, 0, 177)), some (mI v1), some (mI v2)]) (st' := [mI v2, mR (12, 0, 177), mI v1]) (S' := (L, I, J, R)) (P := True) [(.iload_n 1, (0, 0, 0, 0, 0)), (.aload_n 0, (0, 0, 0, 0, 0)), (.iload_n 2, (0, 0, 0, 0, 0))] [] (by decide +kernel) rfl trivial ?_
    obtain ⟨r3, hc3, hf⟩ := bnd_o hf
    refine b_cV (as := [mI v2]) (st := [mI v1]) (by decide +kernel) k_12_467 n_MD_leftOf rfl (by decide) v_MD_leftOf (C_MD_leftOf I J v2 hR hc3) (Nat.le_of_ble_eq_true rfl) (by decide) rfl rfl (fun _ h => h) ?_
    show m_B G (m_rm 3 0 0) M_MD_leftAll Q 0 0 18 [some (mR (12, 0, 177)), some (mI v1), some (mI v2)] [mI r3, mI v1] (L, I, J, R)
    refine b_blk (pc' := 4) (ls' := [some (mR (12, 0, 177)), some (mI (v1 + r3)), some (mI (v2 + 1))]) (st' := []) (S' := (L, I, J, R)) (P := True) [(.iadd, (0, 0, 0, 0, 0)), (.istore_n 1, (0, 0, 0, 0, 0)), (.iinc 2 1, (0, 0, 0, 1, 0)), (.goto (-19), (0, 4, 0, 0, 0))] [] (by decide +kernel) rfl trivial ?_
    cases hf
    exact hk
noncomputable def F_MD_leftAll (I : MI) : Option (Int32) :=
  (wl (fun s : Int32 × Int32 => F_MD_leftAll_4 I s.1 s.2) ((0 : Int32), (0 : Int32))).bind fun t1 => some (t1 : Int32)
set_option maxRecDepth 100000 in
set_option maxHeartbeats 400000 in
theorem W_MD_leftAll {G : MG} {Q : Option MV → MS → Prop} {L : List (Nat × Nat)} {R : Nat → Nat → Option MRef} (I : MI) (J : MJ) (hR : RF R) {r : Int32} (hf : F_MD_leftAll I = some r) (hk : (fun r : Int32 => Q (some (mI r)) (L, I, J, R)) r) : m_B G (m_rm 3 0 0) M_MD_leftAll Q 0 0 0 [some (mR (12, 0, 177)), none, none] [] (L, I, J, R) := by
  unfold F_MD_leftAll at hf
  refine b_blk (pc' := 4) (ls' := [some (mR (12, 0, 177)), some (mI 0), some (mI 0)]) (st' := []) (S' := (L, I, J, R)) (P := True) [(.iconst 0, (0, 0, 0, 0, 0)), (.istore_n 1, (0, 0, 0, 0, 0)), (.iconst 0, (0, 0, 0, 0, 0)), (.istore_n 2, (0, 0, 0, 0, 0))] [] (by decide +kernel) rfl trivial ?_
  obtain ⟨t1, hw, hf⟩ := bnd_o hf
  refine wl_B (A := fun s : Int32 × Int32 => m_B G (m_rm 3 0 0) M_MD_leftAll Q 0 0 4 [some (mR (12, 0, 177)), some (mI s.1), some (mI s.2)] [] (L, I, J, R)) (B := (fun s : Int32 => m_B G (m_rm 3 0 0) M_MD_leftAll Q 0 0 26 [none, some (mI s), none] [] (L, I, J, R))) (fun s r hs hr => W_MD_leftAll_4 I J s.1 s.2 hR hs hr) hw ?_
  show m_B G (m_rm 3 0 0) M_MD_leftAll Q 0 0 26 [none, some (mI t1), none] [] (L, I, J, R)
  refine b_blk (pc' := 27) (ls' := [none, some (mI t1), none]) (st' := [mI t1]) (S' := (L, I, J, R)) (P := True) [(.iload_n 1, (0, 0, 0, 0, 0))] [] (by decide +kernel) rfl trivial ?_
  cases hf
  exact b_iret (by decide +kernel) rfl hk
theorem C_MD_leftAll {G : MG} {L : List (Nat × Nat)} {R : Nat → Nat → Option MRef} (I : MI) (J : MJ) (hR : RF R) {r : Int32} (hf : F_MD_leftAll I = some r) : m_met G 3 0 0 y_MD_leftAll M_MD_leftAll [mR (12, 0, 177)] (L, I, J, R) (m_is (some (mI r)) (L, I, J, R)) :=
  m_met_in n_MD_leftAll (plainFor_of_name (by decide)) (by decide) (Nat.le_of_ble_eq_true rfl) (ls := [some (mR (12, 0, 177)), none, none]) rfl (W_MD_leftAll I J hR hf ⟨rfl, rfl⟩)
noncomputable def F_MD_postMany_4 (I : MI) (v1 : Int32) (v2 : Int32) : Option ((Int32 × Int32) ⊕ (Int32)) :=
  if (6 : Int32) ≤ v2 then (some (.inr (v1 : Int32))) else (gd ((1 : Int32) + v2) 176 <| (F_MD_bits (I 213 ((1 : Int32) + v2).toNatClampNeg)).bind fun r3 => some (.inl ((v1 + r3 : Int32), (v2 + 1 : Int32))))
set_option maxRecDepth 100000 in
set_option maxHeartbeats 400000 in
theorem W_MD_postMany_4 {G : MG} {Q : Option MV → MS → Prop} {L : List (Nat × Nat)} {R : Nat → Nat → Option MRef} (I : MI) (J : MJ) (v1 : Int32) (v2 : Int32) (hR : RF R) {r : (Int32 × Int32) ⊕ (Int32)} (hf : F_MD_postMany_4 I v1 v2 = some r) (hk : (Sum.elim (fun s : Int32 × Int32 => m_B G (m_rm 2 0 0) M_MD_postMany Q 0 0 4 [some (mR (12, 0, 177)), some (mI s.1), some (mI s.2)] [] (L, I, J, R)) (fun s : Int32 => m_B G (m_rm 2 0 0) M_MD_postMany Q 0 0 30 [none, some (mI s), none] [] (L, I, J, R))) r) : m_B G (m_rm 2 0 0) M_MD_postMany Q 0 0 4 [some (mR (12, 0, 177)), some (mI v1), some (mI v2)] [] (L, I, J, R) := by
  unfold F_MD_postMany_4 at hf
  refine b_blk (pc' := 7) (ls' := [some (mR (12, 0, 177)), some (mI v1), some (mI v2)]) (st' := [mI 6, mI v2]) (S' := (L, I, J, R)) (P := True) [(.iload_n 2, (0, 0, 0, 0, 0)), (.bipush 6, (0, 0, 0, 6, 0))] [] (by decide +kernel) rfl trivial ?_
  refine b_icmp_ge (off := 23) (tgt := 30) (by decide +kernel) (by decide) (fun h1 => ?_) (fun h1 => ?_)
  · have hf := if_t h1 hf
    refine b_frg 0 ?_
    refine b_frg 2 ?_
    cases hf
    exact hk
  · have hf := if_f h1 hf
    obtain ⟨g2, hf⟩ := gd_s hf
    refine b_blk (pc' := 19) (ls' := [some (mR (12, 0, 177)), some (mI v1), some (mI v2)]) (st' := [mI (I 213 ((1 : Int32) + v2).toNatClampNeg), mI v1]) (S' := (L, I, J, R)) (P := ((True ∧ R 177 51 = some (20, 176, 213)) ∧ vp_in ((1 : Int32) + v2) 176)) [(.iload_n 1, (0, 0, 0, 0, 0)), (.aload_n 0, (0, 0, 0, 0, 0)), (.getfield 121, (12, 51, 3, 0, 0)), (.iconst 1, (0, 0, 0, 1, 0)), (.iload_n 2, (0, 0, 0, 0, 0)), (.iadd, (0, 0, 0, 0, 0)), (.iaload, (0, 0, 0, 0, 0))] [some (20, 176, 213)] (by decide +kernel) rfl ⟨⟨trivial, (r_177_51 hR)⟩, (in_n (n := 176) (by decide) g2.1 g2.2)⟩ ?_
    obtain ⟨r3, hc3, hf⟩ := bnd_o hf
    refine b_cS (as := [mI (I 213 ((1 : Int32) + v2).toNatClampNeg)]) (st := [mI v1]) (by decide +kernel) k_12_388 n_MD_bits s_MD_bits (C_MD_bits I J (I 213 ((1 : Int32) + v2).toNatClampNeg) hR hc3) (Nat.le_of_ble_eq_true rfl) (by decide) rfl rfl (fun _ h => h) ?_
    show m_B G (m_rm 2 0 0) M_MD_postMany Q 0 0 22 [some (mR (12, 0, 177)), some (mI v1), some (mI v2)] [mI r3, mI v1] (L, I, J, R)
    refine b_blk (pc' := 4) (ls' := [some (mR (12, 0, 177)), some (mI (v1 + r3)), some (mI (v2 + 1))]) (st' := []) (S' := (L, I, J, R)) (P := True) [(.iadd, (0, 0, 0, 0, 0)), (.istore_n 1, (0, 0, 0, 0, 0)), (.iinc 2 1, (0, 0, 0, 1, 0)), (.goto (-23), (0, 4, 0, 0, 0))] [] (by decide +kernel) rfl trivial ?_
    cases hf
    exact hk
noncomputable def F_MD_postMany (I : MI) : Option (Int32) :=
  (wl (fun s : Int32 × Int32 => F_MD_postMany_4 I s.1 s.2) ((0 : Int32), (0 : Int32))).bind fun t1 => some (t1 : Int32)
set_option maxRecDepth 100000 in
set_option maxHeartbeats 400000 in
theorem W_MD_postMany {G : MG} {Q : Option MV → MS → Prop} {L : List (Nat × Nat)} {R : Nat → Nat → Option MRef} (I : MI) (J : MJ) (hR : RF R) {r : Int32} (hf : F_MD_postMany I = some r) (hk : (fun r : Int32 => Q (some (mI r)) (L, I, J, R)) r) : m_B G (m_rm 2 0 0) M_MD_postMany Q 0 0 0 [some (mR (12, 0, 177)), none, none] [] (L, I, J, R) := by
  unfold F_MD_postMany at hf
  refine b_blk (pc' := 4) (ls' := [some (mR (12, 0, 177)), some (mI 0), some (mI 0)]) (st' := []) (S' := (L, I, J, R)) (P := True) [(.iconst 0, (0, 0, 0, 0, 0)), (.istore_n 1, (0, 0, 0, 0, 0)), (.iconst 0, (0, 0, 0, 0, 0)), (.istore_n 2, (0, 0, 0, 0, 0))] [] (by decide +kernel) rfl trivial ?_
  obtain ⟨t1, hw, hf⟩ := bnd_o hf
  refine wl_B (A := fun s : Int32 × Int32 => m_B G (m_rm 2 0 0) M_MD_postMany Q 0 0 4 [some (mR (12, 0, 177)), some (mI s.1), some (mI s.2)] [] (L, I, J, R)) (B := (fun s : Int32 => m_B G (m_rm 2 0 0) M_MD_postMany Q 0 0 30 [none, some (mI s), none] [] (L, I, J, R))) (fun s r hs hr => W_MD_postMany_4 I J s.1 s.2 hR hs hr) hw ?_
  show m_B G (m_rm 2 0 0) M_MD_postMany Q 0 0 30 [none, some (mI t1), none] [] (L, I, J, R)
  refine b_blk (pc' := 31) (ls' := [none, some (mI t1), none]) (st' := [mI t1]) (S' := (L, I, J, R)) (P := True) [(.iload_n 1, (0, 0, 0, 0, 0))] [] (by decide +kernel) rfl trivial ?_
  cases hf
  exact b_iret (by decide +kernel) rfl hk
theorem C_MD_postMany {G : MG} {L : List (Nat × Nat)} {R : Nat → Nat → Option MRef} (I : MI) (J : MJ) (hR : RF R) {r : Int32} (hf : F_MD_postMany I = some r) : m_met G 2 0 0 y_MD_postMany M_MD_postMany [mR (12, 0, 177)] (L, I, J, R) (m_is (some (mI r)) (L, I, J, R)) :=
  m_met_in n_MD_postMany (plainFor_of_name (by decide)) (by decide) (Nat.le_of_ble_eq_true rfl) (ls := [some (mR (12, 0, 177)), none, none]) rfl (W_MD_postMany I J hR hf ⟨rfl, rfl⟩)
noncomputable def F_MD_has (I : MI) (v1 : Int32) : Option (Int32) :=
  if v1 = 0 then (gd ((2 : Int32) + v1) 4 <| some (I 204 ((2 : Int32) + v1).toNatClampNeg : Int32)) else (if v1 = 1 then (gd ((2 : Int32) + v1) 4 <| some (I 204 ((2 : Int32) + v1).toNatClampNeg : Int32)) else (if v1 = 2 then ((F_MD_fenceMany I).bind fun r6 => some (r6 : Int32)) else (if v1 = 3 then (some (I 213 0 : Int32)) else (if v1 = 4 then ((F_MD_postMany I).bind fun r9 => some (r9 : Int32)) else (if v1 = 5 then ((F_MD_leftAll I).bind fun r11 => some (r11 : Int32)) else (if v1 = 6 then ((F_MD_cutSet I).bind fun r13 => (F_MD_bits r13).bind fun r14 => some (r14 : Int32)) else (if v1 = 7 then ((F_MD_fieldOf I (-1 : Int32)).bind fun r16 => some (r16 : Int32)) else (if v1 = 8 then (some (I 213 55 : Int32)) else (if v1 = 9 then (some (I 177 59 : Int32)) else (if v1 = 10 then (some (I 177 66 : Int32)) else (some ((-1) : Int32))))))))))))
set_option maxRecDepth 100000 in
set_option maxHeartbeats 400000 in
theorem W_MD_has {G : MG} {Q : Option MV → MS → Prop} {L : List (Nat × Nat)} {R : Nat → Nat → Option MRef} (I : MI) (J : MJ) (v1 : Int32) (hR : RF R) {r : Int32} (hf : F_MD_has I v1 = some r) (hk : (fun r : Int32 => Q (some (mI r)) (L, I, J, R)) r) : m_B G (m_rm 4 0 0) M_MD_has Q 0 0 0 [some (mR (12, 0, 177)), some (mI v1)] [] (L, I, J, R) := by
  unfold F_MD_has at hf
  refine b_blk (pc' := 1) (ls' := [some (mR (12, 0, 177)), some (mI v1)]) (st' := [mI v1]) (S' := (L, I, J, R)) (P := True) [(.iload_n 1, (0, 0, 0, 0, 0))] [] (by decide +kernel) rfl trivial ?_
  by_cases h1 : v1 = 0
  · refine b_tswV (tgt := 60) (off := 59) (lo := 0) (hi := 10) (dflt := 122) (offs := #[59, 59, 68, 73, 80, 85, 90, 98, 104, 112, 117]) (len := 59) h1 (by decide +kernel) (by decide) (by decide) (by decide) (by decide) ?_
    have hf := if_t h1 hf
    obtain ⟨g2, hf⟩ := gd_s hf
    refine b_blk (pc' := 68) (ls' := [some (mR (12, 0, 177)), some (mI v1)]) (st' := [mI (I 204 ((2 : Int32) + v1).toNatClampNeg)]) (S' := (L, I, J, R)) (P := ((True ∧ R 177 36 = some (20, 4, 204)) ∧ vp_in ((2 : Int32) + v1) 4)) [(.aload_n 0, (0, 0, 0, 0, 0)), (.getfield 93, (12, 36, 3, 0, 0)), (.iconst 2, (0, 0, 0, 2, 0)), (.iload_n 1, (0, 0, 0, 0, 0)), (.iadd, (0, 0, 0, 0, 0)), (.iaload, (0, 0, 0, 0, 0))] [some (20, 4, 204)] (by decide +kernel) rfl ⟨⟨trivial, (r_177_36 hR)⟩, (in_n (n := 4) (by decide) g2.1 g2.2)⟩ ?_
    cases hf
    exact b_iret (by decide +kernel) rfl hk
  have hf := if_f h1 hf
  by_cases h3 : v1 = 1
  · refine b_tswV (tgt := 60) (off := 59) (lo := 0) (hi := 10) (dflt := 122) (offs := #[59, 59, 68, 73, 80, 85, 90, 98, 104, 112, 117]) (len := 59) h3 (by decide +kernel) (by decide) (by decide) (by decide) (by decide) ?_
    have hf := if_t h3 hf
    obtain ⟨g4, hf⟩ := gd_s hf
    refine b_blk (pc' := 68) (ls' := [some (mR (12, 0, 177)), some (mI v1)]) (st' := [mI (I 204 ((2 : Int32) + v1).toNatClampNeg)]) (S' := (L, I, J, R)) (P := ((True ∧ R 177 36 = some (20, 4, 204)) ∧ vp_in ((2 : Int32) + v1) 4)) [(.aload_n 0, (0, 0, 0, 0, 0)), (.getfield 93, (12, 36, 3, 0, 0)), (.iconst 2, (0, 0, 0, 2, 0)), (.iload_n 1, (0, 0, 0, 0, 0)), (.iadd, (0, 0, 0, 0, 0)), (.iaload, (0, 0, 0, 0, 0))] [some (20, 4, 204)] (by decide +kernel) rfl ⟨⟨trivial, (r_177_36 hR)⟩, (in_n (n := 4) (by decide) g4.1 g4.2)⟩ ?_
    cases hf
    exact b_iret (by decide +kernel) rfl hk
  have hf := if_f h3 hf
  by_cases h5 : v1 = 2
  · refine b_tswV (tgt := 69) (off := 68) (lo := 0) (hi := 10) (dflt := 122) (offs := #[59, 59, 68, 73, 80, 85, 90, 98, 104, 112, 117]) (len := 59) h5 (by decide +kernel) (by decide) (by decide) (by decide) (by decide) ?_
    have hf := if_t h5 hf
    refine b_blk (pc' := 70) (ls' := [some (mR (12, 0, 177)), some (mI v1)]) (st' := [mR (12, 0, 177)]) (S' := (L, I, J, R)) (P := True) [(.aload_n 0, (0, 0, 0, 0, 0))] [] (by decide +kernel) rfl trivial ?_
    obtain ⟨r6, hc6, hf⟩ := bnd_o hf
    refine b_cV (as := []) (st := []) (by decide +kernel) k_12_382 n_MD_fenceMany rfl (by decide) v_MD_fenceMany (C_MD_fenceMany I J hR hc6) (Nat.le_of_ble_eq_true rfl) (by decide) rfl rfl (fun _ h => h) ?_
    show m_B G (m_rm 4 0 0) M_MD_has Q 0 0 73 [some (mR (12, 0, 177)), some (mI v1)] [mI r6] (L, I, J, R)
    cases hf
    exact b_iret (by decide +kernel) rfl hk
  have hf := if_f h5 hf
  by_cases h7 : v1 = 3
  · refine b_tswV (tgt := 74) (off := 73) (lo := 0) (hi := 10) (dflt := 122) (offs := #[59, 59, 68, 73, 80, 85, 90, 98, 104, 112, 117]) (len := 59) h7 (by decide +kernel) (by decide) (by decide) (by decide) (by decide) ?_
    have hf := if_t h7 hf
    refine b_blk (pc' := 80) (ls' := [some (mR (12, 0, 177)), some (mI v1)]) (st' := [mI (I 213 0)]) (S' := (L, I, J, R)) (P := ((True ∧ R 177 51 = some (20, 176, 213)) ∧ vp_in (0 : Int32) 176)) [(.aload_n 0, (0, 0, 0, 0, 0)), (.getfield 121, (12, 51, 3, 0, 0)), (.iconst 0, (0, 0, 0, 0, 0)), (.iaload, (0, 0, 0, 0, 0))] [some (20, 176, 213)] (by decide +kernel) rfl ⟨⟨trivial, (r_177_51 hR)⟩, (vp_in_nI (n := 0) (N := 176) (by decide) (by decide))⟩ ?_
    cases hf
    exact b_iret (by decide +kernel) rfl hk
  have hf := if_f h7 hf
  by_cases h8 : v1 = 4
  · refine b_tswV (tgt := 81) (off := 80) (lo := 0) (hi := 10) (dflt := 122) (offs := #[59, 59, 68, 73, 80, 85, 90, 98, 104, 112, 117]) (len := 59) h8 (by decide +kernel) (by decide) (by decide) (by decide) (by decide) ?_
    have hf := if_t h8 hf
    refine b_blk (pc' := 82) (ls' := [some (mR (12, 0, 177)), some (mI v1)]) (st' := [mR (12, 0, 177)]) (S' := (L, I, J, R)) (P := True) [(.aload_n 0, (0, 0, 0, 0, 0))] [] (by decide +kernel) rfl trivial ?_
    obtain ⟨r9, hc9, hf⟩ := bnd_o hf
    refine b_cV (as := []) (st := []) (by decide +kernel) k_12_470 n_MD_postMany rfl (by decide) v_MD_postMany (C_MD_postMany I J hR hc9) (Nat.le_of_ble_eq_true rfl) (by decide) rfl rfl (fun _ h => h) ?_
    show m_B G (m_rm 4 0 0) M_MD_has Q 0 0 85 [some (mR (12, 0, 177)), some (mI v1)] [mI r9] (L, I, J, R)
    cases hf
    exact b_iret (by decide +kernel) rfl hk
  have hf := if_f h8 hf
  by_cases h10 : v1 = 5
  · refine b_tswV (tgt := 86) (off := 85) (lo := 0) (hi := 10) (dflt := 122) (offs := #[59, 59, 68, 73, 80, 85, 90, 98, 104, 112, 117]) (len := 59) h10 (by decide +kernel) (by decide) (by decide) (by decide) (by decide) ?_
    have hf := if_t h10 hf
    refine b_blk (pc' := 87) (ls' := [some (mR (12, 0, 177)), some (mI v1)]) (st' := [mR (12, 0, 177)]) (S' := (L, I, J, R)) (P := True) [(.aload_n 0, (0, 0, 0, 0, 0))] [] (by decide +kernel) rfl trivial ?_
    obtain ⟨r11, hc11, hf⟩ := bnd_o hf
    refine b_cV (as := []) (st := []) (by decide +kernel) k_12_473 n_MD_leftAll rfl (by decide) v_MD_leftAll (C_MD_leftAll I J hR hc11) (Nat.le_of_ble_eq_true rfl) (by decide) rfl rfl (fun _ h => h) ?_
    show m_B G (m_rm 4 0 0) M_MD_has Q 0 0 90 [some (mR (12, 0, 177)), some (mI v1)] [mI r11] (L, I, J, R)
    cases hf
    exact b_iret (by decide +kernel) rfl hk
  have hf := if_f h10 hf
  by_cases h12 : v1 = 6
  · refine b_tswV (tgt := 91) (off := 90) (lo := 0) (hi := 10) (dflt := 122) (offs := #[59, 59, 68, 73, 80, 85, 90, 98, 104, 112, 117]) (len := 59) h12 (by decide +kernel) (by decide) (by decide) (by decide) (by decide) ?_
    have hf := if_t h12 hf
    refine b_blk (pc' := 92) (ls' := [some (mR (12, 0, 177)), some (mI v1)]) (st' := [mR (12, 0, 177)]) (S' := (L, I, J, R)) (P := True) [(.aload_n 0, (0, 0, 0, 0, 0))] [] (by decide +kernel) rfl trivial ?_
    obtain ⟨r13, hc13, hf⟩ := bnd_o hf
    refine b_cV (as := []) (st := []) (by decide +kernel) k_12_476 n_MD_cutSet rfl (by decide) v_MD_cutSet (C_MD_cutSet I J hR hc13) (Nat.le_of_ble_eq_true rfl) (by decide) rfl rfl (fun _ h => h) ?_
    show m_B G (m_rm 4 0 0) M_MD_has Q 0 0 95 [some (mR (12, 0, 177)), some (mI v1)] [mI r13] (L, I, J, R)
    obtain ⟨r14, hc14, hf⟩ := bnd_o hf
    refine b_cS (as := [mI r13]) (st := []) (by decide +kernel) k_12_388 n_MD_bits s_MD_bits (C_MD_bits I J r13 hR hc14) (Nat.le_of_ble_eq_true rfl) (by decide) rfl rfl (fun _ h => h) ?_
    show m_B G (m_rm 4 0 0) M_MD_has Q 0 0 98 [some (mR (12, 0, 177)), some (mI v1)] [mI r14] (L, I, J, R)
    cases hf
    exact b_iret (by decide +kernel) rfl hk
  have hf := if_f h12 hf
  by_cases h15 : v1 = 7
  · refine b_tswV (tgt := 99) (off := 98) (lo := 0) (hi := 10) (dflt := 122) (offs := #[59, 59, 68, 73, 80, 85, 90, 98, 104, 112, 117]) (len := 59) h15 (by decide +kernel) (by decide) (by decide) (by decide) (by decide) ?_
    have hf := if_t h15 hf
    refine b_blk (pc' := 101) (ls' := [some (mR (12, 0, 177)), some (mI v1)]) (st' := [mI (-1), mR (12, 0, 177)]) (S' := (L, I, J, R)) (P := True) [(.aload_n 0, (0, 0, 0, 0, 0)), (.iconst (-1), (0, 0, 0, (-1), 0))] [] (by decide +kernel) rfl trivial ?_
    obtain ⟨r16, hc16, hf⟩ := bnd_o hf
    refine b_cV (as := [mI (-1)]) (st := []) (by decide +kernel) k_12_479 n_MD_fieldOf rfl (by decide) v_MD_fieldOf (C_MD_fieldOf I J (-1 : Int32) hR hc16) (Nat.le_of_ble_eq_true rfl) (by decide) rfl rfl (fun _ h => h) ?_
    show m_B G (m_rm 4 0 0) M_MD_has Q 0 0 104 [some (mR (12, 0, 177)), some (mI v1)] [mI r16] (L, I, J, R)
    cases hf
    exact b_iret (by decide +kernel) rfl hk
  have hf := if_f h15 hf
  by_cases h17 : v1 = 8
  · refine b_tswV (tgt := 105) (off := 104) (lo := 0) (hi := 10) (dflt := 122) (offs := #[59, 59, 68, 73, 80, 85, 90, 98, 104, 112, 117]) (len := 59) h17 (by decide +kernel) (by decide) (by decide) (by decide) (by decide) ?_
    have hf := if_t h17 hf
    refine b_blk (pc' := 112) (ls' := [some (mR (12, 0, 177)), some (mI v1)]) (st' := [mI (I 213 55)]) (S' := (L, I, J, R)) (P := ((True ∧ R 177 51 = some (20, 176, 213)) ∧ vp_in (55 : Int32) 176)) [(.aload_n 0, (0, 0, 0, 0, 0)), (.getfield 121, (12, 51, 3, 0, 0)), (.bipush 55, (0, 0, 0, 55, 0)), (.iaload, (0, 0, 0, 0, 0))] [some (20, 176, 213)] (by decide +kernel) rfl ⟨⟨trivial, (r_177_51 hR)⟩, (vp_in_nI (n := 55) (N := 176) (by decide) (by decide))⟩ ?_
    cases hf
    exact b_iret (by decide +kernel) rfl hk
  have hf := if_f h17 hf
  by_cases h18 : v1 = 9
  · refine b_tswV (tgt := 113) (off := 112) (lo := 0) (hi := 10) (dflt := 122) (offs := #[59, 59, 68, 73, 80, 85, 90, 98, 104, 112, 117]) (len := 59) h18 (by decide +kernel) (by decide) (by decide) (by decide) (by decide) ?_
    have hf := if_t h18 hf
    refine b_blk (pc' := 117) (ls' := [some (mR (12, 0, 177)), some (mI v1)]) (st' := [mI (I 177 59)]) (S' := (L, I, J, R)) (P := True) [(.aload_n 0, (0, 0, 0, 0, 0)), (.getfield 379, (12, 59, 0, 0, 0))] [] (by decide +kernel) rfl trivial ?_
    cases hf
    exact b_iret (by decide +kernel) rfl hk
  have hf := if_f h18 hf
  by_cases h19 : v1 = 10
  · refine b_tswV (tgt := 118) (off := 117) (lo := 0) (hi := 10) (dflt := 122) (offs := #[59, 59, 68, 73, 80, 85, 90, 98, 104, 112, 117]) (len := 59) h19 (by decide +kernel) (by decide) (by decide) (by decide) (by decide) ?_
    have hf := if_t h19 hf
    refine b_blk (pc' := 122) (ls' := [some (mR (12, 0, 177)), some (mI v1)]) (st' := [mI (I 177 66)]) (S' := (L, I, J, R)) (P := True) [(.aload_n 0, (0, 0, 0, 0, 0)), (.getfield 376, (12, 66, 0, 0, 0))] [] (by decide +kernel) rfl trivial ?_
    cases hf
    exact b_iret (by decide +kernel) rfl hk
  have hf := if_f h19 hf
  refine b_tswD (tgt := 123) (lo := 0) (hi := 10) (dflt := 122) (offs := #[59, 59, 68, 73, 80, 85, 90, 98, 104, 112, 117]) (len := 59) (by decide +kernel) (by have q0 := lv_neT h1 (a := 0) (by decide); have q1 := lv_neT h3 (a := 1) (by decide); have q2 := lv_neT h5 (a := 2) (by decide); have q3 := lv_neT h7 (a := 3) (by decide); have q4 := lv_neT h8 (a := 4) (by decide); have q5 := lv_neT h10 (a := 5) (by decide); have q6 := lv_neT h12 (a := 6) (by decide); have q7 := lv_neT h15 (a := 7) (by decide); have q8 := lv_neT h17 (a := 8) (by decide); have q9 := lv_neT h18 (a := 9) (by decide); have q10 := lv_neT h19 (a := 10) (by decide); omega) (by decide) ?_
  refine b_blk (pc' := 124) (ls' := [some (mR (12, 0, 177)), some (mI v1)]) (st' := [mI (-1)]) (S' := (L, I, J, R)) (P := True) [(.iconst (-1), (0, 0, 0, (-1), 0))] [] (by decide +kernel) rfl trivial ?_
  cases hf
  exact b_iret (by decide +kernel) rfl hk
theorem C_MD_has {G : MG} {L : List (Nat × Nat)} {R : Nat → Nat → Option MRef} (I : MI) (J : MJ) (v1 : Int32) (hR : RF R) {r : Int32} (hf : F_MD_has I v1 = some r) : m_met G 4 0 0 y_MD_has M_MD_has [mR (12, 0, 177), mI v1] (L, I, J, R) (m_is (some (mI r)) (L, I, J, R)) :=
  m_met_in n_MD_has (plainFor_of_name (by decide)) (by decide) (Nat.le_of_ble_eq_true rfl) (ls := [some (mR (12, 0, 177)), some (mI v1)]) rfl (W_MD_has I J v1 hR hf ⟨rfl, rfl⟩)
