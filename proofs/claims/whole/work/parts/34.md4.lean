/-! the reference: methods 4 -/
noncomputable def F_MD_isFence (I : MI) (v1 : Int32) : Option (Int32) :=
  (F_MD_fenceMany I).bind fun r1 => (F_MD_isIn v1.toInt64 (0 : Int64) ((r1 - (1 : Int32)).toInt64)).bind fun r2 => gq (r2 = 0 ∨ r2 = 1) <| some (r2 : Int32)
set_option maxRecDepth 100000 in
set_option maxHeartbeats 400000 in
theorem W_MD_isFence {G : MG} {Q : Option MV → MS → Prop} {L : List (Nat × Nat)} {R : Nat → Nat → Option MRef} (I : MI) (J : MJ) (v1 : Int32) (hR : RF R) {r : Int32} (hf : F_MD_isFence I v1 = some r) (hk : (fun r : Int32 => Q (some (mI r)) (L, I, J, R)) r) : m_B G (m_rm 2 0 0) M_MD_isFence Q 0 0 0 [some (mR (12, 0, 177)), some (mI v1)] [] (L, I, J, R) := by
  unfold F_MD_isFence at hf
  refine b_blk (pc' := 4) (ls' := [some (mR (12, 0, 177)), some (mI v1)]) (st' := [mR (12, 0, 177), mJ 0, mJ v1.toInt64]) (S' := (L, I, J, R)) (P := True) [(.iload_n 1, (0, 0, 0, 0, 0)), (.i2l, (0, 0, 0, 0, 0)), (.lconst 0, (0, 0, 0, 0, 0)), (.aload_n 0, (0, 0, 0, 0, 0))] [] (by decide +kernel) rfl trivial ?_
  obtain ⟨r1, hc1, hf⟩ := bnd_o hf
  refine b_cV (as := []) (st := [mJ 0, mJ v1.toInt64]) (by decide +kernel) k_12_382 n_MD_fenceMany rfl (by decide) v_MD_fenceMany (C_MD_fenceMany I J hR hc1) (Nat.le_of_ble_eq_true rfl) (by decide) rfl rfl (fun _ h => h) ?_
  show m_B G (m_rm 2 0 0) M_MD_isFence Q 0 0 7 [some (mR (12, 0, 177)), some (mI v1)] [mI r1, mJ 0, mJ v1.toInt64] (L, I, J, R)
  refine b_blk (pc' := 10) (ls' := [some (mR (12, 0, 177)), some (mI v1)]) (st' := [mJ ((r1 - (1 : Int32)).toInt64), mJ 0, mJ v1.toInt64]) (S' := (L, I, J, R)) (P := True) [(.iconst 1, (0, 0, 0, 1, 0)), (.isub, (0, 0, 0, 0, 0)), (.i2l, (0, 0, 0, 0, 0))] [] (by decide +kernel) rfl trivial ?_
  obtain ⟨r2, hc2, hf⟩ := bnd_o hf
  refine b_cS (as := [mJ v1.toInt64, mJ 0, mJ ((r1 - (1 : Int32)).toInt64)]) (st := []) (by decide +kernel) k_12_277 n_MD_isIn s_MD_isIn (C_MD_isIn I J v1.toInt64 (0 : Int64) ((r1 - (1 : Int32)).toInt64) hR hc2) (Nat.le_of_ble_eq_true rfl) (by decide) rfl rfl (fun _ h => h) ?_
  show m_B G (m_rm 2 0 0) M_MD_isFence Q 0 0 13 [some (mR (12, 0, 177)), some (mI v1)] [mI r2] (L, I, J, R)
  obtain ⟨g3, hf⟩ := gq_s hf
  cases hf
  exact b_zret (by decide +kernel) rfl g3 hk
theorem C_MD_isFence {G : MG} {L : List (Nat × Nat)} {R : Nat → Nat → Option MRef} (I : MI) (J : MJ) (v1 : Int32) (hR : RF R) {r : Int32} (hf : F_MD_isFence I v1 = some r) : m_met G 2 0 0 y_MD_isFence M_MD_isFence [mR (12, 0, 177), mI v1] (L, I, J, R) (m_is (some (mI r)) (L, I, J, R)) :=
  m_met_in n_MD_isFence (plainFor_of_name (by decide)) (by decide) (Nat.le_of_ble_eq_true rfl) (ls := [some (mR (12, 0, 177)), some (mI v1)]) rfl (W_MD_isFence I J v1 hR hf ⟨rfl, rfl⟩)
noncomputable def F_MD_letter_38 (v2 : Int32) (v3 : Int64) (v5 : Int32) (v6 : Int64) : Option ((Int32 × Int64) ⊕ (Int32)) :=
  if (lg_cmp v6 (0 : Int64)) ≤ (0 : Int32) then (some (.inr (v5 : Int32))) else (some (.inl ((v5 + 1 : Int32), (v6 / (27 : Int64) : Int64))))
set_option maxRecDepth 100000 in
set_option maxHeartbeats 400000 in
theorem W_MD_letter_38 {G : MG} {Q : Option MV → MS → Prop} {L : List (Nat × Nat)} {R : Nat → Nat → Option MRef} (I : MI) (J : MJ) (v2 : Int32) (v3 : Int64) (v5 : Int32) (v6 : Int64) (hR : RF R) {r : (Int32 × Int64) ⊕ (Int32)} (hf : F_MD_letter_38 v2 v3 v5 v6 = some r) (hk : (Sum.elim (fun s : Int32 × Int64 => m_B G (m_rm 3 0 0) M_MD_letter Q 0 0 38 [none, none, some (mI v2), some (mJ v3), none, some (mI s.1), some (mJ s.2), none] [] (L, I, J, R)) (fun s : Int32 => m_B G (m_rm 3 0 0) M_MD_letter Q 0 0 59 [none, none, some (mI v2), some (mJ v3), none, some (mI s), none, none] [] (L, I, J, R))) r) : m_B G (m_rm 3 0 0) M_MD_letter Q 0 0 38 [none, none, some (mI v2), some (mJ v3), none, some (mI v5), some (mJ v6), none] [] (L, I, J, R) := by
  unfold F_MD_letter_38 at hf
  refine b_blk (pc' := 42) (ls' := [none, none, some (mI v2), some (mJ v3), none, some (mI v5), some (mJ v6), none]) (st' := [mI (lg_cmp v6 (0 : Int64))]) (S' := (L, I, J, R)) (P := True) [(.lload 6, (0, 0, 0, 0, 0)), (.lconst 0, (0, 0, 0, 0, 0)), (.lcmp, (0, 0, 0, 0, 0))] [] (by decide +kernel) rfl trivial ?_
  refine b_if_le (off := 17) (tgt := 59) (by decide +kernel) (by decide) (fun h1 => ?_) (fun h1 => ?_)
  · have hf := if_t h1 hf
    refine b_frg 6 ?_
    cases hf
    exact hk
  · have hf := if_f h1 hf
    refine b_blk (pc' := 38) (ls' := [none, none, some (mI v2), some (mJ v3), none, some (mI (v5 + 1)), some (mJ (v6 / (27 : Int64))), none]) (st' := []) (S' := (L, I, J, R)) (P := (True ∧ ¬ (27 : Int64) = 0)) [(.iinc 5 1, (0, 0, 0, 1, 0)), (.lload 6, (0, 0, 0, 0, 0)), (.ldc2_w 288, (0, 0, 0, 0, 27)), (.ldiv, (0, 0, 0, 0, 0)), (.lstore 6, (0, 0, 0, 0, 0)), (.goto (-18), (0, 38, 0, 0, 0))] [] (by decide +kernel) rfl ⟨trivial, (by decide)⟩ ?_
    cases hf
    exact hk
noncomputable def F_MD_letter_73 (v2 : Int32) (v3 : Int64) (v6 : Int32) : Option ((Int64 × Int32) ⊕ (Int64)) :=
  if v6 ≤ v2 then (some (.inr (v3 : Int64))) else (some (.inl ((v3 / (27 : Int64) : Int64), (v6 + (-1) : Int32))))
set_option maxRecDepth 100000 in
set_option maxHeartbeats 400000 in
theorem W_MD_letter_73 {G : MG} {Q : Option MV → MS → Prop} {L : List (Nat × Nat)} {R : Nat → Nat → Option MRef} (I : MI) (J : MJ) (v2 : Int32) (v3 : Int64) (v6 : Int32) (hR : RF R) {r : (Int64 × Int32) ⊕ (Int64)} (hf : F_MD_letter_73 v2 v3 v6 = some r) (hk : (Sum.elim (fun s : Int64 × Int32 => m_B G (m_rm 3 0 0) M_MD_letter Q 0 0 73 [none, none, some (mI v2), some (mJ s.1), none, none, some (mI s.2), none] [] (L, I, J, R)) (fun s : Int64 => m_B G (m_rm 3 0 0) M_MD_letter Q 0 0 91 [none, none, none, some (mJ s), none, none, none, none] [] (L, I, J, R))) r) : m_B G (m_rm 3 0 0) M_MD_letter Q 0 0 73 [none, none, some (mI v2), some (mJ v3), none, none, some (mI v6), none] [] (L, I, J, R) := by
  unfold F_MD_letter_73 at hf
  refine b_blk (pc' := 76) (ls' := [none, none, some (mI v2), some (mJ v3), none, none, some (mI v6), none]) (st' := [mI v2, mI v6]) (S' := (L, I, J, R)) (P := True) [(.iload 6, (0, 0, 0, 0, 0)), (.iload_n 2, (0, 0, 0, 0, 0))] [] (by decide +kernel) rfl trivial ?_
  refine b_icmp_le (off := 15) (tgt := 91) (by decide +kernel) (by decide) (fun h1 => ?_) (fun h1 => ?_)
  · have hf := if_t h1 hf
    refine b_frg 2 ?_
    refine b_frg 6 ?_
    cases hf
    exact hk
  · have hf := if_f h1 hf
    refine b_blk (pc' := 73) (ls' := [none, none, some (mI v2), some (mJ (v3 / (27 : Int64))), none, none, some (mI (v6 + (-1))), none]) (st' := []) (S' := (L, I, J, R)) (P := (True ∧ ¬ (27 : Int64) = 0)) [(.lload_n 3, (0, 0, 0, 0, 0)), (.ldc2_w 288, (0, 0, 0, 0, 27)), (.ldiv, (0, 0, 0, 0, 0)), (.lstore_n 3, (0, 0, 0, 0, 0)), (.iinc 6 (-1), (0, 0, 0, (-1), 0)), (.goto (-15), (0, 73, 0, 0, 0))] [] (by decide +kernel) rfl ⟨trivial, (by decide)⟩ ?_
    cases hf
    exact hk
noncomputable def F_MD_letter (I : MI) (J : MJ) (v1 : Int32) (v2 : Int32) : Option (Int32) :=
  (F_MD_isFence I v1).bind fun r1 => if r1 = (0 : Int32) then (some ((-1) : Int32)) else ((F_MD_isIn v2.toInt64 (0 : Int64) (5 : Int64)).bind fun r3 => if r3 = (0 : Int32) then (some ((-1) : Int32)) else (gd ((6 : Int32) + v1) 12 <| (wl (fun s : Int32 × Int64 => F_MD_letter_38 v2 (J 206 ((6 : Int32) + v1).toNatClampNeg) s.1 s.2) ((0 : Int32), (J 206 ((6 : Int32) + v1).toNatClampNeg : Int64))).bind fun t6 => if v2 < t6 then ((wl (fun s : Int64 × Int32 => F_MD_letter_73 v2 s.1 s.2) ((J 206 ((6 : Int32) + v1).toNatClampNeg : Int64), (t6 - (1 : Int32) : Int32))).bind fun t8 => some ((t8 - t8 / (27 : Int64) * (27 : Int64)).toInt32 : Int32)) else (some (0 : Int32))))
set_option maxRecDepth 100000 in
set_option maxHeartbeats 400000 in
theorem W_MD_letter {G : MG} {Q : Option MV → MS → Prop} {L : List (Nat × Nat)} {R : Nat → Nat → Option MRef} (I : MI) (J : MJ) (v1 : Int32) (v2 : Int32) (hR : RF R) {r : Int32} (hf : F_MD_letter I J v1 v2 = some r) (hk : (fun r : Int32 => Q (some (mI r)) (L, I, J, R)) r) : m_B G (m_rm 3 0 0) M_MD_letter Q 0 0 0 [some (mR (12, 0, 177)), some (mI v1), some (mI v2), none, none, none, none, none] [] (L, I, J, R) := by
  unfold F_MD_letter at hf
  refine b_blk (pc' := 2) (ls' := [some (mR (12, 0, 177)), some (mI v1), some (mI v2), none, none, none, none, none]) (st' := [mI v1, mR (12, 0, 177)]) (S' := (L, I, J, R)) (P := True) [(.aload_n 0, (0, 0, 0, 0, 0)), (.iload_n 1, (0, 0, 0, 0, 0))] [] (by decide +kernel) rfl trivial ?_
  obtain ⟨r1, hc1, hf⟩ := bnd_o hf
  refine b_cV (as := [mI v1]) (st := []) (by decide +kernel) k_12_482 n_MD_isFence rfl (by decide) v_MD_isFence (C_MD_isFence I J v1 hR hc1) (Nat.le_of_ble_eq_true rfl) (by decide) rfl rfl (fun _ h => h) ?_
  show m_B G (m_rm 3 0 0) M_MD_letter Q 0 0 5 [some (mR (12, 0, 177)), some (mI v1), some (mI v2), none, none, none, none, none] [mI r1] (L, I, J, R)
  refine b_if_eq (off := 15) (tgt := 20) (by decide +kernel) (by decide) (fun h2 => ?_) (fun h2 => ?_)
  · have hf := if_t h2 hf
    refine b_blk (pc' := 21) (ls' := [some (mR (12, 0, 177)), some (mI v1), some (mI v2), none, none, none, none, none]) (st' := [mI (-1)]) (S' := (L, I, J, R)) (P := True) [(.iconst (-1), (0, 0, 0, (-1), 0))] [] (by decide +kernel) rfl trivial ?_
    cases hf
    exact b_iret (by decide +kernel) rfl hk
  · have hf := if_f h2 hf
    refine b_blk (pc' := 14) (ls' := [some (mR (12, 0, 177)), some (mI v1), some (mI v2), none, none, none, none, none]) (st' := [mJ 5, mJ 0, mJ v2.toInt64]) (S' := (L, I, J, R)) (P := True) [(.iload_n 2, (0, 0, 0, 0, 0)), (.i2l, (0, 0, 0, 0, 0)), (.lconst 0, (0, 0, 0, 0, 0)), (.ldc2_w 485, (0, 0, 0, 0, 5))] [] (by decide +kernel) rfl trivial ?_
    obtain ⟨r3, hc3, hf⟩ := bnd_o hf
    refine b_cS (as := [mJ v2.toInt64, mJ 0, mJ 5]) (st := []) (by decide +kernel) k_12_277 n_MD_isIn s_MD_isIn (C_MD_isIn I J v2.toInt64 (0 : Int64) (5 : Int64) hR hc3) (Nat.le_of_ble_eq_true rfl) (by decide) rfl rfl (fun _ h => h) ?_
    show m_B G (m_rm 3 0 0) M_MD_letter Q 0 0 17 [some (mR (12, 0, 177)), some (mI v1), some (mI v2), none, none, none, none, none] [mI r3] (L, I, J, R)
    refine b_if_ne (off := 5) (tgt := 22) (by decide +kernel) (by decide) (fun h4 => ?_) (fun h4 => ?_)
    · have hf := if_f h4 hf
      obtain ⟨g5, hf⟩ := gd_s hf
      refine b_blk (pc' := 38) (ls' := [some (mR (12, 0, 177)), some (mI v1), some (mI v2), some (mJ (J 206 ((6 : Int32) + v1).toNatClampNeg)), none, some (mI 0), some (mJ (J 206 ((6 : Int32) + v1).toNatClampNeg)), none]) (st' := []) (S' := (L, I, J, R)) (P := ((True ∧ R 177 38 = some (21, 12, 206)) ∧ vp_in ((6 : Int32) + v1) 12)) [(.aload_n 0, (0, 0, 0, 0, 0)), (.getfield 99, (12, 38, 3, 0, 0)), (.bipush 6, (0, 0, 0, 6, 0)), (.iload_n 1, (0, 0, 0, 0, 0)), (.iadd, (0, 0, 0, 0, 0)), (.laload, (0, 0, 0, 0, 0)), (.lstore_n 3, (0, 0, 0, 0, 0)), (.iconst 0, (0, 0, 0, 0, 0)), (.istore 5, (0, 0, 0, 0, 0)), (.lload_n 3, (0, 0, 0, 0, 0)), (.lstore 6, (0, 0, 0, 0, 0))] [some (21, 12, 206)] (by decide +kernel) rfl ⟨⟨trivial, (r_177_38 hR)⟩, (in_n (n := 12) (by decide) g5.1 g5.2)⟩ ?_
      refine b_frg 0 ?_
      refine b_frg 1 ?_
      obtain ⟨t6, hw, hf⟩ := bnd_o hf
      refine wl_B (A := fun s : Int32 × Int64 => m_B G (m_rm 3 0 0) M_MD_letter Q 0 0 38 [none, none, some (mI v2), some (mJ (J 206 ((6 : Int32) + v1).toNatClampNeg)), none, some (mI s.1), some (mJ s.2), none] [] (L, I, J, R)) (B := (fun s : Int32 => m_B G (m_rm 3 0 0) M_MD_letter Q 0 0 59 [none, none, some (mI v2), some (mJ (J 206 ((6 : Int32) + v1).toNatClampNeg)), none, some (mI s), none, none] [] (L, I, J, R))) (fun s r hs hr => W_MD_letter_38 I J v2 (J 206 ((6 : Int32) + v1).toNatClampNeg) s.1 s.2 hR hs hr) hw ?_
      show m_B G (m_rm 3 0 0) M_MD_letter Q 0 0 59 [none, none, some (mI v2), some (mJ (J 206 ((6 : Int32) + v1).toNatClampNeg)), none, some (mI t6), none, none] [] (L, I, J, R)
      refine b_blk (pc' := 62) (ls' := [none, none, some (mI v2), some (mJ (J 206 ((6 : Int32) + v1).toNatClampNeg)), none, some (mI t6), none, none]) (st' := [mI t6, mI v2]) (S' := (L, I, J, R)) (P := True) [(.iload_n 2, (0, 0, 0, 0, 0)), (.iload 5, (0, 0, 0, 0, 0))] [] (by decide +kernel) rfl trivial ?_
      refine b_icmp_lt (off := 5) (tgt := 67) (by decide +kernel) (by decide) (fun h7 => ?_) (fun h7 => ?_)
      · have hf := if_t h7 hf
        refine b_blk (pc' := 73) (ls' := [none, none, some (mI v2), some (mJ (J 206 ((6 : Int32) + v1).toNatClampNeg)), none, some (mI t6), some (mI (t6 - (1 : Int32))), none]) (st' := []) (S' := (L, I, J, R)) (P := True) [(.iload 5, (0, 0, 0, 0, 0)), (.iconst 1, (0, 0, 0, 1, 0)), (.isub, (0, 0, 0, 0, 0)), (.istore 6, (0, 0, 0, 0, 0))] [] (by decide +kernel) rfl trivial ?_
        refine b_frg 5 ?_
        obtain ⟨t8, hw, hf⟩ := bnd_o hf
        refine wl_B (A := fun s : Int64 × Int32 => m_B G (m_rm 3 0 0) M_MD_letter Q 0 0 73 [none, none, some (mI v2), some (mJ s.1), none, none, some (mI s.2), none] [] (L, I, J, R)) (B := (fun s : Int64 => m_B G (m_rm 3 0 0) M_MD_letter Q 0 0 91 [none, none, none, some (mJ s), none, none, none, none] [] (L, I, J, R))) (fun s r hs hr => W_MD_letter_73 I J v2 s.1 s.2 hR hs hr) hw ?_
        show m_B G (m_rm 3 0 0) M_MD_letter Q 0 0 91 [none, none, none, some (mJ t8), none, none, none, none] [] (L, I, J, R)
        refine b_blk (pc' := 97) (ls' := [none, none, none, some (mJ t8), none, none, none, none]) (st' := [mI ((t8 - t8 / (27 : Int64) * (27 : Int64)).toInt32)]) (S' := (L, I, J, R)) (P := (True ∧ ¬ (27 : Int64) = 0)) [(.lload_n 3, (0, 0, 0, 0, 0)), (.ldc2_w 288, (0, 0, 0, 0, 27)), (.lrem, (0, 0, 0, 0, 0)), (.l2i, (0, 0, 0, 0, 0))] [] (by decide +kernel) rfl ⟨trivial, (by decide)⟩ ?_
        cases hf
        exact b_iret (by decide +kernel) rfl hk
      · have hf := if_f h7 hf
        refine b_blk (pc' := 66) (ls' := [none, none, some (mI v2), some (mJ (J 206 ((6 : Int32) + v1).toNatClampNeg)), none, some (mI t6), none, none]) (st' := [mI 0]) (S' := (L, I, J, R)) (P := True) [(.iconst 0, (0, 0, 0, 0, 0))] [] (by decide +kernel) rfl trivial ?_
        cases hf
        exact b_iret (by decide +kernel) rfl hk
    · have hf := if_t h4 hf
      refine b_blk (pc' := 21) (ls' := [some (mR (12, 0, 177)), some (mI v1), some (mI v2), none, none, none, none, none]) (st' := [mI (-1)]) (S' := (L, I, J, R)) (P := True) [(.iconst (-1), (0, 0, 0, (-1), 0))] [] (by decide +kernel) rfl trivial ?_
      cases hf
      exact b_iret (by decide +kernel) rfl hk
theorem C_MD_letter {G : MG} {L : List (Nat × Nat)} {R : Nat → Nat → Option MRef} (I : MI) (J : MJ) (v1 : Int32) (v2 : Int32) (hR : RF R) {r : Int32} (hf : F_MD_letter I J v1 v2 = some r) : m_met G 3 0 0 y_MD_letter M_MD_letter [mR (12, 0, 177), mI v1, mI v2] (L, I, J, R) (m_is (some (mI r)) (L, I, J, R)) :=
  m_met_in n_MD_letter (plainFor_of_name (by decide)) (by decide) (Nat.le_of_ble_eq_true rfl) (ls := [some (mR (12, 0, 177)), some (mI v1), some (mI v2), none, none, none, none, none]) rfl (W_MD_letter I J v1 v2 hR hf ⟨rfl, rfl⟩)
noncomputable def F_MD_isColumn (I : MI) (v1 : Int32) : Option (Int32) :=
  (F_MD_isIn v1.toInt64 (0 : Int64) (((I 204 2) - (1 : Int32)).toInt64)).bind fun r1 => gq (r1 = 0 ∨ r1 = 1) <| some (r1 : Int32)
set_option maxRecDepth 100000 in
set_option maxHeartbeats 400000 in
theorem W_MD_isColumn {G : MG} {Q : Option MV → MS → Prop} {L : List (Nat × Nat)} {R : Nat → Nat → Option MRef} (I : MI) (J : MJ) (v1 : Int32) (hR : RF R) {r : Int32} (hf : F_MD_isColumn I v1 = some r) (hk : (fun r : Int32 => Q (some (mI r)) (L, I, J, R)) r) : m_B G (m_rm 2 0 0) M_MD_isColumn Q 0 0 0 [some (mR (12, 0, 177)), some (mI v1)] [] (L, I, J, R) := by
  unfold F_MD_isColumn at hf
  refine b_blk (pc' := 12) (ls' := [some (mR (12, 0, 177)), some (mI v1)]) (st' := [mJ (((I 204 2) - (1 : Int32)).toInt64), mJ 0, mJ v1.toInt64]) (S' := (L, I, J, R)) (P := ((True ∧ R 177 36 = some (20, 4, 204)) ∧ vp_in (2 : Int32) 4)) [(.iload_n 1, (0, 0, 0, 0, 0)), (.i2l, (0, 0, 0, 0, 0)), (.lconst 0, (0, 0, 0, 0, 0)), (.aload_n 0, (0, 0, 0, 0, 0)), (.getfield 93, (12, 36, 3, 0, 0)), (.iconst 2, (0, 0, 0, 2, 0)), (.iaload, (0, 0, 0, 0, 0)), (.iconst 1, (0, 0, 0, 1, 0)), (.isub, (0, 0, 0, 0, 0)), (.i2l, (0, 0, 0, 0, 0))] [some (20, 4, 204)] (by decide +kernel) rfl ⟨⟨trivial, (r_177_36 hR)⟩, (vp_in_nI (n := 2) (N := 4) (by decide) (by decide))⟩ ?_
  obtain ⟨r1, hc1, hf⟩ := bnd_o hf
  refine b_cS (as := [mJ v1.toInt64, mJ 0, mJ (((I 204 2) - (1 : Int32)).toInt64)]) (st := []) (by decide +kernel) k_12_277 n_MD_isIn s_MD_isIn (C_MD_isIn I J v1.toInt64 (0 : Int64) (((I 204 2) - (1 : Int32)).toInt64) hR hc1) (Nat.le_of_ble_eq_true rfl) (by decide) rfl rfl (fun _ h => h) ?_
  show m_B G (m_rm 2 0 0) M_MD_isColumn Q 0 0 15 [some (mR (12, 0, 177)), some (mI v1)] [mI r1] (L, I, J, R)
  obtain ⟨g2, hf⟩ := gq_s hf
  cases hf
  exact b_zret (by decide +kernel) rfl g2 hk
theorem C_MD_isColumn {G : MG} {L : List (Nat × Nat)} {R : Nat → Nat → Option MRef} (I : MI) (J : MJ) (v1 : Int32) (hR : RF R) {r : Int32} (hf : F_MD_isColumn I v1 = some r) : m_met G 2 0 0 y_MD_isColumn M_MD_isColumn [mR (12, 0, 177), mI v1] (L, I, J, R) (m_is (some (mI r)) (L, I, J, R)) :=
  m_met_in n_MD_isColumn (plainFor_of_name (by decide)) (by decide) (Nat.le_of_ble_eq_true rfl) (ls := [some (mR (12, 0, 177)), some (mI v1)]) rfl (W_MD_isColumn I J v1 hR hf ⟨rfl, rfl⟩)
noncomputable def F_MD_isPlace (I : MI) (v1 : Int32) (v2 : Int32) : Option (Int32) :=
  if (I 177 49) = (0 : Int32) then (some (0 : Int32)) else ((F_MD_isColumn I v1).bind fun r2 => if r2 = (0 : Int32) then (some (0 : Int32)) else ((F_MD_isIn v2.toInt64 (0 : Int64) (((I 204 3) - (1 : Int32)).toInt64)).bind fun r4 => if r4 = (0 : Int32) then (some (0 : Int32)) else (some (1 : Int32))))
set_option maxRecDepth 100000 in
set_option maxHeartbeats 400000 in
theorem W_MD_isPlace {G : MG} {Q : Option MV → MS → Prop} {L : List (Nat × Nat)} {R : Nat → Nat → Option MRef} (I : MI) (J : MJ) (v1 : Int32) (v2 : Int32) (hR : RF R) {r : Int32} (hf : F_MD_isPlace I v1 v2 = some r) (hk : (fun r : Int32 => Q (some (mI r)) (L, I, J, R)) r) : m_B G (m_rm 3 0 0) M_MD_isPlace Q 0 0 0 [some (mR (12, 0, 177)), some (mI v1), some (mI v2)] [] (L, I, J, R) := by
  unfold F_MD_isPlace at hf
  refine b_blk (pc' := 4) (ls' := [some (mR (12, 0, 177)), some (mI v1), some (mI v2)]) (st' := [mI (I 177 49)]) (S' := (L, I, J, R)) (P := True) [(.aload_n 0, (0, 0, 0, 0, 0)), (.getfield 369, (12, 49, 1, 0, 0))] [] (by decide +kernel) rfl trivial ?_
  refine b_if_eq (off := 33) (tgt := 37) (by decide +kernel) (by decide) (fun h1 => ?_) (fun h1 => ?_)
  · have hf := if_t h1 hf
    refine b_blk (pc' := 38) (ls' := [some (mR (12, 0, 177)), some (mI v1), some (mI v2)]) (st' := [mI 0]) (S' := (L, I, J, R)) (P := True) [(.iconst 0, (0, 0, 0, 0, 0))] [] (by decide +kernel) rfl trivial ?_
    cases hf
    exact b_zret (by decide +kernel) rfl (by decide) hk
  · have hf := if_f h1 hf
    refine b_blk (pc' := 9) (ls' := [some (mR (12, 0, 177)), some (mI v1), some (mI v2)]) (st' := [mI v1, mR (12, 0, 177)]) (S' := (L, I, J, R)) (P := True) [(.aload_n 0, (0, 0, 0, 0, 0)), (.iload_n 1, (0, 0, 0, 0, 0))] [] (by decide +kernel) rfl trivial ?_
    obtain ⟨r2, hc2, hf⟩ := bnd_o hf
    refine b_cV (as := [mI v1]) (st := []) (by decide +kernel) k_12_385 n_MD_isColumn rfl (by decide) v_MD_isColumn (C_MD_isColumn I J v1 hR hc2) (Nat.le_of_ble_eq_true rfl) (by decide) rfl rfl (fun _ h => h) ?_
    show m_B G (m_rm 3 0 0) M_MD_isPlace Q 0 0 12 [some (mR (12, 0, 177)), some (mI v1), some (mI v2)] [mI r2] (L, I, J, R)
    refine b_if_eq (off := 25) (tgt := 37) (by decide +kernel) (by decide) (fun h3 => ?_) (fun h3 => ?_)
    · have hf := if_t h3 hf
      refine b_blk (pc' := 38) (ls' := [some (mR (12, 0, 177)), some (mI v1), some (mI v2)]) (st' := [mI 0]) (S' := (L, I, J, R)) (P := True) [(.iconst 0, (0, 0, 0, 0, 0))] [] (by decide +kernel) rfl trivial ?_
      cases hf
      exact b_zret (by decide +kernel) rfl (by decide) hk
    · have hf := if_f h3 hf
      refine b_blk (pc' := 27) (ls' := [some (mR (12, 0, 177)), some (mI v1), some (mI v2)]) (st' := [mJ (((I 204 3) - (1 : Int32)).toInt64), mJ 0, mJ v2.toInt64]) (S' := (L, I, J, R)) (P := ((True ∧ R 177 36 = some (20, 4, 204)) ∧ vp_in (3 : Int32) 4)) [(.iload_n 2, (0, 0, 0, 0, 0)), (.i2l, (0, 0, 0, 0, 0)), (.lconst 0, (0, 0, 0, 0, 0)), (.aload_n 0, (0, 0, 0, 0, 0)), (.getfield 93, (12, 36, 3, 0, 0)), (.iconst 3, (0, 0, 0, 3, 0)), (.iaload, (0, 0, 0, 0, 0)), (.iconst 1, (0, 0, 0, 1, 0)), (.isub, (0, 0, 0, 0, 0)), (.i2l, (0, 0, 0, 0, 0))] [some (20, 4, 204)] (by decide +kernel) rfl ⟨⟨trivial, (r_177_36 hR)⟩, (vp_in_nI (n := 3) (N := 4) (by decide) (by decide))⟩ ?_
      obtain ⟨r4, hc4, hf⟩ := bnd_o hf
      refine b_cS (as := [mJ v2.toInt64, mJ 0, mJ (((I 204 3) - (1 : Int32)).toInt64)]) (st := []) (by decide +kernel) k_12_277 n_MD_isIn s_MD_isIn (C_MD_isIn I J v2.toInt64 (0 : Int64) (((I 204 3) - (1 : Int32)).toInt64) hR hc4) (Nat.le_of_ble_eq_true rfl) (by decide) rfl rfl (fun _ h => h) ?_
      show m_B G (m_rm 3 0 0) M_MD_isPlace Q 0 0 30 [some (mR (12, 0, 177)), some (mI v1), some (mI v2)] [mI r4] (L, I, J, R)
      refine b_if_eq (off := 7) (tgt := 37) (by decide +kernel) (by decide) (fun h5 => ?_) (fun h5 => ?_)
      · have hf := if_t h5 hf
        refine b_blk (pc' := 38) (ls' := [some (mR (12, 0, 177)), some (mI v1), some (mI v2)]) (st' := [mI 0]) (S' := (L, I, J, R)) (P := True) [(.iconst 0, (0, 0, 0, 0, 0))] [] (by decide +kernel) rfl trivial ?_
        cases hf
        exact b_zret (by decide +kernel) rfl (by decide) hk
      · have hf := if_f h5 hf
        refine b_blk (pc' := 38) (ls' := [some (mR (12, 0, 177)), some (mI v1), some (mI v2)]) (st' := [mI 1]) (S' := (L, I, J, R)) (P := True) [(.iconst 1, (0, 0, 0, 1, 0)), (.goto 4, (0, 38, 0, 0, 0))] [] (by decide +kernel) rfl trivial ?_
        cases hf
        exact b_zret (by decide +kernel) rfl (by decide) hk
theorem C_MD_isPlace {G : MG} {L : List (Nat × Nat)} {R : Nat → Nat → Option MRef} (I : MI) (J : MJ) (v1 : Int32) (v2 : Int32) (hR : RF R) {r : Int32} (hf : F_MD_isPlace I v1 v2 = some r) : m_met G 3 0 0 y_MD_isPlace M_MD_isPlace [mR (12, 0, 177), mI v1, mI v2] (L, I, J, R) (m_is (some (mI r)) (L, I, J, R)) :=
  m_met_in n_MD_isPlace (plainFor_of_name (by decide)) (by decide) (Nat.le_of_ble_eq_true rfl) (ls := [some (mR (12, 0, 177)), some (mI v1), some (mI v2)]) rfl (W_MD_isPlace I J v1 v2 hR hf ⟨rfl, rfl⟩)
noncomputable def F_MD_isPost (I : MI) (v1 : Int32) (v2 : Int32) : Option (Int32) :=
  gd ((1 : Int32) + v1) 176 <| if (((I 213 ((1 : Int32) + v1).toNatClampNeg) >>> (v2 &&& 31)) &&& (1 : Int32)) = (1 : Int32) then (some (1 : Int32)) else (some (0 : Int32))
set_option maxRecDepth 100000 in
set_option maxHeartbeats 400000 in
theorem W_MD_isPost {G : MG} {Q : Option MV → MS → Prop} {L : List (Nat × Nat)} {R : Nat → Nat → Option MRef} (I : MI) (J : MJ) (v1 : Int32) (v2 : Int32) (hR : RF R) {r : Int32} (hf : F_MD_isPost I v1 v2 = some r) (hk : (fun r : Int32 => Q (some (mI r)) (L, I, J, R)) r) : m_B G (m_rm 1 0 0) M_MD_isPost Q 0 0 0 [some (mR (12, 0, 177)), some (mI v1), some (mI v2)] [] (L, I, J, R) := by
  unfold F_MD_isPost at hf
  obtain ⟨g1, hf⟩ := gd_s hf
  refine b_blk (pc' := 13) (ls' := [some (mR (12, 0, 177)), some (mI v1), some (mI v2)]) (st' := [mI 1, mI (((I 213 ((1 : Int32) + v1).toNatClampNeg) >>> (v2 &&& 31)) &&& (1 : Int32))]) (S' := (L, I, J, R)) (P := ((True ∧ R 177 51 = some (20, 176, 213)) ∧ vp_in ((1 : Int32) + v1) 176)) [(.aload_n 0, (0, 0, 0, 0, 0)), (.getfield 121, (12, 51, 3, 0, 0)), (.iconst 1, (0, 0, 0, 1, 0)), (.iload_n 1, (0, 0, 0, 0, 0)), (.iadd, (0, 0, 0, 0, 0)), (.iaload, (0, 0, 0, 0, 0)), (.iload_n 2, (0, 0, 0, 0, 0)), (.ishr, (0, 0, 0, 0, 0)), (.iconst 1, (0, 0, 0, 1, 0)), (.iand, (0, 0, 0, 0, 0)), (.iconst 1, (0, 0, 0, 1, 0))] [some (20, 176, 213)] (by decide +kernel) rfl ⟨⟨trivial, (r_177_51 hR)⟩, (in_n (n := 176) (by decide) g1.1 g1.2)⟩ ?_
  refine b_icmp_ne (off := 7) (tgt := 20) (by decide +kernel) (by decide) (fun h2 => ?_) (fun h2 => ?_)
  · have hf := if_f h2 hf
    refine b_blk (pc' := 21) (ls' := [some (mR (12, 0, 177)), some (mI v1), some (mI v2)]) (st' := [mI 0]) (S' := (L, I, J, R)) (P := True) [(.iconst 0, (0, 0, 0, 0, 0))] [] (by decide +kernel) rfl trivial ?_
    cases hf
    exact b_zret (by decide +kernel) rfl (by decide) hk
  · have hf := if_t h2 hf
    refine b_blk (pc' := 21) (ls' := [some (mR (12, 0, 177)), some (mI v1), some (mI v2)]) (st' := [mI 1]) (S' := (L, I, J, R)) (P := True) [(.iconst 1, (0, 0, 0, 1, 0)), (.goto 4, (0, 21, 0, 0, 0))] [] (by decide +kernel) rfl trivial ?_
    cases hf
    exact b_zret (by decide +kernel) rfl (by decide) hk
theorem C_MD_isPost {G : MG} {L : List (Nat × Nat)} {R : Nat → Nat → Option MRef} (I : MI) (J : MJ) (v1 : Int32) (v2 : Int32) (hR : RF R) {r : Int32} (hf : F_MD_isPost I v1 v2 = some r) : m_met G 1 0 0 y_MD_isPost M_MD_isPost [mR (12, 0, 177), mI v1, mI v2] (L, I, J, R) (m_is (some (mI r)) (L, I, J, R)) :=
  m_met_in n_MD_isPost (plainFor_of_name (by decide)) (by decide) (Nat.le_of_ble_eq_true rfl) (ls := [some (mR (12, 0, 177)), some (mI v1), some (mI v2)]) rfl (W_MD_isPost I J v1 v2 hR hf ⟨rfl, rfl⟩)
noncomputable def F_MD_stakesAt_5 (I : MI) (v1 : Int32) (v2 : Int32) (v3 : Int32) (v4 : Int32) : Option ((Int32 × Int32) ⊕ (Int32)) :=
  (F_MD_fenceMany I).bind fun r1 => if r1 ≤ v4 then (some (.inr (v3 : Int32))) else ((F_MD_rowOf I v4 v1).bind fun r3 => if r3 = v2 then (some (.inl ((v3 + 1 : Int32), (v4 + 1 : Int32)))) else (some (.inl ((v3 : Int32), (v4 + 1 : Int32)))))
set_option maxRecDepth 100000 in
set_option maxHeartbeats 400000 in
theorem W_MD_stakesAt_5 {G : MG} {Q : Option MV → MS → Prop} {L : List (Nat × Nat)} {R : Nat → Nat → Option MRef} (I : MI) (J : MJ) (v1 : Int32) (v2 : Int32) (v3 : Int32) (v4 : Int32) (hR : RF R) {r : (Int32 × Int32) ⊕ (Int32)} (hf : F_MD_stakesAt_5 I v1 v2 v3 v4 = some r) (hk : (Sum.elim (fun s : Int32 × Int32 => m_B G (m_rm 2 0 0) M_MD_stakesAt Q 0 0 5 [some (mR (12, 0, 177)), some (mI v1), some (mI v2), some (mI s.1), some (mI s.2)] [] (L, I, J, R)) (fun s : Int32 => m_B G (m_rm 2 0 0) M_MD_stakesAt Q 0 0 34 [none, none, none, some (mI s), none] [] (L, I, J, R))) r) : m_B G (m_rm 2 0 0) M_MD_stakesAt Q 0 0 5 [some (mR (12, 0, 177)), some (mI v1), some (mI v2), some (mI v3), some (mI v4)] [] (L, I, J, R) := by
  unfold F_MD_stakesAt_5 at hf
  refine b_blk (pc' := 8) (ls' := [some (mR (12, 0, 177)), some (mI v1), some (mI v2), some (mI v3), some (mI v4)]) (st' := [mR (12, 0, 177), mI v4]) (S' := (L, I, J, R)) (P := True) [(.iload 4, (0, 0, 0, 0, 0)), (.aload_n 0, (0, 0, 0, 0, 0))] [] (by decide +kernel) rfl trivial ?_
  obtain ⟨r1, hc1, hf⟩ := bnd_o hf
  refine b_cV (as := []) (st := [mI v4]) (by decide +kernel) k_12_382 n_MD_fenceMany rfl (by decide) v_MD_fenceMany (C_MD_fenceMany I J hR hc1) (Nat.le_of_ble_eq_true rfl) (by decide) rfl rfl (fun _ h => h) ?_
  show m_B G (m_rm 2 0 0) M_MD_stakesAt Q 0 0 11 [some (mR (12, 0, 177)), some (mI v1), some (mI v2), some (mI v3), some (mI v4)] [mI r1, mI v4] (L, I, J, R)
  refine b_icmp_ge (off := 23) (tgt := 34) (by decide +kernel) (by decide) (fun h2 => ?_) (fun h2 => ?_)
  · have hf := if_t h2 hf
    refine b_frg 0 ?_
    refine b_frg 1 ?_
    refine b_frg 2 ?_
    refine b_frg 4 ?_
    cases hf
    exact hk
  · have hf := if_f h2 hf
    refine b_blk (pc' := 18) (ls' := [some (mR (12, 0, 177)), some (mI v1), some (mI v2), some (mI v3), some (mI v4)]) (st' := [mI v1, mI v4, mR (12, 0, 177)]) (S' := (L, I, J, R)) (P := True) [(.aload_n 0, (0, 0, 0, 0, 0)), (.iload 4, (0, 0, 0, 0, 0)), (.iload_n 1, (0, 0, 0, 0, 0))] [] (by decide +kernel) rfl trivial ?_
    obtain ⟨r3, hc3, hf⟩ := bnd_o hf
    refine b_cV (as := [mI v4, mI v1]) (st := []) (by decide +kernel) k_12_392 n_MD_rowOf rfl (by decide) v_MD_rowOf (C_MD_rowOf I J v4 v1 hR hc3) (Nat.le_of_ble_eq_true rfl) (by decide) rfl rfl (fun _ h => h) ?_
    show m_B G (m_rm 2 0 0) M_MD_stakesAt Q 0 0 21 [some (mR (12, 0, 177)), some (mI v1), some (mI v2), some (mI v3), some (mI v4)] [mI r3] (L, I, J, R)
    refine b_blk (pc' := 22) (ls' := [some (mR (12, 0, 177)), some (mI v1), some (mI v2), some (mI v3), some (mI v4)]) (st' := [mI v2, mI r3]) (S' := (L, I, J, R)) (P := True) [(.iload_n 2, (0, 0, 0, 0, 0))] [] (by decide +kernel) rfl trivial ?_
    refine b_icmp_ne (off := 6) (tgt := 28) (by decide +kernel) (by decide) (fun h4 => ?_) (fun h4 => ?_)
    · have hf := if_f h4 hf
      refine b_blk (pc' := 5) (ls' := [some (mR (12, 0, 177)), some (mI v1), some (mI v2), some (mI v3), some (mI (v4 + 1))]) (st' := []) (S' := (L, I, J, R)) (P := True) [(.iinc 4 1, (0, 0, 0, 1, 0)), (.goto (-26), (0, 5, 0, 0, 0))] [] (by decide +kernel) rfl trivial ?_
      cases hf
      exact hk
    · have hf := if_t h4 hf
      refine b_blk (pc' := 5) (ls' := [some (mR (12, 0, 177)), some (mI v1), some (mI v2), some (mI (v3 + 1)), some (mI (v4 + 1))]) (st' := []) (S' := (L, I, J, R)) (P := True) [(.iinc 3 1, (0, 0, 0, 1, 0)), (.iinc 4 1, (0, 0, 0, 1, 0)), (.goto (-26), (0, 5, 0, 0, 0))] [] (by decide +kernel) rfl trivial ?_
      cases hf
      exact hk
noncomputable def F_MD_stakesAt (I : MI) (v1 : Int32) (v2 : Int32) : Option (Int32) :=
  (wl (fun s : Int32 × Int32 => F_MD_stakesAt_5 I v1 v2 s.1 s.2) ((0 : Int32), (0 : Int32))).bind fun t1 => some (t1 : Int32)
set_option maxRecDepth 100000 in
set_option maxHeartbeats 400000 in
theorem W_MD_stakesAt {G : MG} {Q : Option MV → MS → Prop} {L : List (Nat × Nat)} {R : Nat → Nat → Option MRef} (I : MI) (J : MJ) (v1 : Int32) (v2 : Int32) (hR : RF R) {r : Int32} (hf : F_MD_stakesAt I v1 v2 = some r) (hk : (fun r : Int32 => Q (some (mI r)) (L, I, J, R)) r) : m_B G (m_rm 2 0 0) M_MD_stakesAt Q 0 0 0 [some (mR (12, 0, 177)), some (mI v1), some (mI v2), none, none] [] (L, I, J, R) := by
  unfold F_MD_stakesAt at hf
  refine b_blk (pc' := 5) (ls' := [some (mR (12, 0, 177)), some (mI v1), some (mI v2), some (mI 0), some (mI 0)]) (st' := []) (S' := (L, I, J, R)) (P := True) [(.iconst 0, (0, 0, 0, 0, 0)), (.istore_n 3, (0, 0, 0, 0, 0)), (.iconst 0, (0, 0, 0, 0, 0)), (.istore 4, (0, 0, 0, 0, 0))] [] (by decide +kernel) rfl trivial ?_
  obtain ⟨t1, hw, hf⟩ := bnd_o hf
  refine wl_B (A := fun s : Int32 × Int32 => m_B G (m_rm 2 0 0) M_MD_stakesAt Q 0 0 5 [some (mR (12, 0, 177)), some (mI v1), some (mI v2), some (mI s.1), some (mI s.2)] [] (L, I, J, R)) (B := (fun s : Int32 => m_B G (m_rm 2 0 0) M_MD_stakesAt Q 0 0 34 [none, none, none, some (mI s), none] [] (L, I, J, R))) (fun s r hs hr => W_MD_stakesAt_5 I J v1 v2 s.1 s.2 hR hs hr) hw ?_
  show m_B G (m_rm 2 0 0) M_MD_stakesAt Q 0 0 34 [none, none, none, some (mI t1), none] [] (L, I, J, R)
  refine b_blk (pc' := 35) (ls' := [none, none, none, some (mI t1), none]) (st' := [mI t1]) (S' := (L, I, J, R)) (P := True) [(.iload_n 3, (0, 0, 0, 0, 0))] [] (by decide +kernel) rfl trivial ?_
  cases hf
  exact b_iret (by decide +kernel) rfl hk
theorem C_MD_stakesAt {G : MG} {L : List (Nat × Nat)} {R : Nat → Nat → Option MRef} (I : MI) (J : MJ) (v1 : Int32) (v2 : Int32) (hR : RF R) {r : Int32} (hf : F_MD_stakesAt I v1 v2 = some r) : m_met G 2 0 0 y_MD_stakesAt M_MD_stakesAt [mR (12, 0, 177), mI v1, mI v2] (L, I, J, R) (m_is (some (mI r)) (L, I, J, R)) :=
  m_met_in n_MD_stakesAt (plainFor_of_name (by decide)) (by decide) (Nat.le_of_ble_eq_true rfl) (ls := [some (mR (12, 0, 177)), some (mI v1), some (mI v2), none, none]) rfl (W_MD_stakesAt I J v1 v2 hR hf ⟨rfl, rfl⟩)
noncomputable def F_MD_place (I : MI) (v1 : Int32) (v2 : Int32) (v3 : Int32) : Option (Int32) :=
  (F_MD_isPlace I v1 v2).bind fun r1 => if r1 = (0 : Int32) then (some ((-1) : Int32)) else (if v3 = (0 : Int32) then ((F_MD_whoseIs I v1 v2).bind fun r9 => some (r9 : Int32)) else (if v3 = (1 : Int32) then ((F_MD_isPost I v1 v2).bind fun r7 => if r7 = (0 : Int32) then (some (0 : Int32)) else (some (1 : Int32))) else (if v3 = (2 : Int32) then ((F_MD_stakesAt I v1 v2).bind fun r6 => some (r6 : Int32)) else (some ((-1) : Int32)))))
set_option maxRecDepth 100000 in
set_option maxHeartbeats 400000 in
theorem W_MD_place {G : MG} {Q : Option MV → MS → Prop} {L : List (Nat × Nat)} {R : Nat → Nat → Option MRef} (I : MI) (J : MJ) (v1 : Int32) (v2 : Int32) (v3 : Int32) (hR : RF R) {r : Int32} (hf : F_MD_place I v1 v2 v3 = some r) (hk : (fun r : Int32 => Q (some (mI r)) (L, I, J, R)) r) : m_B G (m_rm 4 0 0) M_MD_place Q 0 0 0 [some (mR (12, 0, 177)), some (mI v1), some (mI v2), some (mI v3)] [] (L, I, J, R) := by
  unfold F_MD_place at hf
  refine b_blk (pc' := 3) (ls' := [some (mR (12, 0, 177)), some (mI v1), some (mI v2), some (mI v3)]) (st' := [mI v2, mI v1, mR (12, 0, 177)]) (S' := (L, I, J, R)) (P := True) [(.aload_n 0, (0, 0, 0, 0, 0)), (.iload_n 1, (0, 0, 0, 0, 0)), (.iload_n 2, (0, 0, 0, 0, 0))] [] (by decide +kernel) rfl trivial ?_
  obtain ⟨r1, hc1, hf⟩ := bnd_o hf
  refine b_cV (as := [mI v1, mI v2]) (st := []) (by decide +kernel) k_12_487 n_MD_isPlace rfl (by decide) v_MD_isPlace (C_MD_isPlace I J v1 v2 hR hc1) (Nat.le_of_ble_eq_true rfl) (by decide) rfl rfl (fun _ h => h) ?_
  show m_B G (m_rm 4 0 0) M_MD_place Q 0 0 6 [some (mR (12, 0, 177)), some (mI v1), some (mI v2), some (mI v3)] [mI r1] (L, I, J, R)
  refine b_if_ne (off := 5) (tgt := 11) (by decide +kernel) (by decide) (fun h2 => ?_) (fun h2 => ?_)
  · have hf := if_f h2 hf
    refine b_blk (pc' := 12) (ls' := [some (mR (12, 0, 177)), some (mI v1), some (mI v2), some (mI v3)]) (st' := [mI v3]) (S' := (L, I, J, R)) (P := True) [(.iload_n 3, (0, 0, 0, 0, 0))] [] (by decide +kernel) rfl trivial ?_
    refine b_if_ne (off := 12) (tgt := 24) (by decide +kernel) (by decide) (fun h3 => ?_) (fun h3 => ?_)
    · have hf := if_f h3 hf
      refine b_blk (pc' := 26) (ls' := [some (mR (12, 0, 177)), some (mI v1), some (mI v2), some (mI v3)]) (st' := [mI 1, mI v3]) (S' := (L, I, J, R)) (P := True) [(.iload_n 3, (0, 0, 0, 0, 0)), (.iconst 1, (0, 0, 0, 1, 0))] [] (by decide +kernel) rfl trivial ?_
      refine b_icmp_ne (off := 20) (tgt := 46) (by decide +kernel) (by decide) (fun h4 => ?_) (fun h4 => ?_)
      · have hf := if_f h4 hf
        refine b_blk (pc' := 48) (ls' := [some (mR (12, 0, 177)), some (mI v1), some (mI v2), some (mI v3)]) (st' := [mI 2, mI v3]) (S' := (L, I, J, R)) (P := True) [(.iload_n 3, (0, 0, 0, 0, 0)), (.iconst 2, (0, 0, 0, 2, 0))] [] (by decide +kernel) rfl trivial ?_
        refine b_icmp_ne (off := 12) (tgt := 60) (by decide +kernel) (by decide) (fun h5 => ?_) (fun h5 => ?_)
        · have hf := if_f h5 hf
          refine b_blk (pc' := 61) (ls' := [some (mR (12, 0, 177)), some (mI v1), some (mI v2), some (mI v3)]) (st' := [mI (-1)]) (S' := (L, I, J, R)) (P := True) [(.iconst (-1), (0, 0, 0, (-1), 0))] [] (by decide +kernel) rfl trivial ?_
          cases hf
          exact b_iret (by decide +kernel) rfl hk
        · have hf := if_t h5 hf
          refine b_blk (pc' := 54) (ls' := [some (mR (12, 0, 177)), some (mI v1), some (mI v2), some (mI v3)]) (st' := [mI v2, mI v1, mR (12, 0, 177)]) (S' := (L, I, J, R)) (P := True) [(.aload_n 0, (0, 0, 0, 0, 0)), (.iload_n 1, (0, 0, 0, 0, 0)), (.iload_n 2, (0, 0, 0, 0, 0))] [] (by decide +kernel) rfl trivial ?_
          obtain ⟨r6, hc6, hf⟩ := bnd_o hf
          refine b_cV (as := [mI v1, mI v2]) (st := []) (by decide +kernel) k_12_490 n_MD_stakesAt rfl (by decide) v_MD_stakesAt (C_MD_stakesAt I J v1 v2 hR hc6) (Nat.le_of_ble_eq_true rfl) (by decide) rfl rfl (fun _ h => h) ?_
          show m_B G (m_rm 4 0 0) M_MD_place Q 0 0 57 [some (mR (12, 0, 177)), some (mI v1), some (mI v2), some (mI v3)] [mI r6] (L, I, J, R)
          refine b_blk (pc' := 61) (ls' := [some (mR (12, 0, 177)), some (mI v1), some (mI v2), some (mI v3)]) (st' := [mI r6]) (S' := (L, I, J, R)) (P := True) [(.goto 4, (0, 61, 0, 0, 0))] [] (by decide +kernel) rfl trivial ?_
          cases hf
          exact b_iret (by decide +kernel) rfl hk
      · have hf := if_t h4 hf
        refine b_blk (pc' := 32) (ls' := [some (mR (12, 0, 177)), some (mI v1), some (mI v2), some (mI v3)]) (st' := [mI v2, mI v1, mR (12, 0, 177)]) (S' := (L, I, J, R)) (P := True) [(.aload_n 0, (0, 0, 0, 0, 0)), (.iload_n 1, (0, 0, 0, 0, 0)), (.iload_n 2, (0, 0, 0, 0, 0))] [] (by decide +kernel) rfl trivial ?_
        obtain ⟨r7, hc7, hf⟩ := bnd_o hf
        refine b_cV (as := [mI v1, mI v2]) (st := []) (by decide +kernel) k_12_436 n_MD_isPost rfl (by decide) v_MD_isPost (C_MD_isPost I J v1 v2 hR hc7) (Nat.le_of_ble_eq_true rfl) (by decide) rfl rfl (fun _ h => h) ?_
        show m_B G (m_rm 4 0 0) M_MD_place Q 0 0 35 [some (mR (12, 0, 177)), some (mI v1), some (mI v2), some (mI v3)] [mI r7] (L, I, J, R)
        refine b_if_eq (off := 7) (tgt := 42) (by decide +kernel) (by decide) (fun h8 => ?_) (fun h8 => ?_)
        · have hf := if_t h8 hf
          refine b_blk (pc' := 61) (ls' := [some (mR (12, 0, 177)), some (mI v1), some (mI v2), some (mI v3)]) (st' := [mI 0]) (S' := (L, I, J, R)) (P := True) [(.iconst 0, (0, 0, 0, 0, 0)), (.goto 18, (0, 61, 0, 0, 0))] [] (by decide +kernel) rfl trivial ?_
          cases hf
          exact b_iret (by decide +kernel) rfl hk
        · have hf := if_f h8 hf
          refine b_blk (pc' := 61) (ls' := [some (mR (12, 0, 177)), some (mI v1), some (mI v2), some (mI v3)]) (st' := [mI 1]) (S' := (L, I, J, R)) (P := True) [(.iconst 1, (0, 0, 0, 1, 0)), (.goto 22, (0, 61, 0, 0, 0))] [] (by decide +kernel) rfl trivial ?_
          cases hf
          exact b_iret (by decide +kernel) rfl hk
    · have hf := if_t h3 hf
      refine b_blk (pc' := 18) (ls' := [some (mR (12, 0, 177)), some (mI v1), some (mI v2), some (mI v3)]) (st' := [mI v2, mI v1, mR (12, 0, 177)]) (S' := (L, I, J, R)) (P := True) [(.aload_n 0, (0, 0, 0, 0, 0)), (.iload_n 1, (0, 0, 0, 0, 0)), (.iload_n 2, (0, 0, 0, 0, 0))] [] (by decide +kernel) rfl trivial ?_
      obtain ⟨r9, hc9, hf⟩ := bnd_o hf
      refine b_cV (as := [mI v1, mI v2]) (st := []) (by decide +kernel) k_12_395 n_MD_whoseIs rfl (by decide) v_MD_whoseIs (C_MD_whoseIs I J v1 v2 hR hc9) (Nat.le_of_ble_eq_true rfl) (by decide) rfl rfl (fun _ h => h) ?_
      show m_B G (m_rm 4 0 0) M_MD_place Q 0 0 21 [some (mR (12, 0, 177)), some (mI v1), some (mI v2), some (mI v3)] [mI r9] (L, I, J, R)
      refine b_blk (pc' := 61) (ls' := [some (mR (12, 0, 177)), some (mI v1), some (mI v2), some (mI v3)]) (st' := [mI r9]) (S' := (L, I, J, R)) (P := True) [(.goto 40, (0, 61, 0, 0, 0))] [] (by decide +kernel) rfl trivial ?_
      cases hf
      exact b_iret (by decide +kernel) rfl hk
  · have hf := if_t h2 hf
    refine b_blk (pc' := 10) (ls' := [some (mR (12, 0, 177)), some (mI v1), some (mI v2), some (mI v3)]) (st' := [mI (-1)]) (S' := (L, I, J, R)) (P := True) [(.iconst (-1), (0, 0, 0, (-1), 0))] [] (by decide +kernel) rfl trivial ?_
    cases hf
    exact b_iret (by decide +kernel) rfl hk
theorem C_MD_place {G : MG} {L : List (Nat × Nat)} {R : Nat → Nat → Option MRef} (I : MI) (J : MJ) (v1 : Int32) (v2 : Int32) (v3 : Int32) (hR : RF R) {r : Int32} (hf : F_MD_place I v1 v2 v3 = some r) : m_met G 4 0 0 y_MD_place M_MD_place [mR (12, 0, 177), mI v1, mI v2, mI v3] (L, I, J, R) (m_is (some (mI r)) (L, I, J, R)) :=
  m_met_in n_MD_place (plainFor_of_name (by decide)) (by decide) (Nat.le_of_ble_eq_true rfl) (ls := [some (mR (12, 0, 177)), some (mI v1), some (mI v2), some (mI v3)]) rfl (W_MD_place I J v1 v2 v3 hR hf ⟨rfl, rfl⟩)
noncomputable def F_MD_ageOf (I : MI) (v1 : Int32) : Option (Int32) :=
  gd ((7 : Int32) + ((8 : Int32) * v1)) 176 <| some (I 213 ((7 : Int32) + ((8 : Int32) * v1)).toNatClampNeg : Int32)
set_option maxRecDepth 100000 in
set_option maxHeartbeats 400000 in
theorem W_MD_ageOf {G : MG} {Q : Option MV → MS → Prop} {L : List (Nat × Nat)} {R : Nat → Nat → Option MRef} (I : MI) (J : MJ) (v1 : Int32) (hR : RF R) {r : Int32} (hf : F_MD_ageOf I v1 = some r) (hk : (fun r : Int32 => Q (some (mI r)) (L, I, J, R)) r) : m_B G (m_rm 1 0 0) M_MD_ageOf Q 0 0 0 [some (mR (12, 0, 177)), some (mI v1)] [] (L, I, J, R) := by
  unfold F_MD_ageOf at hf
  obtain ⟨g1, hf⟩ := gd_s hf
  refine b_blk (pc' := 12) (ls' := [some (mR (12, 0, 177)), some (mI v1)]) (st' := [mI (I 213 ((7 : Int32) + ((8 : Int32) * v1)).toNatClampNeg)]) (S' := (L, I, J, R)) (P := ((True ∧ R 177 51 = some (20, 176, 213)) ∧ vp_in ((7 : Int32) + ((8 : Int32) * v1)) 176)) [(.aload_n 0, (0, 0, 0, 0, 0)), (.getfield 121, (12, 51, 3, 0, 0)), (.bipush 7, (0, 0, 0, 7, 0)), (.bipush 8, (0, 0, 0, 8, 0)), (.iload_n 1, (0, 0, 0, 0, 0)), (.imul, (0, 0, 0, 0, 0)), (.iadd, (0, 0, 0, 0, 0)), (.iaload, (0, 0, 0, 0, 0))] [some (20, 176, 213)] (by decide +kernel) rfl ⟨⟨trivial, (r_177_51 hR)⟩, (in_n (n := 176) (by decide) g1.1 g1.2)⟩ ?_
  cases hf
  exact b_iret (by decide +kernel) rfl hk
theorem C_MD_ageOf {G : MG} {L : List (Nat × Nat)} {R : Nat → Nat → Option MRef} (I : MI) (J : MJ) (v1 : Int32) (hR : RF R) {r : Int32} (hf : F_MD_ageOf I v1 = some r) : m_met G 1 0 0 y_MD_ageOf M_MD_ageOf [mR (12, 0, 177), mI v1] (L, I, J, R) (m_is (some (mI r)) (L, I, J, R)) :=
  m_met_in n_MD_ageOf (plainFor_of_name (by decide)) (by decide) (Nat.le_of_ble_eq_true rfl) (ls := [some (mR (12, 0, 177)), some (mI v1)]) rfl (W_MD_ageOf I J v1 hR hf ⟨rfl, rfl⟩)
noncomputable def F_MD_fence (I : MI) (v1 : Int32) (v2 : Int32) : Option (Int32) :=
  (F_MD_isFence I v1).bind fun r1 => if r1 = (0 : Int32) then (some ((-1) : Int32)) else (if v2 = 0 then ((F_MD_ageOf I v1).bind fun r4 => some (r4 : Int32)) else (if v2 = 1 then ((F_MD_fieldOf I v1).bind fun r6 => some (r6 : Int32)) else (if v2 = 2 then ((F_MD_leftOf I v1).bind fun r8 => some (r8 : Int32)) else (if v2 = 3 then ((F_MD_isCut I v1).bind fun r10 => if r10 = (0 : Int32) then (some (0 : Int32)) else (some (1 : Int32))) else (some ((-1) : Int32))))))
set_option maxRecDepth 100000 in
set_option maxHeartbeats 400000 in
theorem W_MD_fence {G : MG} {Q : Option MV → MS → Prop} {L : List (Nat × Nat)} {R : Nat → Nat → Option MRef} (I : MI) (J : MJ) (v1 : Int32) (v2 : Int32) (hR : RF R) {r : Int32} (hf : F_MD_fence I v1 v2 = some r) (hk : (fun r : Int32 => Q (some (mI r)) (L, I, J, R)) r) : m_B G (m_rm 4 0 0) M_MD_fence Q 0 0 0 [some (mR (12, 0, 177)), some (mI v1), some (mI v2)] [] (L, I, J, R) := by
  unfold F_MD_fence at hf
  refine b_blk (pc' := 2) (ls' := [some (mR (12, 0, 177)), some (mI v1), some (mI v2)]) (st' := [mI v1, mR (12, 0, 177)]) (S' := (L, I, J, R)) (P := True) [(.aload_n 0, (0, 0, 0, 0, 0)), (.iload_n 1, (0, 0, 0, 0, 0))] [] (by decide +kernel) rfl trivial ?_
  obtain ⟨r1, hc1, hf⟩ := bnd_o hf
  refine b_cV (as := [mI v1]) (st := []) (by decide +kernel) k_12_482 n_MD_isFence rfl (by decide) v_MD_isFence (C_MD_isFence I J v1 hR hc1) (Nat.le_of_ble_eq_true rfl) (by decide) rfl rfl (fun _ h => h) ?_
  show m_B G (m_rm 4 0 0) M_MD_fence Q 0 0 5 [some (mR (12, 0, 177)), some (mI v1), some (mI v2)] [mI r1] (L, I, J, R)
  refine b_if_ne (off := 5) (tgt := 10) (by decide +kernel) (by decide) (fun h2 => ?_) (fun h2 => ?_)
  · have hf := if_f h2 hf
    refine b_blk (pc' := 11) (ls' := [some (mR (12, 0, 177)), some (mI v1), some (mI v2)]) (st' := [mI v2]) (S' := (L, I, J, R)) (P := True) [(.iload_n 2, (0, 0, 0, 0, 0))] [] (by decide +kernel) rfl trivial ?_
    by_cases h3 : v2 = 0
    · refine b_tswV (tgt := 40) (off := 29) (lo := 0) (hi := 3) (dflt := 61) (offs := #[29, 35, 41, 47]) (len := 29) h3 (by decide +kernel) (by decide) (by decide) (by decide) (by decide) ?_
      have hf := if_t h3 hf
      refine b_blk (pc' := 42) (ls' := [some (mR (12, 0, 177)), some (mI v1), some (mI v2)]) (st' := [mI v1, mR (12, 0, 177)]) (S' := (L, I, J, R)) (P := True) [(.aload_n 0, (0, 0, 0, 0, 0)), (.iload_n 1, (0, 0, 0, 0, 0))] [] (by decide +kernel) rfl trivial ?_
      obtain ⟨r4, hc4, hf⟩ := bnd_o hf
      refine b_cV (as := [mI v1]) (st := []) (by decide +kernel) k_12_452 n_MD_ageOf rfl (by decide) v_MD_ageOf (C_MD_ageOf I J v1 hR hc4) (Nat.le_of_ble_eq_true rfl) (by decide) rfl rfl (fun _ h => h) ?_
      show m_B G (m_rm 4 0 0) M_MD_fence Q 0 0 45 [some (mR (12, 0, 177)), some (mI v1), some (mI v2)] [mI r4] (L, I, J, R)
      cases hf
      exact b_iret (by decide +kernel) rfl hk
    have hf := if_f h3 hf
    by_cases h5 : v2 = 1
    · refine b_tswV (tgt := 46) (off := 35) (lo := 0) (hi := 3) (dflt := 61) (offs := #[29, 35, 41, 47]) (len := 29) h5 (by decide +kernel) (by decide) (by decide) (by decide) (by decide) ?_
      have hf := if_t h5 hf
      refine b_blk (pc' := 48) (ls' := [some (mR (12, 0, 177)), some (mI v1), some (mI v2)]) (st' := [mI v1, mR (12, 0, 177)]) (S' := (L, I, J, R)) (P := True) [(.aload_n 0, (0, 0, 0, 0, 0)), (.iload_n 1, (0, 0, 0, 0, 0))] [] (by decide +kernel) rfl trivial ?_
      obtain ⟨r6, hc6, hf⟩ := bnd_o hf
      refine b_cV (as := [mI v1]) (st := []) (by decide +kernel) k_12_479 n_MD_fieldOf rfl (by decide) v_MD_fieldOf (C_MD_fieldOf I J v1 hR hc6) (Nat.le_of_ble_eq_true rfl) (by decide) rfl rfl (fun _ h => h) ?_
      show m_B G (m_rm 4 0 0) M_MD_fence Q 0 0 51 [some (mR (12, 0, 177)), some (mI v1), some (mI v2)] [mI r6] (L, I, J, R)
      cases hf
      exact b_iret (by decide +kernel) rfl hk
    have hf := if_f h5 hf
    by_cases h7 : v2 = 2
    · refine b_tswV (tgt := 52) (off := 41) (lo := 0) (hi := 3) (dflt := 61) (offs := #[29, 35, 41, 47]) (len := 29) h7 (by decide +kernel) (by decide) (by decide) (by decide) (by decide) ?_
      have hf := if_t h7 hf
      refine b_blk (pc' := 54) (ls' := [some (mR (12, 0, 177)), some (mI v1), some (mI v2)]) (st' := [mI v1, mR (12, 0, 177)]) (S' := (L, I, J, R)) (P := True) [(.aload_n 0, (0, 0, 0, 0, 0)), (.iload_n 1, (0, 0, 0, 0, 0))] [] (by decide +kernel) rfl trivial ?_
      obtain ⟨r8, hc8, hf⟩ := bnd_o hf
      refine b_cV (as := [mI v1]) (st := []) (by decide +kernel) k_12_467 n_MD_leftOf rfl (by decide) v_MD_leftOf (C_MD_leftOf I J v1 hR hc8) (Nat.le_of_ble_eq_true rfl) (by decide) rfl rfl (fun _ h => h) ?_
      show m_B G (m_rm 4 0 0) M_MD_fence Q 0 0 57 [some (mR (12, 0, 177)), some (mI v1), some (mI v2)] [mI r8] (L, I, J, R)
      cases hf
      exact b_iret (by decide +kernel) rfl hk
    have hf := if_f h7 hf
    by_cases h9 : v2 = 3
    · refine b_tswV (tgt := 58) (off := 47) (lo := 0) (hi := 3) (dflt := 61) (offs := #[29, 35, 41, 47]) (len := 29) h9 (by decide +kernel) (by decide) (by decide) (by decide) (by decide) ?_
      have hf := if_t h9 hf
      refine b_blk (pc' := 60) (ls' := [some (mR (12, 0, 177)), some (mI v1), some (mI v2)]) (st' := [mI v1, mR (12, 0, 177)]) (S' := (L, I, J, R)) (P := True) [(.aload_n 0, (0, 0, 0, 0, 0)), (.iload_n 1, (0, 0, 0, 0, 0))] [] (by decide +kernel) rfl trivial ?_
      obtain ⟨r10, hc10, hf⟩ := bnd_o hf
      refine b_cV (as := [mI v1]) (st := []) (by decide +kernel) k_12_443 n_MD_isCut rfl (by decide) v_MD_isCut (C_MD_isCut I J v1 hR hc10) (Nat.le_of_ble_eq_true rfl) (by decide) rfl rfl (fun _ h => h) ?_
      show m_B G (m_rm 4 0 0) M_MD_fence Q 0 0 63 [some (mR (12, 0, 177)), some (mI v1), some (mI v2)] [mI r10] (L, I, J, R)
      refine b_if_eq (off := 7) (tgt := 70) (by decide +kernel) (by decide) (fun h11 => ?_) (fun h11 => ?_)
      · have hf := if_t h11 hf
        refine b_blk (pc' := 71) (ls' := [some (mR (12, 0, 177)), some (mI v1), some (mI v2)]) (st' := [mI 0]) (S' := (L, I, J, R)) (P := True) [(.iconst 0, (0, 0, 0, 0, 0))] [] (by decide +kernel) rfl trivial ?_
        cases hf
        exact b_iret (by decide +kernel) rfl hk
      · have hf := if_f h11 hf
        refine b_blk (pc' := 71) (ls' := [some (mR (12, 0, 177)), some (mI v1), some (mI v2)]) (st' := [mI 1]) (S' := (L, I, J, R)) (P := True) [(.iconst 1, (0, 0, 0, 1, 0)), (.goto 4, (0, 71, 0, 0, 0))] [] (by decide +kernel) rfl trivial ?_
        cases hf
        exact b_iret (by decide +kernel) rfl hk
    have hf := if_f h9 hf
    refine b_tswD (tgt := 72) (lo := 0) (hi := 3) (dflt := 61) (offs := #[29, 35, 41, 47]) (len := 29) (by decide +kernel) (by have q0 := lv_neT h3 (a := 0) (by decide); have q1 := lv_neT h5 (a := 1) (by decide); have q2 := lv_neT h7 (a := 2) (by decide); have q3 := lv_neT h9 (a := 3) (by decide); omega) (by decide) ?_
    refine b_blk (pc' := 73) (ls' := [some (mR (12, 0, 177)), some (mI v1), some (mI v2)]) (st' := [mI (-1)]) (S' := (L, I, J, R)) (P := True) [(.iconst (-1), (0, 0, 0, (-1), 0))] [] (by decide +kernel) rfl trivial ?_
    cases hf
    exact b_iret (by decide +kernel) rfl hk
  · have hf := if_t h2 hf
    refine b_blk (pc' := 9) (ls' := [some (mR (12, 0, 177)), some (mI v1), some (mI v2)]) (st' := [mI (-1)]) (S' := (L, I, J, R)) (P := True) [(.iconst (-1), (0, 0, 0, (-1), 0))] [] (by decide +kernel) rfl trivial ?_
    cases hf
    exact b_iret (by decide +kernel) rfl hk
theorem C_MD_fence {G : MG} {L : List (Nat × Nat)} {R : Nat → Nat → Option MRef} (I : MI) (J : MJ) (v1 : Int32) (v2 : Int32) (hR : RF R) {r : Int32} (hf : F_MD_fence I v1 v2 = some r) : m_met G 4 0 0 y_MD_fence M_MD_fence [mR (12, 0, 177), mI v1, mI v2] (L, I, J, R) (m_is (some (mI r)) (L, I, J, R)) :=
  m_met_in n_MD_fence (plainFor_of_name (by decide)) (by decide) (Nat.le_of_ble_eq_true rfl) (ls := [some (mR (12, 0, 177)), some (mI v1), some (mI v2)]) rfl (W_MD_fence I J v1 v2 hR hf ⟨rfl, rfl⟩)
noncomputable def F_MD_stake (I : MI) (v1 : Int32) (v2 : Int32) : Option (Int32) :=
  (F_MD_isFence I v1).bind fun r1 => if r1 = (0 : Int32) then (some ((-1) : Int32)) else ((F_MD_isColumn I v2).bind fun r3 => if r3 = (0 : Int32) then (some ((-1) : Int32)) else ((F_MD_rowOf I v1 v2).bind fun r5 => some (r5 : Int32)))
set_option maxRecDepth 100000 in
set_option maxHeartbeats 400000 in
theorem W_MD_stake {G : MG} {Q : Option MV → MS → Prop} {L : List (Nat × Nat)} {R : Nat → Nat → Option MRef} (I : MI) (J : MJ) (v1 : Int32) (v2 : Int32) (hR : RF R) {r : Int32} (hf : F_MD_stake I v1 v2 = some r) (hk : (fun r : Int32 => Q (some (mI r)) (L, I, J, R)) r) : m_B G (m_rm 3 0 0) M_MD_stake Q 0 0 0 [some (mR (12, 0, 177)), some (mI v1), some (mI v2)] [] (L, I, J, R) := by
  unfold F_MD_stake at hf
  refine b_blk (pc' := 2) (ls' := [some (mR (12, 0, 177)), some (mI v1), some (mI v2)]) (st' := [mI v1, mR (12, 0, 177)]) (S' := (L, I, J, R)) (P := True) [(.aload_n 0, (0, 0, 0, 0, 0)), (.iload_n 1, (0, 0, 0, 0, 0))] [] (by decide +kernel) rfl trivial ?_
  obtain ⟨r1, hc1, hf⟩ := bnd_o hf
  refine b_cV (as := [mI v1]) (st := []) (by decide +kernel) k_12_482 n_MD_isFence rfl (by decide) v_MD_isFence (C_MD_isFence I J v1 hR hc1) (Nat.le_of_ble_eq_true rfl) (by decide) rfl rfl (fun _ h => h) ?_
  show m_B G (m_rm 3 0 0) M_MD_stake Q 0 0 5 [some (mR (12, 0, 177)), some (mI v1), some (mI v2)] [mI r1] (L, I, J, R)
  refine b_if_eq (off := 20) (tgt := 25) (by decide +kernel) (by decide) (fun h2 => ?_) (fun h2 => ?_)
  · have hf := if_t h2 hf
    refine b_blk (pc' := 26) (ls' := [some (mR (12, 0, 177)), some (mI v1), some (mI v2)]) (st' := [mI (-1)]) (S' := (L, I, J, R)) (P := True) [(.iconst (-1), (0, 0, 0, (-1), 0))] [] (by decide +kernel) rfl trivial ?_
    cases hf
    exact b_iret (by decide +kernel) rfl hk
  · have hf := if_f h2 hf
    refine b_blk (pc' := 10) (ls' := [some (mR (12, 0, 177)), some (mI v1), some (mI v2)]) (st' := [mI v2, mR (12, 0, 177)]) (S' := (L, I, J, R)) (P := True) [(.aload_n 0, (0, 0, 0, 0, 0)), (.iload_n 2, (0, 0, 0, 0, 0))] [] (by decide +kernel) rfl trivial ?_
    obtain ⟨r3, hc3, hf⟩ := bnd_o hf
    refine b_cV (as := [mI v2]) (st := []) (by decide +kernel) k_12_385 n_MD_isColumn rfl (by decide) v_MD_isColumn (C_MD_isColumn I J v2 hR hc3) (Nat.le_of_ble_eq_true rfl) (by decide) rfl rfl (fun _ h => h) ?_
    show m_B G (m_rm 3 0 0) M_MD_stake Q 0 0 13 [some (mR (12, 0, 177)), some (mI v1), some (mI v2)] [mI r3] (L, I, J, R)
    refine b_if_eq (off := 12) (tgt := 25) (by decide +kernel) (by decide) (fun h4 => ?_) (fun h4 => ?_)
    · have hf := if_t h4 hf
      refine b_blk (pc' := 26) (ls' := [some (mR (12, 0, 177)), some (mI v1), some (mI v2)]) (st' := [mI (-1)]) (S' := (L, I, J, R)) (P := True) [(.iconst (-1), (0, 0, 0, (-1), 0))] [] (by decide +kernel) rfl trivial ?_
      cases hf
      exact b_iret (by decide +kernel) rfl hk
    · have hf := if_f h4 hf
      refine b_blk (pc' := 19) (ls' := [some (mR (12, 0, 177)), some (mI v1), some (mI v2)]) (st' := [mI v2, mI v1, mR (12, 0, 177)]) (S' := (L, I, J, R)) (P := True) [(.aload_n 0, (0, 0, 0, 0, 0)), (.iload_n 1, (0, 0, 0, 0, 0)), (.iload_n 2, (0, 0, 0, 0, 0))] [] (by decide +kernel) rfl trivial ?_
      obtain ⟨r5, hc5, hf⟩ := bnd_o hf
      refine b_cV (as := [mI v1, mI v2]) (st := []) (by decide +kernel) k_12_392 n_MD_rowOf rfl (by decide) v_MD_rowOf (C_MD_rowOf I J v1 v2 hR hc5) (Nat.le_of_ble_eq_true rfl) (by decide) rfl rfl (fun _ h => h) ?_
      show m_B G (m_rm 3 0 0) M_MD_stake Q 0 0 22 [some (mR (12, 0, 177)), some (mI v1), some (mI v2)] [mI r5] (L, I, J, R)
      refine b_blk (pc' := 26) (ls' := [some (mR (12, 0, 177)), some (mI v1), some (mI v2)]) (st' := [mI r5]) (S' := (L, I, J, R)) (P := True) [(.goto 4, (0, 26, 0, 0, 0))] [] (by decide +kernel) rfl trivial ?_
      cases hf
      exact b_iret (by decide +kernel) rfl hk
theorem C_MD_stake {G : MG} {L : List (Nat × Nat)} {R : Nat → Nat → Option MRef} (I : MI) (J : MJ) (v1 : Int32) (v2 : Int32) (hR : RF R) {r : Int32} (hf : F_MD_stake I v1 v2 = some r) : m_met G 3 0 0 y_MD_stake M_MD_stake [mR (12, 0, 177), mI v1, mI v2] (L, I, J, R) (m_is (some (mI r)) (L, I, J, R)) :=
  m_met_in n_MD_stake (plainFor_of_name (by decide)) (by decide) (Nat.le_of_ble_eq_true rfl) (ls := [some (mR (12, 0, 177)), some (mI v1), some (mI v2)]) rfl (W_MD_stake I J v1 v2 hR hf ⟨rfl, rfl⟩)
noncomputable def F_MD_qClip (v0 : Int64) : Option (Int64) :=
  if (lg_cmp v0 (1000000 : Int64)) ≤ (0 : Int32) then (if (0 : Int32) ≤ (lg_cmp v0 (-1000000 : Int64)) then (some (v0 : Int64)) else (some ((-1000000) : Int64))) else (some (1000000 : Int64))
set_option maxRecDepth 100000 in
set_option maxHeartbeats 400000 in
theorem W_MD_qClip {G : MG} {Q : Option MV → MS → Prop} {L : List (Nat × Nat)} {R : Nat → Nat → Option MRef} (I : MI) (J : MJ) (v0 : Int64) (hR : RF R) {r : Int64} (hf : F_MD_qClip v0 = some r) (hk : (fun r : Int64 => Q (some (mJ r)) (L, I, J, R)) r) : m_B G (m_rm 1 0 0) M_MD_qClip Q 0 0 0 [some (mJ v0), none] [] (L, I, J, R) := by
  unfold F_MD_qClip at hf
  refine b_blk (pc' := 5) (ls' := [some (mJ v0), none]) (st' := [mI (lg_cmp v0 (1000000 : Int64))]) (S' := (L, I, J, R)) (P := True) [(.lload_n 0, (0, 0, 0, 0, 0)), (.ldc2_w 616, (0, 0, 0, 0, 1000000)), (.lcmp, (0, 0, 0, 0, 0))] [] (by decide +kernel) rfl trivial ?_
  refine b_if_le (off := 9) (tgt := 14) (by decide +kernel) (by decide) (fun h1 => ?_) (fun h1 => ?_)
  · have hf := if_t h1 hf
    refine b_blk (pc' := 19) (ls' := [some (mJ v0), none]) (st' := [mI (lg_cmp v0 (-1000000 : Int64))]) (S' := (L, I, J, R)) (P := True) [(.lload_n 0, (0, 0, 0, 0, 0)), (.ldc2_w 618, (0, 0, 0, 0, (-1000000))), (.lcmp, (0, 0, 0, 0, 0))] [] (by decide +kernel) rfl trivial ?_
    refine b_if_ge (off := 9) (tgt := 28) (by decide +kernel) (by decide) (fun h2 => ?_) (fun h2 => ?_)
    · have hf := if_t h2 hf
      refine b_blk (pc' := 29) (ls' := [some (mJ v0), none]) (st' := [mJ v0]) (S' := (L, I, J, R)) (P := True) [(.lload_n 0, (0, 0, 0, 0, 0))] [] (by decide +kernel) rfl trivial ?_
      cases hf
      exact b_lret (by decide +kernel) rfl hk
    · have hf := if_f h2 hf
      refine b_blk (pc' := 29) (ls' := [some (mJ v0), none]) (st' := [mJ (-1000000)]) (S' := (L, I, J, R)) (P := True) [(.ldc2_w 618, (0, 0, 0, 0, (-1000000))), (.goto 4, (0, 29, 0, 0, 0))] [] (by decide +kernel) rfl trivial ?_
      cases hf
      exact b_lret (by decide +kernel) rfl hk
  · have hf := if_f h1 hf
    refine b_blk (pc' := 29) (ls' := [some (mJ v0), none]) (st' := [mJ 1000000]) (S' := (L, I, J, R)) (P := True) [(.ldc2_w 616, (0, 0, 0, 0, 1000000)), (.goto 18, (0, 29, 0, 0, 0))] [] (by decide +kernel) rfl trivial ?_
    cases hf
    exact b_lret (by decide +kernel) rfl hk
theorem C_MD_qClip {G : MG} {L : List (Nat × Nat)} {R : Nat → Nat → Option MRef} (I : MI) (J : MJ) (v0 : Int64) (hR : RF R) {r : Int64} (hf : F_MD_qClip v0 = some r) : m_met G 1 0 0 y_MD_qClip M_MD_qClip [mJ v0] (L, I, J, R) (m_is (some (mJ r)) (L, I, J, R)) :=
  m_met_in n_MD_qClip (plainFor_of_name (by decide)) (by decide) (Nat.le_of_ble_eq_true rfl) (ls := [some (mJ v0), none]) rfl (W_MD_qClip I J v0 hR hf ⟨rfl, rfl⟩)
noncomputable def F_MD_qFloor_32 (v2 : Int64) (v4 : Int64) (y0 : Int32) : Option (Int64) :=
  if (0 : Int32) ≤ (lg_cmp v2 (0 : Int64)) then (if y0 = (0 : Int32) then (some (v4 : Int64)) else (some (v4 - (1 : Int64) : Int64))) else (if y0 = (1 : Int32) then (some (v4 : Int64)) else (some (v4 - (1 : Int64) : Int64)))
set_option maxRecDepth 100000 in
set_option maxHeartbeats 400000 in
theorem W_MD_qFloor_32 {G : MG} {Q : Option MV → MS → Prop} {L : List (Nat × Nat)} {R : Nat → Nat → Option MRef} (I : MI) (J : MJ) (v2 : Int64) (v4 : Int64) (y0 : Int32) (hR : RF R) {r : Int64} (hf : F_MD_qFloor_32 v2 v4 y0 = some r) (hk : (fun r : Int64 => Q (some (mJ r)) (L, I, J, R)) r) : m_B G (m_rm 1 0 0) M_MD_qFloor Q 0 0 32 [none, none, some (mJ v2), none, some (mJ v4), none] [mI y0] (L, I, J, R) := by
  unfold F_MD_qFloor_32 at hf
  refine b_blk (pc' := 35) (ls' := [none, none, some (mJ v2), none, some (mJ v4), none]) (st' := [mI (lg_cmp v2 (0 : Int64)), mI y0]) (S' := (L, I, J, R)) (P := True) [(.lload_n 2, (0, 0, 0, 0, 0)), (.lconst 0, (0, 0, 0, 0, 0)), (.lcmp, (0, 0, 0, 0, 0))] [] (by decide +kernel) rfl trivial ?_
  refine b_if_ge (off := 7) (tgt := 42) (by decide +kernel) (by decide) (fun h1 => ?_) (fun h1 => ?_)
  · have hf := if_t h1 hf
    refine b_blk (pc' := 43) (ls' := [none, none, some (mJ v2), none, some (mJ v4), none]) (st' := [mI 0, mI y0]) (S' := (L, I, J, R)) (P := True) [(.iconst 0, (0, 0, 0, 0, 0))] [] (by decide +kernel) rfl trivial ?_
    refine b_icmp_eq (off := 10) (tgt := 53) (by decide +kernel) (by decide) (fun h2 => ?_) (fun h2 => ?_)
    · have hf := if_t h2 hf
      refine b_blk (pc' := 55) (ls' := [none, none, some (mJ v2), none, some (mJ v4), none]) (st' := [mJ v4]) (S' := (L, I, J, R)) (P := True) [(.lload 4, (0, 0, 0, 0, 0))] [] (by decide +kernel) rfl trivial ?_
      cases hf
      exact b_lret (by decide +kernel) rfl hk
    · have hf := if_f h2 hf
      refine b_blk (pc' := 55) (ls' := [none, none, some (mJ v2), none, some (mJ v4), none]) (st' := [mJ (v4 - (1 : Int64))]) (S' := (L, I, J, R)) (P := True) [(.lload 4, (0, 0, 0, 0, 0)), (.lconst 1, (0, 0, 0, 0, 1)), (.lsub, (0, 0, 0, 0, 0)), (.goto 5, (0, 55, 0, 0, 0))] [] (by decide +kernel) rfl trivial ?_
      cases hf
      exact b_lret (by decide +kernel) rfl hk
  · have hf := if_f h1 hf
    refine b_blk (pc' := 43) (ls' := [none, none, some (mJ v2), none, some (mJ v4), none]) (st' := [mI 1, mI y0]) (S' := (L, I, J, R)) (P := True) [(.iconst 1, (0, 0, 0, 1, 0)), (.goto 4, (0, 43, 0, 0, 0))] [] (by decide +kernel) rfl trivial ?_
    refine b_icmp_eq (off := 10) (tgt := 53) (by decide +kernel) (by decide) (fun h3 => ?_) (fun h3 => ?_)
    · have hf := if_t h3 hf
      refine b_blk (pc' := 55) (ls' := [none, none, some (mJ v2), none, some (mJ v4), none]) (st' := [mJ v4]) (S' := (L, I, J, R)) (P := True) [(.lload 4, (0, 0, 0, 0, 0))] [] (by decide +kernel) rfl trivial ?_
      cases hf
      exact b_lret (by decide +kernel) rfl hk
    · have hf := if_f h3 hf
      refine b_blk (pc' := 55) (ls' := [none, none, some (mJ v2), none, some (mJ v4), none]) (st' := [mJ (v4 - (1 : Int64))]) (S' := (L, I, J, R)) (P := True) [(.lload 4, (0, 0, 0, 0, 0)), (.lconst 1, (0, 0, 0, 0, 1)), (.lsub, (0, 0, 0, 0, 0)), (.goto 5, (0, 55, 0, 0, 0))] [] (by decide +kernel) rfl trivial ?_
      cases hf
      exact b_lret (by decide +kernel) rfl hk
noncomputable def F_MD_qFloor (v0 : Int64) (v2 : Int64) : Option (Int64) :=
  if (lg_cmp v2 (0 : Int64)) = (0 : Int32) then (some (0 : Int64)) else (gq (¬ v2 = 0) <| gq (¬ v2 = 0) <| if (lg_cmp (v0 - v0 / v2 * v2) (0 : Int64)) = (0 : Int32) then (some (v0 / v2 : Int64)) else (if (0 : Int32) ≤ (lg_cmp v0 (0 : Int64)) then (F_MD_qFloor_32 v2 (v0 / v2) (0 : Int32)) else (F_MD_qFloor_32 v2 (v0 / v2) (1 : Int32))))
set_option maxRecDepth 100000 in
set_option maxHeartbeats 400000 in
theorem W_MD_qFloor {G : MG} {Q : Option MV → MS → Prop} {L : List (Nat × Nat)} {R : Nat → Nat → Option MRef} (I : MI) (J : MJ) (v0 : Int64) (v2 : Int64) (hR : RF R) {r : Int64} (hf : F_MD_qFloor v0 v2 = some r) (hk : (fun r : Int64 => Q (some (mJ r)) (L, I, J, R)) r) : m_B G (m_rm 1 0 0) M_MD_qFloor Q 0 0 0 [some (mJ v0), none, some (mJ v2), none, none, none] [] (L, I, J, R) := by
  unfold F_MD_qFloor at hf
  refine b_blk (pc' := 3) (ls' := [some (mJ v0), none, some (mJ v2), none, none, none]) (st' := [mI (lg_cmp v2 (0 : Int64))]) (S' := (L, I, J, R)) (P := True) [(.lload_n 2, (0, 0, 0, 0, 0)), (.lconst 0, (0, 0, 0, 0, 0)), (.lcmp, (0, 0, 0, 0, 0))] [] (by decide +kernel) rfl trivial ?_
  refine b_if_ne (off := 5) (tgt := 8) (by decide +kernel) (by decide) (fun h1 => ?_) (fun h1 => ?_)
  · have hf := if_f h1 hf
    obtain ⟨g2, hf⟩ := gq_s hf
    obtain ⟨g3, hf⟩ := gq_s hf
    refine b_blk (pc' := 18) (ls' := [some (mJ v0), none, some (mJ v2), none, some (mJ (v0 / v2)), none]) (st' := [mI (lg_cmp (v0 - v0 / v2 * v2) (0 : Int64))]) (S' := (L, I, J, R)) (P := ((True ∧ ¬ v2 = 0) ∧ ¬ v2 = 0)) [(.lload_n 0, (0, 0, 0, 0, 0)), (.lload_n 2, (0, 0, 0, 0, 0)), (.ldiv, (0, 0, 0, 0, 0)), (.lstore 4, (0, 0, 0, 0, 0)), (.lload_n 0, (0, 0, 0, 0, 0)), (.lload_n 2, (0, 0, 0, 0, 0)), (.lrem, (0, 0, 0, 0, 0)), (.lconst 0, (0, 0, 0, 0, 0)), (.lcmp, (0, 0, 0, 0, 0))] [] (by decide +kernel) rfl ⟨⟨trivial, g2⟩, g3⟩ ?_
    refine b_if_eq (off := 35) (tgt := 53) (by decide +kernel) (by decide) (fun h4 => ?_) (fun h4 => ?_)
    · have hf := if_t h4 hf
      refine b_blk (pc' := 55) (ls' := [some (mJ v0), none, some (mJ v2), none, some (mJ (v0 / v2)), none]) (st' := [mJ (v0 / v2)]) (S' := (L, I, J, R)) (P := True) [(.lload 4, (0, 0, 0, 0, 0))] [] (by decide +kernel) rfl trivial ?_
      cases hf
      exact b_lret (by decide +kernel) rfl hk
    · have hf := if_f h4 hf
      refine b_blk (pc' := 24) (ls' := [some (mJ v0), none, some (mJ v2), none, some (mJ (v0 / v2)), none]) (st' := [mI (lg_cmp v0 (0 : Int64))]) (S' := (L, I, J, R)) (P := True) [(.lload_n 0, (0, 0, 0, 0, 0)), (.lconst 0, (0, 0, 0, 0, 0)), (.lcmp, (0, 0, 0, 0, 0))] [] (by decide +kernel) rfl trivial ?_
      refine b_if_ge (off := 7) (tgt := 31) (by decide +kernel) (by decide) (fun h5 => ?_) (fun h5 => ?_)
      · have hf := if_t h5 hf
        refine b_blk (pc' := 32) (ls' := [some (mJ v0), none, some (mJ v2), none, some (mJ (v0 / v2)), none]) (st' := [mI 0]) (S' := (L, I, J, R)) (P := True) [(.iconst 0, (0, 0, 0, 0, 0))] [] (by decide +kernel) rfl trivial ?_
        refine b_frg 0 ?_
        exact m_B_cg rfl rfl rfl (W_MD_qFloor_32 I J v2 (v0 / v2) (0 : Int32) hR hf hk)
      · have hf := if_f h5 hf
        refine b_blk (pc' := 32) (ls' := [some (mJ v0), none, some (mJ v2), none, some (mJ (v0 / v2)), none]) (st' := [mI 1]) (S' := (L, I, J, R)) (P := True) [(.iconst 1, (0, 0, 0, 1, 0)), (.goto 4, (0, 32, 0, 0, 0))] [] (by decide +kernel) rfl trivial ?_
        refine b_frg 0 ?_
        exact m_B_cg rfl rfl rfl (W_MD_qFloor_32 I J v2 (v0 / v2) (1 : Int32) hR hf hk)
  · have hf := if_t h1 hf
    refine b_blk (pc' := 7) (ls' := [some (mJ v0), none, some (mJ v2), none, none, none]) (st' := [mJ 0]) (S' := (L, I, J, R)) (P := True) [(.lconst 0, (0, 0, 0, 0, 0))] [] (by decide +kernel) rfl trivial ?_
    cases hf
    exact b_lret (by decide +kernel) rfl hk
theorem C_MD_qFloor {G : MG} {L : List (Nat × Nat)} {R : Nat → Nat → Option MRef} (I : MI) (J : MJ) (v0 : Int64) (v2 : Int64) (hR : RF R) {r : Int64} (hf : F_MD_qFloor v0 v2 = some r) : m_met G 1 0 0 y_MD_qFloor M_MD_qFloor [mJ v0, mJ v2] (L, I, J, R) (m_is (some (mJ r)) (L, I, J, R)) :=
  m_met_in n_MD_qFloor (plainFor_of_name (by decide)) (by decide) (Nat.le_of_ble_eq_true rfl) (ls := [some (mJ v0), none, some (mJ v2), none, none, none]) rfl (W_MD_qFloor I J v0 v2 hR hf ⟨rfl, rfl⟩)
noncomputable def F_MD_qPuts (I : MI) (J : MJ) (v1 : Int64) : Option (MI × MJ) :=
  gd (I 177 98) 1700 <| some (m_up I 177 98 ((I 177 98) + (1 : Int32)), m_up J 246 ((I 177 98).toNatClampNeg) v1)
set_option maxRecDepth 100000 in
set_option maxHeartbeats 400000 in
theorem W_MD_qPuts {G : MG} {Q : Option MV → MS → Prop} {L : List (Nat × Nat)} {R : Nat → Nat → Option MRef} (I : MI) (J : MJ) (v1 : Int64) (hR : RF R) {r : MI × MJ} (hf : F_MD_qPuts I J v1 = some r) (hk : (fun r : MI × MJ => Q (none) (L, r.1, r.2, R)) r) : m_B G (m_rm 1 0 0) M_MD_qPuts Q 0 0 0 [some (mR (12, 0, 177)), some (mJ v1), none] [] (L, I, J, R) := by
  unfold F_MD_qPuts at hf
  obtain ⟨g1, hf⟩ := gd_s hf
  refine b_blk (pc' := 20) (ls' := [some (mR (12, 0, 177)), some (mJ v1), none]) (st' := []) (S' := (L, m_up I 177 98 ((I 177 98) + (1 : Int32)), m_up J 246 ((I 177 98).toNatClampNeg) v1, R)) (P := ((True ∧ R 177 97 = some (21, 1700, 246)) ∧ vp_in (I 177 98) 1700)) [(.aload_n 0, (0, 0, 0, 0, 0)), (.getfield 225, (12, 97, 3, 0, 0)), (.aload_n 0, (0, 0, 0, 0, 0)), (.getfield 398, (12, 98, 0, 0, 0)), (.lload_n 1, (0, 0, 0, 0, 0)), (.lastore, (0, 0, 0, 0, 0)), (.aload_n 0, (0, 0, 0, 0, 0)), (.dup, (0, 0, 0, 0, 0)), (.getfield 398, (12, 98, 0, 0, 0)), (.iconst 1, (0, 0, 0, 1, 0)), (.iadd, (0, 0, 0, 0, 0)), (.putfield 398, (12, 98, 0, 0, 0))] [some (21, 1700, 246)] (by decide +kernel) rfl ⟨⟨trivial, (r_177_97 hR)⟩, (in_n (n := 1700) (by decide) g1.1 g1.2)⟩ ?_
  cases hf
  exact b_vret (by decide +kernel) rfl hk
theorem C_MD_qPuts {G : MG} {L : List (Nat × Nat)} {R : Nat → Nat → Option MRef} (I : MI) (J : MJ) (v1 : Int64) (hR : RF R) {r : MI × MJ} (hf : F_MD_qPuts I J v1 = some r) : m_met G 1 0 0 y_MD_qPuts M_MD_qPuts [mR (12, 0, 177), mJ v1] (L, I, J, R) (m_is (none) (L, r.1, r.2, R)) :=
  m_met_in n_MD_qPuts (plainFor_of_name (by decide)) (by decide) (Nat.le_of_ble_eq_true rfl) (ls := [some (mR (12, 0, 177)), some (mJ v1), none]) rfl (W_MD_qPuts I J v1 hR hf ⟨rfl, rfl⟩)
noncomputable def F_MD_qJoins (I : MI) (J : MJ) (v1 : Int32) : Option (MI × MJ) :=
  gd ((I 177 98) - (1 : Int32)) 1700 <| gd ((I 177 98) - (2 : Int32)) 1700 <| if v1 = 1 then ((F_MD_qClip ((J 246 ((I 177 98) - (2 : Int32)).toNatClampNeg) + (J 246 ((I 177 98) - (1 : Int32)).toNatClampNeg))).bind fun r4 => (F_MD_qPuts (m_up I 177 98 ((I 177 98) - (2 : Int32))) J r4).bind fun r5 => some (r5.1, r5.2)) else (if v1 = 2 then ((F_MD_qClip ((J 246 ((I 177 98) - (2 : Int32)).toNatClampNeg) - (J 246 ((I 177 98) - (1 : Int32)).toNatClampNeg))).bind fun r7 => (F_MD_qPuts (m_up I 177 98 ((I 177 98) - (2 : Int32))) J r7).bind fun r8 => some (r8.1, r8.2)) else (if v1 = 3 then ((F_MD_qClip ((J 246 ((I 177 98) - (2 : Int32)).toNatClampNeg) * (J 246 ((I 177 98) - (1 : Int32)).toNatClampNeg))).bind fun r10 => (F_MD_qPuts (m_up I 177 98 ((I 177 98) - (2 : Int32))) J r10).bind fun r11 => some (r11.1, r11.2)) else (if v1 = 4 then ((F_MD_qFloor (J 246 ((I 177 98) - (2 : Int32)).toNatClampNeg) (J 246 ((I 177 98) - (1 : Int32)).toNatClampNeg)).bind fun r13 => (F_MD_qPuts (m_up I 177 98 ((I 177 98) - (2 : Int32))) J r13).bind fun r14 => some (r14.1, r14.2)) else (if v1 = 5 then (if (0 : Int32) ≤ (lg_cmp (J 246 ((I 177 98) - (2 : Int32)).toNatClampNeg) (J 246 ((I 177 98) - (1 : Int32)).toNatClampNeg)) then ((F_MD_qPuts (m_up I 177 98 ((I 177 98) - (2 : Int32))) J (J 246 ((I 177 98) - (1 : Int32)).toNatClampNeg)).bind fun r17 => some (r17.1, r17.2)) else ((F_MD_qPuts (m_up I 177 98 ((I 177 98) - (2 : Int32))) J (J 246 ((I 177 98) - (2 : Int32)).toNatClampNeg)).bind fun r18 => some (r18.1, r18.2))) else (if v1 = 6 then (if (lg_cmp (J 246 ((I 177 98) - (2 : Int32)).toNatClampNeg) (J 246 ((I 177 98) - (1 : Int32)).toNatClampNeg)) ≤ (0 : Int32) then ((F_MD_qPuts (m_up I 177 98 ((I 177 98) - (2 : Int32))) J (J 246 ((I 177 98) - (1 : Int32)).toNatClampNeg)).bind fun r21 => some (r21.1, r21.2)) else ((F_MD_qPuts (m_up I 177 98 ((I 177 98) - (2 : Int32))) J (J 246 ((I 177 98) - (2 : Int32)).toNatClampNeg)).bind fun r22 => some (r22.1, r22.2))) else (if v1 = 7 then (if (0 : Int32) ≤ (lg_cmp (J 246 ((I 177 98) - (2 : Int32)).toNatClampNeg) (J 246 ((I 177 98) - (1 : Int32)).toNatClampNeg)) then ((F_MD_qPuts (m_up I 177 98 ((I 177 98) - (2 : Int32))) J (0 : Int64)).bind fun r25 => some (r25.1, r25.2)) else ((F_MD_qPuts (m_up I 177 98 ((I 177 98) - (2 : Int32))) J (1 : Int64)).bind fun r26 => some (r26.1, r26.2))) else (if v1 = 8 then (if (lg_cmp (J 246 ((I 177 98) - (2 : Int32)).toNatClampNeg) (J 246 ((I 177 98) - (1 : Int32)).toNatClampNeg)) ≤ (0 : Int32) then ((F_MD_qPuts (m_up I 177 98 ((I 177 98) - (2 : Int32))) J (0 : Int64)).bind fun r29 => some (r29.1, r29.2)) else ((F_MD_qPuts (m_up I 177 98 ((I 177 98) - (2 : Int32))) J (1 : Int64)).bind fun r30 => some (r30.1, r30.2))) else (if v1 = 9 then (if (lg_cmp (J 246 ((I 177 98) - (2 : Int32)).toNatClampNeg) (J 246 ((I 177 98) - (1 : Int32)).toNatClampNeg)) = (0 : Int32) then ((F_MD_qPuts (m_up I 177 98 ((I 177 98) - (2 : Int32))) J (1 : Int64)).bind fun r34 => some (r34.1, r34.2)) else ((F_MD_qPuts (m_up I 177 98 ((I 177 98) - (2 : Int32))) J (0 : Int64)).bind fun r33 => some (r33.1, r33.2))) else (if v1 = 10 then ((F_MD_qPuts (m_up I 177 98 ((I 177 98) - (2 : Int32))) J ((J 246 ((I 177 98) - (2 : Int32)).toNatClampNeg) * (J 246 ((I 177 98) - (1 : Int32)).toNatClampNeg))).bind fun r36 => some (r36.1, r36.2)) else (if (lg_cmp ((J 246 ((I 177 98) - (2 : Int32)).toNatClampNeg) + (J 246 ((I 177 98) - (1 : Int32)).toNatClampNeg)) (0 : Int64)) ≤ (0 : Int32) then ((F_MD_qPuts (m_up I 177 98 ((I 177 98) - (2 : Int32))) J (0 : Int64)).bind fun r38 => some (r38.1, r38.2)) else ((F_MD_qPuts (m_up I 177 98 ((I 177 98) - (2 : Int32))) J (1 : Int64)).bind fun r39 => some (r39.1, r39.2))))))))))))
set_option maxRecDepth 100000 in
set_option maxHeartbeats 400000 in
theorem W_MD_qJoins {G : MG} {Q : Option MV → MS → Prop} {L : List (Nat × Nat)} {R : Nat → Nat → Option MRef} (I : MI) (J : MJ) (v1 : Int32) (hR : RF R) {r : MI × MJ} (hf : F_MD_qJoins I J v1 = some r) (hk : (fun r : MI × MJ => Q (none) (L, r.1, r.2, R)) r) : m_B G (m_rm 2 0 0) M_MD_qJoins Q 0 0 0 [some (mR (12, 0, 177)), some (mI v1), none, none, none, none] [] (L, I, J, R) := by
  unfold F_MD_qJoins at hf
  obtain ⟨g1, hf⟩ := gd_s hf
  obtain ⟨g2, hf⟩ := gd_s hf
  refine b_blk (pc' := 36) (ls' := [some (mR (12, 0, 177)), some (mI v1), some (mJ (J 246 ((I 177 98) - (1 : Int32)).toNatClampNeg)), none, some (mJ (J 246 ((I 177 98) - (2 : Int32)).toNatClampNeg)), none]) (st' := [mI v1]) (S' := (L, m_up I 177 98 ((I 177 98) - (2 : Int32)), J, R)) (P := ((((True ∧ R 177 97 = some (21, 1700, 246)) ∧ vp_in ((I 177 98) - (1 : Int32)) 1700) ∧ R 177 97 = some (21, 1700, 246)) ∧ vp_in ((I 177 98) - (2 : Int32)) 1700)) [(.aload_n 0, (0, 0, 0, 0, 0)), (.getfield 225, (12, 97, 3, 0, 0)), (.aload_n 0, (0, 0, 0, 0, 0)), (.getfield 398, (12, 98, 0, 0, 0)), (.iconst 1, (0, 0, 0, 1, 0)), (.isub, (0, 0, 0, 0, 0)), (.laload, (0, 0, 0, 0, 0)), (.lstore_n 2, (0, 0, 0, 0, 0)), (.aload_n 0, (0, 0, 0, 0, 0)), (.getfield 225, (12, 97, 3, 0, 0)), (.aload_n 0, (0, 0, 0, 0, 0)), (.getfield 398, (12, 98, 0, 0, 0)), (.iconst 2, (0, 0, 0, 2, 0)), (.isub, (0, 0, 0, 0, 0)), (.laload, (0, 0, 0, 0, 0)), (.lstore 4, (0, 0, 0, 0, 0)), (.aload_n 0, (0, 0, 0, 0, 0)), (.dup, (0, 0, 0, 0, 0)), (.getfield 398, (12, 98, 0, 0, 0)), (.iconst 2, (0, 0, 0, 2, 0)), (.isub, (0, 0, 0, 0, 0)), (.putfield 398, (12, 98, 0, 0, 0)), (.iload_n 1, (0, 0, 0, 0, 0))] [some (21, 1700, 246), some (21, 1700, 246)] (by decide +kernel) rfl ⟨⟨⟨⟨trivial, (r_177_97 hR)⟩, (in_n (n := 1700) (by decide) g1.1 g1.2)⟩, (r_177_97 hR)⟩, (in_n (n := 1700) (by decide) g2.1 g2.2)⟩ ?_
  by_cases h3 : v1 = 1
  · refine b_tswV (tgt := 92) (off := 56) (lo := 1) (hi := 10) (dflt := 219) (offs := #[56, 70, 84, 98, 111, 131, 151, 170, 189, 208]) (len := 56) h3 (by decide +kernel) (by decide) (by decide) (by decide) (by decide) ?_
    have hf := if_t h3 hf
    refine b_blk (pc' := 97) (ls' := [some (mR (12, 0, 177)), some (mI v1), some (mJ (J 246 ((I 177 98) - (1 : Int32)).toNatClampNeg)), none, some (mJ (J 246 ((I 177 98) - (2 : Int32)).toNatClampNeg)), none]) (st' := [mJ ((J 246 ((I 177 98) - (2 : Int32)).toNatClampNeg) + (J 246 ((I 177 98) - (1 : Int32)).toNatClampNeg)), mR (12, 0, 177)]) (S' := (L, m_up I 177 98 ((I 177 98) - (2 : Int32)), J, R)) (P := True) [(.aload_n 0, (0, 0, 0, 0, 0)), (.lload 4, (0, 0, 0, 0, 0)), (.lload_n 2, (0, 0, 0, 0, 0)), (.ladd, (0, 0, 0, 0, 0))] [] (by decide +kernel) rfl trivial ?_
    obtain ⟨r4, hc4, hf⟩ := bnd_o hf
    refine b_cS (as := [mJ ((J 246 ((I 177 98) - (2 : Int32)).toNatClampNeg) + (J 246 ((I 177 98) - (1 : Int32)).toNatClampNeg))]) (st := [mR (12, 0, 177)]) (by decide +kernel) k_12_620 n_MD_qClip s_MD_qClip (C_MD_qClip (m_up I 177 98 ((I 177 98) - (2 : Int32))) J ((J 246 ((I 177 98) - (2 : Int32)).toNatClampNeg) + (J 246 ((I 177 98) - (1 : Int32)).toNatClampNeg)) hR hc4) (Nat.le_of_ble_eq_true rfl) (by decide) rfl rfl (fun _ h => h) ?_
    show m_B G (m_rm 2 0 0) M_MD_qJoins Q 0 0 100 [some (mR (12, 0, 177)), some (mI v1), some (mJ (J 246 ((I 177 98) - (1 : Int32)).toNatClampNeg)), none, some (mJ (J 246 ((I 177 98) - (2 : Int32)).toNatClampNeg)), none] [mJ r4, mR (12, 0, 177)] (L, m_up I 177 98 ((I 177 98) - (2 : Int32)), J, R)
    obtain ⟨r5, hc5, hf⟩ := bnd_o hf
    refine b_cV (as := [mJ r4]) (st := []) (by decide +kernel) k_12_401 n_MD_qPuts rfl (by decide) v_MD_qPuts (C_MD_qPuts (m_up I 177 98 ((I 177 98) - (2 : Int32))) J r4 hR hc5) (Nat.le_of_ble_eq_true rfl) (by decide) rfl rfl (fun _ h => h) ?_
    show m_B G (m_rm 2 0 0) M_MD_qJoins Q 0 0 103 [some (mR (12, 0, 177)), some (mI v1), some (mJ (J 246 ((I 177 98) - (1 : Int32)).toNatClampNeg)), none, some (mJ (J 246 ((I 177 98) - (2 : Int32)).toNatClampNeg)), none] [] (L, r5.1, r5.2, R)
    refine b_blk (pc' := 273) (ls' := [some (mR (12, 0, 177)), some (mI v1), some (mJ (J 246 ((I 177 98) - (1 : Int32)).toNatClampNeg)), none, some (mJ (J 246 ((I 177 98) - (2 : Int32)).toNatClampNeg)), none]) (st' := []) (S' := (L, r5.1, r5.2, R)) (P := True) [(.goto 170, (0, 273, 0, 0, 0))] [] (by decide +kernel) rfl trivial ?_
    cases hf
    exact b_vret (by decide +kernel) rfl hk
  have hf := if_f h3 hf
  by_cases h6 : v1 = 2
  · refine b_tswV (tgt := 106) (off := 70) (lo := 1) (hi := 10) (dflt := 219) (offs := #[56, 70, 84, 98, 111, 131, 151, 170, 189, 208]) (len := 56) h6 (by decide +kernel) (by decide) (by decide) (by decide) (by decide) ?_
    have hf := if_t h6 hf
    refine b_blk (pc' := 111) (ls' := [some (mR (12, 0, 177)), some (mI v1), some (mJ (J 246 ((I 177 98) - (1 : Int32)).toNatClampNeg)), none, some (mJ (J 246 ((I 177 98) - (2 : Int32)).toNatClampNeg)), none]) (st' := [mJ ((J 246 ((I 177 98) - (2 : Int32)).toNatClampNeg) - (J 246 ((I 177 98) - (1 : Int32)).toNatClampNeg)), mR (12, 0, 177)]) (S' := (L, m_up I 177 98 ((I 177 98) - (2 : Int32)), J, R)) (P := True) [(.aload_n 0, (0, 0, 0, 0, 0)), (.lload 4, (0, 0, 0, 0, 0)), (.lload_n 2, (0, 0, 0, 0, 0)), (.lsub, (0, 0, 0, 0, 0))] [] (by decide +kernel) rfl trivial ?_
    obtain ⟨r7, hc7, hf⟩ := bnd_o hf
    refine b_cS (as := [mJ ((J 246 ((I 177 98) - (2 : Int32)).toNatClampNeg) - (J 246 ((I 177 98) - (1 : Int32)).toNatClampNeg))]) (st := [mR (12, 0, 177)]) (by decide +kernel) k_12_620 n_MD_qClip s_MD_qClip (C_MD_qClip (m_up I 177 98 ((I 177 98) - (2 : Int32))) J ((J 246 ((I 177 98) - (2 : Int32)).toNatClampNeg) - (J 246 ((I 177 98) - (1 : Int32)).toNatClampNeg)) hR hc7) (Nat.le_of_ble_eq_true rfl) (by decide) rfl rfl (fun _ h => h) ?_
    show m_B G (m_rm 2 0 0) M_MD_qJoins Q 0 0 114 [some (mR (12, 0, 177)), some (mI v1), some (mJ (J 246 ((I 177 98) - (1 : Int32)).toNatClampNeg)), none, some (mJ (J 246 ((I 177 98) - (2 : Int32)).toNatClampNeg)), none] [mJ r7, mR (12, 0, 177)] (L, m_up I 177 98 ((I 177 98) - (2 : Int32)), J, R)
    obtain ⟨r8, hc8, hf⟩ := bnd_o hf
    refine b_cV (as := [mJ r7]) (st := []) (by decide +kernel) k_12_401 n_MD_qPuts rfl (by decide) v_MD_qPuts (C_MD_qPuts (m_up I 177 98 ((I 177 98) - (2 : Int32))) J r7 hR hc8) (Nat.le_of_ble_eq_true rfl) (by decide) rfl rfl (fun _ h => h) ?_
    show m_B G (m_rm 2 0 0) M_MD_qJoins Q 0 0 117 [some (mR (12, 0, 177)), some (mI v1), some (mJ (J 246 ((I 177 98) - (1 : Int32)).toNatClampNeg)), none, some (mJ (J 246 ((I 177 98) - (2 : Int32)).toNatClampNeg)), none] [] (L, r8.1, r8.2, R)
    refine b_blk (pc' := 273) (ls' := [some (mR (12, 0, 177)), some (mI v1), some (mJ (J 246 ((I 177 98) - (1 : Int32)).toNatClampNeg)), none, some (mJ (J 246 ((I 177 98) - (2 : Int32)).toNatClampNeg)), none]) (st' := []) (S' := (L, r8.1, r8.2, R)) (P := True) [(.goto 156, (0, 273, 0, 0, 0))] [] (by decide +kernel) rfl trivial ?_
    cases hf
    exact b_vret (by decide +kernel) rfl hk
  have hf := if_f h6 hf
  by_cases h9 : v1 = 3
  · refine b_tswV (tgt := 120) (off := 84) (lo := 1) (hi := 10) (dflt := 219) (offs := #[56, 70, 84, 98, 111, 131, 151, 170, 189, 208]) (len := 56) h9 (by decide +kernel) (by decide) (by decide) (by decide) (by decide) ?_
    have hf := if_t h9 hf
    refine b_blk (pc' := 125) (ls' := [some (mR (12, 0, 177)), some (mI v1), some (mJ (J 246 ((I 177 98) - (1 : Int32)).toNatClampNeg)), none, some (mJ (J 246 ((I 177 98) - (2 : Int32)).toNatClampNeg)), none]) (st' := [mJ ((J 246 ((I 177 98) - (2 : Int32)).toNatClampNeg) * (J 246 ((I 177 98) - (1 : Int32)).toNatClampNeg)), mR (12, 0, 177)]) (S' := (L, m_up I 177 98 ((I 177 98) - (2 : Int32)), J, R)) (P := True) [(.aload_n 0, (0, 0, 0, 0, 0)), (.lload 4, (0, 0, 0, 0, 0)), (.lload_n 2, (0, 0, 0, 0, 0)), (.lmul, (0, 0, 0, 0, 0))] [] (by decide +kernel) rfl trivial ?_
    obtain ⟨r10, hc10, hf⟩ := bnd_o hf
    refine b_cS (as := [mJ ((J 246 ((I 177 98) - (2 : Int32)).toNatClampNeg) * (J 246 ((I 177 98) - (1 : Int32)).toNatClampNeg))]) (st := [mR (12, 0, 177)]) (by decide +kernel) k_12_620 n_MD_qClip s_MD_qClip (C_MD_qClip (m_up I 177 98 ((I 177 98) - (2 : Int32))) J ((J 246 ((I 177 98) - (2 : Int32)).toNatClampNeg) * (J 246 ((I 177 98) - (1 : Int32)).toNatClampNeg)) hR hc10) (Nat.le_of_ble_eq_true rfl) (by decide) rfl rfl (fun _ h => h) ?_
    show m_B G (m_rm 2 0 0) M_MD_qJoins Q 0 0 128 [some (mR (12, 0, 177)), some (mI v1), some (mJ (J 246 ((I 177 98) - (1 : Int32)).toNatClampNeg)), none, some (mJ (J 246 ((I 177 98) - (2 : Int32)).toNatClampNeg)), none] [mJ r10, mR (12, 0, 177)] (L, m_up I 177 98 ((I 177 98) - (2 : Int32)), J, R)
    obtain ⟨r11, hc11, hf⟩ := bnd_o hf
    refine b_cV (as := [mJ r10]) (st := []) (by decide +kernel) k_12_401 n_MD_qPuts rfl (by decide) v_MD_qPuts (C_MD_qPuts (m_up I 177 98 ((I 177 98) - (2 : Int32))) J r10 hR hc11) (Nat.le_of_ble_eq_true rfl) (by decide) rfl rfl (fun _ h => h) ?_
    show m_B G (m_rm 2 0 0) M_MD_qJoins Q 0 0 131 [some (mR (12, 0, 177)), some (mI v1), some (mJ (J 246 ((I 177 98) - (1 : Int32)).toNatClampNeg)), none, some (mJ (J 246 ((I 177 98) - (2 : Int32)).toNatClampNeg)), none] [] (L, r11.1, r11.2, R)
    refine b_blk (pc' := 273) (ls' := [some (mR (12, 0, 177)), some (mI v1), some (mJ (J 246 ((I 177 98) - (1 : Int32)).toNatClampNeg)), none, some (mJ (J 246 ((I 177 98) - (2 : Int32)).toNatClampNeg)), none]) (st' := []) (S' := (L, r11.1, r11.2, R)) (P := True) [(.goto 142, (0, 273, 0, 0, 0))] [] (by decide +kernel) rfl trivial ?_
    cases hf
    exact b_vret (by decide +kernel) rfl hk
  have hf := if_f h9 hf
  by_cases h12 : v1 = 4
  · refine b_tswV (tgt := 134) (off := 98) (lo := 1) (hi := 10) (dflt := 219) (offs := #[56, 70, 84, 98, 111, 131, 151, 170, 189, 208]) (len := 56) h12 (by decide +kernel) (by decide) (by decide) (by decide) (by decide) ?_
    have hf := if_t h12 hf
    refine b_blk (pc' := 138) (ls' := [some (mR (12, 0, 177)), some (mI v1), some (mJ (J 246 ((I 177 98) - (1 : Int32)).toNatClampNeg)), none, some (mJ (J 246 ((I 177 98) - (2 : Int32)).toNatClampNeg)), none]) (st' := [mJ (J 246 ((I 177 98) - (1 : Int32)).toNatClampNeg), mJ (J 246 ((I 177 98) - (2 : Int32)).toNatClampNeg), mR (12, 0, 177)]) (S' := (L, m_up I 177 98 ((I 177 98) - (2 : Int32)), J, R)) (P := True) [(.aload_n 0, (0, 0, 0, 0, 0)), (.lload 4, (0, 0, 0, 0, 0)), (.lload_n 2, (0, 0, 0, 0, 0))] [] (by decide +kernel) rfl trivial ?_
    obtain ⟨r13, hc13, hf⟩ := bnd_o hf
    refine b_cS (as := [mJ (J 246 ((I 177 98) - (2 : Int32)).toNatClampNeg), mJ (J 246 ((I 177 98) - (1 : Int32)).toNatClampNeg)]) (st := [mR (12, 0, 177)]) (by decide +kernel) k_12_624 n_MD_qFloor s_MD_qFloor (C_MD_qFloor (m_up I 177 98 ((I 177 98) - (2 : Int32))) J (J 246 ((I 177 98) - (2 : Int32)).toNatClampNeg) (J 246 ((I 177 98) - (1 : Int32)).toNatClampNeg) hR hc13) (Nat.le_of_ble_eq_true rfl) (by decide) rfl rfl (fun _ h => h) ?_
    show m_B G (m_rm 2 0 0) M_MD_qJoins Q 0 0 141 [some (mR (12, 0, 177)), some (mI v1), some (mJ (J 246 ((I 177 98) - (1 : Int32)).toNatClampNeg)), none, some (mJ (J 246 ((I 177 98) - (2 : Int32)).toNatClampNeg)), none] [mJ r13, mR (12, 0, 177)] (L, m_up I 177 98 ((I 177 98) - (2 : Int32)), J, R)
    obtain ⟨r14, hc14, hf⟩ := bnd_o hf
    refine b_cV (as := [mJ r13]) (st := []) (by decide +kernel) k_12_401 n_MD_qPuts rfl (by decide) v_MD_qPuts (C_MD_qPuts (m_up I 177 98 ((I 177 98) - (2 : Int32))) J r13 hR hc14) (Nat.le_of_ble_eq_true rfl) (by decide) rfl rfl (fun _ h => h) ?_
    show m_B G (m_rm 2 0 0) M_MD_qJoins Q 0 0 144 [some (mR (12, 0, 177)), some (mI v1), some (mJ (J 246 ((I 177 98) - (1 : Int32)).toNatClampNeg)), none, some (mJ (J 246 ((I 177 98) - (2 : Int32)).toNatClampNeg)), none] [] (L, r14.1, r14.2, R)
    refine b_blk (pc' := 273) (ls' := [some (mR (12, 0, 177)), some (mI v1), some (mJ (J 246 ((I 177 98) - (1 : Int32)).toNatClampNeg)), none, some (mJ (J 246 ((I 177 98) - (2 : Int32)).toNatClampNeg)), none]) (st' := []) (S' := (L, r14.1, r14.2, R)) (P := True) [(.goto 129, (0, 273, 0, 0, 0))] [] (by decide +kernel) rfl trivial ?_
    cases hf
    exact b_vret (by decide +kernel) rfl hk
  have hf := if_f h12 hf
  by_cases h15 : v1 = 5
  · refine b_tswV (tgt := 147) (off := 111) (lo := 1) (hi := 10) (dflt := 219) (offs := #[56, 70, 84, 98, 111, 131, 151, 170, 189, 208]) (len := 56) h15 (by decide +kernel) (by decide) (by decide) (by decide) (by decide) ?_
    have hf := if_t h15 hf
    refine b_blk (pc' := 152) (ls' := [some (mR (12, 0, 177)), some (mI v1), some (mJ (J 246 ((I 177 98) - (1 : Int32)).toNatClampNeg)), none, some (mJ (J 246 ((I 177 98) - (2 : Int32)).toNatClampNeg)), none]) (st' := [mI (lg_cmp (J 246 ((I 177 98) - (2 : Int32)).toNatClampNeg) (J 246 ((I 177 98) - (1 : Int32)).toNatClampNeg)), mR (12, 0, 177)]) (S' := (L, m_up I 177 98 ((I 177 98) - (2 : Int32)), J, R)) (P := True) [(.aload_n 0, (0, 0, 0, 0, 0)), (.lload 4, (0, 0, 0, 0, 0)), (.lload_n 2, (0, 0, 0, 0, 0)), (.lcmp, (0, 0, 0, 0, 0))] [] (by decide +kernel) rfl trivial ?_
    refine b_if_ge (off := 8) (tgt := 160) (by decide +kernel) (by decide) (fun h16 => ?_) (fun h16 => ?_)
    · have hf := if_t h16 hf
      refine b_blk (pc' := 161) (ls' := [some (mR (12, 0, 177)), some (mI v1), some (mJ (J 246 ((I 177 98) - (1 : Int32)).toNatClampNeg)), none, some (mJ (J 246 ((I 177 98) - (2 : Int32)).toNatClampNeg)), none]) (st' := [mJ (J 246 ((I 177 98) - (1 : Int32)).toNatClampNeg), mR (12, 0, 177)]) (S' := (L, m_up I 177 98 ((I 177 98) - (2 : Int32)), J, R)) (P := True) [(.lload_n 2, (0, 0, 0, 0, 0))] [] (by decide +kernel) rfl trivial ?_
      obtain ⟨r17, hc17, hf⟩ := bnd_o hf
      refine b_cV (as := [mJ (J 246 ((I 177 98) - (1 : Int32)).toNatClampNeg)]) (st := []) (by decide +kernel) k_12_401 n_MD_qPuts rfl (by decide) v_MD_qPuts (C_MD_qPuts (m_up I 177 98 ((I 177 98) - (2 : Int32))) J (J 246 ((I 177 98) - (1 : Int32)).toNatClampNeg) hR hc17) (Nat.le_of_ble_eq_true rfl) (by decide) rfl rfl (fun _ h => h) ?_
      show m_B G (m_rm 2 0 0) M_MD_qJoins Q 0 0 164 [some (mR (12, 0, 177)), some (mI v1), some (mJ (J 246 ((I 177 98) - (1 : Int32)).toNatClampNeg)), none, some (mJ (J 246 ((I 177 98) - (2 : Int32)).toNatClampNeg)), none] [] (L, r17.1, r17.2, R)
      refine b_blk (pc' := 273) (ls' := [some (mR (12, 0, 177)), some (mI v1), some (mJ (J 246 ((I 177 98) - (1 : Int32)).toNatClampNeg)), none, some (mJ (J 246 ((I 177 98) - (2 : Int32)).toNatClampNeg)), none]) (st' := []) (S' := (L, r17.1, r17.2, R)) (P := True) [(.goto 109, (0, 273, 0, 0, 0))] [] (by decide +kernel) rfl trivial ?_
      cases hf
      exact b_vret (by decide +kernel) rfl hk
    · have hf := if_f h16 hf
      refine b_blk (pc' := 161) (ls' := [some (mR (12, 0, 177)), some (mI v1), some (mJ (J 246 ((I 177 98) - (1 : Int32)).toNatClampNeg)), none, some (mJ (J 246 ((I 177 98) - (2 : Int32)).toNatClampNeg)), none]) (st' := [mJ (J 246 ((I 177 98) - (2 : Int32)).toNatClampNeg), mR (12, 0, 177)]) (S' := (L, m_up I 177 98 ((I 177 98) - (2 : Int32)), J, R)) (P := True) [(.lload 4, (0, 0, 0, 0, 0)), (.goto 4, (0, 161, 0, 0, 0))] [] (by decide +kernel) rfl trivial ?_
      obtain ⟨r18, hc18, hf⟩ := bnd_o hf
      refine b_cV (as := [mJ (J 246 ((I 177 98) - (2 : Int32)).toNatClampNeg)]) (st := []) (by decide +kernel) k_12_401 n_MD_qPuts rfl (by decide) v_MD_qPuts (C_MD_qPuts (m_up I 177 98 ((I 177 98) - (2 : Int32))) J (J 246 ((I 177 98) - (2 : Int32)).toNatClampNeg) hR hc18) (Nat.le_of_ble_eq_true rfl) (by decide) rfl rfl (fun _ h => h) ?_
      show m_B G (m_rm 2 0 0) M_MD_qJoins Q 0 0 164 [some (mR (12, 0, 177)), some (mI v1), some (mJ (J 246 ((I 177 98) - (1 : Int32)).toNatClampNeg)), none, some (mJ (J 246 ((I 177 98) - (2 : Int32)).toNatClampNeg)), none] [] (L, r18.1, r18.2, R)
      refine b_blk (pc' := 273) (ls' := [some (mR (12, 0, 177)), some (mI v1), some (mJ (J 246 ((I 177 98) - (1 : Int32)).toNatClampNeg)), none, some (mJ (J 246 ((I 177 98) - (2 : Int32)).toNatClampNeg)), none]) (st' := []) (S' := (L, r18.1, r18.2, R)) (P := True) [(.goto 109, (0, 273, 0, 0, 0))] [] (by decide +kernel) rfl trivial ?_
      cases hf
      exact b_vret (by decide +kernel) rfl hk
  have hf := if_f h15 hf
  by_cases h19 : v1 = 6
  · refine b_tswV (tgt := 167) (off := 131) (lo := 1) (hi := 10) (dflt := 219) (offs := #[56, 70, 84, 98, 111, 131, 151, 170, 189, 208]) (len := 56) h19 (by decide +kernel) (by decide) (by decide) (by decide) (by decide) ?_
    have hf := if_t h19 hf
    refine b_blk (pc' := 172) (ls' := [some (mR (12, 0, 177)), some (mI v1), some (mJ (J 246 ((I 177 98) - (1 : Int32)).toNatClampNeg)), none, some (mJ (J 246 ((I 177 98) - (2 : Int32)).toNatClampNeg)), none]) (st' := [mI (lg_cmp (J 246 ((I 177 98) - (2 : Int32)).toNatClampNeg) (J 246 ((I 177 98) - (1 : Int32)).toNatClampNeg)), mR (12, 0, 177)]) (S' := (L, m_up I 177 98 ((I 177 98) - (2 : Int32)), J, R)) (P := True) [(.aload_n 0, (0, 0, 0, 0, 0)), (.lload 4, (0, 0, 0, 0, 0)), (.lload_n 2, (0, 0, 0, 0, 0)), (.lcmp, (0, 0, 0, 0, 0))] [] (by decide +kernel) rfl trivial ?_
    refine b_if_le (off := 8) (tgt := 180) (by decide +kernel) (by decide) (fun h20 => ?_) (fun h20 => ?_)
    · have hf := if_t h20 hf
      refine b_blk (pc' := 181) (ls' := [some (mR (12, 0, 177)), some (mI v1), some (mJ (J 246 ((I 177 98) - (1 : Int32)).toNatClampNeg)), none, some (mJ (J 246 ((I 177 98) - (2 : Int32)).toNatClampNeg)), none]) (st' := [mJ (J 246 ((I 177 98) - (1 : Int32)).toNatClampNeg), mR (12, 0, 177)]) (S' := (L, m_up I 177 98 ((I 177 98) - (2 : Int32)), J, R)) (P := True) [(.lload_n 2, (0, 0, 0, 0, 0))] [] (by decide +kernel) rfl trivial ?_
      obtain ⟨r21, hc21, hf⟩ := bnd_o hf
      refine b_cV (as := [mJ (J 246 ((I 177 98) - (1 : Int32)).toNatClampNeg)]) (st := []) (by decide +kernel) k_12_401 n_MD_qPuts rfl (by decide) v_MD_qPuts (C_MD_qPuts (m_up I 177 98 ((I 177 98) - (2 : Int32))) J (J 246 ((I 177 98) - (1 : Int32)).toNatClampNeg) hR hc21) (Nat.le_of_ble_eq_true rfl) (by decide) rfl rfl (fun _ h => h) ?_
      show m_B G (m_rm 2 0 0) M_MD_qJoins Q 0 0 184 [some (mR (12, 0, 177)), some (mI v1), some (mJ (J 246 ((I 177 98) - (1 : Int32)).toNatClampNeg)), none, some (mJ (J 246 ((I 177 98) - (2 : Int32)).toNatClampNeg)), none] [] (L, r21.1, r21.2, R)
      refine b_blk (pc' := 273) (ls' := [some (mR (12, 0, 177)), some (mI v1), some (mJ (J 246 ((I 177 98) - (1 : Int32)).toNatClampNeg)), none, some (mJ (J 246 ((I 177 98) - (2 : Int32)).toNatClampNeg)), none]) (st' := []) (S' := (L, r21.1, r21.2, R)) (P := True) [(.goto 89, (0, 273, 0, 0, 0))] [] (by decide +kernel) rfl trivial ?_
      cases hf
      exact b_vret (by decide +kernel) rfl hk
    · have hf := if_f h20 hf
      refine b_blk (pc' := 181) (ls' := [some (mR (12, 0, 177)), some (mI v1), some (mJ (J 246 ((I 177 98) - (1 : Int32)).toNatClampNeg)), none, some (mJ (J 246 ((I 177 98) - (2 : Int32)).toNatClampNeg)), none]) (st' := [mJ (J 246 ((I 177 98) - (2 : Int32)).toNatClampNeg), mR (12, 0, 177)]) (S' := (L, m_up I 177 98 ((I 177 98) - (2 : Int32)), J, R)) (P := True) [(.lload 4, (0, 0, 0, 0, 0)), (.goto 4, (0, 181, 0, 0, 0))] [] (by decide +kernel) rfl trivial ?_
      obtain ⟨r22, hc22, hf⟩ := bnd_o hf
      refine b_cV (as := [mJ (J 246 ((I 177 98) - (2 : Int32)).toNatClampNeg)]) (st := []) (by decide +kernel) k_12_401 n_MD_qPuts rfl (by decide) v_MD_qPuts (C_MD_qPuts (m_up I 177 98 ((I 177 98) - (2 : Int32))) J (J 246 ((I 177 98) - (2 : Int32)).toNatClampNeg) hR hc22) (Nat.le_of_ble_eq_true rfl) (by decide) rfl rfl (fun _ h => h) ?_
      show m_B G (m_rm 2 0 0) M_MD_qJoins Q 0 0 184 [some (mR (12, 0, 177)), some (mI v1), some (mJ (J 246 ((I 177 98) - (1 : Int32)).toNatClampNeg)), none, some (mJ (J 246 ((I 177 98) - (2 : Int32)).toNatClampNeg)), none] [] (L, r22.1, r22.2, R)
      refine b_blk (pc' := 273) (ls' := [some (mR (12, 0, 177)), some (mI v1), some (mJ (J 246 ((I 177 98) - (1 : Int32)).toNatClampNeg)), none, some (mJ (J 246 ((I 177 98) - (2 : Int32)).toNatClampNeg)), none]) (st' := []) (S' := (L, r22.1, r22.2, R)) (P := True) [(.goto 89, (0, 273, 0, 0, 0))] [] (by decide +kernel) rfl trivial ?_
      cases hf
      exact b_vret (by decide +kernel) rfl hk
  have hf := if_f h19 hf
  by_cases h23 : v1 = 7
  · refine b_tswV (tgt := 187) (off := 151) (lo := 1) (hi := 10) (dflt := 219) (offs := #[56, 70, 84, 98, 111, 131, 151, 170, 189, 208]) (len := 56) h23 (by decide +kernel) (by decide) (by decide) (by decide) (by decide) ?_
    have hf := if_t h23 hf
    refine b_blk (pc' := 192) (ls' := [some (mR (12, 0, 177)), some (mI v1), some (mJ (J 246 ((I 177 98) - (1 : Int32)).toNatClampNeg)), none, some (mJ (J 246 ((I 177 98) - (2 : Int32)).toNatClampNeg)), none]) (st' := [mI (lg_cmp (J 246 ((I 177 98) - (2 : Int32)).toNatClampNeg) (J 246 ((I 177 98) - (1 : Int32)).toNatClampNeg)), mR (12, 0, 177)]) (S' := (L, m_up I 177 98 ((I 177 98) - (2 : Int32)), J, R)) (P := True) [(.aload_n 0, (0, 0, 0, 0, 0)), (.lload 4, (0, 0, 0, 0, 0)), (.lload_n 2, (0, 0, 0, 0, 0)), (.lcmp, (0, 0, 0, 0, 0))] [] (by decide +kernel) rfl trivial ?_
    refine b_if_ge (off := 7) (tgt := 199) (by decide +kernel) (by decide) (fun h24 => ?_) (fun h24 => ?_)
    · have hf := if_t h24 hf
      refine b_blk (pc' := 200) (ls' := [some (mR (12, 0, 177)), some (mI v1), some (mJ (J 246 ((I 177 98) - (1 : Int32)).toNatClampNeg)), none, some (mJ (J 246 ((I 177 98) - (2 : Int32)).toNatClampNeg)), none]) (st' := [mJ 0, mR (12, 0, 177)]) (S' := (L, m_up I 177 98 ((I 177 98) - (2 : Int32)), J, R)) (P := True) [(.lconst 0, (0, 0, 0, 0, 0))] [] (by decide +kernel) rfl trivial ?_
      obtain ⟨r25, hc25, hf⟩ := bnd_o hf
      refine b_cV (as := [mJ 0]) (st := []) (by decide +kernel) k_12_401 n_MD_qPuts rfl (by decide) v_MD_qPuts (C_MD_qPuts (m_up I 177 98 ((I 177 98) - (2 : Int32))) J (0 : Int64) hR hc25) (Nat.le_of_ble_eq_true rfl) (by decide) rfl rfl (fun _ h => h) ?_
      show m_B G (m_rm 2 0 0) M_MD_qJoins Q 0 0 203 [some (mR (12, 0, 177)), some (mI v1), some (mJ (J 246 ((I 177 98) - (1 : Int32)).toNatClampNeg)), none, some (mJ (J 246 ((I 177 98) - (2 : Int32)).toNatClampNeg)), none] [] (L, r25.1, r25.2, R)
      refine b_blk (pc' := 273) (ls' := [some (mR (12, 0, 177)), some (mI v1), some (mJ (J 246 ((I 177 98) - (1 : Int32)).toNatClampNeg)), none, some (mJ (J 246 ((I 177 98) - (2 : Int32)).toNatClampNeg)), none]) (st' := []) (S' := (L, r25.1, r25.2, R)) (P := True) [(.goto 70, (0, 273, 0, 0, 0))] [] (by decide +kernel) rfl trivial ?_
      cases hf
      exact b_vret (by decide +kernel) rfl hk
    · have hf := if_f h24 hf
      refine b_blk (pc' := 200) (ls' := [some (mR (12, 0, 177)), some (mI v1), some (mJ (J 246 ((I 177 98) - (1 : Int32)).toNatClampNeg)), none, some (mJ (J 246 ((I 177 98) - (2 : Int32)).toNatClampNeg)), none]) (st' := [mJ 1, mR (12, 0, 177)]) (S' := (L, m_up I 177 98 ((I 177 98) - (2 : Int32)), J, R)) (P := True) [(.lconst 1, (0, 0, 0, 0, 1)), (.goto 4, (0, 200, 0, 0, 0))] [] (by decide +kernel) rfl trivial ?_
      obtain ⟨r26, hc26, hf⟩ := bnd_o hf
      refine b_cV (as := [mJ 1]) (st := []) (by decide +kernel) k_12_401 n_MD_qPuts rfl (by decide) v_MD_qPuts (C_MD_qPuts (m_up I 177 98 ((I 177 98) - (2 : Int32))) J (1 : Int64) hR hc26) (Nat.le_of_ble_eq_true rfl) (by decide) rfl rfl (fun _ h => h) ?_
      show m_B G (m_rm 2 0 0) M_MD_qJoins Q 0 0 203 [some (mR (12, 0, 177)), some (mI v1), some (mJ (J 246 ((I 177 98) - (1 : Int32)).toNatClampNeg)), none, some (mJ (J 246 ((I 177 98) - (2 : Int32)).toNatClampNeg)), none] [] (L, r26.1, r26.2, R)
      refine b_blk (pc' := 273) (ls' := [some (mR (12, 0, 177)), some (mI v1), some (mJ (J 246 ((I 177 98) - (1 : Int32)).toNatClampNeg)), none, some (mJ (J 246 ((I 177 98) - (2 : Int32)).toNatClampNeg)), none]) (st' := []) (S' := (L, r26.1, r26.2, R)) (P := True) [(.goto 70, (0, 273, 0, 0, 0))] [] (by decide +kernel) rfl trivial ?_
      cases hf
      exact b_vret (by decide +kernel) rfl hk
  have hf := if_f h23 hf
  by_cases h27 : v1 = 8
  · refine b_tswV (tgt := 206) (off := 170) (lo := 1) (hi := 10) (dflt := 219) (offs := #[56, 70, 84, 98, 111, 131, 151, 170, 189, 208]) (len := 56) h27 (by decide +kernel) (by decide) (by decide) (by decide) (by decide) ?_
    have hf := if_t h27 hf
    refine b_blk (pc' := 211) (ls' := [some (mR (12, 0, 177)), some (mI v1), some (mJ (J 246 ((I 177 98) - (1 : Int32)).toNatClampNeg)), none, some (mJ (J 246 ((I 177 98) - (2 : Int32)).toNatClampNeg)), none]) (st' := [mI (lg_cmp (J 246 ((I 177 98) - (2 : Int32)).toNatClampNeg) (J 246 ((I 177 98) - (1 : Int32)).toNatClampNeg)), mR (12, 0, 177)]) (S' := (L, m_up I 177 98 ((I 177 98) - (2 : Int32)), J, R)) (P := True) [(.aload_n 0, (0, 0, 0, 0, 0)), (.lload 4, (0, 0, 0, 0, 0)), (.lload_n 2, (0, 0, 0, 0, 0)), (.lcmp, (0, 0, 0, 0, 0))] [] (by decide +kernel) rfl trivial ?_
    refine b_if_le (off := 7) (tgt := 218) (by decide +kernel) (by decide) (fun h28 => ?_) (fun h28 => ?_)
    · have hf := if_t h28 hf
      refine b_blk (pc' := 219) (ls' := [some (mR (12, 0, 177)), some (mI v1), some (mJ (J 246 ((I 177 98) - (1 : Int32)).toNatClampNeg)), none, some (mJ (J 246 ((I 177 98) - (2 : Int32)).toNatClampNeg)), none]) (st' := [mJ 0, mR (12, 0, 177)]) (S' := (L, m_up I 177 98 ((I 177 98) - (2 : Int32)), J, R)) (P := True) [(.lconst 0, (0, 0, 0, 0, 0))] [] (by decide +kernel) rfl trivial ?_
      obtain ⟨r29, hc29, hf⟩ := bnd_o hf
      refine b_cV (as := [mJ 0]) (st := []) (by decide +kernel) k_12_401 n_MD_qPuts rfl (by decide) v_MD_qPuts (C_MD_qPuts (m_up I 177 98 ((I 177 98) - (2 : Int32))) J (0 : Int64) hR hc29) (Nat.le_of_ble_eq_true rfl) (by decide) rfl rfl (fun _ h => h) ?_
      show m_B G (m_rm 2 0 0) M_MD_qJoins Q 0 0 222 [some (mR (12, 0, 177)), some (mI v1), some (mJ (J 246 ((I 177 98) - (1 : Int32)).toNatClampNeg)), none, some (mJ (J 246 ((I 177 98) - (2 : Int32)).toNatClampNeg)), none] [] (L, r29.1, r29.2, R)
      refine b_blk (pc' := 273) (ls' := [some (mR (12, 0, 177)), some (mI v1), some (mJ (J 246 ((I 177 98) - (1 : Int32)).toNatClampNeg)), none, some (mJ (J 246 ((I 177 98) - (2 : Int32)).toNatClampNeg)), none]) (st' := []) (S' := (L, r29.1, r29.2, R)) (P := True) [(.goto 51, (0, 273, 0, 0, 0))] [] (by decide +kernel) rfl trivial ?_
      cases hf
      exact b_vret (by decide +kernel) rfl hk
    · have hf := if_f h28 hf
      refine b_blk (pc' := 219) (ls' := [some (mR (12, 0, 177)), some (mI v1), some (mJ (J 246 ((I 177 98) - (1 : Int32)).toNatClampNeg)), none, some (mJ (J 246 ((I 177 98) - (2 : Int32)).toNatClampNeg)), none]) (st' := [mJ 1, mR (12, 0, 177)]) (S' := (L, m_up I 177 98 ((I 177 98) - (2 : Int32)), J, R)) (P := True) [(.lconst 1, (0, 0, 0, 0, 1)), (.goto 4, (0, 219, 0, 0, 0))] [] (by decide +kernel) rfl trivial ?_
      obtain ⟨r30, hc30, hf⟩ := bnd_o hf
      refine b_cV (as := [mJ 1]) (st := []) (by decide +kernel) k_12_401 n_MD_qPuts rfl (by decide) v_MD_qPuts (C_MD_qPuts (m_up I 177 98 ((I 177 98) - (2 : Int32))) J (1 : Int64) hR hc30) (Nat.le_of_ble_eq_true rfl) (by decide) rfl rfl (fun _ h => h) ?_
      show m_B G (m_rm 2 0 0) M_MD_qJoins Q 0 0 222 [some (mR (12, 0, 177)), some (mI v1), some (mJ (J 246 ((I 177 98) - (1 : Int32)).toNatClampNeg)), none, some (mJ (J 246 ((I 177 98) - (2 : Int32)).toNatClampNeg)), none] [] (L, r30.1, r30.2, R)
      refine b_blk (pc' := 273) (ls' := [some (mR (12, 0, 177)), some (mI v1), some (mJ (J 246 ((I 177 98) - (1 : Int32)).toNatClampNeg)), none, some (mJ (J 246 ((I 177 98) - (2 : Int32)).toNatClampNeg)), none]) (st' := []) (S' := (L, r30.1, r30.2, R)) (P := True) [(.goto 51, (0, 273, 0, 0, 0))] [] (by decide +kernel) rfl trivial ?_
      cases hf
      exact b_vret (by decide +kernel) rfl hk
  have hf := if_f h27 hf
  by_cases h31 : v1 = 9
  · refine b_tswV (tgt := 225) (off := 189) (lo := 1) (hi := 10) (dflt := 219) (offs := #[56, 70, 84, 98, 111, 131, 151, 170, 189, 208]) (len := 56) h31 (by decide +kernel) (by decide) (by decide) (by decide) (by decide) ?_
    have hf := if_t h31 hf
    refine b_blk (pc' := 230) (ls' := [some (mR (12, 0, 177)), some (mI v1), some (mJ (J 246 ((I 177 98) - (1 : Int32)).toNatClampNeg)), none, some (mJ (J 246 ((I 177 98) - (2 : Int32)).toNatClampNeg)), none]) (st' := [mI (lg_cmp (J 246 ((I 177 98) - (2 : Int32)).toNatClampNeg) (J 246 ((I 177 98) - (1 : Int32)).toNatClampNeg)), mR (12, 0, 177)]) (S' := (L, m_up I 177 98 ((I 177 98) - (2 : Int32)), J, R)) (P := True) [(.aload_n 0, (0, 0, 0, 0, 0)), (.lload 4, (0, 0, 0, 0, 0)), (.lload_n 2, (0, 0, 0, 0, 0)), (.lcmp, (0, 0, 0, 0, 0))] [] (by decide +kernel) rfl trivial ?_
    refine b_if_ne (off := 7) (tgt := 237) (by decide +kernel) (by decide) (fun h32 => ?_) (fun h32 => ?_)
    · have hf := if_f h32 hf
      refine b_blk (pc' := 238) (ls' := [some (mR (12, 0, 177)), some (mI v1), some (mJ (J 246 ((I 177 98) - (1 : Int32)).toNatClampNeg)), none, some (mJ (J 246 ((I 177 98) - (2 : Int32)).toNatClampNeg)), none]) (st' := [mJ 0, mR (12, 0, 177)]) (S' := (L, m_up I 177 98 ((I 177 98) - (2 : Int32)), J, R)) (P := True) [(.lconst 0, (0, 0, 0, 0, 0))] [] (by decide +kernel) rfl trivial ?_
      obtain ⟨r33, hc33, hf⟩ := bnd_o hf
      refine b_cV (as := [mJ 0]) (st := []) (by decide +kernel) k_12_401 n_MD_qPuts rfl (by decide) v_MD_qPuts (C_MD_qPuts (m_up I 177 98 ((I 177 98) - (2 : Int32))) J (0 : Int64) hR hc33) (Nat.le_of_ble_eq_true rfl) (by decide) rfl rfl (fun _ h => h) ?_
      show m_B G (m_rm 2 0 0) M_MD_qJoins Q 0 0 241 [some (mR (12, 0, 177)), some (mI v1), some (mJ (J 246 ((I 177 98) - (1 : Int32)).toNatClampNeg)), none, some (mJ (J 246 ((I 177 98) - (2 : Int32)).toNatClampNeg)), none] [] (L, r33.1, r33.2, R)
      refine b_blk (pc' := 273) (ls' := [some (mR (12, 0, 177)), some (mI v1), some (mJ (J 246 ((I 177 98) - (1 : Int32)).toNatClampNeg)), none, some (mJ (J 246 ((I 177 98) - (2 : Int32)).toNatClampNeg)), none]) (st' := []) (S' := (L, r33.1, r33.2, R)) (P := True) [(.goto 32, (0, 273, 0, 0, 0))] [] (by decide +kernel) rfl trivial ?_
      cases hf
      exact b_vret (by decide +kernel) rfl hk
    · have hf := if_t h32 hf
      refine b_blk (pc' := 238) (ls' := [some (mR (12, 0, 177)), some (mI v1), some (mJ (J 246 ((I 177 98) - (1 : Int32)).toNatClampNeg)), none, some (mJ (J 246 ((I 177 98) - (2 : Int32)).toNatClampNeg)), none]) (st' := [mJ 1, mR (12, 0, 177)]) (S' := (L, m_up I 177 98 ((I 177 98) - (2 : Int32)), J, R)) (P := True) [(.lconst 1, (0, 0, 0, 0, 1)), (.goto 4, (0, 238, 0, 0, 0))] [] (by decide +kernel) rfl trivial ?_
      obtain ⟨r34, hc34, hf⟩ := bnd_o hf
      refine b_cV (as := [mJ 1]) (st := []) (by decide +kernel) k_12_401 n_MD_qPuts rfl (by decide) v_MD_qPuts (C_MD_qPuts (m_up I 177 98 ((I 177 98) - (2 : Int32))) J (1 : Int64) hR hc34) (Nat.le_of_ble_eq_true rfl) (by decide) rfl rfl (fun _ h => h) ?_
      show m_B G (m_rm 2 0 0) M_MD_qJoins Q 0 0 241 [some (mR (12, 0, 177)), some (mI v1), some (mJ (J 246 ((I 177 98) - (1 : Int32)).toNatClampNeg)), none, some (mJ (J 246 ((I 177 98) - (2 : Int32)).toNatClampNeg)), none] [] (L, r34.1, r34.2, R)
      refine b_blk (pc' := 273) (ls' := [some (mR (12, 0, 177)), some (mI v1), some (mJ (J 246 ((I 177 98) - (1 : Int32)).toNatClampNeg)), none, some (mJ (J 246 ((I 177 98) - (2 : Int32)).toNatClampNeg)), none]) (st' := []) (S' := (L, r34.1, r34.2, R)) (P := True) [(.goto 32, (0, 273, 0, 0, 0))] [] (by decide +kernel) rfl trivial ?_
      cases hf
      exact b_vret (by decide +kernel) rfl hk
  have hf := if_f h31 hf
  by_cases h35 : v1 = 10
  · refine b_tswV (tgt := 244) (off := 208) (lo := 1) (hi := 10) (dflt := 219) (offs := #[56, 70, 84, 98, 111, 131, 151, 170, 189, 208]) (len := 56) h35 (by decide +kernel) (by decide) (by decide) (by decide) (by decide) ?_
    have hf := if_t h35 hf
    refine b_blk (pc' := 249) (ls' := [some (mR (12, 0, 177)), some (mI v1), some (mJ (J 246 ((I 177 98) - (1 : Int32)).toNatClampNeg)), none, some (mJ (J 246 ((I 177 98) - (2 : Int32)).toNatClampNeg)), none]) (st' := [mJ ((J 246 ((I 177 98) - (2 : Int32)).toNatClampNeg) * (J 246 ((I 177 98) - (1 : Int32)).toNatClampNeg)), mR (12, 0, 177)]) (S' := (L, m_up I 177 98 ((I 177 98) - (2 : Int32)), J, R)) (P := True) [(.aload_n 0, (0, 0, 0, 0, 0)), (.lload 4, (0, 0, 0, 0, 0)), (.lload_n 2, (0, 0, 0, 0, 0)), (.lmul, (0, 0, 0, 0, 0))] [] (by decide +kernel) rfl trivial ?_
    obtain ⟨r36, hc36, hf⟩ := bnd_o hf
    refine b_cV (as := [mJ ((J 246 ((I 177 98) - (2 : Int32)).toNatClampNeg) * (J 246 ((I 177 98) - (1 : Int32)).toNatClampNeg))]) (st := []) (by decide +kernel) k_12_401 n_MD_qPuts rfl (by decide) v_MD_qPuts (C_MD_qPuts (m_up I 177 98 ((I 177 98) - (2 : Int32))) J ((J 246 ((I 177 98) - (2 : Int32)).toNatClampNeg) * (J 246 ((I 177 98) - (1 : Int32)).toNatClampNeg)) hR hc36) (Nat.le_of_ble_eq_true rfl) (by decide) rfl rfl (fun _ h => h) ?_
    show m_B G (m_rm 2 0 0) M_MD_qJoins Q 0 0 252 [some (mR (12, 0, 177)), some (mI v1), some (mJ (J 246 ((I 177 98) - (1 : Int32)).toNatClampNeg)), none, some (mJ (J 246 ((I 177 98) - (2 : Int32)).toNatClampNeg)), none] [] (L, r36.1, r36.2, R)
    refine b_blk (pc' := 273) (ls' := [some (mR (12, 0, 177)), some (mI v1), some (mJ (J 246 ((I 177 98) - (1 : Int32)).toNatClampNeg)), none, some (mJ (J 246 ((I 177 98) - (2 : Int32)).toNatClampNeg)), none]) (st' := []) (S' := (L, r36.1, r36.2, R)) (P := True) [(.goto 21, (0, 273, 0, 0, 0))] [] (by decide +kernel) rfl trivial ?_
    cases hf
    exact b_vret (by decide +kernel) rfl hk
  have hf := if_f h35 hf
  refine b_tswD (tgt := 255) (lo := 1) (hi := 10) (dflt := 219) (offs := #[56, 70, 84, 98, 111, 131, 151, 170, 189, 208]) (len := 56) (by decide +kernel) (by have q0 := lv_neT h3 (a := 1) (by decide); have q1 := lv_neT h6 (a := 2) (by decide); have q2 := lv_neT h9 (a := 3) (by decide); have q3 := lv_neT h12 (a := 4) (by decide); have q4 := lv_neT h15 (a := 5) (by decide); have q5 := lv_neT h19 (a := 6) (by decide); have q6 := lv_neT h23 (a := 7) (by decide); have q7 := lv_neT h27 (a := 8) (by decide); have q8 := lv_neT h31 (a := 9) (by decide); have q9 := lv_neT h35 (a := 10) (by decide); omega) (by decide) ?_
  refine b_blk (pc' := 262) (ls' := [some (mR (12, 0, 177)), some (mI v1), some (mJ (J 246 ((I 177 98) - (1 : Int32)).toNatClampNeg)), none, some (mJ (J 246 ((I 177 98) - (2 : Int32)).toNatClampNeg)), none]) (st' := [mI (lg_cmp ((J 246 ((I 177 98) - (2 : Int32)).toNatClampNeg) + (J 246 ((I 177 98) - (1 : Int32)).toNatClampNeg)) (0 : Int64)), mR (12, 0, 177)]) (S' := (L, m_up I 177 98 ((I 177 98) - (2 : Int32)), J, R)) (P := True) [(.aload_n 0, (0, 0, 0, 0, 0)), (.lload 4, (0, 0, 0, 0, 0)), (.lload_n 2, (0, 0, 0, 0, 0)), (.ladd, (0, 0, 0, 0, 0)), (.lconst 0, (0, 0, 0, 0, 0)), (.lcmp, (0, 0, 0, 0, 0))] [] (by decide +kernel) rfl trivial ?_
  refine b_if_le (off := 7) (tgt := 269) (by decide +kernel) (by decide) (fun h37 => ?_) (fun h37 => ?_)
  · have hf := if_t h37 hf
    refine b_blk (pc' := 270) (ls' := [some (mR (12, 0, 177)), some (mI v1), some (mJ (J 246 ((I 177 98) - (1 : Int32)).toNatClampNeg)), none, some (mJ (J 246 ((I 177 98) - (2 : Int32)).toNatClampNeg)), none]) (st' := [mJ 0, mR (12, 0, 177)]) (S' := (L, m_up I 177 98 ((I 177 98) - (2 : Int32)), J, R)) (P := True) [(.lconst 0, (0, 0, 0, 0, 0))] [] (by decide +kernel) rfl trivial ?_
    obtain ⟨r38, hc38, hf⟩ := bnd_o hf
    refine b_cV (as := [mJ 0]) (st := []) (by decide +kernel) k_12_401 n_MD_qPuts rfl (by decide) v_MD_qPuts (C_MD_qPuts (m_up I 177 98 ((I 177 98) - (2 : Int32))) J (0 : Int64) hR hc38) (Nat.le_of_ble_eq_true rfl) (by decide) rfl rfl (fun _ h => h) ?_
    show m_B G (m_rm 2 0 0) M_MD_qJoins Q 0 0 273 [some (mR (12, 0, 177)), some (mI v1), some (mJ (J 246 ((I 177 98) - (1 : Int32)).toNatClampNeg)), none, some (mJ (J 246 ((I 177 98) - (2 : Int32)).toNatClampNeg)), none] [] (L, r38.1, r38.2, R)
    cases hf
    exact b_vret (by decide +kernel) rfl hk
  · have hf := if_f h37 hf
    refine b_blk (pc' := 270) (ls' := [some (mR (12, 0, 177)), some (mI v1), some (mJ (J 246 ((I 177 98) - (1 : Int32)).toNatClampNeg)), none, some (mJ (J 246 ((I 177 98) - (2 : Int32)).toNatClampNeg)), none]) (st' := [mJ 1, mR (12, 0, 177)]) (S' := (L, m_up I 177 98 ((I 177 98) - (2 : Int32)), J, R)) (P := True) [(.lconst 1, (0, 0, 0, 0, 1)), (.goto 4, (0, 270, 0, 0, 0))] [] (by decide +kernel) rfl trivial ?_
    obtain ⟨r39, hc39, hf⟩ := bnd_o hf
    refine b_cV (as := [mJ 1]) (st := []) (by decide +kernel) k_12_401 n_MD_qPuts rfl (by decide) v_MD_qPuts (C_MD_qPuts (m_up I 177 98 ((I 177 98) - (2 : Int32))) J (1 : Int64) hR hc39) (Nat.le_of_ble_eq_true rfl) (by decide) rfl rfl (fun _ h => h) ?_
    show m_B G (m_rm 2 0 0) M_MD_qJoins Q 0 0 273 [some (mR (12, 0, 177)), some (mI v1), some (mJ (J 246 ((I 177 98) - (1 : Int32)).toNatClampNeg)), none, some (mJ (J 246 ((I 177 98) - (2 : Int32)).toNatClampNeg)), none] [] (L, r39.1, r39.2, R)
    cases hf
    exact b_vret (by decide +kernel) rfl hk
theorem C_MD_qJoins {G : MG} {L : List (Nat × Nat)} {R : Nat → Nat → Option MRef} (I : MI) (J : MJ) (v1 : Int32) (hR : RF R) {r : MI × MJ} (hf : F_MD_qJoins I J v1 = some r) : m_met G 2 0 0 y_MD_qJoins M_MD_qJoins [mR (12, 0, 177), mI v1] (L, I, J, R) (m_is (none) (L, r.1, r.2, R)) :=
  m_met_in n_MD_qJoins (plainFor_of_name (by decide)) (by decide) (Nat.le_of_ble_eq_true rfl) (ls := [some (mR (12, 0, 177)), some (mI v1), none, none, none, none]) rfl (W_MD_qJoins I J v1 hR hf ⟨rfl, rfl⟩)
noncomputable def F_MD_qPartOf (I : MI) (v1 : Int32) (v2 : Int32) : Option (Int64) :=
  if v1 = 0 then ((F_MD_ageOf I v2).bind fun r2 => some (r2.toInt64 : Int64)) else (if v1 = 1 then (gd ((6 : Int32) + (I 177 53)) 12 <| some ((I 207 ((6 : Int32) + (I 177 53)).toNatClampNeg).toInt64 : Int64)) else (if v1 = 2 then (some ((I 213 0).toInt64 : Int64)) else (if v1 = 3 then (some ((I 177 54).toInt64 : Int64)) else (if v1 = 4 then ((F_MD_leftOf I v2).bind fun r8 => some (r8.toInt64 : Int64)) else (if v1 = 5 then (some (v2.toInt64 : Int64)) else (if v1 = 6 then ((F_MD_fieldOf I v2).bind fun r11 => some (r11.toInt64 : Int64)) else ((F_MD_isCut I v2).bind fun r12 => if r12 = (0 : Int32) then (some (0 : Int64)) else (some (1 : Int64)))))))))
set_option maxRecDepth 100000 in
set_option maxHeartbeats 400000 in
theorem W_MD_qPartOf {G : MG} {Q : Option MV → MS → Prop} {L : List (Nat × Nat)} {R : Nat → Nat → Option MRef} (I : MI) (J : MJ) (v1 : Int32) (v2 : Int32) (hR : RF R) {r : Int64} (hf : F_MD_qPartOf I v1 v2 = some r) (hk : (fun r : Int64 => Q (some (mJ r)) (L, I, J, R)) r) : m_B G (m_rm 4 0 0) M_MD_qPartOf Q 0 0 0 [some (mR (12, 0, 177)), some (mI v1), some (mI v2)] [] (L, I, J, R) := by
  unfold F_MD_qPartOf at hf
  refine b_blk (pc' := 1) (ls' := [some (mR (12, 0, 177)), some (mI v1), some (mI v2)]) (st' := [mI v1]) (S' := (L, I, J, R)) (P := True) [(.iload_n 1, (0, 0, 0, 0, 0))] [] (by decide +kernel) rfl trivial ?_
  by_cases h1 : v1 = 0
  · refine b_tswV (tgt := 44) (off := 43) (lo := 0) (hi := 6) (dflt := 95) (offs := #[43, 50, 64, 72, 78, 85, 88]) (len := 43) h1 (by decide +kernel) (by decide) (by decide) (by decide) (by decide) ?_
    have hf := if_t h1 hf
    refine b_blk (pc' := 46) (ls' := [some (mR (12, 0, 177)), some (mI v1), some (mI v2)]) (st' := [mI v2, mR (12, 0, 177)]) (S' := (L, I, J, R)) (P := True) [(.aload_n 0, (0, 0, 0, 0, 0)), (.iload_n 2, (0, 0, 0, 0, 0))] [] (by decide +kernel) rfl trivial ?_
    obtain ⟨r2, hc2, hf⟩ := bnd_o hf
    refine b_cV (as := [mI v2]) (st := []) (by decide +kernel) k_12_452 n_MD_ageOf rfl (by decide) v_MD_ageOf (C_MD_ageOf I J v2 hR hc2) (Nat.le_of_ble_eq_true rfl) (by decide) rfl rfl (fun _ h => h) ?_
    show m_B G (m_rm 4 0 0) M_MD_qPartOf Q 0 0 49 [some (mR (12, 0, 177)), some (mI v1), some (mI v2)] [mI r2] (L, I, J, R)
    refine b_blk (pc' := 50) (ls' := [some (mR (12, 0, 177)), some (mI v1), some (mI v2)]) (st' := [mJ r2.toInt64]) (S' := (L, I, J, R)) (P := True) [(.i2l, (0, 0, 0, 0, 0))] [] (by decide +kernel) rfl trivial ?_
    cases hf
    exact b_lret (by decide +kernel) rfl hk
  have hf := if_f h1 hf
  by_cases h3 : v1 = 1
  · refine b_tswV (tgt := 51) (off := 50) (lo := 0) (hi := 6) (dflt := 95) (offs := #[43, 50, 64, 72, 78, 85, 88]) (len := 43) h3 (by decide +kernel) (by decide) (by decide) (by decide) (by decide) ?_
    have hf := if_t h3 hf
    obtain ⟨g4, hf⟩ := gd_s hf
    refine b_blk (pc' := 64) (ls' := [some (mR (12, 0, 177)), some (mI v1), some (mI v2)]) (st' := [mJ ((I 207 ((6 : Int32) + (I 177 53)).toNatClampNeg).toInt64)]) (S' := (L, I, J, R)) (P := ((True ∧ R 177 39 = some (20, 12, 207)) ∧ vp_in ((6 : Int32) + (I 177 53)) 12)) [(.aload_n 0, (0, 0, 0, 0, 0)), (.getfield 103, (12, 39, 3, 0, 0)), (.bipush 6, (0, 0, 0, 6, 0)), (.aload_n 0, (0, 0, 0, 0, 0)), (.getfield 412, (12, 53, 0, 0, 0)), (.iadd, (0, 0, 0, 0, 0)), (.iaload, (0, 0, 0, 0, 0)), (.i2l, (0, 0, 0, 0, 0))] [some (20, 12, 207)] (by decide +kernel) rfl ⟨⟨trivial, (r_177_39 hR)⟩, (in_n (n := 12) (by decide) g4.1 g4.2)⟩ ?_
    cases hf
    exact b_lret (by decide +kernel) rfl hk
  have hf := if_f h3 hf
  by_cases h5 : v1 = 2
  · refine b_tswV (tgt := 65) (off := 64) (lo := 0) (hi := 6) (dflt := 95) (offs := #[43, 50, 64, 72, 78, 85, 88]) (len := 43) h5 (by decide +kernel) (by decide) (by decide) (by decide) (by decide) ?_
    have hf := if_t h5 hf
    refine b_blk (pc' := 72) (ls' := [some (mR (12, 0, 177)), some (mI v1), some (mI v2)]) (st' := [mJ ((I 213 0).toInt64)]) (S' := (L, I, J, R)) (P := ((True ∧ R 177 51 = some (20, 176, 213)) ∧ vp_in (0 : Int32) 176)) [(.aload_n 0, (0, 0, 0, 0, 0)), (.getfield 121, (12, 51, 3, 0, 0)), (.iconst 0, (0, 0, 0, 0, 0)), (.iaload, (0, 0, 0, 0, 0)), (.i2l, (0, 0, 0, 0, 0))] [some (20, 176, 213)] (by decide +kernel) rfl ⟨⟨trivial, (r_177_51 hR)⟩, (vp_in_nI (n := 0) (N := 176) (by decide) (by decide))⟩ ?_
    cases hf
    exact b_lret (by decide +kernel) rfl hk
  have hf := if_f h5 hf
  by_cases h6 : v1 = 3
  · refine b_tswV (tgt := 73) (off := 72) (lo := 0) (hi := 6) (dflt := 95) (offs := #[43, 50, 64, 72, 78, 85, 88]) (len := 43) h6 (by decide +kernel) (by decide) (by decide) (by decide) (by decide) ?_
    have hf := if_t h6 hf
    refine b_blk (pc' := 78) (ls' := [some (mR (12, 0, 177)), some (mI v1), some (mI v2)]) (st' := [mJ ((I 177 54).toInt64)]) (S' := (L, I, J, R)) (P := True) [(.aload_n 0, (0, 0, 0, 0, 0)), (.getfield 415, (12, 54, 0, 0, 0)), (.i2l, (0, 0, 0, 0, 0))] [] (by decide +kernel) rfl trivial ?_
    cases hf
    exact b_lret (by decide +kernel) rfl hk
  have hf := if_f h6 hf
  by_cases h7 : v1 = 4
  · refine b_tswV (tgt := 79) (off := 78) (lo := 0) (hi := 6) (dflt := 95) (offs := #[43, 50, 64, 72, 78, 85, 88]) (len := 43) h7 (by decide +kernel) (by decide) (by decide) (by decide) (by decide) ?_
    have hf := if_t h7 hf
    refine b_blk (pc' := 81) (ls' := [some (mR (12, 0, 177)), some (mI v1), some (mI v2)]) (st' := [mI v2, mR (12, 0, 177)]) (S' := (L, I, J, R)) (P := True) [(.aload_n 0, (0, 0, 0, 0, 0)), (.iload_n 2, (0, 0, 0, 0, 0))] [] (by decide +kernel) rfl trivial ?_
    obtain ⟨r8, hc8, hf⟩ := bnd_o hf
    refine b_cV (as := [mI v2]) (st := []) (by decide +kernel) k_12_467 n_MD_leftOf rfl (by decide) v_MD_leftOf (C_MD_leftOf I J v2 hR hc8) (Nat.le_of_ble_eq_true rfl) (by decide) rfl rfl (fun _ h => h) ?_
    show m_B G (m_rm 4 0 0) M_MD_qPartOf Q 0 0 84 [some (mR (12, 0, 177)), some (mI v1), some (mI v2)] [mI r8] (L, I, J, R)
    refine b_blk (pc' := 85) (ls' := [some (mR (12, 0, 177)), some (mI v1), some (mI v2)]) (st' := [mJ r8.toInt64]) (S' := (L, I, J, R)) (P := True) [(.i2l, (0, 0, 0, 0, 0))] [] (by decide +kernel) rfl trivial ?_
    cases hf
    exact b_lret (by decide +kernel) rfl hk
  have hf := if_f h7 hf
  by_cases h9 : v1 = 5
  · refine b_tswV (tgt := 86) (off := 85) (lo := 0) (hi := 6) (dflt := 95) (offs := #[43, 50, 64, 72, 78, 85, 88]) (len := 43) h9 (by decide +kernel) (by decide) (by decide) (by decide) (by decide) ?_
    have hf := if_t h9 hf
    refine b_blk (pc' := 88) (ls' := [some (mR (12, 0, 177)), some (mI v1), some (mI v2)]) (st' := [mJ v2.toInt64]) (S' := (L, I, J, R)) (P := True) [(.iload_n 2, (0, 0, 0, 0, 0)), (.i2l, (0, 0, 0, 0, 0))] [] (by decide +kernel) rfl trivial ?_
    cases hf
    exact b_lret (by decide +kernel) rfl hk
  have hf := if_f h9 hf
  by_cases h10 : v1 = 6
  · refine b_tswV (tgt := 89) (off := 88) (lo := 0) (hi := 6) (dflt := 95) (offs := #[43, 50, 64, 72, 78, 85, 88]) (len := 43) h10 (by decide +kernel) (by decide) (by decide) (by decide) (by decide) ?_
    have hf := if_t h10 hf
    refine b_blk (pc' := 91) (ls' := [some (mR (12, 0, 177)), some (mI v1), some (mI v2)]) (st' := [mI v2, mR (12, 0, 177)]) (S' := (L, I, J, R)) (P := True) [(.aload_n 0, (0, 0, 0, 0, 0)), (.iload_n 2, (0, 0, 0, 0, 0))] [] (by decide +kernel) rfl trivial ?_
    obtain ⟨r11, hc11, hf⟩ := bnd_o hf
    refine b_cV (as := [mI v2]) (st := []) (by decide +kernel) k_12_479 n_MD_fieldOf rfl (by decide) v_MD_fieldOf (C_MD_fieldOf I J v2 hR hc11) (Nat.le_of_ble_eq_true rfl) (by decide) rfl rfl (fun _ h => h) ?_
    show m_B G (m_rm 4 0 0) M_MD_qPartOf Q 0 0 94 [some (mR (12, 0, 177)), some (mI v1), some (mI v2)] [mI r11] (L, I, J, R)
    refine b_blk (pc' := 95) (ls' := [some (mR (12, 0, 177)), some (mI v1), some (mI v2)]) (st' := [mJ r11.toInt64]) (S' := (L, I, J, R)) (P := True) [(.i2l, (0, 0, 0, 0, 0))] [] (by decide +kernel) rfl trivial ?_
    cases hf
    exact b_lret (by decide +kernel) rfl hk
  have hf := if_f h10 hf
  refine b_tswD (tgt := 96) (lo := 0) (hi := 6) (dflt := 95) (offs := #[43, 50, 64, 72, 78, 85, 88]) (len := 43) (by decide +kernel) (by have q0 := lv_neT h1 (a := 0) (by decide); have q1 := lv_neT h3 (a := 1) (by decide); have q2 := lv_neT h5 (a := 2) (by decide); have q3 := lv_neT h6 (a := 3) (by decide); have q4 := lv_neT h7 (a := 4) (by decide); have q5 := lv_neT h9 (a := 5) (by decide); have q6 := lv_neT h10 (a := 6) (by decide); omega) (by decide) ?_
  refine b_blk (pc' := 98) (ls' := [some (mR (12, 0, 177)), some (mI v1), some (mI v2)]) (st' := [mI v2, mR (12, 0, 177)]) (S' := (L, I, J, R)) (P := True) [(.aload_n 0, (0, 0, 0, 0, 0)), (.iload_n 2, (0, 0, 0, 0, 0))] [] (by decide +kernel) rfl trivial ?_
  obtain ⟨r12, hc12, hf⟩ := bnd_o hf
  refine b_cV (as := [mI v2]) (st := []) (by decide +kernel) k_12_443 n_MD_isCut rfl (by decide) v_MD_isCut (C_MD_isCut I J v2 hR hc12) (Nat.le_of_ble_eq_true rfl) (by decide) rfl rfl (fun _ h => h) ?_
  show m_B G (m_rm 4 0 0) M_MD_qPartOf Q 0 0 101 [some (mR (12, 0, 177)), some (mI v1), some (mI v2)] [mI r12] (L, I, J, R)
  refine b_if_eq (off := 7) (tgt := 108) (by decide +kernel) (by decide) (fun h13 => ?_) (fun h13 => ?_)
  · have hf := if_t h13 hf
    refine b_blk (pc' := 109) (ls' := [some (mR (12, 0, 177)), some (mI v1), some (mI v2)]) (st' := [mJ 0]) (S' := (L, I, J, R)) (P := True) [(.lconst 0, (0, 0, 0, 0, 0))] [] (by decide +kernel) rfl trivial ?_
    cases hf
    exact b_lret (by decide +kernel) rfl hk
  · have hf := if_f h13 hf
    refine b_blk (pc' := 109) (ls' := [some (mR (12, 0, 177)), some (mI v1), some (mI v2)]) (st' := [mJ 1]) (S' := (L, I, J, R)) (P := True) [(.lconst 1, (0, 0, 0, 0, 1)), (.goto 4, (0, 109, 0, 0, 0))] [] (by decide +kernel) rfl trivial ?_
    cases hf
    exact b_lret (by decide +kernel) rfl hk
theorem C_MD_qPartOf {G : MG} {L : List (Nat × Nat)} {R : Nat → Nat → Option MRef} (I : MI) (J : MJ) (v1 : Int32) (v2 : Int32) (hR : RF R) {r : Int64} (hf : F_MD_qPartOf I v1 v2 = some r) : m_met G 4 0 0 y_MD_qPartOf M_MD_qPartOf [mR (12, 0, 177), mI v1, mI v2] (L, I, J, R) (m_is (some (mJ r)) (L, I, J, R)) :=
  m_met_in n_MD_qPartOf (plainFor_of_name (by decide)) (by decide) (Nat.le_of_ble_eq_true rfl) (ls := [some (mR (12, 0, 177)), some (mI v1), some (mI v2)]) rfl (W_MD_qPartOf I J v1 v2 hR hf ⟨rfl, rfl⟩)
noncomputable def F_MD_codesTell_19 (I : MI) (J : MJ) (v1 : Int32) (v2 : Int32) (v3 : Int32) : Option ((Int32 × MI × MJ) ⊕ (MI × MJ)) :=
  gd ((2 : Int32) + v1) 4 <| if (I 211 ((2 : Int32) + v1).toNatClampNeg) ≤ v3 then (some (.inr (I, J))) else (gd ((1600 : Int32) + v3) 3200 <| if (I 212 ((1600 : Int32) + v3).toNatClampNeg) < (1000 : Int32) then (if (I 212 ((1600 : Int32) + v3).toNatClampNeg) < (40 : Int32) then (if (I 212 ((1600 : Int32) + v3).toNatClampNeg) = (13 : Int32) then ((F_MD_qPuts I J (1 : Int64)).bind fun r12 => some (.inl ((v3 + 1 : Int32), r12.1, r12.2))) else (if (I 212 ((1600 : Int32) + v3).toNatClampNeg) = (12 : Int32) then (gd ((I 177 98) - (1 : Int32)) 1700 <| gd ((I 177 98) - (1 : Int32)) 1700 <| bnd (m_up J 246 (((I 177 98) - (1 : Int32)).toNatClampNeg) ((1 : Int64) - (J 246 ((I 177 98) - (1 : Int32)).toNatClampNeg)) : MJ) fun x11 => some (.inl ((v3 + 1 : Int32), I, x11))) else ((F_MD_qJoins I J (I 212 ((1600 : Int32) + v3).toNatClampNeg)).bind fun r8 => some (.inl ((v3 + 1 : Int32), r8.1, r8.2))))) else ((F_MD_qPartOf I ((I 212 ((1600 : Int32) + v3).toNatClampNeg) - (40 : Int32)) v2).bind fun r13 => (F_MD_qPuts I J r13).bind fun r14 => some (.inl ((v3 + 1 : Int32), r14.1, r14.2)))) else ((F_MD_qPuts I J (((I 212 ((1600 : Int32) + v3).toNatClampNeg) - (1000 : Int32)).toInt64)).bind fun r15 => some (.inl ((v3 + 1 : Int32), r15.1, r15.2))))
set_option maxRecDepth 100000 in
set_option maxHeartbeats 400000 in
theorem W_MD_codesTell_19 {G : MG} {Q : Option MV → MS → Prop} {L : List (Nat × Nat)} {R : Nat → Nat → Option MRef} (I : MI) (J : MJ) (v1 : Int32) (v2 : Int32) (v3 : Int32) (hR : RF R) {r : (Int32 × MI × MJ) ⊕ (MI × MJ)} (hf : F_MD_codesTell_19 I J v1 v2 v3 = some r) (hk : (Sum.elim (fun s : Int32 × MI × MJ => m_B G (m_rm 5 0 0) M_MD_codesTell Q 0 0 19 [some (mR (12, 0, 177)), some (mI v1), some (mI v2), some (mI s.1), none] [] (L, s.2.1, s.2.2, R)) (fun s : MI × MJ => m_B G (m_rm 5 0 0) M_MD_codesTell Q 0 0 150 [some (mR (12, 0, 177)), none, none, none, none] [] (L, s.1, s.2, R))) r) : m_B G (m_rm 5 0 0) M_MD_codesTell Q 0 0 19 [some (mR (12, 0, 177)), some (mI v1), some (mI v2), some (mI v3), none] [] (L, I, J, R) := by
  unfold F_MD_codesTell_19 at hf
  obtain ⟨g1, hf⟩ := gd_s hf
  refine b_blk (pc' := 28) (ls' := [some (mR (12, 0, 177)), some (mI v1), some (mI v2), some (mI v3), none]) (st' := [mI (I 211 ((2 : Int32) + v1).toNatClampNeg), mI v3]) (S' := (L, I, J, R)) (P := ((True ∧ R 177 45 = some (20, 4, 211)) ∧ vp_in ((2 : Int32) + v1) 4)) [(.iload_n 3, (0, 0, 0, 0, 0)), (.aload_n 0, (0, 0, 0, 0, 0)), (.getfield 115, (12, 45, 3, 0, 0)), (.iconst 2, (0, 0, 0, 2, 0)), (.iload_n 1, (0, 0, 0, 0, 0)), (.iadd, (0, 0, 0, 0, 0)), (.iaload, (0, 0, 0, 0, 0))] [some (20, 4, 211)] (by decide +kernel) rfl ⟨⟨trivial, (r_177_45 hR)⟩, (in_n (n := 4) (by decide) g1.1 g1.2)⟩ ?_
  refine b_icmp_ge (off := 122) (tgt := 150) (by decide +kernel) (by decide) (fun h2 => ?_) (fun h2 => ?_)
  · have hf := if_t h2 hf
    refine b_frg 1 ?_
    refine b_frg 2 ?_
    refine b_frg 3 ?_
    cases hf
    exact hk
  · have hf := if_f h2 hf
    obtain ⟨g3, hf⟩ := gd_s hf
    refine b_blk (pc' := 48) (ls' := [some (mR (12, 0, 177)), some (mI v1), some (mI v2), some (mI v3), some (mI (I 212 ((1600 : Int32) + v3).toNatClampNeg))]) (st' := [mI 1000, mI (I 212 ((1600 : Int32) + v3).toNatClampNeg)]) (S' := (L, I, J, R)) (P := ((True ∧ R 177 46 = some (20, 3200, 212)) ∧ vp_in ((1600 : Int32) + v3) 3200)) [(.aload_n 0, (0, 0, 0, 0, 0)), (.getfield 118, (12, 46, 3, 0, 0)), (.sipush 1600, (0, 0, 0, 1600, 0)), (.iload_n 3, (0, 0, 0, 0, 0)), (.iadd, (0, 0, 0, 0, 0)), (.iaload, (0, 0, 0, 0, 0)), (.istore 4, (0, 0, 0, 0, 0)), (.iload 4, (0, 0, 0, 0, 0)), (.sipush 1000, (0, 0, 0, 1000, 0))] [some (20, 3200, 212)] (by decide +kernel) rfl ⟨⟨trivial, (r_177_46 hR)⟩, (in_n (n := 3200) (by decide) g3.1 g3.2)⟩ ?_
    refine b_icmp_lt (off := 17) (tgt := 65) (by decide +kernel) (by decide) (fun h4 => ?_) (fun h4 => ?_)
    · have hf := if_t h4 hf
      refine b_blk (pc' := 69) (ls' := [some (mR (12, 0, 177)), some (mI v1), some (mI v2), some (mI v3), some (mI (I 212 ((1600 : Int32) + v3).toNatClampNeg))]) (st' := [mI 40, mI (I 212 ((1600 : Int32) + v3).toNatClampNeg)]) (S' := (L, I, J, R)) (P := True) [(.iload 4, (0, 0, 0, 0, 0)), (.bipush 40, (0, 0, 0, 40, 0))] [] (by decide +kernel) rfl trivial ?_
      refine b_icmp_lt (off := 20) (tgt := 89) (by decide +kernel) (by decide) (fun h5 => ?_) (fun h5 => ?_)
      · have hf := if_t h5 hf
        refine b_blk (pc' := 93) (ls' := [some (mR (12, 0, 177)), some (mI v1), some (mI v2), some (mI v3), some (mI (I 212 ((1600 : Int32) + v3).toNatClampNeg))]) (st' := [mI 13, mI (I 212 ((1600 : Int32) + v3).toNatClampNeg)]) (S' := (L, I, J, R)) (P := True) [(.iload 4, (0, 0, 0, 0, 0)), (.bipush 13, (0, 0, 0, 13, 0))] [] (by decide +kernel) rfl trivial ?_
        refine b_icmp_ne (off := 11) (tgt := 104) (by decide +kernel) (by decide) (fun h6 => ?_) (fun h6 => ?_)
        · have hf := if_f h6 hf
          refine b_blk (pc' := 108) (ls' := [some (mR (12, 0, 177)), some (mI v1), some (mI v2), some (mI v3), some (mI (I 212 ((1600 : Int32) + v3).toNatClampNeg))]) (st' := [mI 12, mI (I 212 ((1600 : Int32) + v3).toNatClampNeg)]) (S' := (L, I, J, R)) (P := True) [(.iload 4, (0, 0, 0, 0, 0)), (.bipush 12, (0, 0, 0, 12, 0))] [] (by decide +kernel) rfl trivial ?_
          refine b_icmp_ne (off := 30) (tgt := 138) (by decide +kernel) (by decide) (fun h7 => ?_) (fun h7 => ?_)
          · have hf := if_f h7 hf
            refine b_blk (pc' := 141) (ls' := [some (mR (12, 0, 177)), some (mI v1), some (mI v2), some (mI v3), some (mI (I 212 ((1600 : Int32) + v3).toNatClampNeg))]) (st' := [mI (I 212 ((1600 : Int32) + v3).toNatClampNeg), mR (12, 0, 177)]) (S' := (L, I, J, R)) (P := True) [(.aload_n 0, (0, 0, 0, 0, 0)), (.iload 4, (0, 0, 0, 0, 0))] [] (by decide +kernel) rfl trivial ?_
            obtain ⟨r8, hc8, hf⟩ := bnd_o hf
            refine b_cV (as := [mI (I 212 ((1600 : Int32) + v3).toNatClampNeg)]) (st := []) (by decide +kernel) k_12_409 n_MD_qJoins rfl (by decide) v_MD_qJoins (C_MD_qJoins I J (I 212 ((1600 : Int32) + v3).toNatClampNeg) hR hc8) (Nat.le_of_ble_eq_true rfl) (by decide) rfl rfl (fun _ h => h) ?_
            show m_B G (m_rm 5 0 0) M_MD_codesTell Q 0 0 144 [some (mR (12, 0, 177)), some (mI v1), some (mI v2), some (mI v3), some (mI (I 212 ((1600 : Int32) + v3).toNatClampNeg))] [] (L, r8.1, r8.2, R)
            refine b_blk (pc' := 19) (ls' := [some (mR (12, 0, 177)), some (mI v1), some (mI v2), some (mI (v3 + 1)), some (mI (I 212 ((1600 : Int32) + v3).toNatClampNeg))]) (st' := []) (S' := (L, r8.1, r8.2, R)) (P := True) [(.iinc 3 1, (0, 0, 0, 1, 0)), (.goto (-128), (0, 19, 0, 0, 0))] [] (by decide +kernel) rfl trivial ?_
            refine b_frg 4 ?_
            cases hf
            exact hk
          · have hf := if_t h7 hf
            obtain ⟨g9, hf⟩ := gd_s hf
            obtain ⟨g10, hf⟩ := gd_s hf
            refine b_blk (pc' := 144) (ls' := [some (mR (12, 0, 177)), some (mI v1), some (mI v2), some (mI v3), some (mI (I 212 ((1600 : Int32) + v3).toNatClampNeg))]) (st' := []) (S' := (L, I, m_up J 246 (((I 177 98) - (1 : Int32)).toNatClampNeg) ((1 : Int64) - (J 246 ((I 177 98) - (1 : Int32)).toNatClampNeg)), R)) (P := ((((True ∧ R 177 97 = some (21, 1700, 246)) ∧ R 177 97 = some (21, 1700, 246)) ∧ vp_in ((I 177 98) - (1 : Int32)) 1700) ∧ vp_in ((I 177 98) - (1 : Int32)) 1700)) [(.aload_n 0, (0, 0, 0, 0, 0)), (.getfield 225, (12, 97, 3, 0, 0)), (.aload_n 0, (0, 0, 0, 0, 0)), (.getfield 398, (12, 98, 0, 0, 0)), (.iconst 1, (0, 0, 0, 1, 0)), (.isub, (0, 0, 0, 0, 0)), (.lconst 1, (0, 0, 0, 0, 1)), (.aload_n 0, (0, 0, 0, 0, 0)), (.getfield 225, (12, 97, 3, 0, 0)), (.aload_n 0, (0, 0, 0, 0, 0)), (.getfield 398, (12, 98, 0, 0, 0)), (.iconst 1, (0, 0, 0, 1, 0)), (.isub, (0, 0, 0, 0, 0)), (.laload, (0, 0, 0, 0, 0)), (.lsub, (0, 0, 0, 0, 0)), (.lastore, (0, 0, 0, 0, 0)), (.goto 9, (0, 144, 0, 0, 0))] [some (21, 1700, 246), some (21, 1700, 246)] (by decide +kernel) rfl ⟨⟨⟨⟨trivial, (r_177_97 hR)⟩, (r_177_97 hR)⟩, (in_n (n := 1700) (by decide) g9.1 g9.2)⟩, (in_n (n := 1700) (by decide) g10.1 g10.2)⟩ ?_
            obtain ⟨x11, ex11, hf⟩ := bnd_s hf
            refine m_B_cg (ls' := [some (mR (12, 0, 177)), some (mI v1), some (mI v2), some (mI v3), some (mI (I 212 ((1600 : Int32) + v3).toNatClampNeg))]) (st' := []) (S' := (L, I, x11, R)) (by first | with_reducible rfl | rw [ex11]) (by first | with_reducible rfl | rw [ex11]) (by first | with_reducible rfl | rw [ex11]) ?_
            refine b_blk (pc' := 19) (ls' := [some (mR (12, 0, 177)), some (mI v1), some (mI v2), some (mI (v3 + 1)), some (mI (I 212 ((1600 : Int32) + v3).toNatClampNeg))]) (st' := []) (S' := (L, I, x11, R)) (P := True) [(.iinc 3 1, (0, 0, 0, 1, 0)), (.goto (-128), (0, 19, 0, 0, 0))] [] (by decide +kernel) rfl trivial ?_
            refine b_frg 4 ?_
            cases hf
            exact hk
        · have hf := if_t h6 hf
          refine b_blk (pc' := 98) (ls' := [some (mR (12, 0, 177)), some (mI v1), some (mI v2), some (mI v3), some (mI (I 212 ((1600 : Int32) + v3).toNatClampNeg))]) (st' := [mJ 1, mR (12, 0, 177)]) (S' := (L, I, J, R)) (P := True) [(.aload_n 0, (0, 0, 0, 0, 0)), (.lconst 1, (0, 0, 0, 0, 1))] [] (by decide +kernel) rfl trivial ?_
          obtain ⟨r12, hc12, hf⟩ := bnd_o hf
          refine b_cV (as := [mJ 1]) (st := []) (by decide +kernel) k_12_401 n_MD_qPuts rfl (by decide) v_MD_qPuts (C_MD_qPuts I J (1 : Int64) hR hc12) (Nat.le_of_ble_eq_true rfl) (by decide) rfl rfl (fun _ h => h) ?_
          show m_B G (m_rm 5 0 0) M_MD_codesTell Q 0 0 101 [some (mR (12, 0, 177)), some (mI v1), some (mI v2), some (mI v3), some (mI (I 212 ((1600 : Int32) + v3).toNatClampNeg))] [] (L, r12.1, r12.2, R)
          refine b_blk (pc' := 144) (ls' := [some (mR (12, 0, 177)), some (mI v1), some (mI v2), some (mI v3), some (mI (I 212 ((1600 : Int32) + v3).toNatClampNeg))]) (st' := []) (S' := (L, r12.1, r12.2, R)) (P := True) [(.goto 43, (0, 144, 0, 0, 0))] [] (by decide +kernel) rfl trivial ?_
          refine b_blk (pc' := 19) (ls' := [some (mR (12, 0, 177)), some (mI v1), some (mI v2), some (mI (v3 + 1)), some (mI (I 212 ((1600 : Int32) + v3).toNatClampNeg))]) (st' := []) (S' := (L, r12.1, r12.2, R)) (P := True) [(.iinc 3 1, (0, 0, 0, 1, 0)), (.goto (-128), (0, 19, 0, 0, 0))] [] (by decide +kernel) rfl trivial ?_
          refine b_frg 4 ?_
          cases hf
          exact hk
      · have hf := if_f h5 hf
        refine b_blk (pc' := 80) (ls' := [some (mR (12, 0, 177)), some (mI v1), some (mI v2), some (mI v3), some (mI (I 212 ((1600 : Int32) + v3).toNatClampNeg))]) (st' := [mI v2, mI ((I 212 ((1600 : Int32) + v3).toNatClampNeg) - (40 : Int32)), mR (12, 0, 177), mR (12, 0, 177)]) (S' := (L, I, J, R)) (P := True) [(.aload_n 0, (0, 0, 0, 0, 0)), (.aload_n 0, (0, 0, 0, 0, 0)), (.iload 4, (0, 0, 0, 0, 0)), (.bipush 40, (0, 0, 0, 40, 0)), (.isub, (0, 0, 0, 0, 0)), (.iload_n 2, (0, 0, 0, 0, 0))] [] (by decide +kernel) rfl trivial ?_
        obtain ⟨r13, hc13, hf⟩ := bnd_o hf
        refine b_cV (as := [mI ((I 212 ((1600 : Int32) + v3).toNatClampNeg) - (40 : Int32)), mI v2]) (st := [mR (12, 0, 177)]) (by decide +kernel) k_12_405 n_MD_qPartOf rfl (by decide) v_MD_qPartOf (C_MD_qPartOf I J ((I 212 ((1600 : Int32) + v3).toNatClampNeg) - (40 : Int32)) v2 hR hc13) (Nat.le_of_ble_eq_true rfl) (by decide) rfl rfl (fun _ h => h) ?_
        show m_B G (m_rm 5 0 0) M_MD_codesTell Q 0 0 83 [some (mR (12, 0, 177)), some (mI v1), some (mI v2), some (mI v3), some (mI (I 212 ((1600 : Int32) + v3).toNatClampNeg))] [mJ r13, mR (12, 0, 177)] (L, I, J, R)
        obtain ⟨r14, hc14, hf⟩ := bnd_o hf
        refine b_cV (as := [mJ r13]) (st := []) (by decide +kernel) k_12_401 n_MD_qPuts rfl (by decide) v_MD_qPuts (C_MD_qPuts I J r13 hR hc14) (Nat.le_of_ble_eq_true rfl) (by decide) rfl rfl (fun _ h => h) ?_
        show m_B G (m_rm 5 0 0) M_MD_codesTell Q 0 0 86 [some (mR (12, 0, 177)), some (mI v1), some (mI v2), some (mI v3), some (mI (I 212 ((1600 : Int32) + v3).toNatClampNeg))] [] (L, r14.1, r14.2, R)
        refine b_blk (pc' := 144) (ls' := [some (mR (12, 0, 177)), some (mI v1), some (mI v2), some (mI v3), some (mI (I 212 ((1600 : Int32) + v3).toNatClampNeg))]) (st' := []) (S' := (L, r14.1, r14.2, R)) (P := True) [(.goto 58, (0, 144, 0, 0, 0))] [] (by decide +kernel) rfl trivial ?_
        refine b_blk (pc' := 19) (ls' := [some (mR (12, 0, 177)), some (mI v1), some (mI v2), some (mI (v3 + 1)), some (mI (I 212 ((1600 : Int32) + v3).toNatClampNeg))]) (st' := []) (S' := (L, r14.1, r14.2, R)) (P := True) [(.iinc 3 1, (0, 0, 0, 1, 0)), (.goto (-128), (0, 19, 0, 0, 0))] [] (by decide +kernel) rfl trivial ?_
        refine b_frg 4 ?_
        cases hf
        exact hk
    · have hf := if_f h4 hf
      refine b_blk (pc' := 59) (ls' := [some (mR (12, 0, 177)), some (mI v1), some (mI v2), some (mI v3), some (mI (I 212 ((1600 : Int32) + v3).toNatClampNeg))]) (st' := [mJ (((I 212 ((1600 : Int32) + v3).toNatClampNeg) - (1000 : Int32)).toInt64), mR (12, 0, 177)]) (S' := (L, I, J, R)) (P := True) [(.aload_n 0, (0, 0, 0, 0, 0)), (.iload 4, (0, 0, 0, 0, 0)), (.sipush 1000, (0, 0, 0, 1000, 0)), (.isub, (0, 0, 0, 0, 0)), (.i2l, (0, 0, 0, 0, 0))] [] (by decide +kernel) rfl trivial ?_
      obtain ⟨r15, hc15, hf⟩ := bnd_o hf
      refine b_cV (as := [mJ (((I 212 ((1600 : Int32) + v3).toNatClampNeg) - (1000 : Int32)).toInt64)]) (st := []) (by decide +kernel) k_12_401 n_MD_qPuts rfl (by decide) v_MD_qPuts (C_MD_qPuts I J (((I 212 ((1600 : Int32) + v3).toNatClampNeg) - (1000 : Int32)).toInt64) hR hc15) (Nat.le_of_ble_eq_true rfl) (by decide) rfl rfl (fun _ h => h) ?_
      show m_B G (m_rm 5 0 0) M_MD_codesTell Q 0 0 62 [some (mR (12, 0, 177)), some (mI v1), some (mI v2), some (mI v3), some (mI (I 212 ((1600 : Int32) + v3).toNatClampNeg))] [] (L, r15.1, r15.2, R)
      refine b_blk (pc' := 144) (ls' := [some (mR (12, 0, 177)), some (mI v1), some (mI v2), some (mI v3), some (mI (I 212 ((1600 : Int32) + v3).toNatClampNeg))]) (st' := []) (S' := (L, r15.1, r15.2, R)) (P := True) [(.goto 82, (0, 144, 0, 0, 0))] [] (by decide +kernel) rfl trivial ?_
      refine b_blk (pc' := 19) (ls' := [some (mR (12, 0, 177)), some (mI v1), some (mI v2), some (mI (v3 + 1)), some (mI (I 212 ((1600 : Int32) + v3).toNatClampNeg))]) (st' := []) (S' := (L, r15.1, r15.2, R)) (P := True) [(.iinc 3 1, (0, 0, 0, 1, 0)), (.goto (-128), (0, 19, 0, 0, 0))] [] (by decide +kernel) rfl trivial ?_
      refine b_frg 4 ?_
      cases hf
      exact hk
noncomputable def F_MD_codesTell (I : MI) (J : MJ) (v1 : Int32) (v2 : Int32) : Option (Int64 × MI × MJ) :=
  gd ((2 : Int32) + v1) 4 <| (wl (fun s : Int32 × MI × MJ => F_MD_codesTell_19 s.2.1 s.2.2 v1 v2 s.1) ((I 210 ((2 : Int32) + v1).toNatClampNeg : Int32), m_up (m_up I 177 50 v1) 177 98 (0 : Int32), J)).bind fun t2 => some ((t2.2 246 0 : Int64), t2.1, t2.2)
set_option maxRecDepth 100000 in
set_option maxHeartbeats 400000 in
theorem W_MD_codesTell {G : MG} {Q : Option MV → MS → Prop} {L : List (Nat × Nat)} {R : Nat → Nat → Option MRef} (I : MI) (J : MJ) (v1 : Int32) (v2 : Int32) (hR : RF R) {r : Int64 × MI × MJ} (hf : F_MD_codesTell I J v1 v2 = some r) (hk : (fun r : Int64 × MI × MJ => Q (some (mJ r.1)) (L, r.2.1, r.2.2, R)) r) : m_B G (m_rm 5 0 0) M_MD_codesTell Q 0 0 0 [some (mR (12, 0, 177)), some (mI v1), some (mI v2), none, none] [] (L, I, J, R) := by
  unfold F_MD_codesTell at hf
  obtain ⟨g1, hf⟩ := gd_s hf
  refine b_blk (pc' := 19) (ls' := [some (mR (12, 0, 177)), some (mI v1), some (mI v2), some (mI (I 210 ((2 : Int32) + v1).toNatClampNeg)), none]) (st' := []) (S' := (L, m_up (m_up I 177 50 v1) 177 98 (0 : Int32), J, R)) (P := ((True ∧ R 177 44 = some (20, 4, 210)) ∧ vp_in ((2 : Int32) + v1) 4)) [(.aload_n 0, (0, 0, 0, 0, 0)), (.iload_n 1, (0, 0, 0, 0, 0)), (.putfield 292, (12, 50, 0, 0, 0)), (.aload_n 0, (0, 0, 0, 0, 0)), (.iconst 0, (0, 0, 0, 0, 0)), (.putfield 398, (12, 98, 0, 0, 0)), (.aload_n 0, (0, 0, 0, 0, 0)), (.getfield 112, (12, 44, 3, 0, 0)), (.iconst 2, (0, 0, 0, 2, 0)), (.iload_n 1, (0, 0, 0, 0, 0)), (.iadd, (0, 0, 0, 0, 0)), (.iaload, (0, 0, 0, 0, 0)), (.istore_n 3, (0, 0, 0, 0, 0))] [some (20, 4, 210)] (by decide +kernel) rfl ⟨⟨trivial, (r_177_44 hR)⟩, (in_n (n := 4) (by decide) g1.1 g1.2)⟩ ?_
  obtain ⟨t2, hw, hf⟩ := bnd_o hf
  refine wl_B (A := fun s : Int32 × MI × MJ => m_B G (m_rm 5 0 0) M_MD_codesTell Q 0 0 19 [some (mR (12, 0, 177)), some (mI v1), some (mI v2), some (mI s.1), none] [] (L, s.2.1, s.2.2, R)) (B := (fun s : MI × MJ => m_B G (m_rm 5 0 0) M_MD_codesTell Q 0 0 150 [some (mR (12, 0, 177)), none, none, none, none] [] (L, s.1, s.2, R))) (fun s r hs hr => W_MD_codesTell_19 s.2.1 s.2.2 v1 v2 s.1 hR hs hr) hw ?_
  show m_B G (m_rm 5 0 0) M_MD_codesTell Q 0 0 150 [some (mR (12, 0, 177)), none, none, none, none] [] (L, t2.1, t2.2, R)
  refine b_blk (pc' := 156) (ls' := [some (mR (12, 0, 177)), none, none, none, none]) (st' := [mJ (t2.2 246 0)]) (S' := (L, t2.1, t2.2, R)) (P := ((True ∧ R 177 97 = some (21, 1700, 246)) ∧ vp_in (0 : Int32) 1700)) [(.aload_n 0, (0, 0, 0, 0, 0)), (.getfield 225, (12, 97, 3, 0, 0)), (.iconst 0, (0, 0, 0, 0, 0)), (.laload, (0, 0, 0, 0, 0))] [some (21, 1700, 246)] (by decide +kernel) rfl ⟨⟨trivial, (r_177_97 hR)⟩, (vp_in_nI (n := 0) (N := 1700) (by decide) (by decide))⟩ ?_
  cases hf
  exact b_lret (by decide +kernel) rfl hk
theorem C_MD_codesTell {G : MG} {L : List (Nat × Nat)} {R : Nat → Nat → Option MRef} (I : MI) (J : MJ) (v1 : Int32) (v2 : Int32) (hR : RF R) {r : Int64 × MI × MJ} (hf : F_MD_codesTell I J v1 v2 = some r) : m_met G 5 0 0 y_MD_codesTell M_MD_codesTell [mR (12, 0, 177), mI v1, mI v2] (L, I, J, R) (m_is (some (mJ r.1)) (L, r.2.1, r.2.2, R)) :=
  m_met_in n_MD_codesTell (plainFor_of_name (by decide)) (by decide) (Nat.le_of_ble_eq_true rfl) (ls := [some (mR (12, 0, 177)), some (mI v1), some (mI v2), none, none]) rfl (W_MD_codesTell I J v1 v2 hR hf ⟨rfl, rfl⟩)
noncomputable def F_MD_walkOf (I : MI) (J : MJ) (v1 : Int32) (v2 : Int32) : Option (Int32 × MI × MJ) :=
  if (I 210 2) = (-1 : Int32) then (gd ((6 : Int32) + v2) 12 <| some ((I 207 ((6 : Int32) + v2).toNatClampNeg : Int32), I, J)) else ((F_MD_rowOf (m_up I 177 53 v2) v1 v2).bind fun r2 => (F_MD_codesTell (m_up (m_up I 177 53 v2) 177 54 r2) J (0 : Int32) v1).bind fun r3 => if (0 : Int32) ≤ (lg_cmp r3.1 (0 : Int64)) then (if (lg_cmp r3.1 (9 : Int64)) ≤ (0 : Int32) then (some ((r3.1.toInt32 : Int32), r3.2.1, r3.2.2)) else (some ((9 : Int32), r3.2.1, r3.2.2))) else (some ((0 : Int32), r3.2.1, r3.2.2)))
set_option maxRecDepth 100000 in
set_option maxHeartbeats 400000 in
theorem W_MD_walkOf {G : MG} {Q : Option MV → MS → Prop} {L : List (Nat × Nat)} {R : Nat → Nat → Option MRef} (I : MI) (J : MJ) (v1 : Int32) (v2 : Int32) (hR : RF R) {r : Int32 × MI × MJ} (hf : F_MD_walkOf I J v1 v2 = some r) (hk : (fun r : Int32 × MI × MJ => Q (some (mI r.1)) (L, r.2.1, r.2.2, R)) r) : m_B G (m_rm 6 0 0) M_MD_walkOf Q 0 0 0 [some (mR (12, 0, 177)), some (mI v1), some (mI v2), none, none] [] (L, I, J, R) := by
  unfold F_MD_walkOf at hf
  refine b_blk (pc' := 7) (ls' := [some (mR (12, 0, 177)), some (mI v1), some (mI v2), none, none]) (st' := [mI (-1), mI (I 210 2)]) (S' := (L, I, J, R)) (P := ((True ∧ R 177 44 = some (20, 4, 210)) ∧ vp_in (2 : Int32) 4)) [(.aload_n 0, (0, 0, 0, 0, 0)), (.getfield 112, (12, 44, 3, 0, 0)), (.iconst 2, (0, 0, 0, 2, 0)), (.iaload, (0, 0, 0, 0, 0)), (.iconst (-1), (0, 0, 0, (-1), 0))] [some (20, 4, 210)] (by decide +kernel) rfl ⟨⟨trivial, (r_177_44 hR)⟩, (vp_in_nI (n := 2) (N := 4) (by decide) (by decide))⟩ ?_
  refine b_icmp_ne (off := 13) (tgt := 20) (by decide +kernel) (by decide) (fun h1 => ?_) (fun h1 => ?_)
  · have hf := if_f h1 hf
    refine b_blk (pc' := 29) (ls' := [some (mR (12, 0, 177)), some (mI v1), some (mI v2), none, none]) (st' := [mI v2, mI v1, mR (12, 0, 177), mR (12, 0, 177)]) (S' := (L, m_up I 177 53 v2, J, R)) (P := True) [(.aload_n 0, (0, 0, 0, 0, 0)), (.iload_n 2, (0, 0, 0, 0, 0)), (.putfield 412, (12, 53, 0, 0, 0)), (.aload_n 0, (0, 0, 0, 0, 0)), (.aload_n 0, (0, 0, 0, 0, 0)), (.iload_n 1, (0, 0, 0, 0, 0)), (.iload_n 2, (0, 0, 0, 0, 0))] [] (by decide +kernel) rfl trivial ?_
    obtain ⟨r2, hc2, hf⟩ := bnd_o hf
    refine b_cV (as := [mI v1, mI v2]) (st := [mR (12, 0, 177)]) (by decide +kernel) k_12_392 n_MD_rowOf rfl (by decide) v_MD_rowOf (C_MD_rowOf (m_up I 177 53 v2) J v1 v2 hR hc2) (Nat.le_of_ble_eq_true rfl) (by decide) rfl rfl (fun _ h => h) ?_
    show m_B G (m_rm 6 0 0) M_MD_walkOf Q 0 0 32 [some (mR (12, 0, 177)), some (mI v1), some (mI v2), none, none] [mI r2, mR (12, 0, 177)] (L, m_up I 177 53 v2, J, R)
    refine b_blk (pc' := 38) (ls' := [some (mR (12, 0, 177)), some (mI v1), some (mI v2), none, none]) (st' := [mI v1, mI 0, mR (12, 0, 177)]) (S' := (L, m_up (m_up I 177 53 v2) 177 54 r2, J, R)) (P := True) [(.putfield 415, (12, 54, 0, 0, 0)), (.aload_n 0, (0, 0, 0, 0, 0)), (.iconst 0, (0, 0, 0, 0, 0)), (.iload_n 1, (0, 0, 0, 0, 0))] [] (by decide +kernel) rfl trivial ?_
    obtain ⟨r3, hc3, hf⟩ := bnd_o hf
    refine b_cV (as := [mI 0, mI v1]) (st := []) (by decide +kernel) k_12_418 n_MD_codesTell rfl (by decide) v_MD_codesTell (C_MD_codesTell (m_up (m_up I 177 53 v2) 177 54 r2) J (0 : Int32) v1 hR hc3) (Nat.le_of_ble_eq_true rfl) (by decide) rfl rfl (fun _ h => h) ?_
    show m_B G (m_rm 6 0 0) M_MD_walkOf Q 0 0 41 [some (mR (12, 0, 177)), some (mI v1), some (mI v2), none, none] [mJ r3.1] (L, r3.2.1, r3.2.2, R)
    refine b_blk (pc' := 45) (ls' := [some (mR (12, 0, 177)), some (mI v1), some (mI v2), some (mJ r3.1), none]) (st' := [mI (lg_cmp r3.1 (0 : Int64))]) (S' := (L, r3.2.1, r3.2.2, R)) (P := True) [(.lstore_n 3, (0, 0, 0, 0, 0)), (.lload_n 3, (0, 0, 0, 0, 0)), (.lconst 0, (0, 0, 0, 0, 0)), (.lcmp, (0, 0, 0, 0, 0))] [] (by decide +kernel) rfl trivial ?_
    refine b_if_ge (off := 7) (tgt := 52) (by decide +kernel) (by decide) (fun h4 => ?_) (fun h4 => ?_)
    · have hf := if_t h4 hf
      refine b_blk (pc' := 57) (ls' := [some (mR (12, 0, 177)), some (mI v1), some (mI v2), some (mJ r3.1), none]) (st' := [mI (lg_cmp r3.1 (9 : Int64))]) (S' := (L, r3.2.1, r3.2.2, R)) (P := True) [(.lload_n 3, (0, 0, 0, 0, 0)), (.ldc2_w 421, (0, 0, 0, 0, 9)), (.lcmp, (0, 0, 0, 0, 0))] [] (by decide +kernel) rfl trivial ?_
      refine b_if_le (off := 8) (tgt := 65) (by decide +kernel) (by decide) (fun h5 => ?_) (fun h5 => ?_)
      · have hf := if_t h5 hf
        refine b_blk (pc' := 67) (ls' := [some (mR (12, 0, 177)), some (mI v1), some (mI v2), some (mJ r3.1), none]) (st' := [mI r3.1.toInt32]) (S' := (L, r3.2.1, r3.2.2, R)) (P := True) [(.lload_n 3, (0, 0, 0, 0, 0)), (.l2i, (0, 0, 0, 0, 0))] [] (by decide +kernel) rfl trivial ?_
        cases hf
        exact b_iret (by decide +kernel) rfl hk
      · have hf := if_f h5 hf
        refine b_blk (pc' := 67) (ls' := [some (mR (12, 0, 177)), some (mI v1), some (mI v2), some (mJ r3.1), none]) (st' := [mI 9]) (S' := (L, r3.2.1, r3.2.2, R)) (P := True) [(.bipush 9, (0, 0, 0, 9, 0)), (.goto 5, (0, 67, 0, 0, 0))] [] (by decide +kernel) rfl trivial ?_
        cases hf
        exact b_iret (by decide +kernel) rfl hk
    · have hf := if_f h4 hf
      refine b_blk (pc' := 67) (ls' := [some (mR (12, 0, 177)), some (mI v1), some (mI v2), some (mJ r3.1), none]) (st' := [mI 0]) (S' := (L, r3.2.1, r3.2.2, R)) (P := True) [(.iconst 0, (0, 0, 0, 0, 0)), (.goto 18, (0, 67, 0, 0, 0))] [] (by decide +kernel) rfl trivial ?_
      cases hf
      exact b_iret (by decide +kernel) rfl hk
  · have hf := if_t h1 hf
    obtain ⟨g6, hf⟩ := gd_s hf
    refine b_blk (pc' := 19) (ls' := [some (mR (12, 0, 177)), some (mI v1), some (mI v2), none, none]) (st' := [mI (I 207 ((6 : Int32) + v2).toNatClampNeg)]) (S' := (L, I, J, R)) (P := ((True ∧ R 177 39 = some (20, 12, 207)) ∧ vp_in ((6 : Int32) + v2) 12)) [(.aload_n 0, (0, 0, 0, 0, 0)), (.getfield 103, (12, 39, 3, 0, 0)), (.bipush 6, (0, 0, 0, 6, 0)), (.iload_n 2, (0, 0, 0, 0, 0)), (.iadd, (0, 0, 0, 0, 0)), (.iaload, (0, 0, 0, 0, 0))] [some (20, 12, 207)] (by decide +kernel) rfl ⟨⟨trivial, (r_177_39 hR)⟩, (in_n (n := 12) (by decide) g6.1 g6.2)⟩ ?_
    cases hf
    exact b_iret (by decide +kernel) rfl hk
theorem C_MD_walkOf {G : MG} {L : List (Nat × Nat)} {R : Nat → Nat → Option MRef} (I : MI) (J : MJ) (v1 : Int32) (v2 : Int32) (hR : RF R) {r : Int32 × MI × MJ} (hf : F_MD_walkOf I J v1 v2 = some r) : m_met G 6 0 0 y_MD_walkOf M_MD_walkOf [mR (12, 0, 177), mI v1, mI v2] (L, I, J, R) (m_is (some (mI r.1)) (L, r.2.1, r.2.2, R)) :=
  m_met_in n_MD_walkOf (plainFor_of_name (by decide)) (by decide) (Nat.le_of_ble_eq_true rfl) (ls := [some (mR (12, 0, 177)), some (mI v1), some (mI v2), none, none]) rfl (W_MD_walkOf I J v1 v2 hR hf ⟨rfl, rfl⟩)
noncomputable def F_MD_walks (I : MI) (J : MJ) (v1 : Int32) (v2 : Int32) : Option (Int32 × MI × MJ) :=
  (F_MD_isFence I v1).bind fun r1 => if r1 = (0 : Int32) then (some (((-1) : Int32), I, J)) else ((F_MD_isColumn I v2).bind fun r3 => if r3 = (0 : Int32) then (some (((-1) : Int32), I, J)) else ((F_MD_rowOf I v1 v2).bind fun r5 => if r5 = (-1 : Int32) then (some (((-1) : Int32), I, J)) else ((F_MD_walkOf I J v1 v2).bind fun r7 => some ((r7.1 : Int32), r7.2.1, r7.2.2))))
set_option maxRecDepth 100000 in
set_option maxHeartbeats 400000 in
theorem W_MD_walks {G : MG} {Q : Option MV → MS → Prop} {L : List (Nat × Nat)} {R : Nat → Nat → Option MRef} (I : MI) (J : MJ) (v1 : Int32) (v2 : Int32) (hR : RF R) {r : Int32 × MI × MJ} (hf : F_MD_walks I J v1 v2 = some r) (hk : (fun r : Int32 × MI × MJ => Q (some (mI r.1)) (L, r.2.1, r.2.2, R)) r) : m_B G (m_rm 7 0 0) M_MD_walks Q 0 0 0 [some (mR (12, 0, 177)), some (mI v1), some (mI v2)] [] (L, I, J, R) := by
  unfold F_MD_walks at hf
  refine b_blk (pc' := 2) (ls' := [some (mR (12, 0, 177)), some (mI v1), some (mI v2)]) (st' := [mI v1, mR (12, 0, 177)]) (S' := (L, I, J, R)) (P := True) [(.aload_n 0, (0, 0, 0, 0, 0)), (.iload_n 1, (0, 0, 0, 0, 0))] [] (by decide +kernel) rfl trivial ?_
  obtain ⟨r1, hc1, hf⟩ := bnd_o hf
  refine b_cV (as := [mI v1]) (st := []) (by decide +kernel) k_12_482 n_MD_isFence rfl (by decide) v_MD_isFence (C_MD_isFence I J v1 hR hc1) (Nat.le_of_ble_eq_true rfl) (by decide) rfl rfl (fun _ h => h) ?_
  show m_B G (m_rm 7 0 0) M_MD_walks Q 0 0 5 [some (mR (12, 0, 177)), some (mI v1), some (mI v2)] [mI r1] (L, I, J, R)
  refine b_if_eq (off := 30) (tgt := 35) (by decide +kernel) (by decide) (fun h2 => ?_) (fun h2 => ?_)
  · have hf := if_t h2 hf
    refine b_blk (pc' := 36) (ls' := [some (mR (12, 0, 177)), some (mI v1), some (mI v2)]) (st' := [mI (-1)]) (S' := (L, I, J, R)) (P := True) [(.iconst (-1), (0, 0, 0, (-1), 0))] [] (by decide +kernel) rfl trivial ?_
    cases hf
    exact b_iret (by decide +kernel) rfl hk
  · have hf := if_f h2 hf
    refine b_blk (pc' := 10) (ls' := [some (mR (12, 0, 177)), some (mI v1), some (mI v2)]) (st' := [mI v2, mR (12, 0, 177)]) (S' := (L, I, J, R)) (P := True) [(.aload_n 0, (0, 0, 0, 0, 0)), (.iload_n 2, (0, 0, 0, 0, 0))] [] (by decide +kernel) rfl trivial ?_
    obtain ⟨r3, hc3, hf⟩ := bnd_o hf
    refine b_cV (as := [mI v2]) (st := []) (by decide +kernel) k_12_385 n_MD_isColumn rfl (by decide) v_MD_isColumn (C_MD_isColumn I J v2 hR hc3) (Nat.le_of_ble_eq_true rfl) (by decide) rfl rfl (fun _ h => h) ?_
    show m_B G (m_rm 7 0 0) M_MD_walks Q 0 0 13 [some (mR (12, 0, 177)), some (mI v1), some (mI v2)] [mI r3] (L, I, J, R)
    refine b_if_eq (off := 22) (tgt := 35) (by decide +kernel) (by decide) (fun h4 => ?_) (fun h4 => ?_)
    · have hf := if_t h4 hf
      refine b_blk (pc' := 36) (ls' := [some (mR (12, 0, 177)), some (mI v1), some (mI v2)]) (st' := [mI (-1)]) (S' := (L, I, J, R)) (P := True) [(.iconst (-1), (0, 0, 0, (-1), 0))] [] (by decide +kernel) rfl trivial ?_
      cases hf
      exact b_iret (by decide +kernel) rfl hk
    · have hf := if_f h4 hf
      refine b_blk (pc' := 19) (ls' := [some (mR (12, 0, 177)), some (mI v1), some (mI v2)]) (st' := [mI v2, mI v1, mR (12, 0, 177)]) (S' := (L, I, J, R)) (P := True) [(.aload_n 0, (0, 0, 0, 0, 0)), (.iload_n 1, (0, 0, 0, 0, 0)), (.iload_n 2, (0, 0, 0, 0, 0))] [] (by decide +kernel) rfl trivial ?_
      obtain ⟨r5, hc5, hf⟩ := bnd_o hf
      refine b_cV (as := [mI v1, mI v2]) (st := []) (by decide +kernel) k_12_392 n_MD_rowOf rfl (by decide) v_MD_rowOf (C_MD_rowOf I J v1 v2 hR hc5) (Nat.le_of_ble_eq_true rfl) (by decide) rfl rfl (fun _ h => h) ?_
      show m_B G (m_rm 7 0 0) M_MD_walks Q 0 0 22 [some (mR (12, 0, 177)), some (mI v1), some (mI v2)] [mI r5] (L, I, J, R)
      refine b_blk (pc' := 23) (ls' := [some (mR (12, 0, 177)), some (mI v1), some (mI v2)]) (st' := [mI (-1), mI r5]) (S' := (L, I, J, R)) (P := True) [(.iconst (-1), (0, 0, 0, (-1), 0))] [] (by decide +kernel) rfl trivial ?_
      refine b_icmp_eq (off := 12) (tgt := 35) (by decide +kernel) (by decide) (fun h6 => ?_) (fun h6 => ?_)
      · have hf := if_t h6 hf
        refine b_blk (pc' := 36) (ls' := [some (mR (12, 0, 177)), some (mI v1), some (mI v2)]) (st' := [mI (-1)]) (S' := (L, I, J, R)) (P := True) [(.iconst (-1), (0, 0, 0, (-1), 0))] [] (by decide +kernel) rfl trivial ?_
        cases hf
        exact b_iret (by decide +kernel) rfl hk
      · have hf := if_f h6 hf
        refine b_blk (pc' := 29) (ls' := [some (mR (12, 0, 177)), some (mI v1), some (mI v2)]) (st' := [mI v2, mI v1, mR (12, 0, 177)]) (S' := (L, I, J, R)) (P := True) [(.aload_n 0, (0, 0, 0, 0, 0)), (.iload_n 1, (0, 0, 0, 0, 0)), (.iload_n 2, (0, 0, 0, 0, 0))] [] (by decide +kernel) rfl trivial ?_
        obtain ⟨r7, hc7, hf⟩ := bnd_o hf
        refine b_cV (as := [mI v1, mI v2]) (st := []) (by decide +kernel) k_12_446 n_MD_walkOf rfl (by decide) v_MD_walkOf (C_MD_walkOf I J v1 v2 hR hc7) (Nat.le_of_ble_eq_true rfl) (by decide) rfl rfl (fun _ h => h) ?_
        show m_B G (m_rm 7 0 0) M_MD_walks Q 0 0 32 [some (mR (12, 0, 177)), some (mI v1), some (mI v2)] [mI r7.1] (L, r7.2.1, r7.2.2, R)
        refine b_blk (pc' := 36) (ls' := [some (mR (12, 0, 177)), some (mI v1), some (mI v2)]) (st' := [mI r7.1]) (S' := (L, r7.2.1, r7.2.2, R)) (P := True) [(.goto 4, (0, 36, 0, 0, 0))] [] (by decide +kernel) rfl trivial ?_
        cases hf
        exact b_iret (by decide +kernel) rfl hk
theorem C_MD_walks {G : MG} {L : List (Nat × Nat)} {R : Nat → Nat → Option MRef} (I : MI) (J : MJ) (v1 : Int32) (v2 : Int32) (hR : RF R) {r : Int32 × MI × MJ} (hf : F_MD_walks I J v1 v2 = some r) : m_met G 7 0 0 y_MD_walks M_MD_walks [mR (12, 0, 177), mI v1, mI v2] (L, I, J, R) (m_is (some (mI r.1)) (L, r.2.1, r.2.2, R)) :=
  m_met_in n_MD_walks (plainFor_of_name (by decide)) (by decide) (Nat.le_of_ble_eq_true rfl) (ls := [some (mR (12, 0, 177)), some (mI v1), some (mI v2)]) rfl (W_MD_walks I J v1 v2 hR hf ⟨rfl, rfl⟩)
noncomputable def F_MD_kept (I : MI) (v1 : Int32) (v2 : Int32) : Option (Int32) :=
  (F_MD_isIn v1.toInt64 (0 : Int64) (((I 213 55) - (1 : Int32)).toInt64)).bind fun r1 => if r1 = (0 : Int32) then (some ((-1) : Int32)) else ((F_MD_isIn v2.toInt64 (0 : Int64) (2 : Int64)).bind fun r3 => if r3 = (0 : Int32) then (some ((-1) : Int32)) else (gd (((56 : Int32) + ((3 : Int32) * v1)) + v2) 176 <| some (I 213 (((56 : Int32) + ((3 : Int32) * v1)) + v2).toNatClampNeg : Int32)))
set_option maxRecDepth 100000 in
set_option maxHeartbeats 400000 in
theorem W_MD_kept {G : MG} {Q : Option MV → MS → Prop} {L : List (Nat × Nat)} {R : Nat → Nat → Option MRef} (I : MI) (J : MJ) (v1 : Int32) (v2 : Int32) (hR : RF R) {r : Int32} (hf : F_MD_kept I v1 v2 = some r) (hk : (fun r : Int32 => Q (some (mI r)) (L, I, J, R)) r) : m_B G (m_rm 2 0 0) M_MD_kept Q 0 0 0 [some (mR (12, 0, 177)), some (mI v1), some (mI v2)] [] (L, I, J, R) := by
  unfold F_MD_kept at hf
  refine b_blk (pc' := 13) (ls' := [some (mR (12, 0, 177)), some (mI v1), some (mI v2)]) (st' := [mJ (((I 213 55) - (1 : Int32)).toInt64), mJ 0, mJ v1.toInt64]) (S' := (L, I, J, R)) (P := ((True ∧ R 177 51 = some (20, 176, 213)) ∧ vp_in (55 : Int32) 176)) [(.iload_n 1, (0, 0, 0, 0, 0)), (.i2l, (0, 0, 0, 0, 0)), (.lconst 0, (0, 0, 0, 0, 0)), (.aload_n 0, (0, 0, 0, 0, 0)), (.getfield 121, (12, 51, 3, 0, 0)), (.bipush 55, (0, 0, 0, 55, 0)), (.iaload, (0, 0, 0, 0, 0)), (.iconst 1, (0, 0, 0, 1, 0)), (.isub, (0, 0, 0, 0, 0)), (.i2l, (0, 0, 0, 0, 0))] [some (20, 176, 213)] (by decide +kernel) rfl ⟨⟨trivial, (r_177_51 hR)⟩, (vp_in_nI (n := 55) (N := 176) (by decide) (by decide))⟩ ?_
  obtain ⟨r1, hc1, hf⟩ := bnd_o hf
  refine b_cS (as := [mJ v1.toInt64, mJ 0, mJ (((I 213 55) - (1 : Int32)).toInt64)]) (st := []) (by decide +kernel) k_12_277 n_MD_isIn s_MD_isIn (C_MD_isIn I J v1.toInt64 (0 : Int64) (((I 213 55) - (1 : Int32)).toInt64) hR hc1) (Nat.le_of_ble_eq_true rfl) (by decide) rfl rfl (fun _ h => h) ?_
  show m_B G (m_rm 2 0 0) M_MD_kept Q 0 0 16 [some (mR (12, 0, 177)), some (mI v1), some (mI v2)] [mI r1] (L, I, J, R)
  refine b_if_eq (off := 31) (tgt := 47) (by decide +kernel) (by decide) (fun h2 => ?_) (fun h2 => ?_)
  · have hf := if_t h2 hf
    refine b_blk (pc' := 48) (ls' := [some (mR (12, 0, 177)), some (mI v1), some (mI v2)]) (st' := [mI (-1)]) (S' := (L, I, J, R)) (P := True) [(.iconst (-1), (0, 0, 0, (-1), 0))] [] (by decide +kernel) rfl trivial ?_
    cases hf
    exact b_iret (by decide +kernel) rfl hk
  · have hf := if_f h2 hf
    refine b_blk (pc' := 25) (ls' := [some (mR (12, 0, 177)), some (mI v1), some (mI v2)]) (st' := [mJ 2, mJ 0, mJ v2.toInt64]) (S' := (L, I, J, R)) (P := True) [(.iload_n 2, (0, 0, 0, 0, 0)), (.i2l, (0, 0, 0, 0, 0)), (.lconst 0, (0, 0, 0, 0, 0)), (.ldc2_w 493, (0, 0, 0, 0, 2))] [] (by decide +kernel) rfl trivial ?_
    obtain ⟨r3, hc3, hf⟩ := bnd_o hf
    refine b_cS (as := [mJ v2.toInt64, mJ 0, mJ 2]) (st := []) (by decide +kernel) k_12_277 n_MD_isIn s_MD_isIn (C_MD_isIn I J v2.toInt64 (0 : Int64) (2 : Int64) hR hc3) (Nat.le_of_ble_eq_true rfl) (by decide) rfl rfl (fun _ h => h) ?_
    show m_B G (m_rm 2 0 0) M_MD_kept Q 0 0 28 [some (mR (12, 0, 177)), some (mI v1), some (mI v2)] [mI r3] (L, I, J, R)
    refine b_if_eq (off := 19) (tgt := 47) (by decide +kernel) (by decide) (fun h4 => ?_) (fun h4 => ?_)
    · have hf := if_t h4 hf
      refine b_blk (pc' := 48) (ls' := [some (mR (12, 0, 177)), some (mI v1), some (mI v2)]) (st' := [mI (-1)]) (S' := (L, I, J, R)) (P := True) [(.iconst (-1), (0, 0, 0, (-1), 0))] [] (by decide +kernel) rfl trivial ?_
      cases hf
      exact b_iret (by decide +kernel) rfl hk
    · have hf := if_f h4 hf
      obtain ⟨g5, hf⟩ := gd_s hf
      refine b_blk (pc' := 48) (ls' := [some (mR (12, 0, 177)), some (mI v1), some (mI v2)]) (st' := [mI (I 213 (((56 : Int32) + ((3 : Int32) * v1)) + v2).toNatClampNeg)]) (S' := (L, I, J, R)) (P := ((True ∧ R 177 51 = some (20, 176, 213)) ∧ vp_in (((56 : Int32) + ((3 : Int32) * v1)) + v2) 176)) [(.aload_n 0, (0, 0, 0, 0, 0)), (.getfield 121, (12, 51, 3, 0, 0)), (.bipush 56, (0, 0, 0, 56, 0)), (.iconst 3, (0, 0, 0, 3, 0)), (.iload_n 1, (0, 0, 0, 0, 0)), (.imul, (0, 0, 0, 0, 0)), (.iadd, (0, 0, 0, 0, 0)), (.iload_n 2, (0, 0, 0, 0, 0)), (.iadd, (0, 0, 0, 0, 0)), (.iaload, (0, 0, 0, 0, 0)), (.goto 4, (0, 48, 0, 0, 0))] [some (20, 176, 213)] (by decide +kernel) rfl ⟨⟨trivial, (r_177_51 hR)⟩, (in_n (n := 176) (by decide) g5.1 g5.2)⟩ ?_
      cases hf
      exact b_iret (by decide +kernel) rfl hk
theorem C_MD_kept {G : MG} {L : List (Nat × Nat)} {R : Nat → Nat → Option MRef} (I : MI) (J : MJ) (v1 : Int32) (v2 : Int32) (hR : RF R) {r : Int32} (hf : F_MD_kept I v1 v2 = some r) : m_met G 2 0 0 y_MD_kept M_MD_kept [mR (12, 0, 177), mI v1, mI v2] (L, I, J, R) (m_is (some (mI r)) (L, I, J, R)) :=
  m_met_in n_MD_kept (plainFor_of_name (by decide)) (by decide) (Nat.le_of_ble_eq_true rfl) (ls := [some (mR (12, 0, 177)), some (mI v1), some (mI v2)]) rfl (W_MD_kept I J v1 v2 hR hf ⟨rfl, rfl⟩)
