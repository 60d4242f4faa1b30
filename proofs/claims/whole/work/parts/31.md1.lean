/-! the reference: methods 1 -/
noncomputable def F_MD_feed_81 (I : MI) (v1 : Int32) (v2 : Int32) (v3 : Int32) (v4 : Int32) (v5 : Int32) (v6 : Int32) (y0 : Int32) : Option ((Int32 × MI) ⊕ (MI)) :=
  gd (I 177 1) 1600 <| bnd (m_up (m_up I 178 ((I 177 1).toNatClampNeg) ((y0 >>> (((8 : Int32) * ((3 : Int32) - (m_rem v6 (4 : Int32)))) &&& 31)) &&& (255 : Int32))) 177 1 ((I 177 1) + (1 : Int32)) : MI) fun x2 => some (.inl ((v6 + 1 : Int32), x2))
set_option maxRecDepth 100000 in
set_option maxHeartbeats 400000 in
theorem W_MD_feed_81 {G : MG} {Q : Option MV → MS → Prop} {L : List (Nat × Nat)} {R : Nat → Nat → Option MRef} (I : MI) (J : MJ) (v1 : Int32) (v2 : Int32) (v3 : Int32) (v4 : Int32) (v5 : Int32) (v6 : Int32) (y0 : Int32) (hR : RF R) {r : (Int32 × MI) ⊕ (MI)} (hf : F_MD_feed_81 I v1 v2 v3 v4 v5 v6 y0 = some r) (hk : (Sum.elim (fun s : Int32 × MI => m_B G (m_rm 1 0 0) M_MD_feed Q 0 0 28 [some (mR (12, 0, 177)), some (mI v1), some (mI v2), some (mI v3), some (mI v4), some (mI v5), some (mI s.1), none] [] (L, s.2, J, R)) (fun s : MI => m_B G (m_rm 1 0 0) M_MD_feed Q 0 0 124 [some (mR (12, 0, 177)), none, none, none, none, none, none, none] [] (L, s, J, R))) r) : m_B G (m_rm 1 0 0) M_MD_feed Q 0 0 81 [some (mR (12, 0, 177)), some (mI v1), some (mI v2), some (mI v3), some (mI v4), some (mI v5), some (mI v6), none] [mI y0] (L, I, J, R) := by
  unfold F_MD_feed_81 at hf
  obtain ⟨g1, hf⟩ := gd_s hf
  refine b_blk (pc' := 121) (ls' := [some (mR (12, 0, 177)), some (mI v1), some (mI v2), some (mI v3), some (mI v4), some (mI v5), some (mI (v6 + 1)), some (mI y0)]) (st' := []) (S' := (L, m_up (m_up I 178 ((I 177 1).toNatClampNeg) ((y0 >>> (((8 : Int32) * ((3 : Int32) - (m_rem v6 (4 : Int32)))) &&& 31)) &&& (255 : Int32))) 177 1 ((I 177 1) + (1 : Int32)), J, R)) (P := (((True ∧ R 177 0 = some (20, 1600, 178)) ∧ ¬ (4 : Int32) = 0) ∧ vp_in (I 177 1) 1600)) [(.istore 7, (0, 0, 0, 0, 0)), (.aload_n 0, (0, 0, 0, 0, 0)), (.getfield 7, (12, 0, 3, 0, 0)), (.aload_n 0, (0, 0, 0, 0, 0)), (.getfield 231, (12, 1, 0, 0, 0)), (.iload 7, (0, 0, 0, 0, 0)), (.bipush 8, (0, 0, 0, 8, 0)), (.iconst 3, (0, 0, 0, 3, 0)), (.iload 6, (0, 0, 0, 0, 0)), (.iconst 4, (0, 0, 0, 4, 0)), (.irem, (0, 0, 0, 0, 0)), (.isub, (0, 0, 0, 0, 0)), (.imul, (0, 0, 0, 0, 0)), (.ishr, (0, 0, 0, 0, 0)), (.sipush 255, (0, 0, 0, 255, 0)), (.iand, (0, 0, 0, 0, 0)), (.iastore, (0, 0, 0, 0, 0)), (.aload_n 0, (0, 0, 0, 0, 0)), (.dup, (0, 0, 0, 0, 0)), (.getfield 231, (12, 1, 0, 0, 0)), (.iconst 1, (0, 0, 0, 1, 0)), (.iadd, (0, 0, 0, 0, 0)), (.putfield 231, (12, 1, 0, 0, 0)), (.iinc 6 1, (0, 0, 0, 1, 0))] [some (20, 1600, 178)] (by decide +kernel) rfl ⟨⟨⟨trivial, (r_177_0 hR)⟩, (by decide)⟩, (in_n (n := 1600) (by decide) g1.1 g1.2)⟩ ?_
  obtain ⟨x2, ex2, hf⟩ := bnd_s hf
  refine m_B_cg (ls' := [some (mR (12, 0, 177)), some (mI v1), some (mI v2), some (mI v3), some (mI v4), some (mI v5), some (mI (v6 + 1)), some (mI y0)]) (st' := []) (S' := (L, x2, J, R)) (by first | with_reducible rfl | rw [ex2]) (by first | with_reducible rfl | rw [ex2]) (by first | with_reducible rfl | rw [ex2]) ?_
  refine b_blk (pc' := 28) (ls' := [some (mR (12, 0, 177)), some (mI v1), some (mI v2), some (mI v3), some (mI v4), some (mI v5), some (mI (v6 + 1)), some (mI y0)]) (st' := []) (S' := (L, x2, J, R)) (P := True) [(.goto (-93), (0, 28, 0, 0, 0))] [] (by decide +kernel) rfl trivial ?_
  refine b_frg 7 ?_
  cases hf
  exact hk
noncomputable def F_MD_feed_28 (I : MI) (v1 : Int32) (v2 : Int32) (v3 : Int32) (v4 : Int32) (v5 : Int32) (v6 : Int32) : Option ((Int32 × MI) ⊕ (MI)) :=
  if (20 : Int32) ≤ v6 then (some (.inr I)) else (if (4 : Int32) ≤ v6 then (if (8 : Int32) ≤ v6 then (if (12 : Int32) ≤ v6 then (if (16 : Int32) ≤ v6 then (F_MD_feed_81 I v1 v2 v3 v4 v5 v6 v5) else (F_MD_feed_81 I v1 v2 v3 v4 v5 v6 v4)) else (F_MD_feed_81 I v1 v2 v3 v4 v5 v6 v3)) else (F_MD_feed_81 I v1 v2 v3 v4 v5 v6 v2)) else (F_MD_feed_81 I v1 v2 v3 v4 v5 v6 v1))
set_option maxRecDepth 100000 in
set_option maxHeartbeats 400000 in
theorem W_MD_feed_28 {G : MG} {Q : Option MV → MS → Prop} {L : List (Nat × Nat)} {R : Nat → Nat → Option MRef} (I : MI) (J : MJ) (v1 : Int32) (v2 : Int32) (v3 : Int32) (v4 : Int32) (v5 : Int32) (v6 : Int32) (hR : RF R) {r : (Int32 × MI) ⊕ (MI)} (hf : F_MD_feed_28 I v1 v2 v3 v4 v5 v6 = some r) (hk : (Sum.elim (fun s : Int32 × MI => m_B G (m_rm 1 0 0) M_MD_feed Q 0 0 28 [some (mR (12, 0, 177)), some (mI v1), some (mI v2), some (mI v3), some (mI v4), some (mI v5), some (mI s.1), none] [] (L, s.2, J, R)) (fun s : MI => m_B G (m_rm 1 0 0) M_MD_feed Q 0 0 124 [some (mR (12, 0, 177)), none, none, none, none, none, none, none] [] (L, s, J, R))) r) : m_B G (m_rm 1 0 0) M_MD_feed Q 0 0 28 [some (mR (12, 0, 177)), some (mI v1), some (mI v2), some (mI v3), some (mI v4), some (mI v5), some (mI v6), none] [] (L, I, J, R) := by
  unfold F_MD_feed_28 at hf
  refine b_blk (pc' := 32) (ls' := [some (mR (12, 0, 177)), some (mI v1), some (mI v2), some (mI v3), some (mI v4), some (mI v5), some (mI v6), none]) (st' := [mI 20, mI v6]) (S' := (L, I, J, R)) (P := True) [(.iload 6, (0, 0, 0, 0, 0)), (.bipush 20, (0, 0, 0, 20, 0))] [] (by decide +kernel) rfl trivial ?_
  refine b_icmp_ge (off := 92) (tgt := 124) (by decide +kernel) (by decide) (fun h1 => ?_) (fun h1 => ?_)
  · have hf := if_t h1 hf
    refine b_frg 1 ?_
    refine b_frg 2 ?_
    refine b_frg 3 ?_
    refine b_frg 4 ?_
    refine b_frg 5 ?_
    refine b_frg 6 ?_
    cases hf
    exact hk
  · have hf := if_f h1 hf
    refine b_blk (pc' := 38) (ls' := [some (mR (12, 0, 177)), some (mI v1), some (mI v2), some (mI v3), some (mI v4), some (mI v5), some (mI v6), none]) (st' := [mI 4, mI v6]) (S' := (L, I, J, R)) (P := True) [(.iload 6, (0, 0, 0, 0, 0)), (.iconst 4, (0, 0, 0, 4, 0))] [] (by decide +kernel) rfl trivial ?_
    refine b_icmp_ge (off := 7) (tgt := 45) (by decide +kernel) (by decide) (fun h2 => ?_) (fun h2 => ?_)
    · have hf := if_t h2 hf
      refine b_blk (pc' := 49) (ls' := [some (mR (12, 0, 177)), some (mI v1), some (mI v2), some (mI v3), some (mI v4), some (mI v5), some (mI v6), none]) (st' := [mI 8, mI v6]) (S' := (L, I, J, R)) (P := True) [(.iload 6, (0, 0, 0, 0, 0)), (.bipush 8, (0, 0, 0, 8, 0))] [] (by decide +kernel) rfl trivial ?_
      refine b_icmp_ge (off := 7) (tgt := 56) (by decide +kernel) (by decide) (fun h3 => ?_) (fun h3 => ?_)
      · have hf := if_t h3 hf
        refine b_blk (pc' := 60) (ls' := [some (mR (12, 0, 177)), some (mI v1), some (mI v2), some (mI v3), some (mI v4), some (mI v5), some (mI v6), none]) (st' := [mI 12, mI v6]) (S' := (L, I, J, R)) (P := True) [(.iload 6, (0, 0, 0, 0, 0)), (.bipush 12, (0, 0, 0, 12, 0))] [] (by decide +kernel) rfl trivial ?_
        refine b_icmp_ge (off := 7) (tgt := 67) (by decide +kernel) (by decide) (fun h4 => ?_) (fun h4 => ?_)
        · have hf := if_t h4 hf
          refine b_blk (pc' := 71) (ls' := [some (mR (12, 0, 177)), some (mI v1), some (mI v2), some (mI v3), some (mI v4), some (mI v5), some (mI v6), none]) (st' := [mI 16, mI v6]) (S' := (L, I, J, R)) (P := True) [(.iload 6, (0, 0, 0, 0, 0)), (.bipush 16, (0, 0, 0, 16, 0))] [] (by decide +kernel) rfl trivial ?_
          refine b_icmp_ge (off := 8) (tgt := 79) (by decide +kernel) (by decide) (fun h5 => ?_) (fun h5 => ?_)
          · have hf := if_t h5 hf
            refine b_blk (pc' := 81) (ls' := [some (mR (12, 0, 177)), some (mI v1), some (mI v2), some (mI v3), some (mI v4), some (mI v5), some (mI v6), none]) (st' := [mI v5]) (S' := (L, I, J, R)) (P := True) [(.iload 5, (0, 0, 0, 0, 0))] [] (by decide +kernel) rfl trivial ?_
            exact m_B_cg rfl rfl rfl (W_MD_feed_81 I J v1 v2 v3 v4 v5 v6 v5 hR hf hk)
          · have hf := if_f h5 hf
            refine b_blk (pc' := 81) (ls' := [some (mR (12, 0, 177)), some (mI v1), some (mI v2), some (mI v3), some (mI v4), some (mI v5), some (mI v6), none]) (st' := [mI v4]) (S' := (L, I, J, R)) (P := True) [(.iload 4, (0, 0, 0, 0, 0)), (.goto 5, (0, 81, 0, 0, 0))] [] (by decide +kernel) rfl trivial ?_
            exact m_B_cg rfl rfl rfl (W_MD_feed_81 I J v1 v2 v3 v4 v5 v6 v4 hR hf hk)
        · have hf := if_f h4 hf
          refine b_blk (pc' := 81) (ls' := [some (mR (12, 0, 177)), some (mI v1), some (mI v2), some (mI v3), some (mI v4), some (mI v5), some (mI v6), none]) (st' := [mI v3]) (S' := (L, I, J, R)) (P := True) [(.iload_n 3, (0, 0, 0, 0, 0)), (.goto 17, (0, 81, 0, 0, 0))] [] (by decide +kernel) rfl trivial ?_
          exact m_B_cg rfl rfl rfl (W_MD_feed_81 I J v1 v2 v3 v4 v5 v6 v3 hR hf hk)
      · have hf := if_f h3 hf
        refine b_blk (pc' := 81) (ls' := [some (mR (12, 0, 177)), some (mI v1), some (mI v2), some (mI v3), some (mI v4), some (mI v5), some (mI v6), none]) (st' := [mI v2]) (S' := (L, I, J, R)) (P := True) [(.iload_n 2, (0, 0, 0, 0, 0)), (.goto 28, (0, 81, 0, 0, 0))] [] (by decide +kernel) rfl trivial ?_
        exact m_B_cg rfl rfl rfl (W_MD_feed_81 I J v1 v2 v3 v4 v5 v6 v2 hR hf hk)
    · have hf := if_f h2 hf
      refine b_blk (pc' := 81) (ls' := [some (mR (12, 0, 177)), some (mI v1), some (mI v2), some (mI v3), some (mI v4), some (mI v5), some (mI v6), none]) (st' := [mI v1]) (S' := (L, I, J, R)) (P := True) [(.iload_n 1, (0, 0, 0, 0, 0)), (.goto 39, (0, 81, 0, 0, 0))] [] (by decide +kernel) rfl trivial ?_
      exact m_B_cg rfl rfl rfl (W_MD_feed_81 I J v1 v2 v3 v4 v5 v6 v1 hR hf hk)
noncomputable def F_MD_feed (I : MI) (v1 : Int32) (v2 : Int32) (v3 : Int32) (v4 : Int32) (v5 : Int32) : Option (Int32 × MI) :=
  if ((I 177 1) + (20 : Int32)) ≤ (1600 : Int32) then ((wl (fun s : Int32 × MI => F_MD_feed_28 s.2 v1 v2 v3 v4 v5 s.1) ((0 : Int32), I)).bind fun t2 => some ((t2 177 1 : Int32), t2)) else (some (((-1) : Int32), m_up I 179 0 ((I 179 0) + (1 : Int32))))
set_option maxRecDepth 100000 in
set_option maxHeartbeats 400000 in
theorem W_MD_feed {G : MG} {Q : Option MV → MS → Prop} {L : List (Nat × Nat)} {R : Nat → Nat → Option MRef} (I : MI) (J : MJ) (v1 : Int32) (v2 : Int32) (v3 : Int32) (v4 : Int32) (v5 : Int32) (hR : RF R) {r : Int32 × MI} (hf : F_MD_feed I v1 v2 v3 v4 v5 = some r) (hk : (fun r : Int32 × MI => Q (some (mI r.1)) (L, r.2, J, R)) r) : m_B G (m_rm 1 0 0) M_MD_feed Q 0 0 0 [some (mR (12, 0, 177)), some (mI v1), some (mI v2), some (mI v3), some (mI v4), some (mI v5), none, none] [] (L, I, J, R) := by
  unfold F_MD_feed at hf
  refine b_blk (pc' := 10) (ls' := [some (mR (12, 0, 177)), some (mI v1), some (mI v2), some (mI v3), some (mI v4), some (mI v5), none, none]) (st' := [mI 1600, mI ((I 177 1) + (20 : Int32))]) (S' := (L, I, J, R)) (P := True) [(.aload_n 0, (0, 0, 0, 0, 0)), (.getfield 231, (12, 1, 0, 0, 0)), (.bipush 20, (0, 0, 0, 20, 0)), (.iadd, (0, 0, 0, 0, 0)), (.sipush 1600, (0, 0, 0, 1600, 0))] [] (by decide +kernel) rfl trivial ?_
  refine b_icmp_le (off := 15) (tgt := 25) (by decide +kernel) (by decide) (fun h1 => ?_) (fun h1 => ?_)
  · have hf := if_t h1 hf
    refine b_blk (pc' := 28) (ls' := [some (mR (12, 0, 177)), some (mI v1), some (mI v2), some (mI v3), some (mI v4), some (mI v5), some (mI 0), none]) (st' := []) (S' := (L, I, J, R)) (P := True) [(.iconst 0, (0, 0, 0, 0, 0)), (.istore 6, (0, 0, 0, 0, 0))] [] (by decide +kernel) rfl trivial ?_
    obtain ⟨t2, hw, hf⟩ := bnd_o hf
    refine wl_B (A := fun s : Int32 × MI => m_B G (m_rm 1 0 0) M_MD_feed Q 0 0 28 [some (mR (12, 0, 177)), some (mI v1), some (mI v2), some (mI v3), some (mI v4), some (mI v5), some (mI s.1), none] [] (L, s.2, J, R)) (B := (fun s : MI => m_B G (m_rm 1 0 0) M_MD_feed Q 0 0 124 [some (mR (12, 0, 177)), none, none, none, none, none, none, none] [] (L, s, J, R))) (fun s r hs hr => W_MD_feed_28 s.2 J v1 v2 v3 v4 v5 s.1 hR hs hr) hw ?_
    show m_B G (m_rm 1 0 0) M_MD_feed Q 0 0 124 [some (mR (12, 0, 177)), none, none, none, none, none, none, none] [] (L, t2, J, R)
    refine b_blk (pc' := 128) (ls' := [some (mR (12, 0, 177)), none, none, none, none, none, none, none]) (st' := [mI (t2 177 1)]) (S' := (L, t2, J, R)) (P := True) [(.aload_n 0, (0, 0, 0, 0, 0)), (.getfield 231, (12, 1, 0, 0, 0))] [] (by decide +kernel) rfl trivial ?_
    cases hf
    exact b_iret (by decide +kernel) rfl hk
  · have hf := if_f h1 hf
    refine b_blk (pc' := 24) (ls' := [some (mR (12, 0, 177)), some (mI v1), some (mI v2), some (mI v3), some (mI v4), some (mI v5), none, none]) (st' := [mI (-1)]) (S' := (L, m_up I 179 0 ((I 179 0) + (1 : Int32)), J, R)) (P := (((True ∧ R 177 9 = some (20, 6, 179)) ∧ vp_in (0 : Int32) 6) ∧ vp_in (0 : Int32) 6)) [(.aload_n 0, (0, 0, 0, 0, 0)), (.getfield 17, (12, 9, 3, 0, 0)), (.iconst 0, (0, 0, 0, 0, 0)), (.dup2, (0, 0, 0, 0, 0)), (.iaload, (0, 0, 0, 0, 0)), (.iconst 1, (0, 0, 0, 1, 0)), (.iadd, (0, 0, 0, 0, 0)), (.iastore, (0, 0, 0, 0, 0)), (.iconst (-1), (0, 0, 0, (-1), 0))] [some (20, 6, 179)] (by decide +kernel) rfl ⟨⟨⟨trivial, (r_177_9 hR)⟩, (vp_in_nI (n := 0) (N := 6) (by decide) (by decide))⟩, (vp_in_nI (n := 0) (N := 6) (by decide) (by decide))⟩ ?_
    cases hf
    exact b_iret (by decide +kernel) rfl hk
theorem C_MD_feed {G : MG} {L : List (Nat × Nat)} {R : Nat → Nat → Option MRef} (I : MI) (J : MJ) (v1 : Int32) (v2 : Int32) (v3 : Int32) (v4 : Int32) (v5 : Int32) (hR : RF R) {r : Int32 × MI} (hf : F_MD_feed I v1 v2 v3 v4 v5 = some r) : m_met G 1 0 0 y_MD_feed M_MD_feed [mR (12, 0, 177), mI v1, mI v2, mI v3, mI v4, mI v5] (L, I, J, R) (m_is (some (mI r.1)) (L, r.2, J, R)) :=
  m_met_in n_MD_feed (plainFor_of_name (by decide)) (by decide) (Nat.le_of_ble_eq_true rfl) (ls := [some (mR (12, 0, 177)), some (mI v1), some (mI v2), some (mI v3), some (mI v4), some (mI v5), none, none]) rfl (W_MD_feed I J v1 v2 v3 v4 v5 hR hf ⟨rfl, rfl⟩)
noncomputable def F_MD_end_12 (I : MI) : Option (Int32 × MI) :=
  some ((0 : Int32), m_up I 179 0 ((I 179 0) + (1 : Int32)))
set_option maxRecDepth 100000 in
set_option maxHeartbeats 400000 in
theorem W_MD_end_12 {G : MG} {Q : Option MV → MS → Prop} {L : List (Nat × Nat)} {R : Nat → Nat → Option MRef} (I : MI) (J : MJ) (hR : RF R) {r : Int32 × MI} (hf : F_MD_end_12 I = some r) (hk : (fun r : Int32 × MI => Q (some (mI r.1)) (L, r.2, J, R)) r) : m_B G (m_rm 1 0 0) M_MD_end Q 0 0 12 [some (mR (12, 0, 177)), none] [] (L, I, J, R) := by
  unfold F_MD_end_12 at hf
  refine b_blk (pc' := 23) (ls' := [some (mR (12, 0, 177)), none]) (st' := [mI 0]) (S' := (L, m_up I 179 0 ((I 179 0) + (1 : Int32)), J, R)) (P := (((True ∧ R 177 9 = some (20, 6, 179)) ∧ vp_in (0 : Int32) 6) ∧ vp_in (0 : Int32) 6)) [(.aload_n 0, (0, 0, 0, 0, 0)), (.getfield 17, (12, 9, 3, 0, 0)), (.iconst 0, (0, 0, 0, 0, 0)), (.dup2, (0, 0, 0, 0, 0)), (.iaload, (0, 0, 0, 0, 0)), (.iconst 1, (0, 0, 0, 1, 0)), (.iadd, (0, 0, 0, 0, 0)), (.iastore, (0, 0, 0, 0, 0)), (.iconst 0, (0, 0, 0, 0, 0))] [some (20, 6, 179)] (by decide +kernel) rfl ⟨⟨⟨trivial, (r_177_9 hR)⟩, (vp_in_nI (n := 0) (N := 6) (by decide) (by decide))⟩, (vp_in_nI (n := 0) (N := 6) (by decide) (by decide))⟩ ?_
  cases hf
  exact b_zret (by decide +kernel) rfl (by decide) hk
noncomputable def F_MD_end (I : MI) (v1 : Int32) : Option (Int32 × MI) :=
  if v1 < (0 : Int32) then (F_MD_end_12 I) else (if v1 ≤ (I 177 1) then (some ((1 : Int32), m_up I 177 1 v1)) else (F_MD_end_12 I))
set_option maxRecDepth 100000 in
set_option maxHeartbeats 400000 in
theorem W_MD_end {G : MG} {Q : Option MV → MS → Prop} {L : List (Nat × Nat)} {R : Nat → Nat → Option MRef} (I : MI) (J : MJ) (v1 : Int32) (hR : RF R) {r : Int32 × MI} (hf : F_MD_end I v1 = some r) (hk : (fun r : Int32 × MI => Q (some (mI r.1)) (L, r.2, J, R)) r) : m_B G (m_rm 1 0 0) M_MD_end Q 0 0 0 [some (mR (12, 0, 177)), some (mI v1)] [] (L, I, J, R) := by
  unfold F_MD_end at hf
  refine b_blk (pc' := 1) (ls' := [some (mR (12, 0, 177)), some (mI v1)]) (st' := [mI v1]) (S' := (L, I, J, R)) (P := True) [(.iload_n 1, (0, 0, 0, 0, 0))] [] (by decide +kernel) rfl trivial ?_
  refine b_if_lt (off := 11) (tgt := 12) (by decide +kernel) (by decide) (fun h1 => ?_) (fun h1 => ?_)
  · have hf := if_t h1 hf
    refine b_frg 1 ?_
    exact m_B_cg rfl rfl rfl (W_MD_end_12 I J hR hf hk)
  · have hf := if_f h1 hf
    refine b_blk (pc' := 9) (ls' := [some (mR (12, 0, 177)), some (mI v1)]) (st' := [mI (I 177 1), mI v1]) (S' := (L, I, J, R)) (P := True) [(.iload_n 1, (0, 0, 0, 0, 0)), (.aload_n 0, (0, 0, 0, 0, 0)), (.getfield 231, (12, 1, 0, 0, 0))] [] (by decide +kernel) rfl trivial ?_
    refine b_icmp_le (off := 15) (tgt := 24) (by decide +kernel) (by decide) (fun h2 => ?_) (fun h2 => ?_)
    · have hf := if_t h2 hf
      refine b_blk (pc' := 30) (ls' := [some (mR (12, 0, 177)), some (mI v1)]) (st' := [mI 1]) (S' := (L, m_up I 177 1 v1, J, R)) (P := True) [(.aload_n 0, (0, 0, 0, 0, 0)), (.iload_n 1, (0, 0, 0, 0, 0)), (.putfield 231, (12, 1, 0, 0, 0)), (.iconst 1, (0, 0, 0, 1, 0))] [] (by decide +kernel) rfl trivial ?_
      cases hf
      exact b_zret (by decide +kernel) rfl (by decide) hk
    · have hf := if_f h2 hf
      refine b_frg 1 ?_
      exact m_B_cg rfl rfl rfl (W_MD_end_12 I J hR hf hk)
theorem C_MD_end {G : MG} {L : List (Nat × Nat)} {R : Nat → Nat → Option MRef} (I : MI) (J : MJ) (v1 : Int32) (hR : RF R) {r : Int32 × MI} (hf : F_MD_end I v1 = some r) : m_met G 1 0 0 y_MD_end M_MD_end [mR (12, 0, 177), mI v1] (L, I, J, R) (m_is (some (mI r.1)) (L, r.2, J, R)) :=
  m_met_in n_MD_end (plainFor_of_name (by decide)) (by decide) (Nat.le_of_ble_eq_true rfl) (ls := [some (mR (12, 0, 177)), some (mI v1)]) rfl (W_MD_end I J v1 hR hf ⟨rfl, rfl⟩)
noncomputable def F_MD_look_0 (I : MI) : Option ((MI) ⊕ (MI)) :=
  if (I 177 3) ≤ (I 177 2) then (some (.inr I)) else (gd (I 177 2) 1600 <| if (I 178 (I 177 2).toNatClampNeg) = (10 : Int32) then (some (.inl (m_up I 177 2 ((I 177 2) + (1 : Int32))))) else (gd (I 177 2) 1600 <| if (I 178 (I 177 2).toNatClampNeg) = (32 : Int32) then (some (.inl (m_up I 177 2 ((I 177 2) + (1 : Int32))))) else (some (.inr I))))
set_option maxRecDepth 100000 in
set_option maxHeartbeats 400000 in
theorem W_MD_look_0 {G : MG} {Q : Option MV → MS → Prop} {L : List (Nat × Nat)} {R : Nat → Nat → Option MRef} (I : MI) (J : MJ) (hR : RF R) {r : (MI) ⊕ (MI)} (hf : F_MD_look_0 I = some r) (hk : (Sum.elim (fun s : MI => m_B G (m_rm 1 0 0) M_MD_look Q 0 0 0 [some (mR (12, 0, 177))] [] (L, s, J, R)) (fun s : MI => m_B G (m_rm 1 0 0) M_MD_look Q 0 0 52 [some (mR (12, 0, 177))] [] (L, s, J, R))) r) : m_B G (m_rm 1 0 0) M_MD_look Q 0 0 0 [some (mR (12, 0, 177))] [] (L, I, J, R) := by
  unfold F_MD_look_0 at hf
  refine b_blk (pc' := 8) (ls' := [some (mR (12, 0, 177))]) (st' := [mI (I 177 3), mI (I 177 2)]) (S' := (L, I, J, R)) (P := True) [(.aload_n 0, (0, 0, 0, 0, 0)), (.getfield 240, (12, 2, 0, 0, 0)), (.aload_n 0, (0, 0, 0, 0, 0)), (.getfield 243, (12, 3, 0, 0, 0))] [] (by decide +kernel) rfl trivial ?_
  refine b_icmp_ge (off := 44) (tgt := 52) (by decide +kernel) (by decide) (fun h1 => ?_) (fun h1 => ?_)
  · have hf := if_t h1 hf
    cases hf
    exact hk
  · have hf := if_f h1 hf
    obtain ⟨g2, hf⟩ := gd_s hf
    refine b_blk (pc' := 22) (ls' := [some (mR (12, 0, 177))]) (st' := [mI 10, mI (I 178 (I 177 2).toNatClampNeg)]) (S' := (L, I, J, R)) (P := ((True ∧ R 177 0 = some (20, 1600, 178)) ∧ vp_in (I 177 2) 1600)) [(.aload_n 0, (0, 0, 0, 0, 0)), (.getfield 7, (12, 0, 3, 0, 0)), (.aload_n 0, (0, 0, 0, 0, 0)), (.getfield 240, (12, 2, 0, 0, 0)), (.iaload, (0, 0, 0, 0, 0)), (.bipush 10, (0, 0, 0, 10, 0))] [some (20, 1600, 178)] (by decide +kernel) rfl ⟨⟨trivial, (r_177_0 hR)⟩, (in_n (n := 1600) (by decide) g2.1 g2.2)⟩ ?_
    refine b_icmp_eq (off := 17) (tgt := 39) (by decide +kernel) (by decide) (fun h3 => ?_) (fun h3 => ?_)
    · have hf := if_t h3 hf
      refine b_blk (pc' := 0) (ls' := [some (mR (12, 0, 177))]) (st' := []) (S' := (L, m_up I 177 2 ((I 177 2) + (1 : Int32)), J, R)) (P := True) [(.aload_n 0, (0, 0, 0, 0, 0)), (.dup, (0, 0, 0, 0, 0)), (.getfield 240, (12, 2, 0, 0, 0)), (.iconst 1, (0, 0, 0, 1, 0)), (.iadd, (0, 0, 0, 0, 0)), (.putfield 240, (12, 2, 0, 0, 0)), (.goto (-49), (0, 0, 0, 0, 0))] [] (by decide +kernel) rfl trivial ?_
      cases hf
      exact hk
    · have hf := if_f h3 hf
      obtain ⟨g4, hf⟩ := gd_s hf
      refine b_blk (pc' := 36) (ls' := [some (mR (12, 0, 177))]) (st' := [mI 32, mI (I 178 (I 177 2).toNatClampNeg)]) (S' := (L, I, J, R)) (P := ((True ∧ R 177 0 = some (20, 1600, 178)) ∧ vp_in (I 177 2) 1600)) [(.aload_n 0, (0, 0, 0, 0, 0)), (.getfield 7, (12, 0, 3, 0, 0)), (.aload_n 0, (0, 0, 0, 0, 0)), (.getfield 240, (12, 2, 0, 0, 0)), (.iaload, (0, 0, 0, 0, 0)), (.bipush 32, (0, 0, 0, 32, 0))] [some (20, 1600, 178)] (by decide +kernel) rfl ⟨⟨trivial, (r_177_0 hR)⟩, (in_n (n := 1600) (by decide) g4.1 g4.2)⟩ ?_
      refine b_icmp_ne (off := 16) (tgt := 52) (by decide +kernel) (by decide) (fun h5 => ?_) (fun h5 => ?_)
      · have hf := if_f h5 hf
        cases hf
        exact hk
      · have hf := if_t h5 hf
        refine b_blk (pc' := 0) (ls' := [some (mR (12, 0, 177))]) (st' := []) (S' := (L, m_up I 177 2 ((I 177 2) + (1 : Int32)), J, R)) (P := True) [(.aload_n 0, (0, 0, 0, 0, 0)), (.dup, (0, 0, 0, 0, 0)), (.getfield 240, (12, 2, 0, 0, 0)), (.iconst 1, (0, 0, 0, 1, 0)), (.iadd, (0, 0, 0, 0, 0)), (.putfield 240, (12, 2, 0, 0, 0)), (.goto (-49), (0, 0, 0, 0, 0))] [] (by decide +kernel) rfl trivial ?_
        cases hf
        exact hk
noncomputable def F_MD_look_52 (I : MI) : Option (Int32 × MI) :=
  if (I 177 3) ≤ (I 177 2) then (some (((-1) : Int32), I)) else (gd (I 177 2) 1600 <| some ((I 178 (I 177 2).toNatClampNeg : Int32), I))
set_option maxRecDepth 100000 in
set_option maxHeartbeats 400000 in
theorem W_MD_look_52 {G : MG} {Q : Option MV → MS → Prop} {L : List (Nat × Nat)} {R : Nat → Nat → Option MRef} (I : MI) (J : MJ) (hR : RF R) {r : Int32 × MI} (hf : F_MD_look_52 I = some r) (hk : (fun r : Int32 × MI => Q (some (mI r.1)) (L, r.2, J, R)) r) : m_B G (m_rm 1 0 0) M_MD_look Q 0 0 52 [some (mR (12, 0, 177))] [] (L, I, J, R) := by
  unfold F_MD_look_52 at hf
  refine b_blk (pc' := 60) (ls' := [some (mR (12, 0, 177))]) (st' := [mI (I 177 3), mI (I 177 2)]) (S' := (L, I, J, R)) (P := True) [(.aload_n 0, (0, 0, 0, 0, 0)), (.getfield 240, (12, 2, 0, 0, 0)), (.aload_n 0, (0, 0, 0, 0, 0)), (.getfield 243, (12, 3, 0, 0, 0))] [] (by decide +kernel) rfl trivial ?_
  refine b_icmp_ge (off := 15) (tgt := 75) (by decide +kernel) (by decide) (fun h1 => ?_) (fun h1 => ?_)
  · have hf := if_t h1 hf
    refine b_blk (pc' := 76) (ls' := [some (mR (12, 0, 177))]) (st' := [mI (-1)]) (S' := (L, I, J, R)) (P := True) [(.iconst (-1), (0, 0, 0, (-1), 0))] [] (by decide +kernel) rfl trivial ?_
    cases hf
    exact b_iret (by decide +kernel) rfl hk
  · have hf := if_f h1 hf
    obtain ⟨g2, hf⟩ := gd_s hf
    refine b_blk (pc' := 76) (ls' := [some (mR (12, 0, 177))]) (st' := [mI (I 178 (I 177 2).toNatClampNeg)]) (S' := (L, I, J, R)) (P := ((True ∧ R 177 0 = some (20, 1600, 178)) ∧ vp_in (I 177 2) 1600)) [(.aload_n 0, (0, 0, 0, 0, 0)), (.getfield 7, (12, 0, 3, 0, 0)), (.aload_n 0, (0, 0, 0, 0, 0)), (.getfield 240, (12, 2, 0, 0, 0)), (.iaload, (0, 0, 0, 0, 0)), (.goto 4, (0, 76, 0, 0, 0))] [some (20, 1600, 178)] (by decide +kernel) rfl ⟨⟨trivial, (r_177_0 hR)⟩, (in_n (n := 1600) (by decide) g2.1 g2.2)⟩ ?_
    cases hf
    exact b_iret (by decide +kernel) rfl hk
noncomputable def F_MD_look (I : MI) : Option (Int32 × MI) :=
  (wl (fun s : MI => F_MD_look_0 s) I).bind fun t1 => F_MD_look_52 t1
set_option maxRecDepth 100000 in
set_option maxHeartbeats 400000 in
theorem W_MD_look {G : MG} {Q : Option MV → MS → Prop} {L : List (Nat × Nat)} {R : Nat → Nat → Option MRef} (I : MI) (J : MJ) (hR : RF R) {r : Int32 × MI} (hf : F_MD_look I = some r) (hk : (fun r : Int32 × MI => Q (some (mI r.1)) (L, r.2, J, R)) r) : m_B G (m_rm 1 0 0) M_MD_look Q 0 0 0 [some (mR (12, 0, 177))] [] (L, I, J, R) := by
  unfold F_MD_look at hf
  obtain ⟨t1, hw, hf⟩ := bnd_o hf
  refine wl_B (A := fun s : MI => m_B G (m_rm 1 0 0) M_MD_look Q 0 0 0 [some (mR (12, 0, 177))] [] (L, s, J, R)) (B := (fun s : MI => m_B G (m_rm 1 0 0) M_MD_look Q 0 0 52 [some (mR (12, 0, 177))] [] (L, s, J, R))) (fun s r hs hr => W_MD_look_0 s J hR hs hr) hw ?_
  show m_B G (m_rm 1 0 0) M_MD_look Q 0 0 52 [some (mR (12, 0, 177))] [] (L, t1, J, R)
  exact m_B_cg rfl rfl rfl (W_MD_look_52 t1 J hR hf hk)
theorem C_MD_look {G : MG} {L : List (Nat × Nat)} {R : Nat → Nat → Option MRef} (I : MI) (J : MJ) (hR : RF R) {r : Int32 × MI} (hf : F_MD_look I = some r) : m_met G 1 0 0 y_MD_look M_MD_look [mR (12, 0, 177)] (L, I, J, R) (m_is (some (mI r.1)) (L, r.2, J, R)) :=
  m_met_in n_MD_look (plainFor_of_name (by decide)) (by decide) (Nat.le_of_ble_eq_true rfl) (ls := [some (mR (12, 0, 177))]) rfl (W_MD_look I J hR hf ⟨rfl, rfl⟩)
noncomputable def F_MD_fail (I : MI) (v1 : Int32) (v2 : Int32) : Option (MI) :=
  if (I 177 5) = (0 : Int32) then (some (m_up (m_up I 177 5 v1) 177 6 v2)) else (some I)
set_option maxRecDepth 100000 in
set_option maxHeartbeats 400000 in
theorem W_MD_fail {G : MG} {Q : Option MV → MS → Prop} {L : List (Nat × Nat)} {R : Nat → Nat → Option MRef} (I : MI) (J : MJ) (v1 : Int32) (v2 : Int32) (hR : RF R) {r : MI} (hf : F_MD_fail I v1 v2 = some r) (hk : (fun r : MI => Q (none) (L, r, J, R)) r) : m_B G (m_rm 1 0 0) M_MD_fail Q 0 0 0 [some (mR (12, 0, 177)), some (mI v1), some (mI v2)] [] (L, I, J, R) := by
  unfold F_MD_fail at hf
  refine b_blk (pc' := 4) (ls' := [some (mR (12, 0, 177)), some (mI v1), some (mI v2)]) (st' := [mI (I 177 5)]) (S' := (L, I, J, R)) (P := True) [(.aload_n 0, (0, 0, 0, 0, 0)), (.getfield 234, (12, 5, 0, 0, 0))] [] (by decide +kernel) rfl trivial ?_
  refine b_if_eq (off := 4) (tgt := 8) (by decide +kernel) (by decide) (fun h1 => ?_) (fun h1 => ?_)
  · have hf := if_t h1 hf
    refine b_blk (pc' := 18) (ls' := [some (mR (12, 0, 177)), some (mI v1), some (mI v2)]) (st' := []) (S' := (L, m_up (m_up I 177 5 v1) 177 6 v2, J, R)) (P := True) [(.aload_n 0, (0, 0, 0, 0, 0)), (.iload_n 1, (0, 0, 0, 0, 0)), (.putfield 234, (12, 5, 0, 0, 0)), (.aload_n 0, (0, 0, 0, 0, 0)), (.iload_n 2, (0, 0, 0, 0, 0)), (.putfield 237, (12, 6, 0, 0, 0))] [] (by decide +kernel) rfl trivial ?_
    cases hf
    exact b_vret (by decide +kernel) rfl hk
  · have hf := if_f h1 hf
    cases hf
    exact b_vret (by decide +kernel) rfl hk
theorem C_MD_fail {G : MG} {L : List (Nat × Nat)} {R : Nat → Nat → Option MRef} (I : MI) (J : MJ) (v1 : Int32) (v2 : Int32) (hR : RF R) {r : MI} (hf : F_MD_fail I v1 v2 = some r) : m_met G 1 0 0 y_MD_fail M_MD_fail [mR (12, 0, 177), mI v1, mI v2] (L, I, J, R) (m_is (none) (L, r, J, R)) :=
  m_met_in n_MD_fail (plainFor_of_name (by decide)) (by decide) (Nat.le_of_ble_eq_true rfl) (ls := [some (mR (12, 0, 177)), some (mI v1), some (mI v2)]) rfl (W_MD_fail I J v1 v2 hR hf ⟨rfl, rfl⟩)
noncomputable def F_MD_isLetter (v0 : Int32) : Option (Int32) :=
  if v0 < (97 : Int32) then (some (0 : Int32)) else (if (122 : Int32) < v0 then (some (0 : Int32)) else (some (1 : Int32)))
set_option maxRecDepth 100000 in
set_option maxHeartbeats 400000 in
theorem W_MD_isLetter {G : MG} {Q : Option MV → MS → Prop} {L : List (Nat × Nat)} {R : Nat → Nat → Option MRef} (I : MI) (J : MJ) (v0 : Int32) (hR : RF R) {r : Int32} (hf : F_MD_isLetter v0 = some r) (hk : (fun r : Int32 => Q (some (mI r)) (L, I, J, R)) r) : m_B G (m_rm 1 0 0) M_MD_isLetter Q 0 0 0 [some (mI v0)] [] (L, I, J, R) := by
  unfold F_MD_isLetter at hf
  refine b_blk (pc' := 3) (ls' := [some (mI v0)]) (st' := [mI 97, mI v0]) (S' := (L, I, J, R)) (P := True) [(.iload_n 0, (0, 0, 0, 0, 0)), (.bipush 97, (0, 0, 0, 97, 0))] [] (by decide +kernel) rfl trivial ?_
  refine b_icmp_lt (off := 13) (tgt := 16) (by decide +kernel) (by decide) (fun h1 => ?_) (fun h1 => ?_)
  · have hf := if_t h1 hf
    refine b_blk (pc' := 17) (ls' := [some (mI v0)]) (st' := [mI 0]) (S' := (L, I, J, R)) (P := True) [(.iconst 0, (0, 0, 0, 0, 0))] [] (by decide +kernel) rfl trivial ?_
    cases hf
    exact b_zret (by decide +kernel) rfl (by decide) hk
  · have hf := if_f h1 hf
    refine b_blk (pc' := 9) (ls' := [some (mI v0)]) (st' := [mI 122, mI v0]) (S' := (L, I, J, R)) (P := True) [(.iload_n 0, (0, 0, 0, 0, 0)), (.bipush 122, (0, 0, 0, 122, 0))] [] (by decide +kernel) rfl trivial ?_
    refine b_icmp_gt (off := 7) (tgt := 16) (by decide +kernel) (by decide) (fun h2 => ?_) (fun h2 => ?_)
    · have hf := if_t h2 hf
      refine b_blk (pc' := 17) (ls' := [some (mI v0)]) (st' := [mI 0]) (S' := (L, I, J, R)) (P := True) [(.iconst 0, (0, 0, 0, 0, 0))] [] (by decide +kernel) rfl trivial ?_
      cases hf
      exact b_zret (by decide +kernel) rfl (by decide) hk
    · have hf := if_f h2 hf
      refine b_blk (pc' := 17) (ls' := [some (mI v0)]) (st' := [mI 1]) (S' := (L, I, J, R)) (P := True) [(.iconst 1, (0, 0, 0, 1, 0)), (.goto 4, (0, 17, 0, 0, 0))] [] (by decide +kernel) rfl trivial ?_
      cases hf
      exact b_zret (by decide +kernel) rfl (by decide) hk
theorem C_MD_isLetter {G : MG} {L : List (Nat × Nat)} {R : Nat → Nat → Option MRef} (I : MI) (J : MJ) (v0 : Int32) (hR : RF R) {r : Int32} (hf : F_MD_isLetter v0 = some r) : m_met G 1 0 0 y_MD_isLetter M_MD_isLetter [mI v0] (L, I, J, R) (m_is (some (mI r)) (L, I, J, R)) :=
  m_met_in n_MD_isLetter (plainFor_of_name (by decide)) (by decide) (Nat.le_of_ble_eq_true rfl) (ls := [some (mI v0)]) rfl (W_MD_isLetter I J v0 hR hf ⟨rfl, rfl⟩)
noncomputable def F_MD_isHere_35 (w : Nat) (lw : Nat) (I : MI) (v2 : Int32) : Option ((Int32) ⊕ (Int32)) :=
  if (I 177 3) ≤ v2 then (some (.inr (v2 : Int32))) else (gd v2 1600 <| (F_MD_isLetter (I 178 v2.toNatClampNeg)).bind fun r3 => if r3 = (0 : Int32) then (some (.inr (v2 : Int32))) else (some (.inl (v2 + 1 : Int32))))
set_option maxRecDepth 100000 in
set_option maxHeartbeats 400000 in
theorem W_MD_isHere_35 {G : MG} {Q : Option MV → MS → Prop} {L : List (Nat × Nat)} {R : Nat → Nat → Option MRef} (w : Nat) (lw : Nat) (I : MI) (J : MJ) (v2 : Int32) (hR : RF R) (hlw : lw < 2 ^ 31) {r : (Int32) ⊕ (Int32)} (hf : F_MD_isHere_35 w lw I v2 = some r) (hk : (Sum.elim (fun s : Int32 => m_B G (m_rm 2 0 0) M_MD_isHere Q 0 0 35 [some (mR (12, 0, 177)), some (mR (23, lw, w)), some (mI s), none] [] (L, I, J, R)) (fun s : Int32 => m_B G (m_rm 2 0 0) M_MD_isHere Q 0 0 61 [some (mR (12, 0, 177)), some (mR (23, lw, w)), some (mI s), none] [] (L, I, J, R))) r) : m_B G (m_rm 2 0 0) M_MD_isHere Q 0 0 35 [some (mR (12, 0, 177)), some (mR (23, lw, w)), some (mI v2), none] [] (L, I, J, R) := by
  unfold F_MD_isHere_35 at hf
  refine b_blk (pc' := 40) (ls' := [some (mR (12, 0, 177)), some (mR (23, lw, w)), some (mI v2), none]) (st' := [mI (I 177 3), mI v2]) (S' := (L, I, J, R)) (P := True) [(.iload_n 2, (0, 0, 0, 0, 0)), (.aload_n 0, (0, 0, 0, 0, 0)), (.getfield 243, (12, 3, 0, 0, 0))] [] (by decide +kernel) rfl trivial ?_
  refine b_icmp_ge (off := 21) (tgt := 61) (by decide +kernel) (by decide) (fun h1 => ?_) (fun h1 => ?_)
  · have hf := if_t h1 hf
    cases hf
    exact hk
  · have hf := if_f h1 hf
    obtain ⟨g2, hf⟩ := gd_s hf
    refine b_blk (pc' := 49) (ls' := [some (mR (12, 0, 177)), some (mR (23, lw, w)), some (mI v2), none]) (st' := [mI (I 178 v2.toNatClampNeg)]) (S' := (L, I, J, R)) (P := ((True ∧ R 177 0 = some (20, 1600, 178)) ∧ vp_in v2 1600)) [(.aload_n 0, (0, 0, 0, 0, 0)), (.getfield 7, (12, 0, 3, 0, 0)), (.iload_n 2, (0, 0, 0, 0, 0)), (.iaload, (0, 0, 0, 0, 0))] [some (20, 1600, 178)] (by decide +kernel) rfl ⟨⟨trivial, (r_177_0 hR)⟩, (in_n (n := 1600) (by decide) g2.1 g2.2)⟩ ?_
    obtain ⟨r3, hc3, hf⟩ := bnd_o hf
    refine b_cS (as := [mI (I 178 v2.toNatClampNeg)]) (st := []) (by decide +kernel) k_12_250 n_MD_isLetter s_MD_isLetter (C_MD_isLetter I J (I 178 v2.toNatClampNeg) hR hc3) (Nat.le_of_ble_eq_true rfl) (by decide) rfl rfl (fun _ h => h) ?_
    show m_B G (m_rm 2 0 0) M_MD_isHere Q 0 0 52 [some (mR (12, 0, 177)), some (mR (23, lw, w)), some (mI v2), none] [mI r3] (L, I, J, R)
    refine b_if_eq (off := 9) (tgt := 61) (by decide +kernel) (by decide) (fun h4 => ?_) (fun h4 => ?_)
    · have hf := if_t h4 hf
      cases hf
      exact hk
    · have hf := if_f h4 hf
      refine b_blk (pc' := 35) (ls' := [some (mR (12, 0, 177)), some (mR (23, lw, w)), some (mI (v2 + 1)), none]) (st' := []) (S' := (L, I, J, R)) (P := True) [(.iinc 2 1, (0, 0, 0, 1, 0)), (.goto (-23), (0, 35, 0, 0, 0))] [] (by decide +kernel) rfl trivial ?_
      cases hf
      exact hk
noncomputable def F_MD_isHere_76 (w : Nat) (lw : Nat) (I : MI) (v3 : Int32) : Option ((Int32) ⊕ ((Unit) ⊕ (Int32 × MI))) :=
  if (Int32.ofNat lw) ≤ v3 then (some (.inr (.inl ()))) else (gd ((I 177 2) + v3) 1600 <| gd v3 lw <| if (I 178 ((I 177 2) + v3).toNatClampNeg) = (I w v3.toNatClampNeg) then (some (.inl (v3 + 1 : Int32))) else (some (.inr (.inr ((0 : Int32), I)))))
set_option maxRecDepth 100000 in
set_option maxHeartbeats 400000 in
theorem W_MD_isHere_76 {G : MG} {Q : Option MV → MS → Prop} {L : List (Nat × Nat)} {R : Nat → Nat → Option MRef} (w : Nat) (lw : Nat) (I : MI) (J : MJ) (v3 : Int32) (hR : RF R) (hlw : lw < 2 ^ 31) {r : (Int32) ⊕ ((Unit) ⊕ (Int32 × MI))} (hf : F_MD_isHere_76 w lw I v3 = some r) (hk : (Sum.elim (fun s : Int32 => m_B G (m_rm 2 0 0) M_MD_isHere Q 0 0 76 [some (mR (12, 0, 177)), some (mR (23, lw, w)), none, some (mI s)] [] (L, I, J, R)) (Sum.elim (fun s : Unit => m_B G (m_rm 2 0 0) M_MD_isHere Q 0 0 107 [none, none, none, none] [] (L, I, J, R)) (fun r : Int32 × MI => Q (some (mI r.1)) (L, r.2, J, R)))) r) : m_B G (m_rm 2 0 0) M_MD_isHere Q 0 0 76 [some (mR (12, 0, 177)), some (mR (23, lw, w)), none, some (mI v3)] [] (L, I, J, R) := by
  unfold F_MD_isHere_76 at hf
  refine b_blk (pc' := 79) (ls' := [some (mR (12, 0, 177)), some (mR (23, lw, w)), none, some (mI v3)]) (st' := [mI (Int32.ofNat lw), mI v3]) (S' := (L, I, J, R)) (P := True) [(.iload_n 3, (0, 0, 0, 0, 0)), (.aload_n 1, (0, 0, 0, 0, 0)), (.arraylength, (0, 0, 0, 0, 0))] [] (by decide +kernel) rfl trivial ?_
  refine b_icmp_ge (off := 28) (tgt := 107) (by decide +kernel) (by decide) (fun h1 => ?_) (fun h1 => ?_)
  · have hf := if_t h1 hf
    refine b_frg 0 ?_
    refine b_frg 1 ?_
    refine b_frg 3 ?_
    cases hf
    exact hk
  · have hf := if_f h1 hf
    obtain ⟨g2, hf⟩ := gd_s hf
    obtain ⟨g3, hf⟩ := gd_s hf
    refine b_blk (pc' := 96) (ls' := [some (mR (12, 0, 177)), some (mR (23, lw, w)), none, some (mI v3)]) (st' := [mI (I w v3.toNatClampNeg), mI (I 178 ((I 177 2) + v3).toNatClampNeg)]) (S' := (L, I, J, R)) (P := (((True ∧ R 177 0 = some (20, 1600, 178)) ∧ vp_in ((I 177 2) + v3) 1600) ∧ vp_in v3 lw)) [(.aload_n 0, (0, 0, 0, 0, 0)), (.getfield 7, (12, 0, 3, 0, 0)), (.aload_n 0, (0, 0, 0, 0, 0)), (.getfield 240, (12, 2, 0, 0, 0)), (.iload_n 3, (0, 0, 0, 0, 0)), (.iadd, (0, 0, 0, 0, 0)), (.iaload, (0, 0, 0, 0, 0)), (.aload_n 1, (0, 0, 0, 0, 0)), (.iload_n 3, (0, 0, 0, 0, 0)), (.caload, (0, 0, 0, 0, 0))] [some (20, 1600, 178)] (by decide +kernel) rfl ⟨⟨⟨trivial, (r_177_0 hR)⟩, (in_n (n := 1600) (by decide) g2.1 g2.2)⟩, (in_n (n := lw) hlw g3.1 g3.2)⟩ ?_
    refine b_icmp_eq (off := 5) (tgt := 101) (by decide +kernel) (by decide) (fun h4 => ?_) (fun h4 => ?_)
    · have hf := if_t h4 hf
      refine b_blk (pc' := 76) (ls' := [some (mR (12, 0, 177)), some (mR (23, lw, w)), none, some (mI (v3 + 1))]) (st' := []) (S' := (L, I, J, R)) (P := True) [(.iinc 3 1, (0, 0, 0, 1, 0)), (.goto (-28), (0, 76, 0, 0, 0))] [] (by decide +kernel) rfl trivial ?_
      cases hf
      exact hk
    · have hf := if_f h4 hf
      refine b_blk (pc' := 100) (ls' := [some (mR (12, 0, 177)), some (mR (23, lw, w)), none, some (mI v3)]) (st' := [mI 0]) (S' := (L, I, J, R)) (P := True) [(.iconst 0, (0, 0, 0, 0, 0))] [] (by decide +kernel) rfl trivial ?_
      cases hf
      exact b_zret (by decide +kernel) rfl (by decide) hk
noncomputable def F_MD_isHere_61 (w : Nat) (lw : Nat) (I : MI) (v2 : Int32) : Option (Int32 × MI) :=
  if (v2 - (I 177 2)) = (Int32.ofNat lw) then ((wl (fun s : Int32 => F_MD_isHere_76 w lw I s) (0 : Int32)).bind <| sel (fun q => some q) fun t2 => some ((1 : Int32), I)) else (some ((0 : Int32), I))
set_option maxRecDepth 100000 in
set_option maxHeartbeats 400000 in
theorem W_MD_isHere_61 {G : MG} {Q : Option MV → MS → Prop} {L : List (Nat × Nat)} {R : Nat → Nat → Option MRef} (w : Nat) (lw : Nat) (I : MI) (J : MJ) (v2 : Int32) (hR : RF R) (hlw : lw < 2 ^ 31) {r : Int32 × MI} (hf : F_MD_isHere_61 w lw I v2 = some r) (hk : (fun r : Int32 × MI => Q (some (mI r.1)) (L, r.2, J, R)) r) : m_B G (m_rm 2 0 0) M_MD_isHere Q 0 0 61 [some (mR (12, 0, 177)), some (mR (23, lw, w)), some (mI v2), none] [] (L, I, J, R) := by
  unfold F_MD_isHere_61 at hf
  refine b_blk (pc' := 69) (ls' := [some (mR (12, 0, 177)), some (mR (23, lw, w)), some (mI v2), none]) (st' := [mI (Int32.ofNat lw), mI (v2 - (I 177 2))]) (S' := (L, I, J, R)) (P := True) [(.iload_n 2, (0, 0, 0, 0, 0)), (.aload_n 0, (0, 0, 0, 0, 0)), (.getfield 240, (12, 2, 0, 0, 0)), (.isub, (0, 0, 0, 0, 0)), (.aload_n 1, (0, 0, 0, 0, 0)), (.arraylength, (0, 0, 0, 0, 0))] [] (by decide +kernel) rfl trivial ?_
  refine b_icmp_eq (off := 5) (tgt := 74) (by decide +kernel) (by decide) (fun h1 => ?_) (fun h1 => ?_)
  · have hf := if_t h1 hf
    refine b_blk (pc' := 76) (ls' := [some (mR (12, 0, 177)), some (mR (23, lw, w)), some (mI v2), some (mI 0)]) (st' := []) (S' := (L, I, J, R)) (P := True) [(.iconst 0, (0, 0, 0, 0, 0)), (.istore_n 3, (0, 0, 0, 0, 0))] [] (by decide +kernel) rfl trivial ?_
    refine b_frg 2 ?_
    obtain ⟨t2, hw, hf⟩ := bnd_o hf
    refine wl_B (A := fun s : Int32 => m_B G (m_rm 2 0 0) M_MD_isHere Q 0 0 76 [some (mR (12, 0, 177)), some (mR (23, lw, w)), none, some (mI s)] [] (L, I, J, R)) (B := (Sum.elim (fun s : Unit => m_B G (m_rm 2 0 0) M_MD_isHere Q 0 0 107 [none, none, none, none] [] (L, I, J, R)) (fun r : Int32 × MI => Q (some (mI r.1)) (L, r.2, J, R)))) (fun s r hs hr => W_MD_isHere_76 w lw I J s hR hlw hs hr) hw ?_
    rcases t2 with t2 | q
    rotate_left
    · cases se_r hf; exact hk
    replace hf := se_l hf
    show m_B G (m_rm 2 0 0) M_MD_isHere Q 0 0 107 [none, none, none, none] [] (L, I, J, R)
    refine b_blk (pc' := 108) (ls' := [none, none, none, none]) (st' := [mI 1]) (S' := (L, I, J, R)) (P := True) [(.iconst 1, (0, 0, 0, 1, 0))] [] (by decide +kernel) rfl trivial ?_
    cases hf
    exact b_zret (by decide +kernel) rfl (by decide) hk
  · have hf := if_f h1 hf
    refine b_blk (pc' := 73) (ls' := [some (mR (12, 0, 177)), some (mR (23, lw, w)), some (mI v2), none]) (st' := [mI 0]) (S' := (L, I, J, R)) (P := True) [(.iconst 0, (0, 0, 0, 0, 0))] [] (by decide +kernel) rfl trivial ?_
    cases hf
    exact b_zret (by decide +kernel) rfl (by decide) hk
noncomputable def F_MD_isHere (w : Nat) (lw : Nat) (I : MI) : Option (Int32 × MI) :=
  if (I 177 5) = (0 : Int32) then ((F_MD_look I).bind fun r2 => (F_MD_isLetter r2.1).bind fun r3 => if r3 = (0 : Int32) then (some ((0 : Int32), r2.2)) else (if (r2.2 177 2) = (r2.2 177 4) then (some ((0 : Int32), r2.2)) else ((wl (fun s : Int32 => F_MD_isHere_35 w lw r2.2 s) (r2.2 177 2 : Int32)).bind fun t6 => F_MD_isHere_61 w lw r2.2 t6))) else (some ((0 : Int32), I))
set_option maxRecDepth 100000 in
set_option maxHeartbeats 400000 in
theorem W_MD_isHere {G : MG} {Q : Option MV → MS → Prop} {L : List (Nat × Nat)} {R : Nat → Nat → Option MRef} (w : Nat) (lw : Nat) (I : MI) (J : MJ) (hR : RF R) (hlw : lw < 2 ^ 31) {r : Int32 × MI} (hf : F_MD_isHere w lw I = some r) (hk : (fun r : Int32 × MI => Q (some (mI r.1)) (L, r.2, J, R)) r) : m_B G (m_rm 2 0 0) M_MD_isHere Q 0 0 0 [some (mR (12, 0, 177)), some (mR (23, lw, w)), none, none] [] (L, I, J, R) := by
  unfold F_MD_isHere at hf
  refine b_blk (pc' := 4) (ls' := [some (mR (12, 0, 177)), some (mR (23, lw, w)), none, none]) (st' := [mI (I 177 5)]) (S' := (L, I, J, R)) (P := True) [(.aload_n 0, (0, 0, 0, 0, 0)), (.getfield 234, (12, 5, 0, 0, 0))] [] (by decide +kernel) rfl trivial ?_
  refine b_if_ne (off := 24) (tgt := 28) (by decide +kernel) (by decide) (fun h1 => ?_) (fun h1 => ?_)
  · have hf := if_f h1 hf
    refine b_blk (pc' := 29) (ls' := [some (mR (12, 0, 177)), some (mR (23, lw, w)), none, none]) (st' := [mI 0]) (S' := (L, I, J, R)) (P := True) [(.iconst 0, (0, 0, 0, 0, 0))] [] (by decide +kernel) rfl trivial ?_
    cases hf
    exact b_zret (by decide +kernel) rfl (by decide) hk
  · have hf := if_t h1 hf
    refine b_blk (pc' := 8) (ls' := [some (mR (12, 0, 177)), some (mR (23, lw, w)), none, none]) (st' := [mR (12, 0, 177)]) (S' := (L, I, J, R)) (P := True) [(.aload_n 0, (0, 0, 0, 0, 0))] [] (by decide +kernel) rfl trivial ?_
    obtain ⟨r2, hc2, hf⟩ := bnd_o hf
    refine b_cV (as := []) (st := []) (by decide +kernel) k_12_246 n_MD_look rfl (by decide) v_MD_look (C_MD_look I J hR hc2) (Nat.le_of_ble_eq_true rfl) (by decide) rfl rfl (fun _ h => h) ?_
    show m_B G (m_rm 2 0 0) M_MD_isHere Q 0 0 11 [some (mR (12, 0, 177)), some (mR (23, lw, w)), none, none] [mI r2.1] (L, r2.2, J, R)
    obtain ⟨r3, hc3, hf⟩ := bnd_o hf
    refine b_cS (as := [mI r2.1]) (st := []) (by decide +kernel) k_12_250 n_MD_isLetter s_MD_isLetter (C_MD_isLetter r2.2 J r2.1 hR hc3) (Nat.le_of_ble_eq_true rfl) (by decide) rfl rfl (fun _ h => h) ?_
    show m_B G (m_rm 2 0 0) M_MD_isHere Q 0 0 14 [some (mR (12, 0, 177)), some (mR (23, lw, w)), none, none] [mI r3] (L, r2.2, J, R)
    refine b_if_eq (off := 14) (tgt := 28) (by decide +kernel) (by decide) (fun h4 => ?_) (fun h4 => ?_)
    · have hf := if_t h4 hf
      refine b_blk (pc' := 29) (ls' := [some (mR (12, 0, 177)), some (mR (23, lw, w)), none, none]) (st' := [mI 0]) (S' := (L, r2.2, J, R)) (P := True) [(.iconst 0, (0, 0, 0, 0, 0))] [] (by decide +kernel) rfl trivial ?_
      cases hf
      exact b_zret (by decide +kernel) rfl (by decide) hk
    · have hf := if_f h4 hf
      refine b_blk (pc' := 25) (ls' := [some (mR (12, 0, 177)), some (mR (23, lw, w)), none, none]) (st' := [mI (r2.2 177 4), mI (r2.2 177 2)]) (S' := (L, r2.2, J, R)) (P := True) [(.aload_n 0, (0, 0, 0, 0, 0)), (.getfield 240, (12, 2, 0, 0, 0)), (.aload_n 0, (0, 0, 0, 0, 0)), (.getfield 254, (12, 4, 0, 0, 0))] [] (by decide +kernel) rfl trivial ?_
      refine b_icmp_ne (off := 5) (tgt := 30) (by decide +kernel) (by decide) (fun h5 => ?_) (fun h5 => ?_)
      · have hf := if_f h5 hf
        refine b_blk (pc' := 35) (ls' := [some (mR (12, 0, 177)), some (mR (23, lw, w)), some (mI (r2.2 177 2)), none]) (st' := []) (S' := (L, r2.2, J, R)) (P := True) [(.aload_n 0, (0, 0, 0, 0, 0)), (.getfield 240, (12, 2, 0, 0, 0)), (.istore_n 2, (0, 0, 0, 0, 0))] [] (by decide +kernel) rfl trivial ?_
        obtain ⟨t6, hw, hf⟩ := bnd_o hf
        refine wl_B (A := fun s : Int32 => m_B G (m_rm 2 0 0) M_MD_isHere Q 0 0 35 [some (mR (12, 0, 177)), some (mR (23, lw, w)), some (mI s), none] [] (L, r2.2, J, R)) (B := (fun s : Int32 => m_B G (m_rm 2 0 0) M_MD_isHere Q 0 0 61 [some (mR (12, 0, 177)), some (mR (23, lw, w)), some (mI s), none] [] (L, r2.2, J, R))) (fun s r hs hr => W_MD_isHere_35 w lw r2.2 J s hR hlw hs hr) hw ?_
        show m_B G (m_rm 2 0 0) M_MD_isHere Q 0 0 61 [some (mR (12, 0, 177)), some (mR (23, lw, w)), some (mI t6), none] [] (L, r2.2, J, R)
        exact m_B_cg rfl rfl rfl (W_MD_isHere_61 w lw r2.2 J t6 hR hlw hf hk)
      · have hf := if_t h5 hf
        refine b_blk (pc' := 29) (ls' := [some (mR (12, 0, 177)), some (mR (23, lw, w)), none, none]) (st' := [mI 0]) (S' := (L, r2.2, J, R)) (P := True) [(.iconst 0, (0, 0, 0, 0, 0))] [] (by decide +kernel) rfl trivial ?_
        cases hf
        exact b_zret (by decide +kernel) rfl (by decide) hk
theorem C_MD_isHere {G : MG} {L : List (Nat × Nat)} {R : Nat → Nat → Option MRef} (w : Nat) (lw : Nat) (I : MI) (J : MJ) (hR : RF R) (hlw : lw < 2 ^ 31) {r : Int32 × MI} (hf : F_MD_isHere w lw I = some r) : m_met G 2 0 0 y_MD_isHere M_MD_isHere [mR (12, 0, 177), mR (23, lw, w)] (L, I, J, R) (m_is (some (mI r.1)) (L, r.2, J, R)) :=
  m_met_in n_MD_isHere (plainFor_of_name (by decide)) (by decide) (Nat.le_of_ble_eq_true rfl) (ls := [some (mR (12, 0, 177)), some (mR (23, lw, w)), none, none]) rfl (W_MD_isHere w lw I J hR hlw hf ⟨rfl, rfl⟩)
noncomputable def F_MD_takes (w : Nat) (lw : Nat) (I : MI) : Option (Int32 × MI) :=
  (F_MD_isHere w lw I).bind fun r1 => if r1.1 = (0 : Int32) then (some ((0 : Int32), r1.2)) else (some ((1 : Int32), m_up (m_up r1.2 177 2 ((r1.2 177 2) + (Int32.ofNat lw))) 177 4 ((r1.2 177 2) + (Int32.ofNat lw))))
set_option maxRecDepth 100000 in
set_option maxHeartbeats 400000 in
theorem W_MD_takes {G : MG} {Q : Option MV → MS → Prop} {L : List (Nat × Nat)} {R : Nat → Nat → Option MRef} (w : Nat) (lw : Nat) (I : MI) (J : MJ) (hR : RF R) (hlw : lw < 2 ^ 31) {r : Int32 × MI} (hf : F_MD_takes w lw I = some r) (hk : (fun r : Int32 × MI => Q (some (mI r.1)) (L, r.2, J, R)) r) : m_B G (m_rm 3 0 0) M_MD_takes Q 0 0 0 [some (mR (12, 0, 177)), some (mR (23, lw, w))] [] (L, I, J, R) := by
  unfold F_MD_takes at hf
  refine b_blk (pc' := 2) (ls' := [some (mR (12, 0, 177)), some (mR (23, lw, w))]) (st' := [mR (23, lw, w), mR (12, 0, 177)]) (S' := (L, I, J, R)) (P := True) [(.aload_n 0, (0, 0, 0, 0, 0)), (.aload_n 1, (0, 0, 0, 0, 0))] [] (by decide +kernel) rfl trivial ?_
  obtain ⟨r1, hc1, hf⟩ := bnd_o hf
  refine b_cV (as := [mR (23, lw, w)]) (st := []) (by decide +kernel) k_12_257 n_MD_isHere rfl (by decide) v_MD_isHere (C_MD_isHere w lw I J hR hlw hc1) (Nat.le_of_ble_eq_true rfl) (by decide) rfl rfl (fun _ h => h) ?_
  show m_B G (m_rm 3 0 0) M_MD_takes Q 0 0 5 [some (mR (12, 0, 177)), some (mR (23, lw, w))] [mI r1.1] (L, r1.2, J, R)
  refine b_if_ne (off := 5) (tgt := 10) (by decide +kernel) (by decide) (fun h2 => ?_) (fun h2 => ?_)
  · have hf := if_f h2 hf
    refine b_blk (pc' := 30) (ls' := [some (mR (12, 0, 177)), some (mR (23, lw, w))]) (st' := [mI 1]) (S' := (L, m_up (m_up r1.2 177 2 ((r1.2 177 2) + (Int32.ofNat lw))) 177 4 ((r1.2 177 2) + (Int32.ofNat lw)), J, R)) (P := True) [(.aload_n 0, (0, 0, 0, 0, 0)), (.dup, (0, 0, 0, 0, 0)), (.getfield 240, (12, 2, 0, 0, 0)), (.aload_n 1, (0, 0, 0, 0, 0)), (.arraylength, (0, 0, 0, 0, 0)), (.iadd, (0, 0, 0, 0, 0)), (.putfield 240, (12, 2, 0, 0, 0)), (.aload_n 0, (0, 0, 0, 0, 0)), (.aload_n 0, (0, 0, 0, 0, 0)), (.getfield 240, (12, 2, 0, 0, 0)), (.putfield 254, (12, 4, 0, 0, 0)), (.iconst 1, (0, 0, 0, 1, 0))] [] (by decide +kernel) rfl trivial ?_
    cases hf
    exact b_zret (by decide +kernel) rfl (by decide) hk
  · have hf := if_t h2 hf
    refine b_blk (pc' := 9) (ls' := [some (mR (12, 0, 177)), some (mR (23, lw, w))]) (st' := [mI 0]) (S' := (L, r1.2, J, R)) (P := True) [(.iconst 0, (0, 0, 0, 0, 0))] [] (by decide +kernel) rfl trivial ?_
    cases hf
    exact b_zret (by decide +kernel) rfl (by decide) hk
theorem C_MD_takes {G : MG} {L : List (Nat × Nat)} {R : Nat → Nat → Option MRef} (w : Nat) (lw : Nat) (I : MI) (J : MJ) (hR : RF R) (hlw : lw < 2 ^ 31) {r : Int32 × MI} (hf : F_MD_takes w lw I = some r) : m_met G 3 0 0 y_MD_takes M_MD_takes [mR (12, 0, 177), mR (23, lw, w)] (L, I, J, R) (m_is (some (mI r.1)) (L, r.2, J, R)) :=
  m_met_in n_MD_takes (plainFor_of_name (by decide)) (by decide) (Nat.le_of_ble_eq_true rfl) (ls := [some (mR (12, 0, 177)), some (mR (23, lw, w))]) rfl (W_MD_takes w lw I J hR hlw hf ⟨rfl, rfl⟩)
noncomputable def F_MD_asks (w : Nat) (lw : Nat) (I : MI) : Option (MI) :=
  if (I 177 5) = (0 : Int32) then ((F_MD_takes w lw I).bind fun r2 => if r2.1 = (0 : Int32) then ((F_MD_fail r2.2 (1 : Int32) (r2.2 177 2)).bind fun r4 => some r4) else (some r2.2)) else (some I)
set_option maxRecDepth 100000 in
set_option maxHeartbeats 400000 in
theorem W_MD_asks {G : MG} {Q : Option MV → MS → Prop} {L : List (Nat × Nat)} {R : Nat → Nat → Option MRef} (w : Nat) (lw : Nat) (I : MI) (J : MJ) (hR : RF R) (hlw : lw < 2 ^ 31) {r : MI} (hf : F_MD_asks w lw I = some r) (hk : (fun r : MI => Q (none) (L, r, J, R)) r) : m_B G (m_rm 4 0 0) M_MD_asks Q 0 0 0 [some (mR (12, 0, 177)), some (mR (23, lw, w))] [] (L, I, J, R) := by
  unfold F_MD_asks at hf
  refine b_blk (pc' := 4) (ls' := [some (mR (12, 0, 177)), some (mR (23, lw, w))]) (st' := [mI (I 177 5)]) (S' := (L, I, J, R)) (P := True) [(.aload_n 0, (0, 0, 0, 0, 0)), (.getfield 234, (12, 5, 0, 0, 0))] [] (by decide +kernel) rfl trivial ?_
  refine b_if_ne (off := 20) (tgt := 24) (by decide +kernel) (by decide) (fun h1 => ?_) (fun h1 => ?_)
  · have hf := if_f h1 hf
    cases hf
    exact b_vret (by decide +kernel) rfl hk
  · have hf := if_t h1 hf
    refine b_blk (pc' := 9) (ls' := [some (mR (12, 0, 177)), some (mR (23, lw, w))]) (st' := [mR (23, lw, w), mR (12, 0, 177)]) (S' := (L, I, J, R)) (P := True) [(.aload_n 0, (0, 0, 0, 0, 0)), (.aload_n 1, (0, 0, 0, 0, 0))] [] (by decide +kernel) rfl trivial ?_
    obtain ⟨r2, hc2, hf⟩ := bnd_o hf
    refine b_cV (as := [mR (23, lw, w)]) (st := []) (by decide +kernel) k_12_261 n_MD_takes rfl (by decide) v_MD_takes (C_MD_takes w lw I J hR hlw hc2) (Nat.le_of_ble_eq_true rfl) (by decide) rfl rfl (fun _ h => h) ?_
    show m_B G (m_rm 4 0 0) M_MD_asks Q 0 0 12 [some (mR (12, 0, 177)), some (mR (23, lw, w))] [mI r2.1] (L, r2.2, J, R)
    refine b_if_ne (off := 12) (tgt := 24) (by decide +kernel) (by decide) (fun h3 => ?_) (fun h3 => ?_)
    · have hf := if_f h3 hf
      cases hf
      exact b_vret (by decide +kernel) rfl hk
    · have hf := if_t h3 hf
      refine b_blk (pc' := 21) (ls' := [some (mR (12, 0, 177)), some (mR (23, lw, w))]) (st' := [mI (r2.2 177 2), mI 1, mR (12, 0, 177)]) (S' := (L, r2.2, J, R)) (P := True) [(.aload_n 0, (0, 0, 0, 0, 0)), (.iconst 1, (0, 0, 0, 1, 0)), (.aload_n 0, (0, 0, 0, 0, 0)), (.getfield 240, (12, 2, 0, 0, 0))] [] (by decide +kernel) rfl trivial ?_
      obtain ⟨r4, hc4, hf⟩ := bnd_o hf
      refine b_cV (as := [mI 1, mI (r2.2 177 2)]) (st := []) (by decide +kernel) k_12_264 n_MD_fail rfl (by decide) v_MD_fail (C_MD_fail r2.2 J (1 : Int32) (r2.2 177 2) hR hc4) (Nat.le_of_ble_eq_true rfl) (by decide) rfl rfl (fun _ h => h) ?_
      show m_B G (m_rm 4 0 0) M_MD_asks Q 0 0 24 [some (mR (12, 0, 177)), some (mR (23, lw, w))] [] (L, r4, J, R)
      cases hf
      exact b_vret (by decide +kernel) rfl hk
theorem C_MD_asks {G : MG} {L : List (Nat × Nat)} {R : Nat → Nat → Option MRef} (w : Nat) (lw : Nat) (I : MI) (J : MJ) (hR : RF R) (hlw : lw < 2 ^ 31) {r : MI} (hf : F_MD_asks w lw I = some r) : m_met G 4 0 0 y_MD_asks M_MD_asks [mR (12, 0, 177), mR (23, lw, w)] (L, I, J, R) (m_is (none) (L, r, J, R)) :=
  m_met_in n_MD_asks (plainFor_of_name (by decide)) (by decide) (Nat.le_of_ble_eq_true rfl) (ls := [some (mR (12, 0, 177)), some (mR (23, lw, w))]) rfl (W_MD_asks w lw I J hR hlw hf ⟨rfl, rfl⟩)
noncomputable def F_MD_takesSign (I : MI) (v1 : Int32) : Option (Int32 × MI) :=
  if (I 177 5) = (0 : Int32) then ((F_MD_look I).bind fun r2 => if r2.1 = v1 then (some ((1 : Int32), m_up r2.2 177 2 ((r2.2 177 2) + (1 : Int32)))) else (some ((0 : Int32), r2.2))) else (some ((0 : Int32), I))
set_option maxRecDepth 100000 in
set_option maxHeartbeats 400000 in
theorem W_MD_takesSign {G : MG} {Q : Option MV → MS → Prop} {L : List (Nat × Nat)} {R : Nat → Nat → Option MRef} (I : MI) (J : MJ) (v1 : Int32) (hR : RF R) {r : Int32 × MI} (hf : F_MD_takesSign I v1 = some r) (hk : (fun r : Int32 × MI => Q (some (mI r.1)) (L, r.2, J, R)) r) : m_B G (m_rm 2 0 0) M_MD_takesSign Q 0 0 0 [some (mR (12, 0, 177)), some (mI v1)] [] (L, I, J, R) := by
  unfold F_MD_takesSign at hf
  refine b_blk (pc' := 4) (ls' := [some (mR (12, 0, 177)), some (mI v1)]) (st' := [mI (I 177 5)]) (S' := (L, I, J, R)) (P := True) [(.aload_n 0, (0, 0, 0, 0, 0)), (.getfield 234, (12, 5, 0, 0, 0))] [] (by decide +kernel) rfl trivial ?_
  refine b_if_ne (off := 11) (tgt := 15) (by decide +kernel) (by decide) (fun h1 => ?_) (fun h1 => ?_)
  · have hf := if_f h1 hf
    refine b_blk (pc' := 16) (ls' := [some (mR (12, 0, 177)), some (mI v1)]) (st' := [mI 0]) (S' := (L, I, J, R)) (P := True) [(.iconst 0, (0, 0, 0, 0, 0))] [] (by decide +kernel) rfl trivial ?_
    cases hf
    exact b_zret (by decide +kernel) rfl (by decide) hk
  · have hf := if_t h1 hf
    refine b_blk (pc' := 8) (ls' := [some (mR (12, 0, 177)), some (mI v1)]) (st' := [mR (12, 0, 177)]) (S' := (L, I, J, R)) (P := True) [(.aload_n 0, (0, 0, 0, 0, 0))] [] (by decide +kernel) rfl trivial ?_
    obtain ⟨r2, hc2, hf⟩ := bnd_o hf
    refine b_cV (as := []) (st := []) (by decide +kernel) k_12_246 n_MD_look rfl (by decide) v_MD_look (C_MD_look I J hR hc2) (Nat.le_of_ble_eq_true rfl) (by decide) rfl rfl (fun _ h => h) ?_
    show m_B G (m_rm 2 0 0) M_MD_takesSign Q 0 0 11 [some (mR (12, 0, 177)), some (mI v1)] [mI r2.1] (L, r2.2, J, R)
    refine b_blk (pc' := 12) (ls' := [some (mR (12, 0, 177)), some (mI v1)]) (st' := [mI v1, mI r2.1]) (S' := (L, r2.2, J, R)) (P := True) [(.iload_n 1, (0, 0, 0, 0, 0))] [] (by decide +kernel) rfl trivial ?_
    refine b_icmp_eq (off := 5) (tgt := 17) (by decide +kernel) (by decide) (fun h3 => ?_) (fun h3 => ?_)
    · have hf := if_t h3 hf
      refine b_blk (pc' := 28) (ls' := [some (mR (12, 0, 177)), some (mI v1)]) (st' := [mI 1]) (S' := (L, m_up r2.2 177 2 ((r2.2 177 2) + (1 : Int32)), J, R)) (P := True) [(.aload_n 0, (0, 0, 0, 0, 0)), (.dup, (0, 0, 0, 0, 0)), (.getfield 240, (12, 2, 0, 0, 0)), (.iconst 1, (0, 0, 0, 1, 0)), (.iadd, (0, 0, 0, 0, 0)), (.putfield 240, (12, 2, 0, 0, 0)), (.iconst 1, (0, 0, 0, 1, 0))] [] (by decide +kernel) rfl trivial ?_
      cases hf
      exact b_zret (by decide +kernel) rfl (by decide) hk
    · have hf := if_f h3 hf
      refine b_blk (pc' := 16) (ls' := [some (mR (12, 0, 177)), some (mI v1)]) (st' := [mI 0]) (S' := (L, r2.2, J, R)) (P := True) [(.iconst 0, (0, 0, 0, 0, 0))] [] (by decide +kernel) rfl trivial ?_
      cases hf
      exact b_zret (by decide +kernel) rfl (by decide) hk
theorem C_MD_takesSign {G : MG} {L : List (Nat × Nat)} {R : Nat → Nat → Option MRef} (I : MI) (J : MJ) (v1 : Int32) (hR : RF R) {r : Int32 × MI} (hf : F_MD_takesSign I v1 = some r) : m_met G 2 0 0 y_MD_takesSign M_MD_takesSign [mR (12, 0, 177), mI v1] (L, I, J, R) (m_is (some (mI r.1)) (L, r.2, J, R)) :=
  m_met_in n_MD_takesSign (plainFor_of_name (by decide)) (by decide) (Nat.le_of_ble_eq_true rfl) (ls := [some (mR (12, 0, 177)), some (mI v1)]) rfl (W_MD_takesSign I J v1 hR hf ⟨rfl, rfl⟩)
noncomputable def F_MD_asksSign (I : MI) (v1 : Int32) : Option (MI) :=
  if (I 177 5) = (0 : Int32) then ((F_MD_takesSign I v1).bind fun r2 => if r2.1 = (0 : Int32) then ((F_MD_fail r2.2 (1 : Int32) (r2.2 177 2)).bind fun r4 => some r4) else (some r2.2)) else (some I)
set_option maxRecDepth 100000 in
set_option maxHeartbeats 400000 in
theorem W_MD_asksSign {G : MG} {Q : Option MV → MS → Prop} {L : List (Nat × Nat)} {R : Nat → Nat → Option MRef} (I : MI) (J : MJ) (v1 : Int32) (hR : RF R) {r : MI} (hf : F_MD_asksSign I v1 = some r) (hk : (fun r : MI => Q (none) (L, r, J, R)) r) : m_B G (m_rm 3 0 0) M_MD_asksSign Q 0 0 0 [some (mR (12, 0, 177)), some (mI v1)] [] (L, I, J, R) := by
  unfold F_MD_asksSign at hf
  refine b_blk (pc' := 4) (ls' := [some (mR (12, 0, 177)), some (mI v1)]) (st' := [mI (I 177 5)]) (S' := (L, I, J, R)) (P := True) [(.aload_n 0, (0, 0, 0, 0, 0)), (.getfield 234, (12, 5, 0, 0, 0))] [] (by decide +kernel) rfl trivial ?_
  refine b_if_ne (off := 20) (tgt := 24) (by decide +kernel) (by decide) (fun h1 => ?_) (fun h1 => ?_)
  · have hf := if_f h1 hf
    cases hf
    exact b_vret (by decide +kernel) rfl hk
  · have hf := if_t h1 hf
    refine b_blk (pc' := 9) (ls' := [some (mR (12, 0, 177)), some (mI v1)]) (st' := [mI v1, mR (12, 0, 177)]) (S' := (L, I, J, R)) (P := True) [(.aload_n 0, (0, 0, 0, 0, 0)), (.iload_n 1, (0, 0, 0, 0, 0))] [] (by decide +kernel) rfl trivial ?_
    obtain ⟨r2, hc2, hf⟩ := bnd_o hf
    refine b_cV (as := [mI v1]) (st := []) (by decide +kernel) k_12_268 n_MD_takesSign rfl (by decide) v_MD_takesSign (C_MD_takesSign I J v1 hR hc2) (Nat.le_of_ble_eq_true rfl) (by decide) rfl rfl (fun _ h => h) ?_
    show m_B G (m_rm 3 0 0) M_MD_asksSign Q 0 0 12 [some (mR (12, 0, 177)), some (mI v1)] [mI r2.1] (L, r2.2, J, R)
    refine b_if_ne (off := 12) (tgt := 24) (by decide +kernel) (by decide) (fun h3 => ?_) (fun h3 => ?_)
    · have hf := if_f h3 hf
      cases hf
      exact b_vret (by decide +kernel) rfl hk
    · have hf := if_t h3 hf
      refine b_blk (pc' := 21) (ls' := [some (mR (12, 0, 177)), some (mI v1)]) (st' := [mI (r2.2 177 2), mI 1, mR (12, 0, 177)]) (S' := (L, r2.2, J, R)) (P := True) [(.aload_n 0, (0, 0, 0, 0, 0)), (.iconst 1, (0, 0, 0, 1, 0)), (.aload_n 0, (0, 0, 0, 0, 0)), (.getfield 240, (12, 2, 0, 0, 0))] [] (by decide +kernel) rfl trivial ?_
      obtain ⟨r4, hc4, hf⟩ := bnd_o hf
      refine b_cV (as := [mI 1, mI (r2.2 177 2)]) (st := []) (by decide +kernel) k_12_264 n_MD_fail rfl (by decide) v_MD_fail (C_MD_fail r2.2 J (1 : Int32) (r2.2 177 2) hR hc4) (Nat.le_of_ble_eq_true rfl) (by decide) rfl rfl (fun _ h => h) ?_
      show m_B G (m_rm 3 0 0) M_MD_asksSign Q 0 0 24 [some (mR (12, 0, 177)), some (mI v1)] [] (L, r4, J, R)
      cases hf
      exact b_vret (by decide +kernel) rfl hk
theorem C_MD_asksSign {G : MG} {L : List (Nat × Nat)} {R : Nat → Nat → Option MRef} (I : MI) (J : MJ) (v1 : Int32) (hR : RF R) {r : MI} (hf : F_MD_asksSign I v1 = some r) : m_met G 3 0 0 y_MD_asksSign M_MD_asksSign [mR (12, 0, 177), mI v1] (L, I, J, R) (m_is (none) (L, r, J, R)) :=
  m_met_in n_MD_asksSign (plainFor_of_name (by decide)) (by decide) (Nat.le_of_ble_eq_true rfl) (ls := [some (mR (12, 0, 177)), some (mI v1)]) rfl (W_MD_asksSign I J v1 hR hf ⟨rfl, rfl⟩)
noncomputable def F_MD_isDigit (v0 : Int32) : Option (Int32) :=
  if v0 < (48 : Int32) then (some (0 : Int32)) else (if (57 : Int32) < v0 then (some (0 : Int32)) else (some (1 : Int32)))
set_option maxRecDepth 100000 in
set_option maxHeartbeats 400000 in
theorem W_MD_isDigit {G : MG} {Q : Option MV → MS → Prop} {L : List (Nat × Nat)} {R : Nat → Nat → Option MRef} (I : MI) (J : MJ) (v0 : Int32) (hR : RF R) {r : Int32} (hf : F_MD_isDigit v0 = some r) (hk : (fun r : Int32 => Q (some (mI r)) (L, I, J, R)) r) : m_B G (m_rm 1 0 0) M_MD_isDigit Q 0 0 0 [some (mI v0)] [] (L, I, J, R) := by
  unfold F_MD_isDigit at hf
  refine b_blk (pc' := 3) (ls' := [some (mI v0)]) (st' := [mI 48, mI v0]) (S' := (L, I, J, R)) (P := True) [(.iload_n 0, (0, 0, 0, 0, 0)), (.bipush 48, (0, 0, 0, 48, 0))] [] (by decide +kernel) rfl trivial ?_
  refine b_icmp_lt (off := 13) (tgt := 16) (by decide +kernel) (by decide) (fun h1 => ?_) (fun h1 => ?_)
  · have hf := if_t h1 hf
    refine b_blk (pc' := 17) (ls' := [some (mI v0)]) (st' := [mI 0]) (S' := (L, I, J, R)) (P := True) [(.iconst 0, (0, 0, 0, 0, 0))] [] (by decide +kernel) rfl trivial ?_
    cases hf
    exact b_zret (by decide +kernel) rfl (by decide) hk
  · have hf := if_f h1 hf
    refine b_blk (pc' := 9) (ls' := [some (mI v0)]) (st' := [mI 57, mI v0]) (S' := (L, I, J, R)) (P := True) [(.iload_n 0, (0, 0, 0, 0, 0)), (.bipush 57, (0, 0, 0, 57, 0))] [] (by decide +kernel) rfl trivial ?_
    refine b_icmp_gt (off := 7) (tgt := 16) (by decide +kernel) (by decide) (fun h2 => ?_) (fun h2 => ?_)
    · have hf := if_t h2 hf
      refine b_blk (pc' := 17) (ls' := [some (mI v0)]) (st' := [mI 0]) (S' := (L, I, J, R)) (P := True) [(.iconst 0, (0, 0, 0, 0, 0))] [] (by decide +kernel) rfl trivial ?_
      cases hf
      exact b_zret (by decide +kernel) rfl (by decide) hk
    · have hf := if_f h2 hf
      refine b_blk (pc' := 17) (ls' := [some (mI v0)]) (st' := [mI 1]) (S' := (L, I, J, R)) (P := True) [(.iconst 1, (0, 0, 0, 1, 0)), (.goto 4, (0, 17, 0, 0, 0))] [] (by decide +kernel) rfl trivial ?_
      cases hf
      exact b_zret (by decide +kernel) rfl (by decide) hk
theorem C_MD_isDigit {G : MG} {L : List (Nat × Nat)} {R : Nat → Nat → Option MRef} (I : MI) (J : MJ) (v0 : Int32) (hR : RF R) {r : Int32} (hf : F_MD_isDigit v0 = some r) : m_met G 1 0 0 y_MD_isDigit M_MD_isDigit [mI v0] (L, I, J, R) (m_is (some (mI r)) (L, I, J, R)) :=
  m_met_in n_MD_isDigit (plainFor_of_name (by decide)) (by decide) (Nat.le_of_ble_eq_true rfl) (ls := [some (mI v0)]) rfl (W_MD_isDigit I J v0 hR hf ⟨rfl, rfl⟩)
noncomputable def F_MD_isIn (v0 : Int64) (v2 : Int64) (v4 : Int64) : Option (Int32) :=
  if (lg_cmp v0 v2) < (0 : Int32) then (some (0 : Int32)) else (if (0 : Int32) < (lg_cmp v0 v4) then (some (0 : Int32)) else (some (1 : Int32)))
set_option maxRecDepth 100000 in
set_option maxHeartbeats 400000 in
theorem W_MD_isIn {G : MG} {Q : Option MV → MS → Prop} {L : List (Nat × Nat)} {R : Nat → Nat → Option MRef} (I : MI) (J : MJ) (v0 : Int64) (v2 : Int64) (v4 : Int64) (hR : RF R) {r : Int32} (hf : F_MD_isIn v0 v2 v4 = some r) (hk : (fun r : Int32 => Q (some (mI r)) (L, I, J, R)) r) : m_B G (m_rm 1 0 0) M_MD_isIn Q 0 0 0 [some (mJ v0), none, some (mJ v2), none, some (mJ v4), none] [] (L, I, J, R) := by
  unfold F_MD_isIn at hf
  refine b_blk (pc' := 3) (ls' := [some (mJ v0), none, some (mJ v2), none, some (mJ v4), none]) (st' := [mI (lg_cmp v0 v2)]) (S' := (L, I, J, R)) (P := True) [(.lload_n 0, (0, 0, 0, 0, 0)), (.lload_n 2, (0, 0, 0, 0, 0)), (.lcmp, (0, 0, 0, 0, 0))] [] (by decide +kernel) rfl trivial ?_
  refine b_if_lt (off := 14) (tgt := 17) (by decide +kernel) (by decide) (fun h1 => ?_) (fun h1 => ?_)
  · have hf := if_t h1 hf
    refine b_blk (pc' := 18) (ls' := [some (mJ v0), none, some (mJ v2), none, some (mJ v4), none]) (st' := [mI 0]) (S' := (L, I, J, R)) (P := True) [(.iconst 0, (0, 0, 0, 0, 0))] [] (by decide +kernel) rfl trivial ?_
    cases hf
    exact b_zret (by decide +kernel) rfl (by decide) hk
  · have hf := if_f h1 hf
    refine b_blk (pc' := 10) (ls' := [some (mJ v0), none, some (mJ v2), none, some (mJ v4), none]) (st' := [mI (lg_cmp v0 v4)]) (S' := (L, I, J, R)) (P := True) [(.lload_n 0, (0, 0, 0, 0, 0)), (.lload 4, (0, 0, 0, 0, 0)), (.lcmp, (0, 0, 0, 0, 0))] [] (by decide +kernel) rfl trivial ?_
    refine b_if_gt (off := 7) (tgt := 17) (by decide +kernel) (by decide) (fun h2 => ?_) (fun h2 => ?_)
    · have hf := if_t h2 hf
      refine b_blk (pc' := 18) (ls' := [some (mJ v0), none, some (mJ v2), none, some (mJ v4), none]) (st' := [mI 0]) (S' := (L, I, J, R)) (P := True) [(.iconst 0, (0, 0, 0, 0, 0))] [] (by decide +kernel) rfl trivial ?_
      cases hf
      exact b_zret (by decide +kernel) rfl (by decide) hk
    · have hf := if_f h2 hf
      refine b_blk (pc' := 18) (ls' := [some (mJ v0), none, some (mJ v2), none, some (mJ v4), none]) (st' := [mI 1]) (S' := (L, I, J, R)) (P := True) [(.iconst 1, (0, 0, 0, 1, 0)), (.goto 4, (0, 18, 0, 0, 0))] [] (by decide +kernel) rfl trivial ?_
      cases hf
      exact b_zret (by decide +kernel) rfl (by decide) hk
theorem C_MD_isIn {G : MG} {L : List (Nat × Nat)} {R : Nat → Nat → Option MRef} (I : MI) (J : MJ) (v0 : Int64) (v2 : Int64) (v4 : Int64) (hR : RF R) {r : Int32} (hf : F_MD_isIn v0 v2 v4 = some r) : m_met G 1 0 0 y_MD_isIn M_MD_isIn [mJ v0, mJ v2, mJ v4] (L, I, J, R) (m_is (some (mI r)) (L, I, J, R)) :=
  m_met_in n_MD_isIn (plainFor_of_name (by decide)) (by decide) (Nat.le_of_ble_eq_true rfl) (ls := [some (mJ v0), none, some (mJ v2), none, some (mJ v4), none]) rfl (W_MD_isIn I J v0 v2 v4 hR hf ⟨rfl, rfl⟩)
noncomputable def F_MD_number_49 (I : MI) (v1 : Int32) (v2 : Int32) (v3 : Int32) (v4 : Int32) : Option ((Int32 × MI) ⊕ ((Int32 × MI) ⊕ (Int32 × MI))) :=
  if (I 177 3) ≤ (I 177 2) then (some (.inr (.inl ((v4 : Int32), I)))) else (gd (I 177 2) 1600 <| (F_MD_isDigit (I 178 (I 177 2).toNatClampNeg)).bind fun r3 => if r3 = (0 : Int32) then (some (.inr (.inl ((v4 : Int32), I)))) else (if ((I 177 2) - v3) = (4 : Int32) then ((F_MD_fail I (1 : Int32) (I 177 2)).bind fun r7 => some (.inr (.inr ((0 : Int32), r7)))) else (gd (I 177 2) 1600 <| some (.inl (((((10 : Int32) * v4) + (I 178 (I 177 2).toNatClampNeg)) - (48 : Int32) : Int32), m_up I 177 2 ((I 177 2) + (1 : Int32)))))))
set_option maxRecDepth 100000 in
set_option maxHeartbeats 400000 in
theorem W_MD_number_49 {G : MG} {Q : Option MV → MS → Prop} {L : List (Nat × Nat)} {R : Nat → Nat → Option MRef} (I : MI) (J : MJ) (v1 : Int32) (v2 : Int32) (v3 : Int32) (v4 : Int32) (hR : RF R) {r : (Int32 × MI) ⊕ ((Int32 × MI) ⊕ (Int32 × MI))} (hf : F_MD_number_49 I v1 v2 v3 v4 = some r) (hk : (Sum.elim (fun s : Int32 × MI => m_B G (m_rm 2 0 0) M_MD_number Q 0 0 49 [some (mR (12, 0, 177)), some (mI v1), some (mI v2), some (mI v3), some (mI s.1)] [] (L, s.2, J, R)) (Sum.elim (fun s : Int32 × MI => m_B G (m_rm 2 0 0) M_MD_number Q 0 0 129 [some (mR (12, 0, 177)), some (mI v1), some (mI v2), some (mI v3), some (mI s.1)] [] (L, s.2, J, R)) (fun r : Int32 × MI => Q (some (mI r.1)) (L, r.2, J, R)))) r) : m_B G (m_rm 2 0 0) M_MD_number Q 0 0 49 [some (mR (12, 0, 177)), some (mI v1), some (mI v2), some (mI v3), some (mI v4)] [] (L, I, J, R) := by
  unfold F_MD_number_49 at hf
  refine b_blk (pc' := 57) (ls' := [some (mR (12, 0, 177)), some (mI v1), some (mI v2), some (mI v3), some (mI v4)]) (st' := [mI (I 177 3), mI (I 177 2)]) (S' := (L, I, J, R)) (P := True) [(.aload_n 0, (0, 0, 0, 0, 0)), (.getfield 240, (12, 2, 0, 0, 0)), (.aload_n 0, (0, 0, 0, 0, 0)), (.getfield 243, (12, 3, 0, 0, 0))] [] (by decide +kernel) rfl trivial ?_
  refine b_icmp_ge (off := 72) (tgt := 129) (by decide +kernel) (by decide) (fun h1 => ?_) (fun h1 => ?_)
  · have hf := if_t h1 hf
    cases hf
    exact hk
  · have hf := if_f h1 hf
    obtain ⟨g2, hf⟩ := gd_s hf
    refine b_blk (pc' := 69) (ls' := [some (mR (12, 0, 177)), some (mI v1), some (mI v2), some (mI v3), some (mI v4)]) (st' := [mI (I 178 (I 177 2).toNatClampNeg)]) (S' := (L, I, J, R)) (P := ((True ∧ R 177 0 = some (20, 1600, 178)) ∧ vp_in (I 177 2) 1600)) [(.aload_n 0, (0, 0, 0, 0, 0)), (.getfield 7, (12, 0, 3, 0, 0)), (.aload_n 0, (0, 0, 0, 0, 0)), (.getfield 240, (12, 2, 0, 0, 0)), (.iaload, (0, 0, 0, 0, 0))] [some (20, 1600, 178)] (by decide +kernel) rfl ⟨⟨trivial, (r_177_0 hR)⟩, (in_n (n := 1600) (by decide) g2.1 g2.2)⟩ ?_
    obtain ⟨r3, hc3, hf⟩ := bnd_o hf
    refine b_cS (as := [mI (I 178 (I 177 2).toNatClampNeg)]) (st := []) (by decide +kernel) k_12_271 n_MD_isDigit s_MD_isDigit (C_MD_isDigit I J (I 178 (I 177 2).toNatClampNeg) hR hc3) (Nat.le_of_ble_eq_true rfl) (by decide) rfl rfl (fun _ h => h) ?_
    show m_B G (m_rm 2 0 0) M_MD_number Q 0 0 72 [some (mR (12, 0, 177)), some (mI v1), some (mI v2), some (mI v3), some (mI v4)] [mI r3] (L, I, J, R)
    refine b_if_eq (off := 57) (tgt := 129) (by decide +kernel) (by decide) (fun h4 => ?_) (fun h4 => ?_)
    · have hf := if_t h4 hf
      cases hf
      exact hk
    · have hf := if_f h4 hf
      refine b_blk (pc' := 82) (ls' := [some (mR (12, 0, 177)), some (mI v1), some (mI v2), some (mI v3), some (mI v4)]) (st' := [mI 4, mI ((I 177 2) - v3)]) (S' := (L, I, J, R)) (P := True) [(.aload_n 0, (0, 0, 0, 0, 0)), (.getfield 240, (12, 2, 0, 0, 0)), (.iload_n 3, (0, 0, 0, 0, 0)), (.isub, (0, 0, 0, 0, 0)), (.iconst 4, (0, 0, 0, 4, 0))] [] (by decide +kernel) rfl trivial ?_
      refine b_icmp_ne (off := 14) (tgt := 96) (by decide +kernel) (by decide) (fun h5 => ?_) (fun h5 => ?_)
      · have hf := if_f h5 hf
        obtain ⟨g6, hf⟩ := gd_s hf
        refine b_blk (pc' := 49) (ls' := [some (mR (12, 0, 177)), some (mI v1), some (mI v2), some (mI v3), some (mI ((((10 : Int32) * v4) + (I 178 (I 177 2).toNatClampNeg)) - (48 : Int32)))]) (st' := []) (S' := (L, m_up I 177 2 ((I 177 2) + (1 : Int32)), J, R)) (P := ((True ∧ R 177 0 = some (20, 1600, 178)) ∧ vp_in (I 177 2) 1600)) [(.bipush 10, (0, 0, 0, 10, 0)), (.iload 4, (0, 0, 0, 0, 0)), (.imul, (0, 0, 0, 0, 0)), (.aload_n 0, (0, 0, 0, 0, 0)), (.getfield 7, (12, 0, 3, 0, 0)), (.aload_n 0, (0, 0, 0, 0, 0)), (.getfield 240, (12, 2, 0, 0, 0)), (.iaload, (0, 0, 0, 0, 0)), (.iadd, (0, 0, 0, 0, 0)), (.bipush 48, (0, 0, 0, 48, 0)), (.isub, (0, 0, 0, 0, 0)), (.istore 4, (0, 0, 0, 0, 0)), (.aload_n 0, (0, 0, 0, 0, 0)), (.dup, (0, 0, 0, 0, 0)), (.getfield 240, (12, 2, 0, 0, 0)), (.iconst 1, (0, 0, 0, 1, 0)), (.iadd, (0, 0, 0, 0, 0)), (.putfield 240, (12, 2, 0, 0, 0)), (.goto (-77), (0, 49, 0, 0, 0))] [some (20, 1600, 178)] (by decide +kernel) rfl ⟨⟨trivial, (r_177_0 hR)⟩, (in_n (n := 1600) (by decide) g6.1 g6.2)⟩ ?_
        cases hf
        exact hk
      · have hf := if_t h5 hf
        refine b_blk (pc' := 91) (ls' := [some (mR (12, 0, 177)), some (mI v1), some (mI v2), some (mI v3), some (mI v4)]) (st' := [mI (I 177 2), mI 1, mR (12, 0, 177)]) (S' := (L, I, J, R)) (P := True) [(.aload_n 0, (0, 0, 0, 0, 0)), (.iconst 1, (0, 0, 0, 1, 0)), (.aload_n 0, (0, 0, 0, 0, 0)), (.getfield 240, (12, 2, 0, 0, 0))] [] (by decide +kernel) rfl trivial ?_
        obtain ⟨r7, hc7, hf⟩ := bnd_o hf
        refine b_cV (as := [mI 1, mI (I 177 2)]) (st := []) (by decide +kernel) k_12_264 n_MD_fail rfl (by decide) v_MD_fail (C_MD_fail I J (1 : Int32) (I 177 2) hR hc7) (Nat.le_of_ble_eq_true rfl) (by decide) rfl rfl (fun _ h => h) ?_
        show m_B G (m_rm 2 0 0) M_MD_number Q 0 0 94 [some (mR (12, 0, 177)), some (mI v1), some (mI v2), some (mI v3), some (mI v4)] [] (L, r7, J, R)
        refine b_blk (pc' := 95) (ls' := [some (mR (12, 0, 177)), some (mI v1), some (mI v2), some (mI v3), some (mI v4)]) (st' := [mI 0]) (S' := (L, r7, J, R)) (P := True) [(.iconst 0, (0, 0, 0, 0, 0))] [] (by decide +kernel) rfl trivial ?_
        cases hf
        exact b_iret (by decide +kernel) rfl hk
noncomputable def F_MD_number_129 (I : MI) (v1 : Int32) (v2 : Int32) (v3 : Int32) (v4 : Int32) : Option (Int32 × MI) :=
  (F_MD_isIn v4.toInt64 v1.toInt64 v2.toInt64).bind fun r1 => if r1 = (0 : Int32) then ((F_MD_fail (m_up (m_up I 177 4 (I 177 2)) 177 10 v3) (2 : Int32) v3).bind fun r3 => some ((v4 : Int32), r3)) else (some ((v4 : Int32), m_up (m_up I 177 4 (I 177 2)) 177 10 v3))
set_option maxRecDepth 100000 in
set_option maxHeartbeats 400000 in
theorem W_MD_number_129 {G : MG} {Q : Option MV → MS → Prop} {L : List (Nat × Nat)} {R : Nat → Nat → Option MRef} (I : MI) (J : MJ) (v1 : Int32) (v2 : Int32) (v3 : Int32) (v4 : Int32) (hR : RF R) {r : Int32 × MI} (hf : F_MD_number_129 I v1 v2 v3 v4 = some r) (hk : (fun r : Int32 × MI => Q (some (mI r.1)) (L, r.2, J, R)) r) : m_B G (m_rm 2 0 0) M_MD_number Q 0 0 129 [some (mR (12, 0, 177)), some (mI v1), some (mI v2), some (mI v3), some (mI v4)] [] (L, I, J, R) := by
  unfold F_MD_number_129 at hf
  refine b_blk (pc' := 149) (ls' := [some (mR (12, 0, 177)), some (mI v1), some (mI v2), some (mI v3), some (mI v4)]) (st' := [mJ v2.toInt64, mJ v1.toInt64, mJ v4.toInt64]) (S' := (L, m_up (m_up I 177 4 (I 177 2)) 177 10 v3, J, R)) (P := True) [(.aload_n 0, (0, 0, 0, 0, 0)), (.aload_n 0, (0, 0, 0, 0, 0)), (.getfield 240, (12, 2, 0, 0, 0)), (.putfield 254, (12, 4, 0, 0, 0)), (.aload_n 0, (0, 0, 0, 0, 0)), (.iload_n 3, (0, 0, 0, 0, 0)), (.putfield 274, (12, 10, 0, 0, 0)), (.iload 4, (0, 0, 0, 0, 0)), (.i2l, (0, 0, 0, 0, 0)), (.iload_n 1, (0, 0, 0, 0, 0)), (.i2l, (0, 0, 0, 0, 0)), (.iload_n 2, (0, 0, 0, 0, 0)), (.i2l, (0, 0, 0, 0, 0))] [] (by decide +kernel) rfl trivial ?_
  obtain ⟨r1, hc1, hf⟩ := bnd_o hf
  refine b_cS (as := [mJ v4.toInt64, mJ v1.toInt64, mJ v2.toInt64]) (st := []) (by decide +kernel) k_12_277 n_MD_isIn s_MD_isIn (C_MD_isIn (m_up (m_up I 177 4 (I 177 2)) 177 10 v3) J v4.toInt64 v1.toInt64 v2.toInt64 hR hc1) (Nat.le_of_ble_eq_true rfl) (by decide) rfl rfl (fun _ h => h) ?_
  show m_B G (m_rm 2 0 0) M_MD_number Q 0 0 152 [some (mR (12, 0, 177)), some (mI v1), some (mI v2), some (mI v3), some (mI v4)] [mI r1] (L, m_up (m_up I 177 4 (I 177 2)) 177 10 v3, J, R)
  refine b_if_ne (off := 9) (tgt := 161) (by decide +kernel) (by decide) (fun h2 => ?_) (fun h2 => ?_)
  · have hf := if_f h2 hf
    refine b_blk (pc' := 163) (ls' := [some (mR (12, 0, 177)), some (mI v1), some (mI v2), some (mI v3), some (mI v4)]) (st' := [mI v4]) (S' := (L, m_up (m_up I 177 4 (I 177 2)) 177 10 v3, J, R)) (P := True) [(.iload 4, (0, 0, 0, 0, 0))] [] (by decide +kernel) rfl trivial ?_
    cases hf
    exact b_iret (by decide +kernel) rfl hk
  · have hf := if_t h2 hf
    refine b_blk (pc' := 158) (ls' := [some (mR (12, 0, 177)), some (mI v1), some (mI v2), some (mI v3), some (mI v4)]) (st' := [mI v3, mI 2, mR (12, 0, 177)]) (S' := (L, m_up (m_up I 177 4 (I 177 2)) 177 10 v3, J, R)) (P := True) [(.aload_n 0, (0, 0, 0, 0, 0)), (.iconst 2, (0, 0, 0, 2, 0)), (.iload_n 3, (0, 0, 0, 0, 0))] [] (by decide +kernel) rfl trivial ?_
    obtain ⟨r3, hc3, hf⟩ := bnd_o hf
    refine b_cV (as := [mI 2, mI v3]) (st := []) (by decide +kernel) k_12_264 n_MD_fail rfl (by decide) v_MD_fail (C_MD_fail (m_up (m_up I 177 4 (I 177 2)) 177 10 v3) J (2 : Int32) v3 hR hc3) (Nat.le_of_ble_eq_true rfl) (by decide) rfl rfl (fun _ h => h) ?_
    show m_B G (m_rm 2 0 0) M_MD_number Q 0 0 161 [some (mR (12, 0, 177)), some (mI v1), some (mI v2), some (mI v3), some (mI v4)] [] (L, r3, J, R)
    refine b_blk (pc' := 163) (ls' := [some (mR (12, 0, 177)), some (mI v1), some (mI v2), some (mI v3), some (mI v4)]) (st' := [mI v4]) (S' := (L, r3, J, R)) (P := True) [(.iload 4, (0, 0, 0, 0, 0))] [] (by decide +kernel) rfl trivial ?_
    cases hf
    exact b_iret (by decide +kernel) rfl hk
noncomputable def F_MD_number (I : MI) (v1 : Int32) (v2 : Int32) : Option (Int32 × MI) :=
  if (I 177 5) = (0 : Int32) then ((F_MD_look I).bind fun r2 => (F_MD_isDigit r2.1).bind fun r3 => if r3 = (0 : Int32) then ((F_MD_fail r2.2 (1 : Int32) (r2.2 177 2)).bind fun r5 => some ((0 : Int32), r5)) else (if (r2.2 177 2) = (r2.2 177 4) then ((F_MD_fail r2.2 (1 : Int32) (r2.2 177 2)).bind fun r8 => some ((0 : Int32), r8)) else ((wl (fun s : Int32 × MI => F_MD_number_49 s.2 v1 v2 (r2.2 177 2) s.1) ((0 : Int32), r2.2)).bind <| sel (fun q => some q) fun t7 => F_MD_number_129 t7.2 v1 v2 (r2.2 177 2) t7.1))) else (some ((0 : Int32), I))
set_option maxRecDepth 100000 in
set_option maxHeartbeats 400000 in
theorem W_MD_number {G : MG} {Q : Option MV → MS → Prop} {L : List (Nat × Nat)} {R : Nat → Nat → Option MRef} (I : MI) (J : MJ) (v1 : Int32) (v2 : Int32) (hR : RF R) {r : Int32 × MI} (hf : F_MD_number I v1 v2 = some r) (hk : (fun r : Int32 × MI => Q (some (mI r.1)) (L, r.2, J, R)) r) : m_B G (m_rm 2 0 0) M_MD_number Q 0 0 0 [some (mR (12, 0, 177)), some (mI v1), some (mI v2), none, none] [] (L, I, J, R) := by
  unfold F_MD_number at hf
  refine b_blk (pc' := 4) (ls' := [some (mR (12, 0, 177)), some (mI v1), some (mI v2), none, none]) (st' := [mI (I 177 5)]) (S' := (L, I, J, R)) (P := True) [(.aload_n 0, (0, 0, 0, 0, 0)), (.getfield 234, (12, 5, 0, 0, 0))] [] (by decide +kernel) rfl trivial ?_
  refine b_if_eq (off := 5) (tgt := 9) (by decide +kernel) (by decide) (fun h1 => ?_) (fun h1 => ?_)
  · have hf := if_t h1 hf
    refine b_blk (pc' := 10) (ls' := [some (mR (12, 0, 177)), some (mI v1), some (mI v2), none, none]) (st' := [mR (12, 0, 177)]) (S' := (L, I, J, R)) (P := True) [(.aload_n 0, (0, 0, 0, 0, 0))] [] (by decide +kernel) rfl trivial ?_
    obtain ⟨r2, hc2, hf⟩ := bnd_o hf
    refine b_cV (as := []) (st := []) (by decide +kernel) k_12_246 n_MD_look rfl (by decide) v_MD_look (C_MD_look I J hR hc2) (Nat.le_of_ble_eq_true rfl) (by decide) rfl rfl (fun _ h => h) ?_
    show m_B G (m_rm 2 0 0) M_MD_number Q 0 0 13 [some (mR (12, 0, 177)), some (mI v1), some (mI v2), none, none] [mI r2.1] (L, r2.2, J, R)
    obtain ⟨r3, hc3, hf⟩ := bnd_o hf
    refine b_cS (as := [mI r2.1]) (st := []) (by decide +kernel) k_12_271 n_MD_isDigit s_MD_isDigit (C_MD_isDigit r2.2 J r2.1 hR hc3) (Nat.le_of_ble_eq_true rfl) (by decide) rfl rfl (fun _ h => h) ?_
    show m_B G (m_rm 2 0 0) M_MD_number Q 0 0 16 [some (mR (12, 0, 177)), some (mI v1), some (mI v2), none, none] [mI r3] (L, r2.2, J, R)
    refine b_if_eq (off := 14) (tgt := 30) (by decide +kernel) (by decide) (fun h4 => ?_) (fun h4 => ?_)
    · have hf := if_t h4 hf
      refine b_blk (pc' := 36) (ls' := [some (mR (12, 0, 177)), some (mI v1), some (mI v2), none, none]) (st' := [mI (r2.2 177 2), mI 1, mR (12, 0, 177)]) (S' := (L, r2.2, J, R)) (P := True) [(.aload_n 0, (0, 0, 0, 0, 0)), (.iconst 1, (0, 0, 0, 1, 0)), (.aload_n 0, (0, 0, 0, 0, 0)), (.getfield 240, (12, 2, 0, 0, 0))] [] (by decide +kernel) rfl trivial ?_
      obtain ⟨r5, hc5, hf⟩ := bnd_o hf
      refine b_cV (as := [mI 1, mI (r2.2 177 2)]) (st := []) (by decide +kernel) k_12_264 n_MD_fail rfl (by decide) v_MD_fail (C_MD_fail r2.2 J (1 : Int32) (r2.2 177 2) hR hc5) (Nat.le_of_ble_eq_true rfl) (by decide) rfl rfl (fun _ h => h) ?_
      show m_B G (m_rm 2 0 0) M_MD_number Q 0 0 39 [some (mR (12, 0, 177)), some (mI v1), some (mI v2), none, none] [] (L, r5, J, R)
      refine b_blk (pc' := 40) (ls' := [some (mR (12, 0, 177)), some (mI v1), some (mI v2), none, none]) (st' := [mI 0]) (S' := (L, r5, J, R)) (P := True) [(.iconst 0, (0, 0, 0, 0, 0))] [] (by decide +kernel) rfl trivial ?_
      cases hf
      exact b_iret (by decide +kernel) rfl hk
    · have hf := if_f h4 hf
      refine b_blk (pc' := 27) (ls' := [some (mR (12, 0, 177)), some (mI v1), some (mI v2), none, none]) (st' := [mI (r2.2 177 4), mI (r2.2 177 2)]) (S' := (L, r2.2, J, R)) (P := True) [(.aload_n 0, (0, 0, 0, 0, 0)), (.getfield 240, (12, 2, 0, 0, 0)), (.aload_n 0, (0, 0, 0, 0, 0)), (.getfield 254, (12, 4, 0, 0, 0))] [] (by decide +kernel) rfl trivial ?_
      refine b_icmp_ne (off := 14) (tgt := 41) (by decide +kernel) (by decide) (fun h6 => ?_) (fun h6 => ?_)
      · have hf := if_f h6 hf
        refine b_blk (pc' := 49) (ls' := [some (mR (12, 0, 177)), some (mI v1), some (mI v2), some (mI (r2.2 177 2)), some (mI 0)]) (st' := []) (S' := (L, r2.2, J, R)) (P := True) [(.aload_n 0, (0, 0, 0, 0, 0)), (.getfield 240, (12, 2, 0, 0, 0)), (.istore_n 3, (0, 0, 0, 0, 0)), (.iconst 0, (0, 0, 0, 0, 0)), (.istore 4, (0, 0, 0, 0, 0))] [] (by decide +kernel) rfl trivial ?_
        obtain ⟨t7, hw, hf⟩ := bnd_o hf
        refine wl_B (A := fun s : Int32 × MI => m_B G (m_rm 2 0 0) M_MD_number Q 0 0 49 [some (mR (12, 0, 177)), some (mI v1), some (mI v2), some (mI (r2.2 177 2)), some (mI s.1)] [] (L, s.2, J, R)) (B := (Sum.elim (fun s : Int32 × MI => m_B G (m_rm 2 0 0) M_MD_number Q 0 0 129 [some (mR (12, 0, 177)), some (mI v1), some (mI v2), some (mI (r2.2 177 2)), some (mI s.1)] [] (L, s.2, J, R)) (fun r : Int32 × MI => Q (some (mI r.1)) (L, r.2, J, R)))) (fun s r hs hr => W_MD_number_49 s.2 J v1 v2 (r2.2 177 2) s.1 hR hs hr) hw ?_
        rcases t7 with t7 | q
        rotate_left
        · cases se_r hf; exact hk
        replace hf := se_l hf
        show m_B G (m_rm 2 0 0) M_MD_number Q 0 0 129 [some (mR (12, 0, 177)), some (mI v1), some (mI v2), some (mI (r2.2 177 2)), some (mI t7.1)] [] (L, t7.2, J, R)
        exact m_B_cg rfl rfl rfl (W_MD_number_129 t7.2 J v1 v2 (r2.2 177 2) t7.1 hR hf hk)
      · have hf := if_t h6 hf
        refine b_blk (pc' := 36) (ls' := [some (mR (12, 0, 177)), some (mI v1), some (mI v2), none, none]) (st' := [mI (r2.2 177 2), mI 1, mR (12, 0, 177)]) (S' := (L, r2.2, J, R)) (P := True) [(.aload_n 0, (0, 0, 0, 0, 0)), (.iconst 1, (0, 0, 0, 1, 0)), (.aload_n 0, (0, 0, 0, 0, 0)), (.getfield 240, (12, 2, 0, 0, 0))] [] (by decide +kernel) rfl trivial ?_
        obtain ⟨r8, hc8, hf⟩ := bnd_o hf
        refine b_cV (as := [mI 1, mI (r2.2 177 2)]) (st := []) (by decide +kernel) k_12_264 n_MD_fail rfl (by decide) v_MD_fail (C_MD_fail r2.2 J (1 : Int32) (r2.2 177 2) hR hc8) (Nat.le_of_ble_eq_true rfl) (by decide) rfl rfl (fun _ h => h) ?_
        show m_B G (m_rm 2 0 0) M_MD_number Q 0 0 39 [some (mR (12, 0, 177)), some (mI v1), some (mI v2), none, none] [] (L, r8, J, R)
        refine b_blk (pc' := 40) (ls' := [some (mR (12, 0, 177)), some (mI v1), some (mI v2), none, none]) (st' := [mI 0]) (S' := (L, r8, J, R)) (P := True) [(.iconst 0, (0, 0, 0, 0, 0))] [] (by decide +kernel) rfl trivial ?_
        cases hf
        exact b_iret (by decide +kernel) rfl hk
  · have hf := if_f h1 hf
    refine b_blk (pc' := 8) (ls' := [some (mR (12, 0, 177)), some (mI v1), some (mI v2), none, none]) (st' := [mI 0]) (S' := (L, I, J, R)) (P := True) [(.iconst 0, (0, 0, 0, 0, 0))] [] (by decide +kernel) rfl trivial ?_
    cases hf
    exact b_iret (by decide +kernel) rfl hk
theorem C_MD_number {G : MG} {L : List (Nat × Nat)} {R : Nat → Nat → Option MRef} (I : MI) (J : MJ) (v1 : Int32) (v2 : Int32) (hR : RF R) {r : Int32 × MI} (hf : F_MD_number I v1 v2 = some r) : m_met G 2 0 0 y_MD_number M_MD_number [mR (12, 0, 177), mI v1, mI v2] (L, I, J, R) (m_is (some (mI r.1)) (L, r.2, J, R)) :=
  m_met_in n_MD_number (plainFor_of_name (by decide)) (by decide) (Nat.le_of_ble_eq_true rfl) (ls := [some (mR (12, 0, 177)), some (mI v1), some (mI v2), none, none]) rfl (W_MD_number I J v1 v2 hR hf ⟨rfl, rfl⟩)
noncomputable def F_MD_slopeTold (I : MI) : Option (MI) :=
  (F_MD_asks 180 5 I).bind fun r1 => (F_MD_number r1 (1 : Int32) (6 : Int32)).bind fun r2 => (F_MD_asks 181 2 (m_up r2.2 204 0 r2.1)).bind fun r3 => (F_MD_number r3 (4 : Int32) (30 : Int32)).bind fun r4 => (F_MD_asksSign (m_up r4.2 204 1 r4.1) (59 : Int32)).bind fun r5 => some r5
set_option maxRecDepth 100000 in
set_option maxHeartbeats 400000 in
theorem W_MD_slopeTold {G : MG} {Q : Option MV → MS → Prop} {L : List (Nat × Nat)} {R : Nat → Nat → Option MRef} (I : MI) (J : MJ) (hR : RF R) {r : MI} (hf : F_MD_slopeTold I = some r) (hk : (fun r : MI => Q (none) (L, r, J, R)) r) : m_B G (m_rm 5 0 0) M_MD_slopeTold Q 0 0 0 [some (mR (12, 0, 177))] [] (L, I, J, R) := by
  unfold F_MD_slopeTold at hf
  refine b_blk (pc' := 5) (ls' := [some (mR (12, 0, 177))]) (st' := [mR (23, 5, 180), mR (12, 0, 177)]) (S' := (L, I, J, R)) (P := (True ∧ R 177 11 = some (23, 5, 180))) [(.aload_n 0, (0, 0, 0, 0, 0)), (.aload_n 0, (0, 0, 0, 0, 0)), (.getfield 20, (12, 11, 3, 0, 0))] [some (23, 5, 180)] (by decide +kernel) rfl ⟨trivial, (r_177_11 hR)⟩ ?_
  obtain ⟨r1, hc1, hf⟩ := bnd_o hf
  refine b_cV (as := [mR (23, 5, 180)]) (st := []) (by decide +kernel) k_12_295 n_MD_asks rfl (by decide) v_MD_asks (C_MD_asks 180 5 I J hR (by decide) hc1) (Nat.le_of_ble_eq_true rfl) (by decide) rfl rfl (fun _ h => h) ?_
  show m_B G (m_rm 5 0 0) M_MD_slopeTold Q 0 0 8 [some (mR (12, 0, 177))] [] (L, r1, J, R)
  refine b_blk (pc' := 17) (ls' := [some (mR (12, 0, 177))]) (st' := [mI 6, mI 1, mR (12, 0, 177), mI 0, mR (20, 4, 204)]) (S' := (L, r1, J, R)) (P := (True ∧ R 177 36 = some (20, 4, 204))) [(.aload_n 0, (0, 0, 0, 0, 0)), (.getfield 93, (12, 36, 3, 0, 0)), (.iconst 0, (0, 0, 0, 0, 0)), (.aload_n 0, (0, 0, 0, 0, 0)), (.iconst 1, (0, 0, 0, 1, 0)), (.bipush 6, (0, 0, 0, 6, 0))] [some (20, 4, 204)] (by decide +kernel) rfl ⟨trivial, (r_177_36 hR)⟩ ?_
  obtain ⟨r2, hc2, hf⟩ := bnd_o hf
  refine b_cV (as := [mI 1, mI 6]) (st := [mI 0, mR (20, 4, 204)]) (by decide +kernel) k_12_299 n_MD_number rfl (by decide) v_MD_number (C_MD_number r1 J (1 : Int32) (6 : Int32) hR hc2) (Nat.le_of_ble_eq_true rfl) (by decide) rfl rfl (fun _ h => h) ?_
  show m_B G (m_rm 5 0 0) M_MD_slopeTold Q 0 0 20 [some (mR (12, 0, 177))] [mI r2.1, mI 0, mR (20, 4, 204)] (L, r2.2, J, R)
  refine b_blk (pc' := 26) (ls' := [some (mR (12, 0, 177))]) (st' := [mR (23, 2, 181), mR (12, 0, 177)]) (S' := (L, m_up r2.2 204 0 r2.1, J, R)) (P := ((True ∧ vp_in (0 : Int32) 4) ∧ R 177 12 = some (23, 2, 181))) [(.iastore, (0, 0, 0, 0, 0)), (.aload_n 0, (0, 0, 0, 0, 0)), (.aload_n 0, (0, 0, 0, 0, 0)), (.getfield 24, (12, 12, 3, 0, 0))] [some (23, 2, 181)] (by decide +kernel) rfl ⟨⟨trivial, (vp_in_nI (n := 0) (N := 4) (by decide) (by decide))⟩, (r_177_12 hR)⟩ ?_
  obtain ⟨r3, hc3, hf⟩ := bnd_o hf
  refine b_cV (as := [mR (23, 2, 181)]) (st := []) (by decide +kernel) k_12_295 n_MD_asks rfl (by decide) v_MD_asks (C_MD_asks 181 2 (m_up r2.2 204 0 r2.1) J hR (by decide) hc3) (Nat.le_of_ble_eq_true rfl) (by decide) rfl rfl (fun _ h => h) ?_
  show m_B G (m_rm 5 0 0) M_MD_slopeTold Q 0 0 29 [some (mR (12, 0, 177))] [] (L, r3, J, R)
  refine b_blk (pc' := 38) (ls' := [some (mR (12, 0, 177))]) (st' := [mI 30, mI 4, mR (12, 0, 177), mI 1, mR (20, 4, 204)]) (S' := (L, r3, J, R)) (P := (True ∧ R 177 36 = some (20, 4, 204))) [(.aload_n 0, (0, 0, 0, 0, 0)), (.getfield 93, (12, 36, 3, 0, 0)), (.iconst 1, (0, 0, 0, 1, 0)), (.aload_n 0, (0, 0, 0, 0, 0)), (.iconst 4, (0, 0, 0, 4, 0)), (.bipush 30, (0, 0, 0, 30, 0))] [some (20, 4, 204)] (by decide +kernel) rfl ⟨trivial, (r_177_36 hR)⟩ ?_
  obtain ⟨r4, hc4, hf⟩ := bnd_o hf
  refine b_cV (as := [mI 4, mI 30]) (st := [mI 1, mR (20, 4, 204)]) (by decide +kernel) k_12_299 n_MD_number rfl (by decide) v_MD_number (C_MD_number r3 J (4 : Int32) (30 : Int32) hR hc4) (Nat.le_of_ble_eq_true rfl) (by decide) rfl rfl (fun _ h => h) ?_
  show m_B G (m_rm 5 0 0) M_MD_slopeTold Q 0 0 41 [some (mR (12, 0, 177))] [mI r4.1, mI 1, mR (20, 4, 204)] (L, r4.2, J, R)
  refine b_blk (pc' := 45) (ls' := [some (mR (12, 0, 177))]) (st' := [mI 59, mR (12, 0, 177)]) (S' := (L, m_up r4.2 204 1 r4.1, J, R)) (P := (True ∧ vp_in (1 : Int32) 4)) [(.iastore, (0, 0, 0, 0, 0)), (.aload_n 0, (0, 0, 0, 0, 0)), (.bipush 59, (0, 0, 0, 59, 0))] [] (by decide +kernel) rfl ⟨trivial, (vp_in_nI (n := 1) (N := 4) (by decide) (by decide))⟩ ?_
  obtain ⟨r5, hc5, hf⟩ := bnd_o hf
  refine b_cV (as := [mI 59]) (st := []) (by decide +kernel) k_12_303 n_MD_asksSign rfl (by decide) v_MD_asksSign (C_MD_asksSign (m_up r4.2 204 1 r4.1) J (59 : Int32) hR hc5) (Nat.le_of_ble_eq_true rfl) (by decide) rfl rfl (fun _ h => h) ?_
  show m_B G (m_rm 5 0 0) M_MD_slopeTold Q 0 0 48 [some (mR (12, 0, 177))] [] (L, r5, J, R)
  cases hf
  exact b_vret (by decide +kernel) rfl hk
theorem C_MD_slopeTold {G : MG} {L : List (Nat × Nat)} {R : Nat → Nat → Option MRef} (I : MI) (J : MJ) (hR : RF R) {r : MI} (hf : F_MD_slopeTold I = some r) : m_met G 5 0 0 y_MD_slopeTold M_MD_slopeTold [mR (12, 0, 177)] (L, I, J, R) (m_is (none) (L, r, J, R)) :=
  m_met_in n_MD_slopeTold (plainFor_of_name (by decide)) (by decide) (Nat.le_of_ble_eq_true rfl) (ls := [some (mR (12, 0, 177))]) rfl (W_MD_slopeTold I J hR hf ⟨rfl, rfl⟩)
noncomputable def F_MD_stands_7 (I : MI) (v1 : Int32) : Option ((Int32 × MI) ⊕ (MI)) :=
  if (2 : Int32) ≤ v1 then (some (.inr I)) else (gd v1 4 <| gd ((2 : Int32) + v1) 4 <| gd v1 4 <| gd ((2 : Int32) + v1) 4 <| bnd (m_up (m_up I 204 (((2 : Int32) + v1).toNatClampNeg) (I 204 v1.toNatClampNeg)) 205 (((2 : Int32) + v1).toNatClampNeg) (I 205 v1.toNatClampNeg) : MI) fun x6 => gd v1 4 <| gd ((2 : Int32) + v1) 4 <| gd v1 4 <| gd ((2 : Int32) + v1) 4 <| bnd (m_up (m_up x6 210 (((2 : Int32) + v1).toNatClampNeg) (x6 210 v1.toNatClampNeg)) 211 (((2 : Int32) + v1).toNatClampNeg) (x6 211 v1.toNatClampNeg) : MI) fun x11 => some (.inl ((v1 + 1 : Int32), x11)))
set_option maxRecDepth 100000 in
set_option maxHeartbeats 400000 in
theorem W_MD_stands_7 {G : MG} {Q : Option MV → MS → Prop} {L : List (Nat × Nat)} {R : Nat → Nat → Option MRef} (I : MI) (J : MJ) (v1 : Int32) (hR : RF R) {r : (Int32 × MI) ⊕ (MI)} (hf : F_MD_stands_7 I v1 = some r) (hk : (Sum.elim (fun s : Int32 × MI => m_B G (m_rm 1 0 0) M_MD_stands Q 0 0 7 [some (mR (12, 0, 177)), some (mI s.1), none] [] (L, s.2, J, R)) (fun s : MI => m_B G (m_rm 1 0 0) M_MD_stands Q 0 0 74 [some (mR (12, 0, 177)), none, none] [] (L, s, J, R))) r) : m_B G (m_rm 1 0 0) M_MD_stands Q 0 0 7 [some (mR (12, 0, 177)), some (mI v1), none] [] (L, I, J, R) := by
  unfold F_MD_stands_7 at hf
  refine b_blk (pc' := 9) (ls' := [some (mR (12, 0, 177)), some (mI v1), none]) (st' := [mI 2, mI v1]) (S' := (L, I, J, R)) (P := True) [(.iload_n 1, (0, 0, 0, 0, 0)), (.iconst 2, (0, 0, 0, 2, 0))] [] (by decide +kernel) rfl trivial ?_
  refine b_icmp_ge (off := 65) (tgt := 74) (by decide +kernel) (by decide) (fun h1 => ?_) (fun h1 => ?_)
  · have hf := if_t h1 hf
    refine b_frg 1 ?_
    cases hf
    exact hk
  · have hf := if_f h1 hf
    obtain ⟨g2, hf⟩ := gd_s hf
    obtain ⟨g3, hf⟩ := gd_s hf
    obtain ⟨g4, hf⟩ := gd_s hf
    obtain ⟨g5, hf⟩ := gd_s hf
    refine b_blk (pc' := 46) (ls' := [some (mR (12, 0, 177)), some (mI v1), none]) (st' := [mI v1, mI 2, mR (20, 4, 210)]) (S' := (L, m_up (m_up I 204 (((2 : Int32) + v1).toNatClampNeg) (I 204 v1.toNatClampNeg)) 205 (((2 : Int32) + v1).toNatClampNeg) (I 205 v1.toNatClampNeg), J, R)) (P := (((((((((True ∧ R 177 36 = some (20, 4, 204)) ∧ R 177 36 = some (20, 4, 204)) ∧ vp_in v1 4) ∧ vp_in ((2 : Int32) + v1) 4) ∧ R 177 37 = some (20, 4, 205)) ∧ R 177 37 = some (20, 4, 205)) ∧ vp_in v1 4) ∧ vp_in ((2 : Int32) + v1) 4) ∧ R 177 44 = some (20, 4, 210))) [(.aload_n 0, (0, 0, 0, 0, 0)), (.getfield 93, (12, 36, 3, 0, 0)), (.iconst 2, (0, 0, 0, 2, 0)), (.iload_n 1, (0, 0, 0, 0, 0)), (.iadd, (0, 0, 0, 0, 0)), (.aload_n 0, (0, 0, 0, 0, 0)), (.getfield 93, (12, 36, 3, 0, 0)), (.iload_n 1, (0, 0, 0, 0, 0)), (.iaload, (0, 0, 0, 0, 0)), (.iastore, (0, 0, 0, 0, 0)), (.aload_n 0, (0, 0, 0, 0, 0)), (.getfield 96, (12, 37, 3, 0, 0)), (.iconst 2, (0, 0, 0, 2, 0)), (.iload_n 1, (0, 0, 0, 0, 0)), (.iadd, (0, 0, 0, 0, 0)), (.aload_n 0, (0, 0, 0, 0, 0)), (.getfield 96, (12, 37, 3, 0, 0)), (.iload_n 1, (0, 0, 0, 0, 0)), (.iaload, (0, 0, 0, 0, 0)), (.iastore, (0, 0, 0, 0, 0)), (.aload_n 0, (0, 0, 0, 0, 0)), (.getfield 112, (12, 44, 3, 0, 0)), (.iconst 2, (0, 0, 0, 2, 0)), (.iload_n 1, (0, 0, 0, 0, 0))] [some (20, 4, 204), some (20, 4, 204), some (20, 4, 205), some (20, 4, 205), some (20, 4, 210)] (by decide +kernel) rfl ⟨⟨⟨⟨⟨⟨⟨⟨⟨trivial, (r_177_36 hR)⟩, (r_177_36 hR)⟩, (in_n (n := 4) (by decide) g2.1 g2.2)⟩, (in_n (n := 4) (by decide) g3.1 g3.2)⟩, (r_177_37 hR)⟩, (r_177_37 hR)⟩, (in_n (n := 4) (by decide) g4.1 g4.2)⟩, (in_n (n := 4) (by decide) g5.1 g5.2)⟩, (r_177_44 hR)⟩ ?_
    obtain ⟨x6, ex6, hf⟩ := bnd_s hf
    refine m_B_cg (ls' := [some (mR (12, 0, 177)), some (mI v1), none]) (st' := [mI v1, mI 2, mR (20, 4, 210)]) (S' := (L, x6, J, R)) (by first | with_reducible rfl | rw [ex6]) (by first | with_reducible rfl | rw [ex6]) (by first | with_reducible rfl | rw [ex6]) ?_
    obtain ⟨g7, hf⟩ := gd_s hf
    obtain ⟨g8, hf⟩ := gd_s hf
    obtain ⟨g9, hf⟩ := gd_s hf
    obtain ⟨g10, hf⟩ := gd_s hf
    refine b_blk (pc' := 7) (ls' := [some (mR (12, 0, 177)), some (mI (v1 + 1)), none]) (st' := []) (S' := (L, m_up (m_up x6 210 (((2 : Int32) + v1).toNatClampNeg) (x6 210 v1.toNatClampNeg)) 211 (((2 : Int32) + v1).toNatClampNeg) (x6 211 v1.toNatClampNeg), J, R)) (P := (((((((True ∧ R 177 44 = some (20, 4, 210)) ∧ vp_in v1 4) ∧ vp_in ((2 : Int32) + v1) 4) ∧ R 177 45 = some (20, 4, 211)) ∧ R 177 45 = some (20, 4, 211)) ∧ vp_in v1 4) ∧ vp_in ((2 : Int32) + v1) 4)) [(.iadd, (0, 0, 0, 0, 0)), (.aload_n 0, (0, 0, 0, 0, 0)), (.getfield 112, (12, 44, 3, 0, 0)), (.iload_n 1, (0, 0, 0, 0, 0)), (.iaload, (0, 0, 0, 0, 0)), (.iastore, (0, 0, 0, 0, 0)), (.aload_n 0, (0, 0, 0, 0, 0)), (.getfield 115, (12, 45, 3, 0, 0)), (.iconst 2, (0, 0, 0, 2, 0)), (.iload_n 1, (0, 0, 0, 0, 0)), (.iadd, (0, 0, 0, 0, 0)), (.aload_n 0, (0, 0, 0, 0, 0)), (.getfield 115, (12, 45, 3, 0, 0)), (.iload_n 1, (0, 0, 0, 0, 0)), (.iaload, (0, 0, 0, 0, 0)), (.iastore, (0, 0, 0, 0, 0)), (.iinc 1 1, (0, 0, 0, 1, 0)), (.goto (-64), (0, 7, 0, 0, 0))] [some (20, 4, 210), some (20, 4, 211), some (20, 4, 211)] (by decide +kernel) rfl ⟨⟨⟨⟨⟨⟨⟨trivial, (r_177_44 hR)⟩, (in_n (n := 4) (by decide) g7.1 g7.2)⟩, (in_n (n := 4) (by decide) g8.1 g8.2)⟩, (r_177_45 hR)⟩, (r_177_45 hR)⟩, (in_n (n := 4) (by decide) g9.1 g9.2)⟩, (in_n (n := 4) (by decide) g10.1 g10.2)⟩ ?_
    obtain ⟨x11, ex11, hf⟩ := bnd_s hf
    refine m_B_cg (ls' := [some (mR (12, 0, 177)), some (mI (v1 + 1)), none]) (st' := []) (S' := (L, x11, J, R)) (by first | with_reducible rfl | rw [ex11]) (by first | with_reducible rfl | rw [ex11]) (by first | with_reducible rfl | rw [ex11]) ?_
    cases hf
    exact hk
noncomputable def F_MD_stands_76 (I : MI) (J : MJ) (v1 : Int32) : Option ((Int32 × MI × MJ) ⊕ (MI × MJ)) :=
  if (6 : Int32) ≤ v1 then (some (.inr (I, J))) else (gd v1 12 <| gd ((6 : Int32) + v1) 12 <| gd v1 12 <| gd ((6 : Int32) + v1) 12 <| some (.inl ((v1 + 1 : Int32), m_up I 207 (((6 : Int32) + v1).toNatClampNeg) (I 207 v1.toNatClampNeg), m_up J 206 (((6 : Int32) + v1).toNatClampNeg) (J 206 v1.toNatClampNeg))))
set_option maxRecDepth 100000 in
set_option maxHeartbeats 400000 in
theorem W_MD_stands_76 {G : MG} {Q : Option MV → MS → Prop} {L : List (Nat × Nat)} {R : Nat → Nat → Option MRef} (I : MI) (J : MJ) (v1 : Int32) (hR : RF R) {r : (Int32 × MI × MJ) ⊕ (MI × MJ)} (hf : F_MD_stands_76 I J v1 = some r) (hk : (Sum.elim (fun s : Int32 × MI × MJ => m_B G (m_rm 1 0 0) M_MD_stands Q 0 0 76 [some (mR (12, 0, 177)), some (mI s.1), none] [] (L, s.2.1, s.2.2, R)) (fun s : MI × MJ => m_B G (m_rm 1 0 0) M_MD_stands Q 0 0 118 [some (mR (12, 0, 177)), none, none] [] (L, s.1, s.2, R))) r) : m_B G (m_rm 1 0 0) M_MD_stands Q 0 0 76 [some (mR (12, 0, 177)), some (mI v1), none] [] (L, I, J, R) := by
  unfold F_MD_stands_76 at hf
  refine b_blk (pc' := 79) (ls' := [some (mR (12, 0, 177)), some (mI v1), none]) (st' := [mI 6, mI v1]) (S' := (L, I, J, R)) (P := True) [(.iload_n 1, (0, 0, 0, 0, 0)), (.bipush 6, (0, 0, 0, 6, 0))] [] (by decide +kernel) rfl trivial ?_
  refine b_icmp_ge (off := 39) (tgt := 118) (by decide +kernel) (by decide) (fun h1 => ?_) (fun h1 => ?_)
  · have hf := if_t h1 hf
    refine b_frg 1 ?_
    cases hf
    exact hk
  · have hf := if_f h1 hf
    obtain ⟨g2, hf⟩ := gd_s hf
    obtain ⟨g3, hf⟩ := gd_s hf
    obtain ⟨g4, hf⟩ := gd_s hf
    obtain ⟨g5, hf⟩ := gd_s hf
    refine b_blk (pc' := 76) (ls' := [some (mR (12, 0, 177)), some (mI (v1 + 1)), none]) (st' := []) (S' := (L, m_up I 207 (((6 : Int32) + v1).toNatClampNeg) (I 207 v1.toNatClampNeg), m_up J 206 (((6 : Int32) + v1).toNatClampNeg) (J 206 v1.toNatClampNeg), R)) (P := ((((((((True ∧ R 177 38 = some (21, 12, 206)) ∧ R 177 38 = some (21, 12, 206)) ∧ vp_in v1 12) ∧ vp_in ((6 : Int32) + v1) 12) ∧ R 177 39 = some (20, 12, 207)) ∧ R 177 39 = some (20, 12, 207)) ∧ vp_in v1 12) ∧ vp_in ((6 : Int32) + v1) 12)) [(.aload_n 0, (0, 0, 0, 0, 0)), (.getfield 99, (12, 38, 3, 0, 0)), (.bipush 6, (0, 0, 0, 6, 0)), (.iload_n 1, (0, 0, 0, 0, 0)), (.iadd, (0, 0, 0, 0, 0)), (.aload_n 0, (0, 0, 0, 0, 0)), (.getfield 99, (12, 38, 3, 0, 0)), (.iload_n 1, (0, 0, 0, 0, 0)), (.laload, (0, 0, 0, 0, 0)), (.lastore, (0, 0, 0, 0, 0)), (.aload_n 0, (0, 0, 0, 0, 0)), (.getfield 103, (12, 39, 3, 0, 0)), (.bipush 6, (0, 0, 0, 6, 0)), (.iload_n 1, (0, 0, 0, 0, 0)), (.iadd, (0, 0, 0, 0, 0)), (.aload_n 0, (0, 0, 0, 0, 0)), (.getfield 103, (12, 39, 3, 0, 0)), (.iload_n 1, (0, 0, 0, 0, 0)), (.iaload, (0, 0, 0, 0, 0)), (.iastore, (0, 0, 0, 0, 0)), (.iinc 1 1, (0, 0, 0, 1, 0)), (.goto (-39), (0, 76, 0, 0, 0))] [some (21, 12, 206), some (21, 12, 206), some (20, 12, 207), some (20, 12, 207)] (by decide +kernel) rfl ⟨⟨⟨⟨⟨⟨⟨⟨trivial, (r_177_38 hR)⟩, (r_177_38 hR)⟩, (in_n (n := 12) (by decide) g2.1 g2.2)⟩, (in_n (n := 12) (by decide) g3.1 g3.2)⟩, (r_177_39 hR)⟩, (r_177_39 hR)⟩, (in_n (n := 12) (by decide) g4.1 g4.2)⟩, (in_n (n := 12) (by decide) g5.1 g5.2)⟩ ?_
    cases hf
    exact hk
noncomputable def F_MD_stands_128 (I : MI) (v1 : Int32) : Option ((Int32 × MI) ⊕ (MI)) :=
  if (I 177 47) ≤ v1 then (some (.inr I)) else (gd v1 3200 <| gd ((1600 : Int32) + v1) 3200 <| some (.inl ((v1 + 1 : Int32), m_up I 212 (((1600 : Int32) + v1).toNatClampNeg) (I 212 v1.toNatClampNeg))))
set_option maxRecDepth 100000 in
set_option maxHeartbeats 400000 in
theorem W_MD_stands_128 {G : MG} {Q : Option MV → MS → Prop} {L : List (Nat × Nat)} {R : Nat → Nat → Option MRef} (I : MI) (J : MJ) (v1 : Int32) (hR : RF R) {r : (Int32 × MI) ⊕ (MI)} (hf : F_MD_stands_128 I v1 = some r) (hk : (Sum.elim (fun s : Int32 × MI => m_B G (m_rm 1 0 0) M_MD_stands Q 0 0 128 [some (mR (12, 0, 177)), some (mI s.1), none] [] (L, s.2, J, R)) (fun s : MI => m_B G (m_rm 1 0 0) M_MD_stands Q 0 0 158 [some (mR (12, 0, 177)), none, none] [] (L, s, J, R))) r) : m_B G (m_rm 1 0 0) M_MD_stands Q 0 0 128 [some (mR (12, 0, 177)), some (mI v1), none] [] (L, I, J, R) := by
  unfold F_MD_stands_128 at hf
  refine b_blk (pc' := 133) (ls' := [some (mR (12, 0, 177)), some (mI v1), none]) (st' := [mI (I 177 47), mI v1]) (S' := (L, I, J, R)) (P := True) [(.iload_n 1, (0, 0, 0, 0, 0)), (.aload_n 0, (0, 0, 0, 0, 0)), (.getfield 333, (12, 47, 0, 0, 0))] [] (by decide +kernel) rfl trivial ?_
  refine b_icmp_ge (off := 25) (tgt := 158) (by decide +kernel) (by decide) (fun h1 => ?_) (fun h1 => ?_)
  · have hf := if_t h1 hf
    refine b_frg 1 ?_
    cases hf
    exact hk
  · have hf := if_f h1 hf
    obtain ⟨g2, hf⟩ := gd_s hf
    obtain ⟨g3, hf⟩ := gd_s hf
    refine b_blk (pc' := 128) (ls' := [some (mR (12, 0, 177)), some (mI (v1 + 1)), none]) (st' := []) (S' := (L, m_up I 212 (((1600 : Int32) + v1).toNatClampNeg) (I 212 v1.toNatClampNeg), J, R)) (P := ((((True ∧ R 177 46 = some (20, 3200, 212)) ∧ R 177 46 = some (20, 3200, 212)) ∧ vp_in v1 3200) ∧ vp_in ((1600 : Int32) + v1) 3200)) [(.aload_n 0, (0, 0, 0, 0, 0)), (.getfield 118, (12, 46, 3, 0, 0)), (.sipush 1600, (0, 0, 0, 1600, 0)), (.iload_n 1, (0, 0, 0, 0, 0)), (.iadd, (0, 0, 0, 0, 0)), (.aload_n 0, (0, 0, 0, 0, 0)), (.getfield 118, (12, 46, 3, 0, 0)), (.iload_n 1, (0, 0, 0, 0, 0)), (.iaload, (0, 0, 0, 0, 0)), (.iastore, (0, 0, 0, 0, 0)), (.iinc 1 1, (0, 0, 0, 1, 0)), (.goto (-27), (0, 128, 0, 0, 0))] [some (20, 3200, 212), some (20, 3200, 212)] (by decide +kernel) rfl ⟨⟨⟨⟨trivial, (r_177_46 hR)⟩, (r_177_46 hR)⟩, (in_n (n := 3200) (by decide) g2.1 g2.2)⟩, (in_n (n := 3200) (by decide) g3.1 g3.2)⟩ ?_
    cases hf
    exact hk
noncomputable def F_MD_stands_160 (I : MI) (v1 : Int32) : Option ((Int32 × MI) ⊕ (MI)) :=
  if (176 : Int32) ≤ v1 then (some (.inr I)) else (gd v1 176 <| some (.inl ((v1 + 1 : Int32), m_up I 213 (v1.toNatClampNeg) (0 : Int32))))
set_option maxRecDepth 100000 in
set_option maxHeartbeats 400000 in
theorem W_MD_stands_160 {G : MG} {Q : Option MV → MS → Prop} {L : List (Nat × Nat)} {R : Nat → Nat → Option MRef} (I : MI) (J : MJ) (v1 : Int32) (hR : RF R) {r : (Int32 × MI) ⊕ (MI)} (hf : F_MD_stands_160 I v1 = some r) (hk : (Sum.elim (fun s : Int32 × MI => m_B G (m_rm 1 0 0) M_MD_stands Q 0 0 160 [some (mR (12, 0, 177)), some (mI s.1), none] [] (L, s.2, J, R)) (fun s : MI => m_B G (m_rm 1 0 0) M_MD_stands Q 0 0 180 [some (mR (12, 0, 177)), none, none] [] (L, s, J, R))) r) : m_B G (m_rm 1 0 0) M_MD_stands Q 0 0 160 [some (mR (12, 0, 177)), some (mI v1), none] [] (L, I, J, R) := by
  unfold F_MD_stands_160 at hf
  refine b_blk (pc' := 164) (ls' := [some (mR (12, 0, 177)), some (mI v1), none]) (st' := [mI 176, mI v1]) (S' := (L, I, J, R)) (P := True) [(.iload_n 1, (0, 0, 0, 0, 0)), (.sipush 176, (0, 0, 0, 176, 0))] [] (by decide +kernel) rfl trivial ?_
  refine b_icmp_ge (off := 16) (tgt := 180) (by decide +kernel) (by decide) (fun h1 => ?_) (fun h1 => ?_)
  · have hf := if_t h1 hf
    refine b_frg 1 ?_
    cases hf
    exact hk
  · have hf := if_f h1 hf
    obtain ⟨g2, hf⟩ := gd_s hf
    refine b_blk (pc' := 160) (ls' := [some (mR (12, 0, 177)), some (mI (v1 + 1)), none]) (st' := []) (S' := (L, m_up I 213 (v1.toNatClampNeg) (0 : Int32), J, R)) (P := ((True ∧ R 177 51 = some (20, 176, 213)) ∧ vp_in v1 176)) [(.aload_n 0, (0, 0, 0, 0, 0)), (.getfield 121, (12, 51, 3, 0, 0)), (.iload_n 1, (0, 0, 0, 0, 0)), (.iconst 0, (0, 0, 0, 0, 0)), (.iastore, (0, 0, 0, 0, 0)), (.iinc 1 1, (0, 0, 0, 1, 0)), (.goto (-17), (0, 160, 0, 0, 0))] [some (20, 176, 213)] (by decide +kernel) rfl ⟨⟨trivial, (r_177_51 hR)⟩, (in_n (n := 176) (by decide) g2.1 g2.2)⟩ ?_
    cases hf
    exact hk
noncomputable def F_MD_stands_182 (I : MI) (v1 : Int32) : Option ((Int32 × MI) ⊕ (MI)) :=
  if (6 : Int32) ≤ v1 then (some (.inr I)) else (gd v1 6 <| gd ((1 : Int32) + v1) 176 <| some (.inl ((v1 + 1 : Int32), m_up I 213 (((1 : Int32) + v1).toNatClampNeg) (I 208 v1.toNatClampNeg))))
set_option maxRecDepth 100000 in
set_option maxHeartbeats 400000 in
theorem W_MD_stands_182 {G : MG} {Q : Option MV → MS → Prop} {L : List (Nat × Nat)} {R : Nat → Nat → Option MRef} (I : MI) (J : MJ) (v1 : Int32) (hR : RF R) {r : (Int32 × MI) ⊕ (MI)} (hf : F_MD_stands_182 I v1 = some r) (hk : (Sum.elim (fun s : Int32 × MI => m_B G (m_rm 1 0 0) M_MD_stands Q 0 0 182 [some (mR (12, 0, 177)), some (mI s.1), none] [] (L, s.2, J, R)) (fun s : MI => m_B G (m_rm 1 0 0) M_MD_stands Q 0 0 208 [some (mR (12, 0, 177)), none, none] [] (L, s, J, R))) r) : m_B G (m_rm 1 0 0) M_MD_stands Q 0 0 182 [some (mR (12, 0, 177)), some (mI v1), none] [] (L, I, J, R) := by
  unfold F_MD_stands_182 at hf
  refine b_blk (pc' := 185) (ls' := [some (mR (12, 0, 177)), some (mI v1), none]) (st' := [mI 6, mI v1]) (S' := (L, I, J, R)) (P := True) [(.iload_n 1, (0, 0, 0, 0, 0)), (.bipush 6, (0, 0, 0, 6, 0))] [] (by decide +kernel) rfl trivial ?_
  refine b_icmp_ge (off := 23) (tgt := 208) (by decide +kernel) (by decide) (fun h1 => ?_) (fun h1 => ?_)
  · have hf := if_t h1 hf
    refine b_frg 1 ?_
    cases hf
    exact hk
  · have hf := if_f h1 hf
    obtain ⟨g2, hf⟩ := gd_s hf
    obtain ⟨g3, hf⟩ := gd_s hf
    refine b_blk (pc' := 182) (ls' := [some (mR (12, 0, 177)), some (mI (v1 + 1)), none]) (st' := []) (S' := (L, m_up I 213 (((1 : Int32) + v1).toNatClampNeg) (I 208 v1.toNatClampNeg), J, R)) (P := ((((True ∧ R 177 51 = some (20, 176, 213)) ∧ R 177 40 = some (20, 6, 208)) ∧ vp_in v1 6) ∧ vp_in ((1 : Int32) + v1) 176)) [(.aload_n 0, (0, 0, 0, 0, 0)), (.getfield 121, (12, 51, 3, 0, 0)), (.iconst 1, (0, 0, 0, 1, 0)), (.iload_n 1, (0, 0, 0, 0, 0)), (.iadd, (0, 0, 0, 0, 0)), (.aload_n 0, (0, 0, 0, 0, 0)), (.getfield 106, (12, 40, 3, 0, 0)), (.iload_n 1, (0, 0, 0, 0, 0)), (.iaload, (0, 0, 0, 0, 0)), (.iastore, (0, 0, 0, 0, 0)), (.iinc 1 1, (0, 0, 0, 1, 0)), (.goto (-23), (0, 182, 0, 0, 0))] [some (20, 176, 213), some (20, 6, 208)] (by decide +kernel) rfl ⟨⟨⟨⟨trivial, (r_177_51 hR)⟩, (r_177_40 hR)⟩, (in_n (n := 6) (by decide) g2.1 g2.2)⟩, (in_n (n := 176) (by decide) g3.1 g3.2)⟩ ?_
    cases hf
    exact hk
noncomputable def F_MD_stands_243 (I : MI) (v1 : Int32) (v2 : Int32) : Option ((Int32 × MI) ⊕ (MI)) :=
  if (6 : Int32) ≤ v2 then (some (.inr I)) else (gd ((((7 : Int32) * v1) + (1 : Int32)) + v2) 42 <| gd ((((7 : Int32) + ((8 : Int32) * v1)) + (2 : Int32)) + v2) 176 <| bnd (m_up I 213 (((((7 : Int32) + ((8 : Int32) * v1)) + (2 : Int32)) + v2).toNatClampNeg) (I 209 ((((7 : Int32) * v1) + (1 : Int32)) + v2).toNatClampNeg) : MI) fun x4 => some (.inl ((v2 + 1 : Int32), x4)))
set_option maxRecDepth 100000 in
set_option maxHeartbeats 400000 in
theorem W_MD_stands_243 {G : MG} {Q : Option MV → MS → Prop} {L : List (Nat × Nat)} {R : Nat → Nat → Option MRef} (I : MI) (J : MJ) (v1 : Int32) (v2 : Int32) (hR : RF R) {r : (Int32 × MI) ⊕ (MI)} (hf : F_MD_stands_243 I v1 v2 = some r) (hk : (Sum.elim (fun s : Int32 × MI => m_B G (m_rm 1 0 0) M_MD_stands Q 0 0 243 [some (mR (12, 0, 177)), some (mI v1), some (mI s.1)] [] (L, s.2, J, R)) (fun s : MI => m_B G (m_rm 1 0 0) M_MD_stands Q 0 0 284 [some (mR (12, 0, 177)), some (mI v1), none] [] (L, s, J, R))) r) : m_B G (m_rm 1 0 0) M_MD_stands Q 0 0 243 [some (mR (12, 0, 177)), some (mI v1), some (mI v2)] [] (L, I, J, R) := by
  unfold F_MD_stands_243 at hf
  refine b_blk (pc' := 246) (ls' := [some (mR (12, 0, 177)), some (mI v1), some (mI v2)]) (st' := [mI 6, mI v2]) (S' := (L, I, J, R)) (P := True) [(.iload_n 2, (0, 0, 0, 0, 0)), (.bipush 6, (0, 0, 0, 6, 0))] [] (by decide +kernel) rfl trivial ?_
  refine b_icmp_ge (off := 38) (tgt := 284) (by decide +kernel) (by decide) (fun h1 => ?_) (fun h1 => ?_)
  · have hf := if_t h1 hf
    refine b_frg 2 ?_
    cases hf
    exact hk
  · have hf := if_f h1 hf
    obtain ⟨g2, hf⟩ := gd_s hf
    obtain ⟨g3, hf⟩ := gd_s hf
    refine b_blk (pc' := 243) (ls' := [some (mR (12, 0, 177)), some (mI v1), some (mI (v2 + 1))]) (st' := []) (S' := (L, m_up I 213 (((((7 : Int32) + ((8 : Int32) * v1)) + (2 : Int32)) + v2).toNatClampNeg) (I 209 ((((7 : Int32) * v1) + (1 : Int32)) + v2).toNatClampNeg), J, R)) (P := ((((True ∧ R 177 51 = some (20, 176, 213)) ∧ R 177 41 = some (20, 42, 209)) ∧ vp_in ((((7 : Int32) * v1) + (1 : Int32)) + v2) 42) ∧ vp_in ((((7 : Int32) + ((8 : Int32) * v1)) + (2 : Int32)) + v2) 176)) [(.aload_n 0, (0, 0, 0, 0, 0)), (.getfield 121, (12, 51, 3, 0, 0)), (.bipush 7, (0, 0, 0, 7, 0)), (.bipush 8, (0, 0, 0, 8, 0)), (.iload_n 1, (0, 0, 0, 0, 0)), (.imul, (0, 0, 0, 0, 0)), (.iadd, (0, 0, 0, 0, 0)), (.iconst 2, (0, 0, 0, 2, 0)), (.iadd, (0, 0, 0, 0, 0)), (.iload_n 2, (0, 0, 0, 0, 0)), (.iadd, (0, 0, 0, 0, 0)), (.aload_n 0, (0, 0, 0, 0, 0)), (.getfield 109, (12, 41, 3, 0, 0)), (.bipush 7, (0, 0, 0, 7, 0)), (.iload_n 1, (0, 0, 0, 0, 0)), (.imul, (0, 0, 0, 0, 0)), (.iconst 1, (0, 0, 0, 1, 0)), (.iadd, (0, 0, 0, 0, 0)), (.iload_n 2, (0, 0, 0, 0, 0)), (.iadd, (0, 0, 0, 0, 0)), (.iaload, (0, 0, 0, 0, 0)), (.iastore, (0, 0, 0, 0, 0)), (.iinc 2 1, (0, 0, 0, 1, 0)), (.goto (-38), (0, 243, 0, 0, 0))] [some (20, 176, 213), some (20, 42, 209)] (by decide +kernel) rfl ⟨⟨⟨⟨trivial, (r_177_51 hR)⟩, (r_177_41 hR)⟩, (in_n (n := 42) (by decide) g2.1 g2.2)⟩, (in_n (n := 176) (by decide) g3.1 g3.2)⟩ ?_
    obtain ⟨x4, ex4, hf⟩ := bnd_s hf
    refine m_B_cg (ls' := [some (mR (12, 0, 177)), some (mI v1), some (mI (v2 + 1))]) (st' := []) (S' := (L, x4, J, R)) (by first | with_reducible rfl | rw [ex4]) (by first | with_reducible rfl | rw [ex4]) (by first | with_reducible rfl | rw [ex4]) ?_
    cases hf
    exact hk
noncomputable def F_MD_stands_210 (I : MI) (v1 : Int32) : Option ((Int32 × MI) ⊕ (MI)) :=
  if (I 205 0) ≤ v1 then (some (.inr I)) else (gd ((7 : Int32) * v1) 42 <| gd ((7 : Int32) + ((8 : Int32) * v1)) 176 <| (wl (fun s : Int32 × MI => F_MD_stands_243 s.2 v1 s.1) ((0 : Int32), m_up I 213 (((7 : Int32) + ((8 : Int32) * v1)).toNatClampNeg) (I 209 ((7 : Int32) * v1).toNatClampNeg))).bind fun t4 => some (.inl ((v1 + 1 : Int32), t4)))
set_option maxRecDepth 100000 in
set_option maxHeartbeats 400000 in
theorem W_MD_stands_210 {G : MG} {Q : Option MV → MS → Prop} {L : List (Nat × Nat)} {R : Nat → Nat → Option MRef} (I : MI) (J : MJ) (v1 : Int32) (hR : RF R) {r : (Int32 × MI) ⊕ (MI)} (hf : F_MD_stands_210 I v1 = some r) (hk : (Sum.elim (fun s : Int32 × MI => m_B G (m_rm 1 0 0) M_MD_stands Q 0 0 210 [some (mR (12, 0, 177)), some (mI s.1), none] [] (L, s.2, J, R)) (fun s : MI => m_B G (m_rm 1 0 0) M_MD_stands Q 0 0 290 [some (mR (12, 0, 177)), none, none] [] (L, s, J, R))) r) : m_B G (m_rm 1 0 0) M_MD_stands Q 0 0 210 [some (mR (12, 0, 177)), some (mI v1), none] [] (L, I, J, R) := by
  unfold F_MD_stands_210 at hf
  refine b_blk (pc' := 217) (ls' := [some (mR (12, 0, 177)), some (mI v1), none]) (st' := [mI (I 205 0), mI v1]) (S' := (L, I, J, R)) (P := ((True ∧ R 177 37 = some (20, 4, 205)) ∧ vp_in (0 : Int32) 4)) [(.iload_n 1, (0, 0, 0, 0, 0)), (.aload_n 0, (0, 0, 0, 0, 0)), (.getfield 96, (12, 37, 3, 0, 0)), (.iconst 0, (0, 0, 0, 0, 0)), (.iaload, (0, 0, 0, 0, 0))] [some (20, 4, 205)] (by decide +kernel) rfl ⟨⟨trivial, (r_177_37 hR)⟩, (vp_in_nI (n := 0) (N := 4) (by decide) (by decide))⟩ ?_
  refine b_icmp_ge (off := 73) (tgt := 290) (by decide +kernel) (by decide) (fun h1 => ?_) (fun h1 => ?_)
  · have hf := if_t h1 hf
    refine b_frg 1 ?_
    cases hf
    exact hk
  · have hf := if_f h1 hf
    obtain ⟨g2, hf⟩ := gd_s hf
    obtain ⟨g3, hf⟩ := gd_s hf
    refine b_blk (pc' := 243) (ls' := [some (mR (12, 0, 177)), some (mI v1), some (mI 0)]) (st' := []) (S' := (L, m_up I 213 (((7 : Int32) + ((8 : Int32) * v1)).toNatClampNeg) (I 209 ((7 : Int32) * v1).toNatClampNeg), J, R)) (P := ((((True ∧ R 177 51 = some (20, 176, 213)) ∧ R 177 41 = some (20, 42, 209)) ∧ vp_in ((7 : Int32) * v1) 42) ∧ vp_in ((7 : Int32) + ((8 : Int32) * v1)) 176)) [(.aload_n 0, (0, 0, 0, 0, 0)), (.getfield 121, (12, 51, 3, 0, 0)), (.bipush 7, (0, 0, 0, 7, 0)), (.bipush 8, (0, 0, 0, 8, 0)), (.iload_n 1, (0, 0, 0, 0, 0)), (.imul, (0, 0, 0, 0, 0)), (.iadd, (0, 0, 0, 0, 0)), (.aload_n 0, (0, 0, 0, 0, 0)), (.getfield 109, (12, 41, 3, 0, 0)), (.bipush 7, (0, 0, 0, 7, 0)), (.iload_n 1, (0, 0, 0, 0, 0)), (.imul, (0, 0, 0, 0, 0)), (.iaload, (0, 0, 0, 0, 0)), (.iastore, (0, 0, 0, 0, 0)), (.iconst 0, (0, 0, 0, 0, 0)), (.istore_n 2, (0, 0, 0, 0, 0))] [some (20, 176, 213), some (20, 42, 209)] (by decide +kernel) rfl ⟨⟨⟨⟨trivial, (r_177_51 hR)⟩, (r_177_41 hR)⟩, (in_n (n := 42) (by decide) g2.1 g2.2)⟩, (in_n (n := 176) (by decide) g3.1 g3.2)⟩ ?_
    obtain ⟨t4, hw, hf⟩ := bnd_o hf
    refine wl_B (A := fun s : Int32 × MI => m_B G (m_rm 1 0 0) M_MD_stands Q 0 0 243 [some (mR (12, 0, 177)), some (mI v1), some (mI s.1)] [] (L, s.2, J, R)) (B := (fun s : MI => m_B G (m_rm 1 0 0) M_MD_stands Q 0 0 284 [some (mR (12, 0, 177)), some (mI v1), none] [] (L, s, J, R))) (fun s r hs hr => W_MD_stands_243 s.2 J v1 s.1 hR hs hr) hw ?_
    show m_B G (m_rm 1 0 0) M_MD_stands Q 0 0 284 [some (mR (12, 0, 177)), some (mI v1), none] [] (L, t4, J, R)
    refine b_blk (pc' := 210) (ls' := [some (mR (12, 0, 177)), some (mI (v1 + 1)), none]) (st' := []) (S' := (L, t4, J, R)) (P := True) [(.iinc 1 1, (0, 0, 0, 1, 0)), (.goto (-77), (0, 210, 0, 0, 0))] [] (by decide +kernel) rfl trivial ?_
    cases hf
    exact hk
noncomputable def F_MD_stands (I : MI) (J : MJ) : Option (MI × MJ) :=
  (wl (fun s : Int32 × MI => F_MD_stands_7 s.2 s.1) ((0 : Int32), m_up I 177 49 (1 : Int32))).bind fun t1 => (wl (fun s : Int32 × MI × MJ => F_MD_stands_76 s.2.1 s.2.2 s.1) ((0 : Int32), t1, J)).bind fun t2 => (wl (fun s : Int32 × MI => F_MD_stands_128 s.2 s.1) ((0 : Int32), m_up t2.1 177 43 (t2.1 177 42))).bind fun t3 => (wl (fun s : Int32 × MI => F_MD_stands_160 s.2 s.1) ((0 : Int32), t3)).bind fun t4 => (wl (fun s : Int32 × MI => F_MD_stands_182 s.2 s.1) ((0 : Int32), t4)).bind fun t5 => (wl (fun s : Int32 × MI => F_MD_stands_210 s.2 s.1) ((0 : Int32), t5)).bind fun t6 => some (m_up (m_up t6 177 66 (0 : Int32)) 177 59 (0 : Int32), t2.2)
set_option maxRecDepth 100000 in
set_option maxHeartbeats 400000 in
theorem W_MD_stands {G : MG} {Q : Option MV → MS → Prop} {L : List (Nat × Nat)} {R : Nat → Nat → Option MRef} (I : MI) (J : MJ) (hR : RF R) {r : MI × MJ} (hf : F_MD_stands I J = some r) (hk : (fun r : MI × MJ => Q (none) (L, r.1, r.2, R)) r) : m_B G (m_rm 1 0 0) M_MD_stands Q 0 0 0 [some (mR (12, 0, 177)), none, none] [] (L, I, J, R) := by
  unfold F_MD_stands at hf
  refine b_blk (pc' := 7) (ls' := [some (mR (12, 0, 177)), some (mI 0), none]) (st' := []) (S' := (L, m_up I 177 49 (1 : Int32), J, R)) (P := (True ∧ ((1 : Int32) = 0 ∨ (1 : Int32) = 1))) [(.aload_n 0, (0, 0, 0, 0, 0)), (.iconst 1, (0, 0, 0, 1, 0)), (.putfield 369, (12, 49, 1, 0, 0)), (.iconst 0, (0, 0, 0, 0, 0)), (.istore_n 1, (0, 0, 0, 0, 0))] [] (by decide +kernel) rfl ⟨trivial, (by decide)⟩ ?_
  obtain ⟨t1, hw, hf⟩ := bnd_o hf
  refine wl_B (A := fun s : Int32 × MI => m_B G (m_rm 1 0 0) M_MD_stands Q 0 0 7 [some (mR (12, 0, 177)), some (mI s.1), none] [] (L, s.2, J, R)) (B := (fun s : MI => m_B G (m_rm 1 0 0) M_MD_stands Q 0 0 74 [some (mR (12, 0, 177)), none, none] [] (L, s, J, R))) (fun s r hs hr => W_MD_stands_7 s.2 J s.1 hR hs hr) hw ?_
  show m_B G (m_rm 1 0 0) M_MD_stands Q 0 0 74 [some (mR (12, 0, 177)), none, none] [] (L, t1, J, R)
  refine b_blk (pc' := 76) (ls' := [some (mR (12, 0, 177)), some (mI 0), none]) (st' := []) (S' := (L, t1, J, R)) (P := True) [(.iconst 0, (0, 0, 0, 0, 0)), (.istore_n 1, (0, 0, 0, 0, 0))] [] (by decide +kernel) rfl trivial ?_
  obtain ⟨t2, hw, hf⟩ := bnd_o hf
  refine wl_B (A := fun s : Int32 × MI × MJ => m_B G (m_rm 1 0 0) M_MD_stands Q 0 0 76 [some (mR (12, 0, 177)), some (mI s.1), none] [] (L, s.2.1, s.2.2, R)) (B := (fun s : MI × MJ => m_B G (m_rm 1 0 0) M_MD_stands Q 0 0 118 [some (mR (12, 0, 177)), none, none] [] (L, s.1, s.2, R))) (fun s r hs hr => W_MD_stands_76 s.2.1 s.2.2 s.1 hR hs hr) hw ?_
  show m_B G (m_rm 1 0 0) M_MD_stands Q 0 0 118 [some (mR (12, 0, 177)), none, none] [] (L, t2.1, t2.2, R)
  refine b_blk (pc' := 128) (ls' := [some (mR (12, 0, 177)), some (mI 0), none]) (st' := []) (S' := (L, m_up t2.1 177 43 (t2.1 177 42), t2.2, R)) (P := True) [(.aload_n 0, (0, 0, 0, 0, 0)), (.aload_n 0, (0, 0, 0, 0, 0)), (.getfield 354, (12, 42, 0, 0, 0)), (.putfield 373, (12, 43, 0, 0, 0)), (.iconst 0, (0, 0, 0, 0, 0)), (.istore_n 1, (0, 0, 0, 0, 0))] [] (by decide +kernel) rfl trivial ?_
  obtain ⟨t3, hw, hf⟩ := bnd_o hf
  refine wl_B (A := fun s : Int32 × MI => m_B G (m_rm 1 0 0) M_MD_stands Q 0 0 128 [some (mR (12, 0, 177)), some (mI s.1), none] [] (L, s.2, t2.2, R)) (B := (fun s : MI => m_B G (m_rm 1 0 0) M_MD_stands Q 0 0 158 [some (mR (12, 0, 177)), none, none] [] (L, s, t2.2, R))) (fun s r hs hr => W_MD_stands_128 s.2 t2.2 s.1 hR hs hr) hw ?_
  show m_B G (m_rm 1 0 0) M_MD_stands Q 0 0 158 [some (mR (12, 0, 177)), none, none] [] (L, t3, t2.2, R)
  refine b_blk (pc' := 160) (ls' := [some (mR (12, 0, 177)), some (mI 0), none]) (st' := []) (S' := (L, t3, t2.2, R)) (P := True) [(.iconst 0, (0, 0, 0, 0, 0)), (.istore_n 1, (0, 0, 0, 0, 0))] [] (by decide +kernel) rfl trivial ?_
  obtain ⟨t4, hw, hf⟩ := bnd_o hf
  refine wl_B (A := fun s : Int32 × MI => m_B G (m_rm 1 0 0) M_MD_stands Q 0 0 160 [some (mR (12, 0, 177)), some (mI s.1), none] [] (L, s.2, t2.2, R)) (B := (fun s : MI => m_B G (m_rm 1 0 0) M_MD_stands Q 0 0 180 [some (mR (12, 0, 177)), none, none] [] (L, s, t2.2, R))) (fun s r hs hr => W_MD_stands_160 s.2 t2.2 s.1 hR hs hr) hw ?_
  show m_B G (m_rm 1 0 0) M_MD_stands Q 0 0 180 [some (mR (12, 0, 177)), none, none] [] (L, t4, t2.2, R)
  refine b_blk (pc' := 182) (ls' := [some (mR (12, 0, 177)), some (mI 0), none]) (st' := []) (S' := (L, t4, t2.2, R)) (P := True) [(.iconst 0, (0, 0, 0, 0, 0)), (.istore_n 1, (0, 0, 0, 0, 0))] [] (by decide +kernel) rfl trivial ?_
  obtain ⟨t5, hw, hf⟩ := bnd_o hf
  refine wl_B (A := fun s : Int32 × MI => m_B G (m_rm 1 0 0) M_MD_stands Q 0 0 182 [some (mR (12, 0, 177)), some (mI s.1), none] [] (L, s.2, t2.2, R)) (B := (fun s : MI => m_B G (m_rm 1 0 0) M_MD_stands Q 0 0 208 [some (mR (12, 0, 177)), none, none] [] (L, s, t2.2, R))) (fun s r hs hr => W_MD_stands_182 s.2 t2.2 s.1 hR hs hr) hw ?_
  show m_B G (m_rm 1 0 0) M_MD_stands Q 0 0 208 [some (mR (12, 0, 177)), none, none] [] (L, t5, t2.2, R)
  refine b_blk (pc' := 210) (ls' := [some (mR (12, 0, 177)), some (mI 0), none]) (st' := []) (S' := (L, t5, t2.2, R)) (P := True) [(.iconst 0, (0, 0, 0, 0, 0)), (.istore_n 1, (0, 0, 0, 0, 0))] [] (by decide +kernel) rfl trivial ?_
  obtain ⟨t6, hw, hf⟩ := bnd_o hf
  refine wl_B (A := fun s : Int32 × MI => m_B G (m_rm 1 0 0) M_MD_stands Q 0 0 210 [some (mR (12, 0, 177)), some (mI s.1), none] [] (L, s.2, t2.2, R)) (B := (fun s : MI => m_B G (m_rm 1 0 0) M_MD_stands Q 0 0 290 [some (mR (12, 0, 177)), none, none] [] (L, s, t2.2, R))) (fun s r hs hr => W_MD_stands_210 s.2 t2.2 s.1 hR hs hr) hw ?_
  show m_B G (m_rm 1 0 0) M_MD_stands Q 0 0 290 [some (mR (12, 0, 177)), none, none] [] (L, t6, t2.2, R)
  refine b_blk (pc' := 300) (ls' := [some (mR (12, 0, 177)), none, none]) (st' := []) (S' := (L, m_up (m_up t6 177 66 (0 : Int32)) 177 59 (0 : Int32), t2.2, R)) (P := True) [(.aload_n 0, (0, 0, 0, 0, 0)), (.iconst 0, (0, 0, 0, 0, 0)), (.putfield 376, (12, 66, 0, 0, 0)), (.aload_n 0, (0, 0, 0, 0, 0)), (.iconst 0, (0, 0, 0, 0, 0)), (.putfield 379, (12, 59, 0, 0, 0))] [] (by decide +kernel) rfl trivial ?_
  cases hf
  exact b_vret (by decide +kernel) rfl hk
theorem C_MD_stands {G : MG} {L : List (Nat × Nat)} {R : Nat → Nat → Option MRef} (I : MI) (J : MJ) (hR : RF R) {r : MI × MJ} (hf : F_MD_stands I J = some r) : m_met G 1 0 0 y_MD_stands M_MD_stands [mR (12, 0, 177)] (L, I, J, R) (m_is (none) (L, r.1, r.2, R)) :=
  m_met_in n_MD_stands (plainFor_of_name (by decide)) (by decide) (Nat.le_of_ble_eq_true rfl) (ls := [some (mR (12, 0, 177)), none, none]) rfl (W_MD_stands I J hR hf ⟨rfl, rfl⟩)
noncomputable def F_MD_qCode (I : MI) (v1 : Int32) : Option (MI) :=
  gd (I 177 92) 1700 <| some (m_up (m_up I 244 ((I 177 92).toNatClampNeg) v1) 177 92 ((I 177 92) + (1 : Int32)))
set_option maxRecDepth 100000 in
set_option maxHeartbeats 400000 in
theorem W_MD_qCode {G : MG} {Q : Option MV → MS → Prop} {L : List (Nat × Nat)} {R : Nat → Nat → Option MRef} (I : MI) (J : MJ) (v1 : Int32) (hR : RF R) {r : MI} (hf : F_MD_qCode I v1 = some r) (hk : (fun r : MI => Q (none) (L, r, J, R)) r) : m_B G (m_rm 1 0 0) M_MD_qCode Q 0 0 0 [some (mR (12, 0, 177)), some (mI v1)] [] (L, I, J, R) := by
  unfold F_MD_qCode at hf
  obtain ⟨g1, hf⟩ := gd_s hf
  refine b_blk (pc' := 20) (ls' := [some (mR (12, 0, 177)), some (mI v1)]) (st' := []) (S' := (L, m_up (m_up I 244 ((I 177 92).toNatClampNeg) v1) 177 92 ((I 177 92) + (1 : Int32)), J, R)) (P := ((True ∧ R 177 91 = some (20, 1700, 244)) ∧ vp_in (I 177 92) 1700)) [(.aload_n 0, (0, 0, 0, 0, 0)), (.getfield 219, (12, 91, 3, 0, 0)), (.aload_n 0, (0, 0, 0, 0, 0)), (.getfield 315, (12, 92, 0, 0, 0)), (.iload_n 1, (0, 0, 0, 0, 0)), (.iastore, (0, 0, 0, 0, 0)), (.aload_n 0, (0, 0, 0, 0, 0)), (.dup, (0, 0, 0, 0, 0)), (.getfield 315, (12, 92, 0, 0, 0)), (.iconst 1, (0, 0, 0, 1, 0)), (.iadd, (0, 0, 0, 0, 0)), (.putfield 315, (12, 92, 0, 0, 0))] [some (20, 1700, 244)] (by decide +kernel) rfl ⟨⟨trivial, (r_177_91 hR)⟩, (in_n (n := 1700) (by decide) g1.1 g1.2)⟩ ?_
  cases hf
  exact b_vret (by decide +kernel) rfl hk
theorem C_MD_qCode {G : MG} {L : List (Nat × Nat)} {R : Nat → Nat → Option MRef} (I : MI) (J : MJ) (v1 : Int32) (hR : RF R) {r : MI} (hf : F_MD_qCode I v1 = some r) : m_met G 1 0 0 y_MD_qCode M_MD_qCode [mR (12, 0, 177), mI v1] (L, I, J, R) (m_is (none) (L, r, J, R)) :=
  m_met_in n_MD_qCode (plainFor_of_name (by decide)) (by decide) (Nat.le_of_ble_eq_true rfl) (ls := [some (mR (12, 0, 177)), some (mI v1)]) rfl (W_MD_qCode I J v1 hR hf ⟨rfl, rfl⟩)
noncomputable def F_MD_qDrops (I : MI) : Option (MI) :=
  gd ((I 177 94) - (1 : Int32)) 1700 <| (F_MD_qCode (m_up I 177 94 ((I 177 94) - (1 : Int32))) (I 245 ((I 177 94) - (1 : Int32)).toNatClampNeg)).bind fun r2 => some r2
set_option maxRecDepth 100000 in
set_option maxHeartbeats 400000 in
theorem W_MD_qDrops {G : MG} {Q : Option MV → MS → Prop} {L : List (Nat × Nat)} {R : Nat → Nat → Option MRef} (I : MI) (J : MJ) (hR : RF R) {r : MI} (hf : F_MD_qDrops I = some r) (hk : (fun r : MI => Q (none) (L, r, J, R)) r) : m_B G (m_rm 2 0 0) M_MD_qDrops Q 0 0 0 [some (mR (12, 0, 177))] [] (L, I, J, R) := by
  unfold F_MD_qDrops at hf
  obtain ⟨g1, hf⟩ := gd_s hf
  refine b_blk (pc' := 20) (ls' := [some (mR (12, 0, 177))]) (st' := [mI (I 245 ((I 177 94) - (1 : Int32)).toNatClampNeg), mR (12, 0, 177)]) (S' := (L, m_up I 177 94 ((I 177 94) - (1 : Int32)), J, R)) (P := ((True ∧ R 177 93 = some (20, 1700, 245)) ∧ vp_in ((I 177 94) - (1 : Int32)) 1700)) [(.aload_n 0, (0, 0, 0, 0, 0)), (.dup, (0, 0, 0, 0, 0)), (.getfield 318, (12, 94, 0, 0, 0)), (.iconst 1, (0, 0, 0, 1, 0)), (.isub, (0, 0, 0, 0, 0)), (.putfield 318, (12, 94, 0, 0, 0)), (.aload_n 0, (0, 0, 0, 0, 0)), (.aload_n 0, (0, 0, 0, 0, 0)), (.getfield 222, (12, 93, 3, 0, 0)), (.aload_n 0, (0, 0, 0, 0, 0)), (.getfield 318, (12, 94, 0, 0, 0)), (.iaload, (0, 0, 0, 0, 0))] [some (20, 1700, 245)] (by decide +kernel) rfl ⟨⟨trivial, (r_177_93 hR)⟩, (in_n (n := 1700) (by decide) g1.1 g1.2)⟩ ?_
  obtain ⟨r2, hc2, hf⟩ := bnd_o hf
  refine b_cV (as := [mI (I 245 ((I 177 94) - (1 : Int32)).toNatClampNeg)]) (st := []) (by decide +kernel) k_12_562 n_MD_qCode rfl (by decide) v_MD_qCode (C_MD_qCode (m_up I 177 94 ((I 177 94) - (1 : Int32))) J (I 245 ((I 177 94) - (1 : Int32)).toNatClampNeg) hR hc2) (Nat.le_of_ble_eq_true rfl) (by decide) rfl rfl (fun _ h => h) ?_
  show m_B G (m_rm 2 0 0) M_MD_qDrops Q 0 0 23 [some (mR (12, 0, 177))] [] (L, r2, J, R)
  cases hf
  exact b_vret (by decide +kernel) rfl hk
theorem C_MD_qDrops {G : MG} {L : List (Nat × Nat)} {R : Nat → Nat → Option MRef} (I : MI) (J : MJ) (hR : RF R) {r : MI} (hf : F_MD_qDrops I = some r) : m_met G 2 0 0 y_MD_qDrops M_MD_qDrops [mR (12, 0, 177)] (L, I, J, R) (m_is (none) (L, r, J, R)) :=
  m_met_in n_MD_qDrops (plainFor_of_name (by decide)) (by decide) (Nat.le_of_ble_eq_true rfl) (ls := [some (mR (12, 0, 177))]) rfl (W_MD_qDrops I J hR hf ⟨rfl, rfl⟩)
noncomputable def F_MD_qIsBracket (v0 : Int32) : Option (Int32) :=
  if v0 < (20 : Int32) then (some (0 : Int32)) else (if (24 : Int32) < v0 then (some (0 : Int32)) else (some (1 : Int32)))
set_option maxRecDepth 100000 in
set_option maxHeartbeats 400000 in
theorem W_MD_qIsBracket {G : MG} {Q : Option MV → MS → Prop} {L : List (Nat × Nat)} {R : Nat → Nat → Option MRef} (I : MI) (J : MJ) (v0 : Int32) (hR : RF R) {r : Int32} (hf : F_MD_qIsBracket v0 = some r) (hk : (fun r : Int32 => Q (some (mI r)) (L, I, J, R)) r) : m_B G (m_rm 1 0 0) M_MD_qIsBracket Q 0 0 0 [some (mI v0)] [] (L, I, J, R) := by
  unfold F_MD_qIsBracket at hf
  refine b_blk (pc' := 3) (ls' := [some (mI v0)]) (st' := [mI 20, mI v0]) (S' := (L, I, J, R)) (P := True) [(.iload_n 0, (0, 0, 0, 0, 0)), (.bipush 20, (0, 0, 0, 20, 0))] [] (by decide +kernel) rfl trivial ?_
  refine b_icmp_lt (off := 13) (tgt := 16) (by decide +kernel) (by decide) (fun h1 => ?_) (fun h1 => ?_)
  · have hf := if_t h1 hf
    refine b_blk (pc' := 17) (ls' := [some (mI v0)]) (st' := [mI 0]) (S' := (L, I, J, R)) (P := True) [(.iconst 0, (0, 0, 0, 0, 0))] [] (by decide +kernel) rfl trivial ?_
    cases hf
    exact b_zret (by decide +kernel) rfl (by decide) hk
  · have hf := if_f h1 hf
    refine b_blk (pc' := 9) (ls' := [some (mI v0)]) (st' := [mI 24, mI v0]) (S' := (L, I, J, R)) (P := True) [(.iload_n 0, (0, 0, 0, 0, 0)), (.bipush 24, (0, 0, 0, 24, 0))] [] (by decide +kernel) rfl trivial ?_
    refine b_icmp_gt (off := 7) (tgt := 16) (by decide +kernel) (by decide) (fun h2 => ?_) (fun h2 => ?_)
    · have hf := if_t h2 hf
      refine b_blk (pc' := 17) (ls' := [some (mI v0)]) (st' := [mI 0]) (S' := (L, I, J, R)) (P := True) [(.iconst 0, (0, 0, 0, 0, 0))] [] (by decide +kernel) rfl trivial ?_
      cases hf
      exact b_zret (by decide +kernel) rfl (by decide) hk
    · have hf := if_f h2 hf
      refine b_blk (pc' := 17) (ls' := [some (mI v0)]) (st' := [mI 1]) (S' := (L, I, J, R)) (P := True) [(.iconst 1, (0, 0, 0, 1, 0)), (.goto 4, (0, 17, 0, 0, 0))] [] (by decide +kernel) rfl trivial ?_
      cases hf
      exact b_zret (by decide +kernel) rfl (by decide) hk
theorem C_MD_qIsBracket {G : MG} {L : List (Nat × Nat)} {R : Nat → Nat → Option MRef} (I : MI) (J : MJ) (v0 : Int32) (hR : RF R) {r : Int32} (hf : F_MD_qIsBracket v0 = some r) : m_met G 1 0 0 y_MD_qIsBracket M_MD_qIsBracket [mI v0] (L, I, J, R) (m_is (some (mI r)) (L, I, J, R)) :=
  m_met_in n_MD_qIsBracket (plainFor_of_name (by decide)) (by decide) (Nat.le_of_ble_eq_true rfl) (ls := [some (mI v0)]) rfl (W_MD_qIsBracket I J v0 hR hf ⟨rfl, rfl⟩)
noncomputable def F_MD_qBracket_7 (I : MI) (v1 : Int32) : Option ((Int32) ⊕ (Int32)) :=
  if v1 < (I 177 96) then (some (.inr (v1 : Int32))) else (gd v1 1700 <| (F_MD_qIsBracket (I 245 v1.toNatClampNeg)).bind fun r3 => if r3 = (0 : Int32) then (some (.inl (v1 + (-1) : Int32))) else (some (.inr (v1 : Int32))))
set_option maxRecDepth 100000 in
set_option maxHeartbeats 400000 in
theorem W_MD_qBracket_7 {G : MG} {Q : Option MV → MS → Prop} {L : List (Nat × Nat)} {R : Nat → Nat → Option MRef} (I : MI) (J : MJ) (v1 : Int32) (hR : RF R) {r : (Int32) ⊕ (Int32)} (hf : F_MD_qBracket_7 I v1 = some r) (hk : (Sum.elim (fun s : Int32 => m_B G (m_rm 2 0 0) M_MD_qBracket Q 0 0 7 [some (mR (12, 0, 177)), some (mI s)] [] (L, I, J, R)) (fun s : Int32 => m_B G (m_rm 2 0 0) M_MD_qBracket Q 0 0 33 [some (mR (12, 0, 177)), some (mI s)] [] (L, I, J, R))) r) : m_B G (m_rm 2 0 0) M_MD_qBracket Q 0 0 7 [some (mR (12, 0, 177)), some (mI v1)] [] (L, I, J, R) := by
  unfold F_MD_qBracket_7 at hf
  refine b_blk (pc' := 12) (ls' := [some (mR (12, 0, 177)), some (mI v1)]) (st' := [mI (I 177 96), mI v1]) (S' := (L, I, J, R)) (P := True) [(.iload_n 1, (0, 0, 0, 0, 0)), (.aload_n 0, (0, 0, 0, 0, 0)), (.getfield 324, (12, 96, 0, 0, 0))] [] (by decide +kernel) rfl trivial ?_
  refine b_icmp_lt (off := 21) (tgt := 33) (by decide +kernel) (by decide) (fun h1 => ?_) (fun h1 => ?_)
  · have hf := if_t h1 hf
    cases hf
    exact hk
  · have hf := if_f h1 hf
    obtain ⟨g2, hf⟩ := gd_s hf
    refine b_blk (pc' := 21) (ls' := [some (mR (12, 0, 177)), some (mI v1)]) (st' := [mI (I 245 v1.toNatClampNeg)]) (S' := (L, I, J, R)) (P := ((True ∧ R 177 93 = some (20, 1700, 245)) ∧ vp_in v1 1700)) [(.aload_n 0, (0, 0, 0, 0, 0)), (.getfield 222, (12, 93, 3, 0, 0)), (.iload_n 1, (0, 0, 0, 0, 0)), (.iaload, (0, 0, 0, 0, 0))] [some (20, 1700, 245)] (by decide +kernel) rfl ⟨⟨trivial, (r_177_93 hR)⟩, (in_n (n := 1700) (by decide) g2.1 g2.2)⟩ ?_
    obtain ⟨r3, hc3, hf⟩ := bnd_o hf
    refine b_cS (as := [mI (I 245 v1.toNatClampNeg)]) (st := []) (by decide +kernel) k_12_565 n_MD_qIsBracket s_MD_qIsBracket (C_MD_qIsBracket I J (I 245 v1.toNatClampNeg) hR hc3) (Nat.le_of_ble_eq_true rfl) (by decide) rfl rfl (fun _ h => h) ?_
    show m_B G (m_rm 2 0 0) M_MD_qBracket Q 0 0 24 [some (mR (12, 0, 177)), some (mI v1)] [mI r3] (L, I, J, R)
    refine b_if_ne (off := 9) (tgt := 33) (by decide +kernel) (by decide) (fun h4 => ?_) (fun h4 => ?_)
    · have hf := if_f h4 hf
      cases hf
      exact hk
    · have hf := if_t h4 hf
      refine b_blk (pc' := 7) (ls' := [some (mR (12, 0, 177)), some (mI (v1 + (-1)))]) (st' := []) (S' := (L, I, J, R)) (P := True) [(.iinc 1 (-1), (0, 0, 0, (-1), 0)), (.goto (-23), (0, 7, 0, 0, 0))] [] (by decide +kernel) rfl trivial ?_
      cases hf
      exact hk
noncomputable def F_MD_qBracket_33 (I : MI) (v1 : Int32) : Option (Int32) :=
  if v1 < (I 177 96) then (some ((-1) : Int32)) else (gd v1 1700 <| some (I 245 v1.toNatClampNeg : Int32))
set_option maxRecDepth 100000 in
set_option maxHeartbeats 400000 in
theorem W_MD_qBracket_33 {G : MG} {Q : Option MV → MS → Prop} {L : List (Nat × Nat)} {R : Nat → Nat → Option MRef} (I : MI) (J : MJ) (v1 : Int32) (hR : RF R) {r : Int32} (hf : F_MD_qBracket_33 I v1 = some r) (hk : (fun r : Int32 => Q (some (mI r)) (L, I, J, R)) r) : m_B G (m_rm 2 0 0) M_MD_qBracket Q 0 0 33 [some (mR (12, 0, 177)), some (mI v1)] [] (L, I, J, R) := by
  unfold F_MD_qBracket_33 at hf
  refine b_blk (pc' := 38) (ls' := [some (mR (12, 0, 177)), some (mI v1)]) (st' := [mI (I 177 96), mI v1]) (S' := (L, I, J, R)) (P := True) [(.iload_n 1, (0, 0, 0, 0, 0)), (.aload_n 0, (0, 0, 0, 0, 0)), (.getfield 324, (12, 96, 0, 0, 0))] [] (by decide +kernel) rfl trivial ?_
  refine b_icmp_lt (off := 12) (tgt := 50) (by decide +kernel) (by decide) (fun h1 => ?_) (fun h1 => ?_)
  · have hf := if_t h1 hf
    refine b_blk (pc' := 51) (ls' := [some (mR (12, 0, 177)), some (mI v1)]) (st' := [mI (-1)]) (S' := (L, I, J, R)) (P := True) [(.iconst (-1), (0, 0, 0, (-1), 0))] [] (by decide +kernel) rfl trivial ?_
    cases hf
    exact b_iret (by decide +kernel) rfl hk
  · have hf := if_f h1 hf
    obtain ⟨g2, hf⟩ := gd_s hf
    refine b_blk (pc' := 51) (ls' := [some (mR (12, 0, 177)), some (mI v1)]) (st' := [mI (I 245 v1.toNatClampNeg)]) (S' := (L, I, J, R)) (P := ((True ∧ R 177 93 = some (20, 1700, 245)) ∧ vp_in v1 1700)) [(.aload_n 0, (0, 0, 0, 0, 0)), (.getfield 222, (12, 93, 3, 0, 0)), (.iload_n 1, (0, 0, 0, 0, 0)), (.iaload, (0, 0, 0, 0, 0)), (.goto 4, (0, 51, 0, 0, 0))] [some (20, 1700, 245)] (by decide +kernel) rfl ⟨⟨trivial, (r_177_93 hR)⟩, (in_n (n := 1700) (by decide) g2.1 g2.2)⟩ ?_
    cases hf
    exact b_iret (by decide +kernel) rfl hk
noncomputable def F_MD_qBracket (I : MI) : Option (Int32) :=
  (wl (fun s : Int32 => F_MD_qBracket_7 I s) ((I 177 94) - (1 : Int32) : Int32)).bind fun t1 => F_MD_qBracket_33 I t1
set_option maxRecDepth 100000 in
set_option maxHeartbeats 400000 in
theorem W_MD_qBracket {G : MG} {Q : Option MV → MS → Prop} {L : List (Nat × Nat)} {R : Nat → Nat → Option MRef} (I : MI) (J : MJ) (hR : RF R) {r : Int32} (hf : F_MD_qBracket I = some r) (hk : (fun r : Int32 => Q (some (mI r)) (L, I, J, R)) r) : m_B G (m_rm 2 0 0) M_MD_qBracket Q 0 0 0 [some (mR (12, 0, 177)), none] [] (L, I, J, R) := by
  unfold F_MD_qBracket at hf
  refine b_blk (pc' := 7) (ls' := [some (mR (12, 0, 177)), some (mI ((I 177 94) - (1 : Int32)))]) (st' := []) (S' := (L, I, J, R)) (P := True) [(.aload_n 0, (0, 0, 0, 0, 0)), (.getfield 318, (12, 94, 0, 0, 0)), (.iconst 1, (0, 0, 0, 1, 0)), (.isub, (0, 0, 0, 0, 0)), (.istore_n 1, (0, 0, 0, 0, 0))] [] (by decide +kernel) rfl trivial ?_
  obtain ⟨t1, hw, hf⟩ := bnd_o hf
  refine wl_B (A := fun s : Int32 => m_B G (m_rm 2 0 0) M_MD_qBracket Q 0 0 7 [some (mR (12, 0, 177)), some (mI s)] [] (L, I, J, R)) (B := (fun s : Int32 => m_B G (m_rm 2 0 0) M_MD_qBracket Q 0 0 33 [some (mR (12, 0, 177)), some (mI s)] [] (L, I, J, R))) (fun s r hs hr => W_MD_qBracket_7 I J s hR hs hr) hw ?_
  show m_B G (m_rm 2 0 0) M_MD_qBracket Q 0 0 33 [some (mR (12, 0, 177)), some (mI t1)] [] (L, I, J, R)
  exact m_B_cg rfl rfl rfl (W_MD_qBracket_33 I J t1 hR hf hk)
theorem C_MD_qBracket {G : MG} {L : List (Nat × Nat)} {R : Nat → Nat → Option MRef} (I : MI) (J : MJ) (hR : RF R) {r : Int32} (hf : F_MD_qBracket I = some r) : m_met G 2 0 0 y_MD_qBracket M_MD_qBracket [mR (12, 0, 177)] (L, I, J, R) (m_is (some (mI r)) (L, I, J, R)) :=
  m_met_in n_MD_qBracket (plainFor_of_name (by decide)) (by decide) (Nat.le_of_ble_eq_true rfl) (ls := [some (mR (12, 0, 177)), none]) rfl (W_MD_qBracket I J hR hf ⟨rfl, rfl⟩)
