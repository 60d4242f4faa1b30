/-! the reference: methods 2 -/
noncomputable def F_MD_qDropsToBracket_0 (I : MI) : Option ((MI) ⊕ (MI)) :=
  if (I 177 94) ≤ (I 177 96) then (some (.inr I)) else (gd ((I 177 94) - (1 : Int32)) 1700 <| (F_MD_qIsBracket (I 245 ((I 177 94) - (1 : Int32)).toNatClampNeg)).bind fun r3 => if r3 = (0 : Int32) then ((F_MD_qDrops I).bind fun r5 => some (.inl r5)) else (some (.inr I)))
set_option maxRecDepth 100000 in
set_option maxHeartbeats 400000 in
theorem W_MD_qDropsToBracket_0 {G : MG} {Q : Option MV → MS → Prop} {L : List (Nat × Nat)} {R : Nat → Nat → Option MRef} (I : MI) (J : MJ) (hR : RF R) {r : (MI) ⊕ (MI)} (hf : F_MD_qDropsToBracket_0 I = some r) (hk : (Sum.elim (fun s : MI => m_B G (m_rm 3 0 0) M_MD_qDropsToBracket Q 0 0 0 [some (mR (12, 0, 177))] [] (L, s, J, R)) (fun s : MI => m_B G (m_rm 3 0 0) M_MD_qDropsToBracket Q 0 0 35 [none] [] (L, s, J, R))) r) : m_B G (m_rm 3 0 0) M_MD_qDropsToBracket Q 0 0 0 [some (mR (12, 0, 177))] [] (L, I, J, R) := by
  unfold F_MD_qDropsToBracket_0 at hf
  refine b_blk (pc' := 8) (ls' := [some (mR (12, 0, 177))]) (st' := [mI (I 177 96), mI (I 177 94)]) (S' := (L, I, J, R)) (P := True) [(.aload_n 0, (0, 0, 0, 0, 0)), (.getfield 318, (12, 94, 0, 0, 0)), (.aload_n 0, (0, 0, 0, 0, 0)), (.getfield 324, (12, 96, 0, 0, 0))] [] (by decide +kernel) rfl trivial ?_
  refine b_icmp_le (off := 27) (tgt := 35) (by decide +kernel) (by decide) (fun h1 => ?_) (fun h1 => ?_)
  · have hf := if_t h1 hf
    refine b_frg 0 ?_
    cases hf
    exact hk
  · have hf := if_f h1 hf
    obtain ⟨g2, hf⟩ := gd_s hf
    refine b_blk (pc' := 22) (ls' := [some (mR (12, 0, 177))]) (st' := [mI (I 245 ((I 177 94) - (1 : Int32)).toNatClampNeg)]) (S' := (L, I, J, R)) (P := ((True ∧ R 177 93 = some (20, 1700, 245)) ∧ vp_in ((I 177 94) - (1 : Int32)) 1700)) [(.aload_n 0, (0, 0, 0, 0, 0)), (.getfield 222, (12, 93, 3, 0, 0)), (.aload_n 0, (0, 0, 0, 0, 0)), (.getfield 318, (12, 94, 0, 0, 0)), (.iconst 1, (0, 0, 0, 1, 0)), (.isub, (0, 0, 0, 0, 0)), (.iaload, (0, 0, 0, 0, 0))] [some (20, 1700, 245)] (by decide +kernel) rfl ⟨⟨trivial, (r_177_93 hR)⟩, (in_n (n := 1700) (by decide) g2.1 g2.2)⟩ ?_
    obtain ⟨r3, hc3, hf⟩ := bnd_o hf
    refine b_cS (as := [mI (I 245 ((I 177 94) - (1 : Int32)).toNatClampNeg)]) (st := []) (by decide +kernel) k_12_565 n_MD_qIsBracket s_MD_qIsBracket (C_MD_qIsBracket I J (I 245 ((I 177 94) - (1 : Int32)).toNatClampNeg) hR hc3) (Nat.le_of_ble_eq_true rfl) (by decide) rfl rfl (fun _ h => h) ?_
    show m_B G (m_rm 3 0 0) M_MD_qDropsToBracket Q 0 0 25 [some (mR (12, 0, 177))] [mI r3] (L, I, J, R)
    refine b_if_ne (off := 10) (tgt := 35) (by decide +kernel) (by decide) (fun h4 => ?_) (fun h4 => ?_)
    · have hf := if_f h4 hf
      refine b_frg 0 ?_
      cases hf
      exact hk
    · have hf := if_t h4 hf
      refine b_blk (pc' := 29) (ls' := [some (mR (12, 0, 177))]) (st' := [mR (12, 0, 177)]) (S' := (L, I, J, R)) (P := True) [(.aload_n 0, (0, 0, 0, 0, 0))] [] (by decide +kernel) rfl trivial ?_
      obtain ⟨r5, hc5, hf⟩ := bnd_o hf
      refine b_cV (as := []) (st := []) (by decide +kernel) k_12_568 n_MD_qDrops rfl (by decide) v_MD_qDrops (C_MD_qDrops I J hR hc5) (Nat.le_of_ble_eq_true rfl) (by decide) rfl rfl (fun _ h => h) ?_
      show m_B G (m_rm 3 0 0) M_MD_qDropsToBracket Q 0 0 32 [some (mR (12, 0, 177))] [] (L, r5, J, R)
      refine b_blk (pc' := 0) (ls' := [some (mR (12, 0, 177))]) (st' := []) (S' := (L, r5, J, R)) (P := True) [(.goto (-32), (0, 0, 0, 0, 0))] [] (by decide +kernel) rfl trivial ?_
      cases hf
      exact hk
noncomputable def F_MD_qDropsToBracket (I : MI) : Option (MI) :=
  (wl (fun s : MI => F_MD_qDropsToBracket_0 s) I).bind fun t1 => some t1
set_option maxRecDepth 100000 in
set_option maxHeartbeats 400000 in
theorem W_MD_qDropsToBracket {G : MG} {Q : Option MV → MS → Prop} {L : List (Nat × Nat)} {R : Nat → Nat → Option MRef} (I : MI) (J : MJ) (hR : RF R) {r : MI} (hf : F_MD_qDropsToBracket I = some r) (hk : (fun r : MI => Q (none) (L, r, J, R)) r) : m_B G (m_rm 3 0 0) M_MD_qDropsToBracket Q 0 0 0 [some (mR (12, 0, 177))] [] (L, I, J, R) := by
  unfold F_MD_qDropsToBracket at hf
  obtain ⟨t1, hw, hf⟩ := bnd_o hf
  refine wl_B (A := fun s : MI => m_B G (m_rm 3 0 0) M_MD_qDropsToBracket Q 0 0 0 [some (mR (12, 0, 177))] [] (L, s, J, R)) (B := (fun s : MI => m_B G (m_rm 3 0 0) M_MD_qDropsToBracket Q 0 0 35 [none] [] (L, s, J, R))) (fun s r hs hr => W_MD_qDropsToBracket_0 s J hR hs hr) hw ?_
  show m_B G (m_rm 3 0 0) M_MD_qDropsToBracket Q 0 0 35 [none] [] (L, t1, J, R)
  cases hf
  exact b_vret (by decide +kernel) rfl hk
theorem C_MD_qDropsToBracket {G : MG} {L : List (Nat × Nat)} {R : Nat → Nat → Option MRef} (I : MI) (J : MJ) (hR : RF R) {r : MI} (hf : F_MD_qDropsToBracket I = some r) : m_met G 3 0 0 y_MD_qDropsToBracket M_MD_qDropsToBracket [mR (12, 0, 177)] (L, I, J, R) (m_is (none) (L, r, J, R)) :=
  m_met_in n_MD_qDropsToBracket (plainFor_of_name (by decide)) (by decide) (Nat.le_of_ble_eq_true rfl) (ls := [some (mR (12, 0, 177))]) rfl (W_MD_qDropsToBracket I J hR hf ⟨rfl, rfl⟩)
noncomputable def F_MD_qEndsPart_0 (I : MI) : Option ((MI) ⊕ (MI)) :=
  if (I 177 5) = (0 : Int32) then (if (I 177 94) ≤ (I 177 96) then (some (.inr I)) else (gd ((I 177 94) - (1 : Int32)) 1700 <| if (I 245 ((I 177 94) - (1 : Int32)).toNatClampNeg) < (60 : Int32) then (some (.inr I)) else ((F_MD_qDrops (m_up I 177 95 ((I 177 95) - (1 : Int32)))).bind fun r5 => some (.inl r5)))) else (some (.inr I))
set_option maxRecDepth 100000 in
set_option maxHeartbeats 400000 in
theorem W_MD_qEndsPart_0 {G : MG} {Q : Option MV → MS → Prop} {L : List (Nat × Nat)} {R : Nat → Nat → Option MRef} (I : MI) (J : MJ) (hR : RF R) {r : (MI) ⊕ (MI)} (hf : F_MD_qEndsPart_0 I = some r) (hk : (Sum.elim (fun s : MI => m_B G (m_rm 3 0 0) M_MD_qEndsPart Q 0 0 0 [some (mR (12, 0, 177))] [] (L, s, J, R)) (fun s : MI => m_B G (m_rm 3 0 0) M_MD_qEndsPart Q 0 0 51 [none] [] (L, s, J, R))) r) : m_B G (m_rm 3 0 0) M_MD_qEndsPart Q 0 0 0 [some (mR (12, 0, 177))] [] (L, I, J, R) := by
  unfold F_MD_qEndsPart_0 at hf
  refine b_blk (pc' := 4) (ls' := [some (mR (12, 0, 177))]) (st' := [mI (I 177 5)]) (S' := (L, I, J, R)) (P := True) [(.aload_n 0, (0, 0, 0, 0, 0)), (.getfield 234, (12, 5, 0, 0, 0))] [] (by decide +kernel) rfl trivial ?_
  refine b_if_ne (off := 47) (tgt := 51) (by decide +kernel) (by decide) (fun h1 => ?_) (fun h1 => ?_)
  · have hf := if_f h1 hf
    refine b_frg 0 ?_
    cases hf
    exact hk
  · have hf := if_t h1 hf
    refine b_blk (pc' := 15) (ls' := [some (mR (12, 0, 177))]) (st' := [mI (I 177 96), mI (I 177 94)]) (S' := (L, I, J, R)) (P := True) [(.aload_n 0, (0, 0, 0, 0, 0)), (.getfield 318, (12, 94, 0, 0, 0)), (.aload_n 0, (0, 0, 0, 0, 0)), (.getfield 324, (12, 96, 0, 0, 0))] [] (by decide +kernel) rfl trivial ?_
    refine b_icmp_le (off := 36) (tgt := 51) (by decide +kernel) (by decide) (fun h2 => ?_) (fun h2 => ?_)
    · have hf := if_t h2 hf
      refine b_frg 0 ?_
      cases hf
      exact hk
    · have hf := if_f h2 hf
      obtain ⟨g3, hf⟩ := gd_s hf
      refine b_blk (pc' := 31) (ls' := [some (mR (12, 0, 177))]) (st' := [mI 60, mI (I 245 ((I 177 94) - (1 : Int32)).toNatClampNeg)]) (S' := (L, I, J, R)) (P := ((True ∧ R 177 93 = some (20, 1700, 245)) ∧ vp_in ((I 177 94) - (1 : Int32)) 1700)) [(.aload_n 0, (0, 0, 0, 0, 0)), (.getfield 222, (12, 93, 3, 0, 0)), (.aload_n 0, (0, 0, 0, 0, 0)), (.getfield 318, (12, 94, 0, 0, 0)), (.iconst 1, (0, 0, 0, 1, 0)), (.isub, (0, 0, 0, 0, 0)), (.iaload, (0, 0, 0, 0, 0)), (.bipush 60, (0, 0, 0, 60, 0))] [some (20, 1700, 245)] (by decide +kernel) rfl ⟨⟨trivial, (r_177_93 hR)⟩, (in_n (n := 1700) (by decide) g3.1 g3.2)⟩ ?_
      refine b_icmp_lt (off := 20) (tgt := 51) (by decide +kernel) (by decide) (fun h4 => ?_) (fun h4 => ?_)
      · have hf := if_t h4 hf
        refine b_frg 0 ?_
        cases hf
        exact hk
      · have hf := if_f h4 hf
        refine b_blk (pc' := 45) (ls' := [some (mR (12, 0, 177))]) (st' := [mR (12, 0, 177)]) (S' := (L, m_up I 177 95 ((I 177 95) - (1 : Int32)), J, R)) (P := True) [(.aload_n 0, (0, 0, 0, 0, 0)), (.dup, (0, 0, 0, 0, 0)), (.getfield 321, (12, 95, 0, 0, 0)), (.iconst 1, (0, 0, 0, 1, 0)), (.isub, (0, 0, 0, 0, 0)), (.putfield 321, (12, 95, 0, 0, 0)), (.aload_n 0, (0, 0, 0, 0, 0))] [] (by decide +kernel) rfl trivial ?_
        obtain ⟨r5, hc5, hf⟩ := bnd_o hf
        refine b_cV (as := []) (st := []) (by decide +kernel) k_12_568 n_MD_qDrops rfl (by decide) v_MD_qDrops (C_MD_qDrops (m_up I 177 95 ((I 177 95) - (1 : Int32))) J hR hc5) (Nat.le_of_ble_eq_true rfl) (by decide) rfl rfl (fun _ h => h) ?_
        show m_B G (m_rm 3 0 0) M_MD_qEndsPart Q 0 0 48 [some (mR (12, 0, 177))] [] (L, r5, J, R)
        refine b_blk (pc' := 0) (ls' := [some (mR (12, 0, 177))]) (st' := []) (S' := (L, r5, J, R)) (P := True) [(.goto (-48), (0, 0, 0, 0, 0))] [] (by decide +kernel) rfl trivial ?_
        cases hf
        exact hk
noncomputable def F_MD_qEndsPart (I : MI) : Option (MI) :=
  (wl (fun s : MI => F_MD_qEndsPart_0 s) I).bind fun t1 => some t1
set_option maxRecDepth 100000 in
set_option maxHeartbeats 400000 in
theorem W_MD_qEndsPart {G : MG} {Q : Option MV → MS → Prop} {L : List (Nat × Nat)} {R : Nat → Nat → Option MRef} (I : MI) (J : MJ) (hR : RF R) {r : MI} (hf : F_MD_qEndsPart I = some r) (hk : (fun r : MI => Q (none) (L, r, J, R)) r) : m_B G (m_rm 3 0 0) M_MD_qEndsPart Q 0 0 0 [some (mR (12, 0, 177))] [] (L, I, J, R) := by
  unfold F_MD_qEndsPart at hf
  obtain ⟨t1, hw, hf⟩ := bnd_o hf
  refine wl_B (A := fun s : MI => m_B G (m_rm 3 0 0) M_MD_qEndsPart Q 0 0 0 [some (mR (12, 0, 177))] [] (L, s, J, R)) (B := (fun s : MI => m_B G (m_rm 3 0 0) M_MD_qEndsPart Q 0 0 51 [none] [] (L, s, J, R))) (fun s r hs hr => W_MD_qEndsPart_0 s J hR hs hr) hw ?_
  show m_B G (m_rm 3 0 0) M_MD_qEndsPart Q 0 0 51 [none] [] (L, t1, J, R)
  cases hf
  exact b_vret (by decide +kernel) rfl hk
theorem C_MD_qEndsPart {G : MG} {L : List (Nat × Nat)} {R : Nat → Nat → Option MRef} (I : MI) (J : MJ) (hR : RF R) {r : MI} (hf : F_MD_qEndsPart I = some r) : m_met G 3 0 0 y_MD_qEndsPart M_MD_qEndsPart [mR (12, 0, 177)] (L, I, J, R) (m_is (none) (L, r, J, R)) :=
  m_met_in n_MD_qEndsPart (plainFor_of_name (by decide)) (by decide) (Nat.le_of_ble_eq_true rfl) (ls := [some (mR (12, 0, 177))]) rfl (W_MD_qEndsPart I J hR hf ⟨rfl, rfl⟩)
noncomputable def F_MD_qIsOn (I : MI) (v1 : Int32) : Option (Int32) :=
  if (I 177 94) ≤ (0 : Int32) then (some (0 : Int32)) else (gd ((I 177 94) - (1 : Int32)) 1700 <| if (I 245 ((I 177 94) - (1 : Int32)).toNatClampNeg) = v1 then (some (1 : Int32)) else (some (0 : Int32)))
set_option maxRecDepth 100000 in
set_option maxHeartbeats 400000 in
theorem W_MD_qIsOn {G : MG} {Q : Option MV → MS → Prop} {L : List (Nat × Nat)} {R : Nat → Nat → Option MRef} (I : MI) (J : MJ) (v1 : Int32) (hR : RF R) {r : Int32} (hf : F_MD_qIsOn I v1 = some r) (hk : (fun r : Int32 => Q (some (mI r)) (L, I, J, R)) r) : m_B G (m_rm 1 0 0) M_MD_qIsOn Q 0 0 0 [some (mR (12, 0, 177)), some (mI v1)] [] (L, I, J, R) := by
  unfold F_MD_qIsOn at hf
  refine b_blk (pc' := 4) (ls' := [some (mR (12, 0, 177)), some (mI v1)]) (st' := [mI (I 177 94)]) (S' := (L, I, J, R)) (P := True) [(.aload_n 0, (0, 0, 0, 0, 0)), (.getfield 318, (12, 94, 0, 0, 0))] [] (by decide +kernel) rfl trivial ?_
  refine b_if_le (off := 22) (tgt := 26) (by decide +kernel) (by decide) (fun h1 => ?_) (fun h1 => ?_)
  · have hf := if_t h1 hf
    refine b_blk (pc' := 27) (ls' := [some (mR (12, 0, 177)), some (mI v1)]) (st' := [mI 0]) (S' := (L, I, J, R)) (P := True) [(.iconst 0, (0, 0, 0, 0, 0))] [] (by decide +kernel) rfl trivial ?_
    cases hf
    exact b_zret (by decide +kernel) rfl (by decide) hk
  · have hf := if_f h1 hf
    obtain ⟨g2, hf⟩ := gd_s hf
    refine b_blk (pc' := 19) (ls' := [some (mR (12, 0, 177)), some (mI v1)]) (st' := [mI v1, mI (I 245 ((I 177 94) - (1 : Int32)).toNatClampNeg)]) (S' := (L, I, J, R)) (P := ((True ∧ R 177 93 = some (20, 1700, 245)) ∧ vp_in ((I 177 94) - (1 : Int32)) 1700)) [(.aload_n 0, (0, 0, 0, 0, 0)), (.getfield 222, (12, 93, 3, 0, 0)), (.aload_n 0, (0, 0, 0, 0, 0)), (.getfield 318, (12, 94, 0, 0, 0)), (.iconst 1, (0, 0, 0, 1, 0)), (.isub, (0, 0, 0, 0, 0)), (.iaload, (0, 0, 0, 0, 0)), (.iload_n 1, (0, 0, 0, 0, 0))] [some (20, 1700, 245)] (by decide +kernel) rfl ⟨⟨trivial, (r_177_93 hR)⟩, (in_n (n := 1700) (by decide) g2.1 g2.2)⟩ ?_
    refine b_icmp_ne (off := 7) (tgt := 26) (by decide +kernel) (by decide) (fun h3 => ?_) (fun h3 => ?_)
    · have hf := if_f h3 hf
      refine b_blk (pc' := 27) (ls' := [some (mR (12, 0, 177)), some (mI v1)]) (st' := [mI 0]) (S' := (L, I, J, R)) (P := True) [(.iconst 0, (0, 0, 0, 0, 0))] [] (by decide +kernel) rfl trivial ?_
      cases hf
      exact b_zret (by decide +kernel) rfl (by decide) hk
    · have hf := if_t h3 hf
      refine b_blk (pc' := 27) (ls' := [some (mR (12, 0, 177)), some (mI v1)]) (st' := [mI 1]) (S' := (L, I, J, R)) (P := True) [(.iconst 1, (0, 0, 0, 1, 0)), (.goto 4, (0, 27, 0, 0, 0))] [] (by decide +kernel) rfl trivial ?_
      cases hf
      exact b_zret (by decide +kernel) rfl (by decide) hk
theorem C_MD_qIsOn {G : MG} {L : List (Nat × Nat)} {R : Nat → Nat → Option MRef} (I : MI) (J : MJ) (v1 : Int32) (hR : RF R) {r : Int32} (hf : F_MD_qIsOn I v1 = some r) : m_met G 1 0 0 y_MD_qIsOn M_MD_qIsOn [mR (12, 0, 177), mI v1] (L, I, J, R) (m_is (some (mI r)) (L, I, J, R)) :=
  m_met_in n_MD_qIsOn (plainFor_of_name (by decide)) (by decide) (Nat.le_of_ble_eq_true rfl) (ls := [some (mR (12, 0, 177)), some (mI v1)]) rfl (W_MD_qIsOn I J v1 hR hf ⟨rfl, rfl⟩)
noncomputable def F_MD_qGoesOn_43 (I : MI) : Option ((MI) ⊕ (MI)) :=
  (F_MD_qDropsToBracket (m_up I 177 2 ((I 177 2) + (1 : Int32)))).bind fun r1 => gd ((r1 177 94) - (1 : Int32)) 1700 <| if (r1 245 ((r1 177 94) - (1 : Int32)).toNatClampNeg) = (20 : Int32) then ((F_MD_qEndsPart (m_up (m_up r1 177 94 ((r1 177 94) - (1 : Int32))) 177 95 ((r1 177 95) - (1 : Int32)))).bind fun r4 => some (.inl r4)) else (gd ((r1 177 94) - (1 : Int32)) 1700 <| if (r1 245 ((r1 177 94) - (1 : Int32)).toNatClampNeg) = (23 : Int32) then ((F_MD_qCode (m_up (m_up r1 177 94 ((r1 177 94) - (1 : Int32))) 177 95 ((r1 177 95) - (1 : Int32))) (5 : Int32)).bind fun r9 => (F_MD_qEndsPart r9).bind fun r10 => some (.inl r10)) else ((F_MD_qCode (m_up (m_up r1 177 94 ((r1 177 94) - (1 : Int32))) 177 95 ((r1 177 95) - (1 : Int32))) (6 : Int32)).bind fun r7 => (F_MD_qEndsPart r7).bind fun r8 => some (.inl r8)))
set_option maxRecDepth 100000 in
set_option maxHeartbeats 400000 in
theorem W_MD_qGoesOn_43 {G : MG} {Q : Option MV → MS → Prop} {L : List (Nat × Nat)} {R : Nat → Nat → Option MRef} (I : MI) (J : MJ) (hR : RF R) {r : (MI) ⊕ (MI)} (hf : F_MD_qGoesOn_43 I = some r) (hk : (Sum.elim (fun s : MI => m_B G (m_rm 4 0 0) M_MD_qGoesOn Q 0 0 0 [some (mR (12, 0, 177)), none] [] (L, s, J, R)) (fun s : MI => m_B G (m_rm 4 0 0) M_MD_qGoesOn Q 0 0 122 [some (mR (12, 0, 177)), none] [] (L, s, J, R))) r) : m_B G (m_rm 4 0 0) M_MD_qGoesOn Q 0 0 43 [some (mR (12, 0, 177)), none] [] (L, I, J, R) := by
  unfold F_MD_qGoesOn_43 at hf
  refine b_blk (pc' := 54) (ls' := [some (mR (12, 0, 177)), none]) (st' := [mR (12, 0, 177)]) (S' := (L, m_up I 177 2 ((I 177 2) + (1 : Int32)), J, R)) (P := True) [(.aload_n 0, (0, 0, 0, 0, 0)), (.dup, (0, 0, 0, 0, 0)), (.getfield 240, (12, 2, 0, 0, 0)), (.iconst 1, (0, 0, 0, 1, 0)), (.iadd, (0, 0, 0, 0, 0)), (.putfield 240, (12, 2, 0, 0, 0)), (.aload_n 0, (0, 0, 0, 0, 0))] [] (by decide +kernel) rfl trivial ?_
  obtain ⟨r1, hc1, hf⟩ := bnd_o hf
  refine b_cV (as := []) (st := []) (by decide +kernel) k_12_592 n_MD_qDropsToBracket rfl (by decide) v_MD_qDropsToBracket (C_MD_qDropsToBracket (m_up I 177 2 ((I 177 2) + (1 : Int32))) J hR hc1) (Nat.le_of_ble_eq_true rfl) (by decide) rfl rfl (fun _ h => h) ?_
  show m_B G (m_rm 4 0 0) M_MD_qGoesOn Q 0 0 57 [some (mR (12, 0, 177)), none] [] (L, r1, J, R)
  obtain ⟨g2, hf⟩ := gd_s hf
  refine b_blk (pc' := 88) (ls' := [some (mR (12, 0, 177)), none]) (st' := [mI 20, mI (r1 245 ((r1 177 94) - (1 : Int32)).toNatClampNeg)]) (S' := (L, m_up (m_up r1 177 94 ((r1 177 94) - (1 : Int32))) 177 95 ((r1 177 95) - (1 : Int32)), J, R)) (P := ((True ∧ R 177 93 = some (20, 1700, 245)) ∧ vp_in ((r1 177 94) - (1 : Int32)) 1700)) [(.aload_n 0, (0, 0, 0, 0, 0)), (.dup, (0, 0, 0, 0, 0)), (.getfield 318, (12, 94, 0, 0, 0)), (.iconst 1, (0, 0, 0, 1, 0)), (.isub, (0, 0, 0, 0, 0)), (.putfield 318, (12, 94, 0, 0, 0)), (.aload_n 0, (0, 0, 0, 0, 0)), (.dup, (0, 0, 0, 0, 0)), (.getfield 321, (12, 95, 0, 0, 0)), (.iconst 1, (0, 0, 0, 1, 0)), (.isub, (0, 0, 0, 0, 0)), (.putfield 321, (12, 95, 0, 0, 0)), (.aload_n 0, (0, 0, 0, 0, 0)), (.getfield 222, (12, 93, 3, 0, 0)), (.aload_n 0, (0, 0, 0, 0, 0)), (.getfield 318, (12, 94, 0, 0, 0)), (.iaload, (0, 0, 0, 0, 0)), (.bipush 20, (0, 0, 0, 20, 0))] [some (20, 1700, 245)] (by decide +kernel) rfl ⟨⟨trivial, (r_177_93 hR)⟩, (in_n (n := 1700) (by decide) g2.1 g2.2)⟩ ?_
  refine b_icmp_eq (off := 27) (tgt := 115) (by decide +kernel) (by decide) (fun h3 => ?_) (fun h3 => ?_)
  · have hf := if_t h3 hf
    refine b_blk (pc' := 116) (ls' := [some (mR (12, 0, 177)), none]) (st' := [mR (12, 0, 177)]) (S' := (L, m_up (m_up r1 177 94 ((r1 177 94) - (1 : Int32))) 177 95 ((r1 177 95) - (1 : Int32)), J, R)) (P := True) [(.aload_n 0, (0, 0, 0, 0, 0))] [] (by decide +kernel) rfl trivial ?_
    obtain ⟨r4, hc4, hf⟩ := bnd_o hf
    refine b_cV (as := []) (st := []) (by decide +kernel) k_12_586 n_MD_qEndsPart rfl (by decide) v_MD_qEndsPart (C_MD_qEndsPart (m_up (m_up r1 177 94 ((r1 177 94) - (1 : Int32))) 177 95 ((r1 177 95) - (1 : Int32))) J hR hc4) (Nat.le_of_ble_eq_true rfl) (by decide) rfl rfl (fun _ h => h) ?_
    show m_B G (m_rm 4 0 0) M_MD_qGoesOn Q 0 0 119 [some (mR (12, 0, 177)), none] [] (L, r4, J, R)
    refine b_blk (pc' := 0) (ls' := [some (mR (12, 0, 177)), none]) (st' := []) (S' := (L, r4, J, R)) (P := True) [(.goto (-119), (0, 0, 0, 0, 0))] [] (by decide +kernel) rfl trivial ?_
    cases hf
    exact hk
  · have hf := if_f h3 hf
    obtain ⟨g5, hf⟩ := gd_s hf
    refine b_blk (pc' := 103) (ls' := [some (mR (12, 0, 177)), none]) (st' := [mI 23, mI (r1 245 ((r1 177 94) - (1 : Int32)).toNatClampNeg), mR (12, 0, 177)]) (S' := (L, m_up (m_up r1 177 94 ((r1 177 94) - (1 : Int32))) 177 95 ((r1 177 95) - (1 : Int32)), J, R)) (P := ((True ∧ R 177 93 = some (20, 1700, 245)) ∧ vp_in ((r1 177 94) - (1 : Int32)) 1700)) [(.aload_n 0, (0, 0, 0, 0, 0)), (.aload_n 0, (0, 0, 0, 0, 0)), (.getfield 222, (12, 93, 3, 0, 0)), (.aload_n 0, (0, 0, 0, 0, 0)), (.getfield 318, (12, 94, 0, 0, 0)), (.iaload, (0, 0, 0, 0, 0)), (.bipush 23, (0, 0, 0, 23, 0))] [some (20, 1700, 245)] (by decide +kernel) rfl ⟨⟨trivial, (r_177_93 hR)⟩, (in_n (n := 1700) (by decide) g5.1 g5.2)⟩ ?_
    refine b_icmp_ne (off := 7) (tgt := 110) (by decide +kernel) (by decide) (fun h6 => ?_) (fun h6 => ?_)
    · have hf := if_f h6 hf
      refine b_blk (pc' := 112) (ls' := [some (mR (12, 0, 177)), none]) (st' := [mI 6, mR (12, 0, 177)]) (S' := (L, m_up (m_up r1 177 94 ((r1 177 94) - (1 : Int32))) 177 95 ((r1 177 95) - (1 : Int32)), J, R)) (P := True) [(.bipush 6, (0, 0, 0, 6, 0))] [] (by decide +kernel) rfl trivial ?_
      obtain ⟨r7, hc7, hf⟩ := bnd_o hf
      refine b_cV (as := [mI 6]) (st := []) (by decide +kernel) k_12_562 n_MD_qCode rfl (by decide) v_MD_qCode (C_MD_qCode (m_up (m_up r1 177 94 ((r1 177 94) - (1 : Int32))) 177 95 ((r1 177 95) - (1 : Int32))) J (6 : Int32) hR hc7) (Nat.le_of_ble_eq_true rfl) (by decide) rfl rfl (fun _ h => h) ?_
      show m_B G (m_rm 4 0 0) M_MD_qGoesOn Q 0 0 115 [some (mR (12, 0, 177)), none] [] (L, r7, J, R)
      refine b_blk (pc' := 116) (ls' := [some (mR (12, 0, 177)), none]) (st' := [mR (12, 0, 177)]) (S' := (L, r7, J, R)) (P := True) [(.aload_n 0, (0, 0, 0, 0, 0))] [] (by decide +kernel) rfl trivial ?_
      obtain ⟨r8, hc8, hf⟩ := bnd_o hf
      refine b_cV (as := []) (st := []) (by decide +kernel) k_12_586 n_MD_qEndsPart rfl (by decide) v_MD_qEndsPart (C_MD_qEndsPart r7 J hR hc8) (Nat.le_of_ble_eq_true rfl) (by decide) rfl rfl (fun _ h => h) ?_
      show m_B G (m_rm 4 0 0) M_MD_qGoesOn Q 0 0 119 [some (mR (12, 0, 177)), none] [] (L, r8, J, R)
      refine b_blk (pc' := 0) (ls' := [some (mR (12, 0, 177)), none]) (st' := []) (S' := (L, r8, J, R)) (P := True) [(.goto (-119), (0, 0, 0, 0, 0))] [] (by decide +kernel) rfl trivial ?_
      cases hf
      exact hk
    · have hf := if_t h6 hf
      refine b_blk (pc' := 112) (ls' := [some (mR (12, 0, 177)), none]) (st' := [mI 5, mR (12, 0, 177)]) (S' := (L, m_up (m_up r1 177 94 ((r1 177 94) - (1 : Int32))) 177 95 ((r1 177 95) - (1 : Int32)), J, R)) (P := True) [(.iconst 5, (0, 0, 0, 5, 0)), (.goto 5, (0, 112, 0, 0, 0))] [] (by decide +kernel) rfl trivial ?_
      obtain ⟨r9, hc9, hf⟩ := bnd_o hf
      refine b_cV (as := [mI 5]) (st := []) (by decide +kernel) k_12_562 n_MD_qCode rfl (by decide) v_MD_qCode (C_MD_qCode (m_up (m_up r1 177 94 ((r1 177 94) - (1 : Int32))) 177 95 ((r1 177 95) - (1 : Int32))) J (5 : Int32) hR hc9) (Nat.le_of_ble_eq_true rfl) (by decide) rfl rfl (fun _ h => h) ?_
      show m_B G (m_rm 4 0 0) M_MD_qGoesOn Q 0 0 115 [some (mR (12, 0, 177)), none] [] (L, r9, J, R)
      refine b_blk (pc' := 116) (ls' := [some (mR (12, 0, 177)), none]) (st' := [mR (12, 0, 177)]) (S' := (L, r9, J, R)) (P := True) [(.aload_n 0, (0, 0, 0, 0, 0))] [] (by decide +kernel) rfl trivial ?_
      obtain ⟨r10, hc10, hf⟩ := bnd_o hf
      refine b_cV (as := []) (st := []) (by decide +kernel) k_12_586 n_MD_qEndsPart rfl (by decide) v_MD_qEndsPart (C_MD_qEndsPart r9 J hR hc10) (Nat.le_of_ble_eq_true rfl) (by decide) rfl rfl (fun _ h => h) ?_
      show m_B G (m_rm 4 0 0) M_MD_qGoesOn Q 0 0 119 [some (mR (12, 0, 177)), none] [] (L, r10, J, R)
      refine b_blk (pc' := 0) (ls' := [some (mR (12, 0, 177)), none]) (st' := []) (S' := (L, r10, J, R)) (P := True) [(.goto (-119), (0, 0, 0, 0, 0))] [] (by decide +kernel) rfl trivial ?_
      cases hf
      exact hk
noncomputable def F_MD_qGoesOn_0 (I : MI) : Option ((MI) ⊕ (MI)) :=
  if (I 177 5) = (0 : Int32) then ((F_MD_look I).bind fun r2 => if r2.1 = (41 : Int32) then ((F_MD_qBracket r2.2).bind fun r4 => if r4 = (20 : Int32) then (F_MD_qGoesOn_43 r2.2) else ((F_MD_qBracket r2.2).bind fun r6 => if r6 = (23 : Int32) then (F_MD_qGoesOn_43 r2.2) else ((F_MD_qBracket r2.2).bind fun r8 => if r8 = (24 : Int32) then (F_MD_qGoesOn_43 r2.2) else (some (.inr r2.2))))) else (some (.inr r2.2))) else (some (.inr I))
set_option maxRecDepth 100000 in
set_option maxHeartbeats 400000 in
theorem W_MD_qGoesOn_0 {G : MG} {Q : Option MV → MS → Prop} {L : List (Nat × Nat)} {R : Nat → Nat → Option MRef} (I : MI) (J : MJ) (hR : RF R) {r : (MI) ⊕ (MI)} (hf : F_MD_qGoesOn_0 I = some r) (hk : (Sum.elim (fun s : MI => m_B G (m_rm 4 0 0) M_MD_qGoesOn Q 0 0 0 [some (mR (12, 0, 177)), none] [] (L, s, J, R)) (fun s : MI => m_B G (m_rm 4 0 0) M_MD_qGoesOn Q 0 0 122 [some (mR (12, 0, 177)), none] [] (L, s, J, R))) r) : m_B G (m_rm 4 0 0) M_MD_qGoesOn Q 0 0 0 [some (mR (12, 0, 177)), none] [] (L, I, J, R) := by
  unfold F_MD_qGoesOn_0 at hf
  refine b_blk (pc' := 4) (ls' := [some (mR (12, 0, 177)), none]) (st' := [mI (I 177 5)]) (S' := (L, I, J, R)) (P := True) [(.aload_n 0, (0, 0, 0, 0, 0)), (.getfield 234, (12, 5, 0, 0, 0))] [] (by decide +kernel) rfl trivial ?_
  refine b_if_ne (off := 118) (tgt := 122) (by decide +kernel) (by decide) (fun h1 => ?_) (fun h1 => ?_)
  · have hf := if_f h1 hf
    cases hf
    exact hk
  · have hf := if_t h1 hf
    refine b_blk (pc' := 8) (ls' := [some (mR (12, 0, 177)), none]) (st' := [mR (12, 0, 177)]) (S' := (L, I, J, R)) (P := True) [(.aload_n 0, (0, 0, 0, 0, 0))] [] (by decide +kernel) rfl trivial ?_
    obtain ⟨r2, hc2, hf⟩ := bnd_o hf
    refine b_cV (as := []) (st := []) (by decide +kernel) k_12_246 n_MD_look rfl (by decide) v_MD_look (C_MD_look I J hR hc2) (Nat.le_of_ble_eq_true rfl) (by decide) rfl rfl (fun _ h => h) ?_
    show m_B G (m_rm 4 0 0) M_MD_qGoesOn Q 0 0 11 [some (mR (12, 0, 177)), none] [mI r2.1] (L, r2.2, J, R)
    refine b_blk (pc' := 13) (ls' := [some (mR (12, 0, 177)), none]) (st' := [mI 41, mI r2.1]) (S' := (L, r2.2, J, R)) (P := True) [(.bipush 41, (0, 0, 0, 41, 0))] [] (by decide +kernel) rfl trivial ?_
    refine b_icmp_ne (off := 109) (tgt := 122) (by decide +kernel) (by decide) (fun h3 => ?_) (fun h3 => ?_)
    · have hf := if_f h3 hf
      cases hf
      exact hk
    · have hf := if_t h3 hf
      refine b_blk (pc' := 17) (ls' := [some (mR (12, 0, 177)), none]) (st' := [mR (12, 0, 177)]) (S' := (L, r2.2, J, R)) (P := True) [(.aload_n 0, (0, 0, 0, 0, 0))] [] (by decide +kernel) rfl trivial ?_
      obtain ⟨r4, hc4, hf⟩ := bnd_o hf
      refine b_cV (as := []) (st := []) (by decide +kernel) k_12_589 n_MD_qBracket rfl (by decide) v_MD_qBracket (C_MD_qBracket r2.2 J hR hc4) (Nat.le_of_ble_eq_true rfl) (by decide) rfl rfl (fun _ h => h) ?_
      show m_B G (m_rm 4 0 0) M_MD_qGoesOn Q 0 0 20 [some (mR (12, 0, 177)), none] [mI r4] (L, r2.2, J, R)
      refine b_blk (pc' := 22) (ls' := [some (mR (12, 0, 177)), none]) (st' := [mI 20, mI r4]) (S' := (L, r2.2, J, R)) (P := True) [(.bipush 20, (0, 0, 0, 20, 0))] [] (by decide +kernel) rfl trivial ?_
      refine b_icmp_eq (off := 21) (tgt := 43) (by decide +kernel) (by decide) (fun h5 => ?_) (fun h5 => ?_)
      · have hf := if_t h5 hf
        exact m_B_cg rfl rfl rfl (W_MD_qGoesOn_43 r2.2 J hR hf hk)
      · have hf := if_f h5 hf
        refine b_blk (pc' := 26) (ls' := [some (mR (12, 0, 177)), none]) (st' := [mR (12, 0, 177)]) (S' := (L, r2.2, J, R)) (P := True) [(.aload_n 0, (0, 0, 0, 0, 0))] [] (by decide +kernel) rfl trivial ?_
        obtain ⟨r6, hc6, hf⟩ := bnd_o hf
        refine b_cV (as := []) (st := []) (by decide +kernel) k_12_589 n_MD_qBracket rfl (by decide) v_MD_qBracket (C_MD_qBracket r2.2 J hR hc6) (Nat.le_of_ble_eq_true rfl) (by decide) rfl rfl (fun _ h => h) ?_
        show m_B G (m_rm 4 0 0) M_MD_qGoesOn Q 0 0 29 [some (mR (12, 0, 177)), none] [mI r6] (L, r2.2, J, R)
        refine b_blk (pc' := 31) (ls' := [some (mR (12, 0, 177)), none]) (st' := [mI 23, mI r6]) (S' := (L, r2.2, J, R)) (P := True) [(.bipush 23, (0, 0, 0, 23, 0))] [] (by decide +kernel) rfl trivial ?_
        refine b_icmp_eq (off := 12) (tgt := 43) (by decide +kernel) (by decide) (fun h7 => ?_) (fun h7 => ?_)
        · have hf := if_t h7 hf
          exact m_B_cg rfl rfl rfl (W_MD_qGoesOn_43 r2.2 J hR hf hk)
        · have hf := if_f h7 hf
          refine b_blk (pc' := 35) (ls' := [some (mR (12, 0, 177)), none]) (st' := [mR (12, 0, 177)]) (S' := (L, r2.2, J, R)) (P := True) [(.aload_n 0, (0, 0, 0, 0, 0))] [] (by decide +kernel) rfl trivial ?_
          obtain ⟨r8, hc8, hf⟩ := bnd_o hf
          refine b_cV (as := []) (st := []) (by decide +kernel) k_12_589 n_MD_qBracket rfl (by decide) v_MD_qBracket (C_MD_qBracket r2.2 J hR hc8) (Nat.le_of_ble_eq_true rfl) (by decide) rfl rfl (fun _ h => h) ?_
          show m_B G (m_rm 4 0 0) M_MD_qGoesOn Q 0 0 38 [some (mR (12, 0, 177)), none] [mI r8] (L, r2.2, J, R)
          refine b_blk (pc' := 40) (ls' := [some (mR (12, 0, 177)), none]) (st' := [mI 24, mI r8]) (S' := (L, r2.2, J, R)) (P := True) [(.bipush 24, (0, 0, 0, 24, 0))] [] (by decide +kernel) rfl trivial ?_
          refine b_icmp_ne (off := 82) (tgt := 122) (by decide +kernel) (by decide) (fun h9 => ?_) (fun h9 => ?_)
          · have hf := if_f h9 hf
            cases hf
            exact hk
          · have hf := if_t h9 hf
            exact m_B_cg rfl rfl rfl (W_MD_qGoesOn_43 r2.2 J hR hf hk)
noncomputable def F_MD_qGoesOn_162 (I : MI) (v1 : Int32) : Option ((MI) ⊕ (MI)) :=
  (F_MD_qIsOn I (3 : Int32)).bind fun r1 => if r1 = (0 : Int32) then ((F_MD_qIsOn I (4 : Int32)).bind fun r4 => if r4 = (0 : Int32) then (some (.inr I)) else ((F_MD_qDrops I).bind fun r6 => some (.inl r6))) else ((F_MD_qDrops I).bind fun r3 => some (.inl r3))
set_option maxRecDepth 100000 in
set_option maxHeartbeats 400000 in
theorem W_MD_qGoesOn_162 {G : MG} {Q : Option MV → MS → Prop} {L : List (Nat × Nat)} {R : Nat → Nat → Option MRef} (I : MI) (J : MJ) (v1 : Int32) (hR : RF R) {r : (MI) ⊕ (MI)} (hf : F_MD_qGoesOn_162 I v1 = some r) (hk : (Sum.elim (fun s : MI => m_B G (m_rm 4 0 0) M_MD_qGoesOn Q 0 0 162 [some (mR (12, 0, 177)), some (mI v1)] [] (L, s, J, R)) (fun s : MI => m_B G (m_rm 4 0 0) M_MD_qGoesOn Q 0 0 185 [some (mR (12, 0, 177)), some (mI v1)] [] (L, s, J, R))) r) : m_B G (m_rm 4 0 0) M_MD_qGoesOn Q 0 0 162 [some (mR (12, 0, 177)), some (mI v1)] [] (L, I, J, R) := by
  unfold F_MD_qGoesOn_162 at hf
  refine b_blk (pc' := 164) (ls' := [some (mR (12, 0, 177)), some (mI v1)]) (st' := [mI 3, mR (12, 0, 177)]) (S' := (L, I, J, R)) (P := True) [(.aload_n 0, (0, 0, 0, 0, 0)), (.iconst 3, (0, 0, 0, 3, 0))] [] (by decide +kernel) rfl trivial ?_
  obtain ⟨r1, hc1, hf⟩ := bnd_o hf
  refine b_cV (as := [mI 3]) (st := []) (by decide +kernel) k_12_595 n_MD_qIsOn rfl (by decide) v_MD_qIsOn (C_MD_qIsOn I J (3 : Int32) hR hc1) (Nat.le_of_ble_eq_true rfl) (by decide) rfl rfl (fun _ h => h) ?_
  show m_B G (m_rm 4 0 0) M_MD_qGoesOn Q 0 0 167 [some (mR (12, 0, 177)), some (mI v1)] [mI r1] (L, I, J, R)
  refine b_if_ne (off := 11) (tgt := 178) (by decide +kernel) (by decide) (fun h2 => ?_) (fun h2 => ?_)
  · have hf := if_f h2 hf
    refine b_blk (pc' := 179) (ls' := [some (mR (12, 0, 177)), some (mI v1)]) (st' := [mR (12, 0, 177)]) (S' := (L, I, J, R)) (P := True) [(.aload_n 0, (0, 0, 0, 0, 0))] [] (by decide +kernel) rfl trivial ?_
    obtain ⟨r3, hc3, hf⟩ := bnd_o hf
    refine b_cV (as := []) (st := []) (by decide +kernel) k_12_568 n_MD_qDrops rfl (by decide) v_MD_qDrops (C_MD_qDrops I J hR hc3) (Nat.le_of_ble_eq_true rfl) (by decide) rfl rfl (fun _ h => h) ?_
    show m_B G (m_rm 4 0 0) M_MD_qGoesOn Q 0 0 182 [some (mR (12, 0, 177)), some (mI v1)] [] (L, r3, J, R)
    refine b_blk (pc' := 162) (ls' := [some (mR (12, 0, 177)), some (mI v1)]) (st' := []) (S' := (L, r3, J, R)) (P := True) [(.goto (-20), (0, 162, 0, 0, 0))] [] (by decide +kernel) rfl trivial ?_
    cases hf
    exact hk
  · have hf := if_t h2 hf
    refine b_blk (pc' := 172) (ls' := [some (mR (12, 0, 177)), some (mI v1)]) (st' := [mI 4, mR (12, 0, 177)]) (S' := (L, I, J, R)) (P := True) [(.aload_n 0, (0, 0, 0, 0, 0)), (.iconst 4, (0, 0, 0, 4, 0))] [] (by decide +kernel) rfl trivial ?_
    obtain ⟨r4, hc4, hf⟩ := bnd_o hf
    refine b_cV (as := [mI 4]) (st := []) (by decide +kernel) k_12_595 n_MD_qIsOn rfl (by decide) v_MD_qIsOn (C_MD_qIsOn I J (4 : Int32) hR hc4) (Nat.le_of_ble_eq_true rfl) (by decide) rfl rfl (fun _ h => h) ?_
    show m_B G (m_rm 4 0 0) M_MD_qGoesOn Q 0 0 175 [some (mR (12, 0, 177)), some (mI v1)] [mI r4] (L, I, J, R)
    refine b_if_eq (off := 10) (tgt := 185) (by decide +kernel) (by decide) (fun h5 => ?_) (fun h5 => ?_)
    · have hf := if_t h5 hf
      cases hf
      exact hk
    · have hf := if_f h5 hf
      refine b_blk (pc' := 179) (ls' := [some (mR (12, 0, 177)), some (mI v1)]) (st' := [mR (12, 0, 177)]) (S' := (L, I, J, R)) (P := True) [(.aload_n 0, (0, 0, 0, 0, 0))] [] (by decide +kernel) rfl trivial ?_
      obtain ⟨r6, hc6, hf⟩ := bnd_o hf
      refine b_cV (as := []) (st := []) (by decide +kernel) k_12_568 n_MD_qDrops rfl (by decide) v_MD_qDrops (C_MD_qDrops I J hR hc6) (Nat.le_of_ble_eq_true rfl) (by decide) rfl rfl (fun _ h => h) ?_
      show m_B G (m_rm 4 0 0) M_MD_qGoesOn Q 0 0 182 [some (mR (12, 0, 177)), some (mI v1)] [] (L, r6, J, R)
      refine b_blk (pc' := 162) (ls' := [some (mR (12, 0, 177)), some (mI v1)]) (st' := []) (S' := (L, r6, J, R)) (P := True) [(.goto (-20), (0, 162, 0, 0, 0))] [] (by decide +kernel) rfl trivial ?_
      cases hf
      exact hk
noncomputable def F_MD_qGoesOn_161 (I : MI) (y0 : Int32) : Option (Int32 × MI) :=
  (wl (fun s : MI => F_MD_qGoesOn_162 s y0) I).bind fun t1 => gd (t1 177 94) 1700 <| some ((1 : Int32), m_up (m_up t1 245 ((t1 177 94).toNatClampNeg) y0) 177 94 ((t1 177 94) + (1 : Int32)))
set_option maxRecDepth 100000 in
set_option maxHeartbeats 400000 in
theorem W_MD_qGoesOn_161 {G : MG} {Q : Option MV → MS → Prop} {L : List (Nat × Nat)} {R : Nat → Nat → Option MRef} (I : MI) (J : MJ) (y0 : Int32) (hR : RF R) {r : Int32 × MI} (hf : F_MD_qGoesOn_161 I y0 = some r) (hk : (fun r : Int32 × MI => Q (some (mI r.1)) (L, r.2, J, R)) r) : m_B G (m_rm 4 0 0) M_MD_qGoesOn Q 0 0 161 [some (mR (12, 0, 177)), none] [mI y0] (L, I, J, R) := by
  unfold F_MD_qGoesOn_161 at hf
  refine b_blk (pc' := 162) (ls' := [some (mR (12, 0, 177)), some (mI y0)]) (st' := []) (S' := (L, I, J, R)) (P := True) [(.istore_n 1, (0, 0, 0, 0, 0))] [] (by decide +kernel) rfl trivial ?_
  obtain ⟨t1, hw, hf⟩ := bnd_o hf
  refine wl_B (A := fun s : MI => m_B G (m_rm 4 0 0) M_MD_qGoesOn Q 0 0 162 [some (mR (12, 0, 177)), some (mI y0)] [] (L, s, J, R)) (B := (fun s : MI => m_B G (m_rm 4 0 0) M_MD_qGoesOn Q 0 0 185 [some (mR (12, 0, 177)), some (mI y0)] [] (L, s, J, R))) (fun s r hs hr => W_MD_qGoesOn_162 s J y0 hR hs hr) hw ?_
  show m_B G (m_rm 4 0 0) M_MD_qGoesOn Q 0 0 185 [some (mR (12, 0, 177)), some (mI y0)] [] (L, t1, J, R)
  obtain ⟨g2, hf⟩ := gd_s hf
  refine b_blk (pc' := 206) (ls' := [some (mR (12, 0, 177)), some (mI y0)]) (st' := [mI 1]) (S' := (L, m_up (m_up t1 245 ((t1 177 94).toNatClampNeg) y0) 177 94 ((t1 177 94) + (1 : Int32)), J, R)) (P := ((True ∧ R 177 93 = some (20, 1700, 245)) ∧ vp_in (t1 177 94) 1700)) [(.aload_n 0, (0, 0, 0, 0, 0)), (.getfield 222, (12, 93, 3, 0, 0)), (.aload_n 0, (0, 0, 0, 0, 0)), (.getfield 318, (12, 94, 0, 0, 0)), (.iload_n 1, (0, 0, 0, 0, 0)), (.iastore, (0, 0, 0, 0, 0)), (.aload_n 0, (0, 0, 0, 0, 0)), (.dup, (0, 0, 0, 0, 0)), (.getfield 318, (12, 94, 0, 0, 0)), (.iconst 1, (0, 0, 0, 1, 0)), (.iadd, (0, 0, 0, 0, 0)), (.putfield 318, (12, 94, 0, 0, 0)), (.iconst 1, (0, 0, 0, 1, 0))] [some (20, 1700, 245)] (by decide +kernel) rfl ⟨⟨trivial, (r_177_93 hR)⟩, (in_n (n := 1700) (by decide) g2.1 g2.2)⟩ ?_
  cases hf
  exact b_zret (by decide +kernel) rfl (by decide) hk
noncomputable def F_MD_qGoesOn_140 (I : MI) : Option (Int32 × MI) :=
  gd ((I 177 2) - (1 : Int32)) 1600 <| if (I 178 ((I 177 2) - (1 : Int32)).toNatClampNeg) = (42 : Int32) then (F_MD_qGoesOn_161 I (3 : Int32)) else (F_MD_qGoesOn_161 I (4 : Int32))
set_option maxRecDepth 100000 in
set_option maxHeartbeats 400000 in
theorem W_MD_qGoesOn_140 {G : MG} {Q : Option MV → MS → Prop} {L : List (Nat × Nat)} {R : Nat → Nat → Option MRef} (I : MI) (J : MJ) (hR : RF R) {r : Int32 × MI} (hf : F_MD_qGoesOn_140 I = some r) (hk : (fun r : Int32 × MI => Q (some (mI r.1)) (L, r.2, J, R)) r) : m_B G (m_rm 4 0 0) M_MD_qGoesOn Q 0 0 140 [some (mR (12, 0, 177)), none] [] (L, I, J, R) := by
  unfold F_MD_qGoesOn_140 at hf
  obtain ⟨g1, hf⟩ := gd_s hf
  refine b_blk (pc' := 153) (ls' := [some (mR (12, 0, 177)), none]) (st' := [mI 42, mI (I 178 ((I 177 2) - (1 : Int32)).toNatClampNeg)]) (S' := (L, I, J, R)) (P := ((True ∧ R 177 0 = some (20, 1600, 178)) ∧ vp_in ((I 177 2) - (1 : Int32)) 1600)) [(.aload_n 0, (0, 0, 0, 0, 0)), (.getfield 7, (12, 0, 3, 0, 0)), (.aload_n 0, (0, 0, 0, 0, 0)), (.getfield 240, (12, 2, 0, 0, 0)), (.iconst 1, (0, 0, 0, 1, 0)), (.isub, (0, 0, 0, 0, 0)), (.iaload, (0, 0, 0, 0, 0)), (.bipush 42, (0, 0, 0, 42, 0))] [some (20, 1600, 178)] (by decide +kernel) rfl ⟨⟨trivial, (r_177_0 hR)⟩, (in_n (n := 1600) (by decide) g1.1 g1.2)⟩ ?_
  refine b_icmp_ne (off := 7) (tgt := 160) (by decide +kernel) (by decide) (fun h2 => ?_) (fun h2 => ?_)
  · have hf := if_f h2 hf
    refine b_blk (pc' := 161) (ls' := [some (mR (12, 0, 177)), none]) (st' := [mI 4]) (S' := (L, I, J, R)) (P := True) [(.iconst 4, (0, 0, 0, 4, 0))] [] (by decide +kernel) rfl trivial ?_
    exact m_B_cg rfl rfl rfl (W_MD_qGoesOn_161 I J (4 : Int32) hR hf hk)
  · have hf := if_t h2 hf
    refine b_blk (pc' := 161) (ls' := [some (mR (12, 0, 177)), none]) (st' := [mI 3]) (S' := (L, I, J, R)) (P := True) [(.iconst 3, (0, 0, 0, 3, 0)), (.goto 4, (0, 161, 0, 0, 0))] [] (by decide +kernel) rfl trivial ?_
    exact m_B_cg rfl rfl rfl (W_MD_qGoesOn_161 I J (3 : Int32) hR hf hk)
noncomputable def F_MD_qGoesOn_247 (I : MI) (v1 : Int32) : Option ((MI) ⊕ (MI)) :=
  (F_MD_qIsOn I (3 : Int32)).bind fun r1 => if r1 = (0 : Int32) then ((F_MD_qIsOn I (4 : Int32)).bind fun r4 => if r4 = (0 : Int32) then ((F_MD_qIsOn I (1 : Int32)).bind fun r7 => if r7 = (0 : Int32) then ((F_MD_qIsOn I (2 : Int32)).bind fun r10 => if r10 = (0 : Int32) then (some (.inr I)) else ((F_MD_qDrops I).bind fun r12 => some (.inl r12))) else ((F_MD_qDrops I).bind fun r9 => some (.inl r9))) else ((F_MD_qDrops I).bind fun r6 => some (.inl r6))) else ((F_MD_qDrops I).bind fun r3 => some (.inl r3))
set_option maxRecDepth 100000 in
set_option maxHeartbeats 400000 in
theorem W_MD_qGoesOn_247 {G : MG} {Q : Option MV → MS → Prop} {L : List (Nat × Nat)} {R : Nat → Nat → Option MRef} (I : MI) (J : MJ) (v1 : Int32) (hR : RF R) {r : (MI) ⊕ (MI)} (hf : F_MD_qGoesOn_247 I v1 = some r) (hk : (Sum.elim (fun s : MI => m_B G (m_rm 4 0 0) M_MD_qGoesOn Q 0 0 247 [some (mR (12, 0, 177)), some (mI v1)] [] (L, s, J, R)) (fun s : MI => m_B G (m_rm 4 0 0) M_MD_qGoesOn Q 0 0 286 [some (mR (12, 0, 177)), some (mI v1)] [] (L, s, J, R))) r) : m_B G (m_rm 4 0 0) M_MD_qGoesOn Q 0 0 247 [some (mR (12, 0, 177)), some (mI v1)] [] (L, I, J, R) := by
  unfold F_MD_qGoesOn_247 at hf
  refine b_blk (pc' := 249) (ls' := [some (mR (12, 0, 177)), some (mI v1)]) (st' := [mI 3, mR (12, 0, 177)]) (S' := (L, I, J, R)) (P := True) [(.aload_n 0, (0, 0, 0, 0, 0)), (.iconst 3, (0, 0, 0, 3, 0))] [] (by decide +kernel) rfl trivial ?_
  obtain ⟨r1, hc1, hf⟩ := bnd_o hf
  refine b_cV (as := [mI 3]) (st := []) (by decide +kernel) k_12_595 n_MD_qIsOn rfl (by decide) v_MD_qIsOn (C_MD_qIsOn I J (3 : Int32) hR hc1) (Nat.le_of_ble_eq_true rfl) (by decide) rfl rfl (fun _ h => h) ?_
  show m_B G (m_rm 4 0 0) M_MD_qGoesOn Q 0 0 252 [some (mR (12, 0, 177)), some (mI v1)] [mI r1] (L, I, J, R)
  refine b_if_ne (off := 27) (tgt := 279) (by decide +kernel) (by decide) (fun h2 => ?_) (fun h2 => ?_)
  · have hf := if_f h2 hf
    refine b_blk (pc' := 280) (ls' := [some (mR (12, 0, 177)), some (mI v1)]) (st' := [mR (12, 0, 177)]) (S' := (L, I, J, R)) (P := True) [(.aload_n 0, (0, 0, 0, 0, 0))] [] (by decide +kernel) rfl trivial ?_
    obtain ⟨r3, hc3, hf⟩ := bnd_o hf
    refine b_cV (as := []) (st := []) (by decide +kernel) k_12_568 n_MD_qDrops rfl (by decide) v_MD_qDrops (C_MD_qDrops I J hR hc3) (Nat.le_of_ble_eq_true rfl) (by decide) rfl rfl (fun _ h => h) ?_
    show m_B G (m_rm 4 0 0) M_MD_qGoesOn Q 0 0 283 [some (mR (12, 0, 177)), some (mI v1)] [] (L, r3, J, R)
    refine b_blk (pc' := 247) (ls' := [some (mR (12, 0, 177)), some (mI v1)]) (st' := []) (S' := (L, r3, J, R)) (P := True) [(.goto (-36), (0, 247, 0, 0, 0))] [] (by decide +kernel) rfl trivial ?_
    cases hf
    exact hk
  · have hf := if_t h2 hf
    refine b_blk (pc' := 257) (ls' := [some (mR (12, 0, 177)), some (mI v1)]) (st' := [mI 4, mR (12, 0, 177)]) (S' := (L, I, J, R)) (P := True) [(.aload_n 0, (0, 0, 0, 0, 0)), (.iconst 4, (0, 0, 0, 4, 0))] [] (by decide +kernel) rfl trivial ?_
    obtain ⟨r4, hc4, hf⟩ := bnd_o hf
    refine b_cV (as := [mI 4]) (st := []) (by decide +kernel) k_12_595 n_MD_qIsOn rfl (by decide) v_MD_qIsOn (C_MD_qIsOn I J (4 : Int32) hR hc4) (Nat.le_of_ble_eq_true rfl) (by decide) rfl rfl (fun _ h => h) ?_
    show m_B G (m_rm 4 0 0) M_MD_qGoesOn Q 0 0 260 [some (mR (12, 0, 177)), some (mI v1)] [mI r4] (L, I, J, R)
    refine b_if_ne (off := 19) (tgt := 279) (by decide +kernel) (by decide) (fun h5 => ?_) (fun h5 => ?_)
    · have hf := if_f h5 hf
      refine b_blk (pc' := 280) (ls' := [some (mR (12, 0, 177)), some (mI v1)]) (st' := [mR (12, 0, 177)]) (S' := (L, I, J, R)) (P := True) [(.aload_n 0, (0, 0, 0, 0, 0))] [] (by decide +kernel) rfl trivial ?_
      obtain ⟨r6, hc6, hf⟩ := bnd_o hf
      refine b_cV (as := []) (st := []) (by decide +kernel) k_12_568 n_MD_qDrops rfl (by decide) v_MD_qDrops (C_MD_qDrops I J hR hc6) (Nat.le_of_ble_eq_true rfl) (by decide) rfl rfl (fun _ h => h) ?_
      show m_B G (m_rm 4 0 0) M_MD_qGoesOn Q 0 0 283 [some (mR (12, 0, 177)), some (mI v1)] [] (L, r6, J, R)
      refine b_blk (pc' := 247) (ls' := [some (mR (12, 0, 177)), some (mI v1)]) (st' := []) (S' := (L, r6, J, R)) (P := True) [(.goto (-36), (0, 247, 0, 0, 0))] [] (by decide +kernel) rfl trivial ?_
      cases hf
      exact hk
    · have hf := if_t h5 hf
      refine b_blk (pc' := 265) (ls' := [some (mR (12, 0, 177)), some (mI v1)]) (st' := [mI 1, mR (12, 0, 177)]) (S' := (L, I, J, R)) (P := True) [(.aload_n 0, (0, 0, 0, 0, 0)), (.iconst 1, (0, 0, 0, 1, 0))] [] (by decide +kernel) rfl trivial ?_
      obtain ⟨r7, hc7, hf⟩ := bnd_o hf
      refine b_cV (as := [mI 1]) (st := []) (by decide +kernel) k_12_595 n_MD_qIsOn rfl (by decide) v_MD_qIsOn (C_MD_qIsOn I J (1 : Int32) hR hc7) (Nat.le_of_ble_eq_true rfl) (by decide) rfl rfl (fun _ h => h) ?_
      show m_B G (m_rm 4 0 0) M_MD_qGoesOn Q 0 0 268 [some (mR (12, 0, 177)), some (mI v1)] [mI r7] (L, I, J, R)
      refine b_if_ne (off := 11) (tgt := 279) (by decide +kernel) (by decide) (fun h8 => ?_) (fun h8 => ?_)
      · have hf := if_f h8 hf
        refine b_blk (pc' := 280) (ls' := [some (mR (12, 0, 177)), some (mI v1)]) (st' := [mR (12, 0, 177)]) (S' := (L, I, J, R)) (P := True) [(.aload_n 0, (0, 0, 0, 0, 0))] [] (by decide +kernel) rfl trivial ?_
        obtain ⟨r9, hc9, hf⟩ := bnd_o hf
        refine b_cV (as := []) (st := []) (by decide +kernel) k_12_568 n_MD_qDrops rfl (by decide) v_MD_qDrops (C_MD_qDrops I J hR hc9) (Nat.le_of_ble_eq_true rfl) (by decide) rfl rfl (fun _ h => h) ?_
        show m_B G (m_rm 4 0 0) M_MD_qGoesOn Q 0 0 283 [some (mR (12, 0, 177)), some (mI v1)] [] (L, r9, J, R)
        refine b_blk (pc' := 247) (ls' := [some (mR (12, 0, 177)), some (mI v1)]) (st' := []) (S' := (L, r9, J, R)) (P := True) [(.goto (-36), (0, 247, 0, 0, 0))] [] (by decide +kernel) rfl trivial ?_
        cases hf
        exact hk
      · have hf := if_t h8 hf
        refine b_blk (pc' := 273) (ls' := [some (mR (12, 0, 177)), some (mI v1)]) (st' := [mI 2, mR (12, 0, 177)]) (S' := (L, I, J, R)) (P := True) [(.aload_n 0, (0, 0, 0, 0, 0)), (.iconst 2, (0, 0, 0, 2, 0))] [] (by decide +kernel) rfl trivial ?_
        obtain ⟨r10, hc10, hf⟩ := bnd_o hf
        refine b_cV (as := [mI 2]) (st := []) (by decide +kernel) k_12_595 n_MD_qIsOn rfl (by decide) v_MD_qIsOn (C_MD_qIsOn I J (2 : Int32) hR hc10) (Nat.le_of_ble_eq_true rfl) (by decide) rfl rfl (fun _ h => h) ?_
        show m_B G (m_rm 4 0 0) M_MD_qGoesOn Q 0 0 276 [some (mR (12, 0, 177)), some (mI v1)] [mI r10] (L, I, J, R)
        refine b_if_eq (off := 10) (tgt := 286) (by decide +kernel) (by decide) (fun h11 => ?_) (fun h11 => ?_)
        · have hf := if_t h11 hf
          cases hf
          exact hk
        · have hf := if_f h11 hf
          refine b_blk (pc' := 280) (ls' := [some (mR (12, 0, 177)), some (mI v1)]) (st' := [mR (12, 0, 177)]) (S' := (L, I, J, R)) (P := True) [(.aload_n 0, (0, 0, 0, 0, 0))] [] (by decide +kernel) rfl trivial ?_
          obtain ⟨r12, hc12, hf⟩ := bnd_o hf
          refine b_cV (as := []) (st := []) (by decide +kernel) k_12_568 n_MD_qDrops rfl (by decide) v_MD_qDrops (C_MD_qDrops I J hR hc12) (Nat.le_of_ble_eq_true rfl) (by decide) rfl rfl (fun _ h => h) ?_
          show m_B G (m_rm 4 0 0) M_MD_qGoesOn Q 0 0 283 [some (mR (12, 0, 177)), some (mI v1)] [] (L, r12, J, R)
          refine b_blk (pc' := 247) (ls' := [some (mR (12, 0, 177)), some (mI v1)]) (st' := []) (S' := (L, r12, J, R)) (P := True) [(.goto (-36), (0, 247, 0, 0, 0))] [] (by decide +kernel) rfl trivial ?_
          cases hf
          exact hk
noncomputable def F_MD_qGoesOn_246 (I : MI) (y0 : Int32) : Option (Int32 × MI) :=
  (wl (fun s : MI => F_MD_qGoesOn_247 s y0) I).bind fun t1 => gd (t1 177 94) 1700 <| some ((1 : Int32), m_up (m_up t1 245 ((t1 177 94).toNatClampNeg) y0) 177 94 ((t1 177 94) + (1 : Int32)))
set_option maxRecDepth 100000 in
set_option maxHeartbeats 400000 in
theorem W_MD_qGoesOn_246 {G : MG} {Q : Option MV → MS → Prop} {L : List (Nat × Nat)} {R : Nat → Nat → Option MRef} (I : MI) (J : MJ) (y0 : Int32) (hR : RF R) {r : Int32 × MI} (hf : F_MD_qGoesOn_246 I y0 = some r) (hk : (fun r : Int32 × MI => Q (some (mI r.1)) (L, r.2, J, R)) r) : m_B G (m_rm 4 0 0) M_MD_qGoesOn Q 0 0 246 [some (mR (12, 0, 177)), none] [mI y0] (L, I, J, R) := by
  unfold F_MD_qGoesOn_246 at hf
  refine b_blk (pc' := 247) (ls' := [some (mR (12, 0, 177)), some (mI y0)]) (st' := []) (S' := (L, I, J, R)) (P := True) [(.istore_n 1, (0, 0, 0, 0, 0))] [] (by decide +kernel) rfl trivial ?_
  obtain ⟨t1, hw, hf⟩ := bnd_o hf
  refine wl_B (A := fun s : MI => m_B G (m_rm 4 0 0) M_MD_qGoesOn Q 0 0 247 [some (mR (12, 0, 177)), some (mI y0)] [] (L, s, J, R)) (B := (fun s : MI => m_B G (m_rm 4 0 0) M_MD_qGoesOn Q 0 0 286 [some (mR (12, 0, 177)), some (mI y0)] [] (L, s, J, R))) (fun s r hs hr => W_MD_qGoesOn_247 s J y0 hR hs hr) hw ?_
  show m_B G (m_rm 4 0 0) M_MD_qGoesOn Q 0 0 286 [some (mR (12, 0, 177)), some (mI y0)] [] (L, t1, J, R)
  obtain ⟨g2, hf⟩ := gd_s hf
  refine b_blk (pc' := 307) (ls' := [some (mR (12, 0, 177)), some (mI y0)]) (st' := [mI 1]) (S' := (L, m_up (m_up t1 245 ((t1 177 94).toNatClampNeg) y0) 177 94 ((t1 177 94) + (1 : Int32)), J, R)) (P := ((True ∧ R 177 93 = some (20, 1700, 245)) ∧ vp_in (t1 177 94) 1700)) [(.aload_n 0, (0, 0, 0, 0, 0)), (.getfield 222, (12, 93, 3, 0, 0)), (.aload_n 0, (0, 0, 0, 0, 0)), (.getfield 318, (12, 94, 0, 0, 0)), (.iload_n 1, (0, 0, 0, 0, 0)), (.iastore, (0, 0, 0, 0, 0)), (.aload_n 0, (0, 0, 0, 0, 0)), (.dup, (0, 0, 0, 0, 0)), (.getfield 318, (12, 94, 0, 0, 0)), (.iconst 1, (0, 0, 0, 1, 0)), (.iadd, (0, 0, 0, 0, 0)), (.putfield 318, (12, 94, 0, 0, 0)), (.iconst 1, (0, 0, 0, 1, 0))] [some (20, 1700, 245)] (by decide +kernel) rfl ⟨⟨trivial, (r_177_93 hR)⟩, (in_n (n := 1700) (by decide) g2.1 g2.2)⟩ ?_
  cases hf
  exact b_zret (by decide +kernel) rfl (by decide) hk
noncomputable def F_MD_qGoesOn_225 (I : MI) : Option (Int32 × MI) :=
  gd ((I 177 2) - (1 : Int32)) 1600 <| if (I 178 ((I 177 2) - (1 : Int32)).toNatClampNeg) = (43 : Int32) then (F_MD_qGoesOn_246 I (1 : Int32)) else (F_MD_qGoesOn_246 I (2 : Int32))
set_option maxRecDepth 100000 in
set_option maxHeartbeats 400000 in
theorem W_MD_qGoesOn_225 {G : MG} {Q : Option MV → MS → Prop} {L : List (Nat × Nat)} {R : Nat → Nat → Option MRef} (I : MI) (J : MJ) (hR : RF R) {r : Int32 × MI} (hf : F_MD_qGoesOn_225 I = some r) (hk : (fun r : Int32 × MI => Q (some (mI r.1)) (L, r.2, J, R)) r) : m_B G (m_rm 4 0 0) M_MD_qGoesOn Q 0 0 225 [some (mR (12, 0, 177)), none] [] (L, I, J, R) := by
  unfold F_MD_qGoesOn_225 at hf
  obtain ⟨g1, hf⟩ := gd_s hf
  refine b_blk (pc' := 238) (ls' := [some (mR (12, 0, 177)), none]) (st' := [mI 43, mI (I 178 ((I 177 2) - (1 : Int32)).toNatClampNeg)]) (S' := (L, I, J, R)) (P := ((True ∧ R 177 0 = some (20, 1600, 178)) ∧ vp_in ((I 177 2) - (1 : Int32)) 1600)) [(.aload_n 0, (0, 0, 0, 0, 0)), (.getfield 7, (12, 0, 3, 0, 0)), (.aload_n 0, (0, 0, 0, 0, 0)), (.getfield 240, (12, 2, 0, 0, 0)), (.iconst 1, (0, 0, 0, 1, 0)), (.isub, (0, 0, 0, 0, 0)), (.iaload, (0, 0, 0, 0, 0)), (.bipush 43, (0, 0, 0, 43, 0))] [some (20, 1600, 178)] (by decide +kernel) rfl ⟨⟨trivial, (r_177_0 hR)⟩, (in_n (n := 1600) (by decide) g1.1 g1.2)⟩ ?_
  refine b_icmp_ne (off := 7) (tgt := 245) (by decide +kernel) (by decide) (fun h2 => ?_) (fun h2 => ?_)
  · have hf := if_f h2 hf
    refine b_blk (pc' := 246) (ls' := [some (mR (12, 0, 177)), none]) (st' := [mI 2]) (S' := (L, I, J, R)) (P := True) [(.iconst 2, (0, 0, 0, 2, 0))] [] (by decide +kernel) rfl trivial ?_
    exact m_B_cg rfl rfl rfl (W_MD_qGoesOn_246 I J (2 : Int32) hR hf hk)
  · have hf := if_t h2 hf
    refine b_blk (pc' := 246) (ls' := [some (mR (12, 0, 177)), none]) (st' := [mI 1]) (S' := (L, I, J, R)) (P := True) [(.iconst 1, (0, 0, 0, 1, 0)), (.goto 4, (0, 246, 0, 0, 0))] [] (by decide +kernel) rfl trivial ?_
    exact m_B_cg rfl rfl rfl (W_MD_qGoesOn_246 I J (1 : Int32) hR hf hk)
noncomputable def F_MD_qGoesOn_326 (I : MI) : Option (Int32 × MI) :=
  (F_MD_asksSign I (44 : Int32)).bind fun r1 => if (r1 177 5) = (0 : Int32) then ((F_MD_qDropsToBracket r1).bind fun r3 => gd ((r3 177 94) - (1 : Int32)) 1700 <| gd ((r3 177 94) - (1 : Int32)) 1700 <| bnd (m_up r3 245 (((r3 177 94) - (1 : Int32)).toNatClampNeg) ((r3 245 ((r3 177 94) - (1 : Int32)).toNatClampNeg) + (2 : Int32)) : MI) fun x6 => some ((1 : Int32), x6)) else (some ((0 : Int32), r1))
set_option maxRecDepth 100000 in
set_option maxHeartbeats 400000 in
theorem W_MD_qGoesOn_326 {G : MG} {Q : Option MV → MS → Prop} {L : List (Nat × Nat)} {R : Nat → Nat → Option MRef} (I : MI) (J : MJ) (hR : RF R) {r : Int32 × MI} (hf : F_MD_qGoesOn_326 I = some r) (hk : (fun r : Int32 × MI => Q (some (mI r.1)) (L, r.2, J, R)) r) : m_B G (m_rm 4 0 0) M_MD_qGoesOn Q 0 0 326 [some (mR (12, 0, 177)), none] [] (L, I, J, R) := by
  unfold F_MD_qGoesOn_326 at hf
  refine b_blk (pc' := 329) (ls' := [some (mR (12, 0, 177)), none]) (st' := [mI 44, mR (12, 0, 177)]) (S' := (L, I, J, R)) (P := True) [(.aload_n 0, (0, 0, 0, 0, 0)), (.bipush 44, (0, 0, 0, 44, 0))] [] (by decide +kernel) rfl trivial ?_
  obtain ⟨r1, hc1, hf⟩ := bnd_o hf
  refine b_cV (as := [mI 44]) (st := []) (by decide +kernel) k_12_303 n_MD_asksSign rfl (by decide) v_MD_asksSign (C_MD_asksSign I J (44 : Int32) hR hc1) (Nat.le_of_ble_eq_true rfl) (by decide) rfl rfl (fun _ h => h) ?_
  show m_B G (m_rm 4 0 0) M_MD_qGoesOn Q 0 0 332 [some (mR (12, 0, 177)), none] [] (L, r1, J, R)
  refine b_blk (pc' := 336) (ls' := [some (mR (12, 0, 177)), none]) (st' := [mI (r1 177 5)]) (S' := (L, r1, J, R)) (P := True) [(.aload_n 0, (0, 0, 0, 0, 0)), (.getfield 234, (12, 5, 0, 0, 0))] [] (by decide +kernel) rfl trivial ?_
  refine b_if_eq (off := 5) (tgt := 341) (by decide +kernel) (by decide) (fun h2 => ?_) (fun h2 => ?_)
  · have hf := if_t h2 hf
    refine b_blk (pc' := 342) (ls' := [some (mR (12, 0, 177)), none]) (st' := [mR (12, 0, 177)]) (S' := (L, r1, J, R)) (P := True) [(.aload_n 0, (0, 0, 0, 0, 0))] [] (by decide +kernel) rfl trivial ?_
    obtain ⟨r3, hc3, hf⟩ := bnd_o hf
    refine b_cV (as := []) (st := []) (by decide +kernel) k_12_592 n_MD_qDropsToBracket rfl (by decide) v_MD_qDropsToBracket (C_MD_qDropsToBracket r1 J hR hc3) (Nat.le_of_ble_eq_true rfl) (by decide) rfl rfl (fun _ h => h) ?_
    show m_B G (m_rm 4 0 0) M_MD_qGoesOn Q 0 0 345 [some (mR (12, 0, 177)), none] [] (L, r3, J, R)
    obtain ⟨g4, hf⟩ := gd_s hf
    obtain ⟨g5, hf⟩ := gd_s hf
    refine b_blk (pc' := 361) (ls' := [some (mR (12, 0, 177)), none]) (st' := [mI 1]) (S' := (L, m_up r3 245 (((r3 177 94) - (1 : Int32)).toNatClampNeg) ((r3 245 ((r3 177 94) - (1 : Int32)).toNatClampNeg) + (2 : Int32)), J, R)) (P := (((True ∧ R 177 93 = some (20, 1700, 245)) ∧ vp_in ((r3 177 94) - (1 : Int32)) 1700) ∧ vp_in ((r3 177 94) - (1 : Int32)) 1700)) [(.aload_n 0, (0, 0, 0, 0, 0)), (.getfield 222, (12, 93, 3, 0, 0)), (.aload_n 0, (0, 0, 0, 0, 0)), (.getfield 318, (12, 94, 0, 0, 0)), (.iconst 1, (0, 0, 0, 1, 0)), (.isub, (0, 0, 0, 0, 0)), (.dup2, (0, 0, 0, 0, 0)), (.iaload, (0, 0, 0, 0, 0)), (.iconst 2, (0, 0, 0, 2, 0)), (.iadd, (0, 0, 0, 0, 0)), (.iastore, (0, 0, 0, 0, 0)), (.iconst 1, (0, 0, 0, 1, 0))] [some (20, 1700, 245)] (by decide +kernel) rfl ⟨⟨⟨trivial, (r_177_93 hR)⟩, (in_n (n := 1700) (by decide) g4.1 g4.2)⟩, (in_n (n := 1700) (by decide) g5.1 g5.2)⟩ ?_
    obtain ⟨x6, ex6, hf⟩ := bnd_s hf
    refine m_B_cg (ls' := [some (mR (12, 0, 177)), none]) (st' := [mI 1]) (S' := (L, x6, J, R)) (by first | with_reducible rfl | rw [ex6]) (by first | with_reducible rfl | rw [ex6]) (by first | with_reducible rfl | rw [ex6]) ?_
    cases hf
    exact b_zret (by decide +kernel) rfl (by decide) hk
  · have hf := if_f h2 hf
    refine b_blk (pc' := 340) (ls' := [some (mR (12, 0, 177)), none]) (st' := [mI 0]) (S' := (L, r1, J, R)) (P := True) [(.iconst 0, (0, 0, 0, 0, 0))] [] (by decide +kernel) rfl trivial ?_
    cases hf
    exact b_zret (by decide +kernel) rfl (by decide) hk
noncomputable def F_MD_qGoesOn_122 (I : MI) : Option (Int32 × MI) :=
  (F_MD_takesSign I (42 : Int32)).bind fun r1 => if r1.1 = (0 : Int32) then ((F_MD_takesSign r1.2 (47 : Int32)).bind fun r3 => if r3.1 = (0 : Int32) then ((F_MD_takesSign r3.2 (43 : Int32)).bind fun r5 => if r5.1 = (0 : Int32) then ((F_MD_takesSign r5.2 (45 : Int32)).bind fun r7 => if r7.1 = (0 : Int32) then ((F_MD_qBracket r7.2).bind fun r9 => if r9 = (21 : Int32) then (F_MD_qGoesOn_326 r7.2) else ((F_MD_qBracket r7.2).bind fun r11 => if r11 = (22 : Int32) then (F_MD_qGoesOn_326 r7.2) else ((F_MD_qBracket r7.2).bind fun r13 => if r13 = (-1 : Int32) then (some ((0 : Int32), r7.2)) else (if (r7.2 177 5) = (0 : Int32) then ((F_MD_fail r7.2 (1 : Int32) (r7.2 177 2)).bind fun r16 => some ((0 : Int32), r16)) else (some ((0 : Int32), r7.2)))))) else (F_MD_qGoesOn_225 r7.2)) else (F_MD_qGoesOn_225 r5.2)) else (F_MD_qGoesOn_140 r3.2)) else (F_MD_qGoesOn_140 r1.2)
set_option maxRecDepth 100000 in
set_option maxHeartbeats 400000 in
theorem W_MD_qGoesOn_122 {G : MG} {Q : Option MV → MS → Prop} {L : List (Nat × Nat)} {R : Nat → Nat → Option MRef} (I : MI) (J : MJ) (hR : RF R) {r : Int32 × MI} (hf : F_MD_qGoesOn_122 I = some r) (hk : (fun r : Int32 × MI => Q (some (mI r.1)) (L, r.2, J, R)) r) : m_B G (m_rm 4 0 0) M_MD_qGoesOn Q 0 0 122 [some (mR (12, 0, 177)), none] [] (L, I, J, R) := by
  unfold F_MD_qGoesOn_122 at hf
  refine b_blk (pc' := 125) (ls' := [some (mR (12, 0, 177)), none]) (st' := [mI 42, mR (12, 0, 177)]) (S' := (L, I, J, R)) (P := True) [(.aload_n 0, (0, 0, 0, 0, 0)), (.bipush 42, (0, 0, 0, 42, 0))] [] (by decide +kernel) rfl trivial ?_
  obtain ⟨r1, hc1, hf⟩ := bnd_o hf
  refine b_cV (as := [mI 42]) (st := []) (by decide +kernel) k_12_268 n_MD_takesSign rfl (by decide) v_MD_takesSign (C_MD_takesSign I J (42 : Int32) hR hc1) (Nat.le_of_ble_eq_true rfl) (by decide) rfl rfl (fun _ h => h) ?_
  show m_B G (m_rm 4 0 0) M_MD_qGoesOn Q 0 0 128 [some (mR (12, 0, 177)), none] [mI r1.1] (L, r1.2, J, R)
  refine b_if_ne (off := 12) (tgt := 140) (by decide +kernel) (by decide) (fun h2 => ?_) (fun h2 => ?_)
  · have hf := if_f h2 hf
    exact m_B_cg rfl rfl rfl (W_MD_qGoesOn_140 r1.2 J hR hf hk)
  · have hf := if_t h2 hf
    refine b_blk (pc' := 134) (ls' := [some (mR (12, 0, 177)), none]) (st' := [mI 47, mR (12, 0, 177)]) (S' := (L, r1.2, J, R)) (P := True) [(.aload_n 0, (0, 0, 0, 0, 0)), (.bipush 47, (0, 0, 0, 47, 0))] [] (by decide +kernel) rfl trivial ?_
    obtain ⟨r3, hc3, hf⟩ := bnd_o hf
    refine b_cV (as := [mI 47]) (st := []) (by decide +kernel) k_12_268 n_MD_takesSign rfl (by decide) v_MD_takesSign (C_MD_takesSign r1.2 J (47 : Int32) hR hc3) (Nat.le_of_ble_eq_true rfl) (by decide) rfl rfl (fun _ h => h) ?_
    show m_B G (m_rm 4 0 0) M_MD_qGoesOn Q 0 0 137 [some (mR (12, 0, 177)), none] [mI r3.1] (L, r3.2, J, R)
    refine b_if_eq (off := 70) (tgt := 207) (by decide +kernel) (by decide) (fun h4 => ?_) (fun h4 => ?_)
    · have hf := if_t h4 hf
      refine b_blk (pc' := 210) (ls' := [some (mR (12, 0, 177)), none]) (st' := [mI 43, mR (12, 0, 177)]) (S' := (L, r3.2, J, R)) (P := True) [(.aload_n 0, (0, 0, 0, 0, 0)), (.bipush 43, (0, 0, 0, 43, 0))] [] (by decide +kernel) rfl trivial ?_
      obtain ⟨r5, hc5, hf⟩ := bnd_o hf
      refine b_cV (as := [mI 43]) (st := []) (by decide +kernel) k_12_268 n_MD_takesSign rfl (by decide) v_MD_takesSign (C_MD_takesSign r3.2 J (43 : Int32) hR hc5) (Nat.le_of_ble_eq_true rfl) (by decide) rfl rfl (fun _ h => h) ?_
      show m_B G (m_rm 4 0 0) M_MD_qGoesOn Q 0 0 213 [some (mR (12, 0, 177)), none] [mI r5.1] (L, r5.2, J, R)
      refine b_if_ne (off := 12) (tgt := 225) (by decide +kernel) (by decide) (fun h6 => ?_) (fun h6 => ?_)
      · have hf := if_f h6 hf
        exact m_B_cg rfl rfl rfl (W_MD_qGoesOn_225 r5.2 J hR hf hk)
      · have hf := if_t h6 hf
        refine b_blk (pc' := 219) (ls' := [some (mR (12, 0, 177)), none]) (st' := [mI 45, mR (12, 0, 177)]) (S' := (L, r5.2, J, R)) (P := True) [(.aload_n 0, (0, 0, 0, 0, 0)), (.bipush 45, (0, 0, 0, 45, 0))] [] (by decide +kernel) rfl trivial ?_
        obtain ⟨r7, hc7, hf⟩ := bnd_o hf
        refine b_cV (as := [mI 45]) (st := []) (by decide +kernel) k_12_268 n_MD_takesSign rfl (by decide) v_MD_takesSign (C_MD_takesSign r5.2 J (45 : Int32) hR hc7) (Nat.le_of_ble_eq_true rfl) (by decide) rfl rfl (fun _ h => h) ?_
        show m_B G (m_rm 4 0 0) M_MD_qGoesOn Q 0 0 222 [some (mR (12, 0, 177)), none] [mI r7.1] (L, r7.2, J, R)
        refine b_if_eq (off := 86) (tgt := 308) (by decide +kernel) (by decide) (fun h8 => ?_) (fun h8 => ?_)
        · have hf := if_t h8 hf
          refine b_blk (pc' := 309) (ls' := [some (mR (12, 0, 177)), none]) (st' := [mR (12, 0, 177)]) (S' := (L, r7.2, J, R)) (P := True) [(.aload_n 0, (0, 0, 0, 0, 0))] [] (by decide +kernel) rfl trivial ?_
          obtain ⟨r9, hc9, hf⟩ := bnd_o hf
          refine b_cV (as := []) (st := []) (by decide +kernel) k_12_589 n_MD_qBracket rfl (by decide) v_MD_qBracket (C_MD_qBracket r7.2 J hR hc9) (Nat.le_of_ble_eq_true rfl) (by decide) rfl rfl (fun _ h => h) ?_
          show m_B G (m_rm 4 0 0) M_MD_qGoesOn Q 0 0 312 [some (mR (12, 0, 177)), none] [mI r9] (L, r7.2, J, R)
          refine b_blk (pc' := 314) (ls' := [some (mR (12, 0, 177)), none]) (st' := [mI 21, mI r9]) (S' := (L, r7.2, J, R)) (P := True) [(.bipush 21, (0, 0, 0, 21, 0))] [] (by decide +kernel) rfl trivial ?_
          refine b_icmp_eq (off := 12) (tgt := 326) (by decide +kernel) (by decide) (fun h10 => ?_) (fun h10 => ?_)
          · have hf := if_t h10 hf
            exact m_B_cg rfl rfl rfl (W_MD_qGoesOn_326 r7.2 J hR hf hk)
          · have hf := if_f h10 hf
            refine b_blk (pc' := 318) (ls' := [some (mR (12, 0, 177)), none]) (st' := [mR (12, 0, 177)]) (S' := (L, r7.2, J, R)) (P := True) [(.aload_n 0, (0, 0, 0, 0, 0))] [] (by decide +kernel) rfl trivial ?_
            obtain ⟨r11, hc11, hf⟩ := bnd_o hf
            refine b_cV (as := []) (st := []) (by decide +kernel) k_12_589 n_MD_qBracket rfl (by decide) v_MD_qBracket (C_MD_qBracket r7.2 J hR hc11) (Nat.le_of_ble_eq_true rfl) (by decide) rfl rfl (fun _ h => h) ?_
            show m_B G (m_rm 4 0 0) M_MD_qGoesOn Q 0 0 321 [some (mR (12, 0, 177)), none] [mI r11] (L, r7.2, J, R)
            refine b_blk (pc' := 323) (ls' := [some (mR (12, 0, 177)), none]) (st' := [mI 22, mI r11]) (S' := (L, r7.2, J, R)) (P := True) [(.bipush 22, (0, 0, 0, 22, 0))] [] (by decide +kernel) rfl trivial ?_
            refine b_icmp_ne (off := 39) (tgt := 362) (by decide +kernel) (by decide) (fun h12 => ?_) (fun h12 => ?_)
            · have hf := if_f h12 hf
              refine b_blk (pc' := 363) (ls' := [some (mR (12, 0, 177)), none]) (st' := [mR (12, 0, 177)]) (S' := (L, r7.2, J, R)) (P := True) [(.aload_n 0, (0, 0, 0, 0, 0))] [] (by decide +kernel) rfl trivial ?_
              obtain ⟨r13, hc13, hf⟩ := bnd_o hf
              refine b_cV (as := []) (st := []) (by decide +kernel) k_12_589 n_MD_qBracket rfl (by decide) v_MD_qBracket (C_MD_qBracket r7.2 J hR hc13) (Nat.le_of_ble_eq_true rfl) (by decide) rfl rfl (fun _ h => h) ?_
              show m_B G (m_rm 4 0 0) M_MD_qGoesOn Q 0 0 366 [some (mR (12, 0, 177)), none] [mI r13] (L, r7.2, J, R)
              refine b_blk (pc' := 367) (ls' := [some (mR (12, 0, 177)), none]) (st' := [mI (-1), mI r13]) (S' := (L, r7.2, J, R)) (P := True) [(.iconst (-1), (0, 0, 0, (-1), 0))] [] (by decide +kernel) rfl trivial ?_
              refine b_icmp_eq (off := 19) (tgt := 386) (by decide +kernel) (by decide) (fun h14 => ?_) (fun h14 => ?_)
              · have hf := if_t h14 hf
                refine b_blk (pc' := 387) (ls' := [some (mR (12, 0, 177)), none]) (st' := [mI 0]) (S' := (L, r7.2, J, R)) (P := True) [(.iconst 0, (0, 0, 0, 0, 0))] [] (by decide +kernel) rfl trivial ?_
                cases hf
                exact b_zret (by decide +kernel) rfl (by decide) hk
              · have hf := if_f h14 hf
                refine b_blk (pc' := 374) (ls' := [some (mR (12, 0, 177)), none]) (st' := [mI (r7.2 177 5)]) (S' := (L, r7.2, J, R)) (P := True) [(.aload_n 0, (0, 0, 0, 0, 0)), (.getfield 234, (12, 5, 0, 0, 0))] [] (by decide +kernel) rfl trivial ?_
                refine b_if_ne (off := 12) (tgt := 386) (by decide +kernel) (by decide) (fun h15 => ?_) (fun h15 => ?_)
                · have hf := if_f h15 hf
                  refine b_blk (pc' := 387) (ls' := [some (mR (12, 0, 177)), none]) (st' := [mI 0]) (S' := (L, r7.2, J, R)) (P := True) [(.iconst 0, (0, 0, 0, 0, 0))] [] (by decide +kernel) rfl trivial ?_
                  cases hf
                  exact b_zret (by decide +kernel) rfl (by decide) hk
                · have hf := if_t h15 hf
                  refine b_blk (pc' := 383) (ls' := [some (mR (12, 0, 177)), none]) (st' := [mI (r7.2 177 2), mI 1, mR (12, 0, 177)]) (S' := (L, r7.2, J, R)) (P := True) [(.aload_n 0, (0, 0, 0, 0, 0)), (.iconst 1, (0, 0, 0, 1, 0)), (.aload_n 0, (0, 0, 0, 0, 0)), (.getfield 240, (12, 2, 0, 0, 0))] [] (by decide +kernel) rfl trivial ?_
                  obtain ⟨r16, hc16, hf⟩ := bnd_o hf
                  refine b_cV (as := [mI 1, mI (r7.2 177 2)]) (st := []) (by decide +kernel) k_12_264 n_MD_fail rfl (by decide) v_MD_fail (C_MD_fail r7.2 J (1 : Int32) (r7.2 177 2) hR hc16) (Nat.le_of_ble_eq_true rfl) (by decide) rfl rfl (fun _ h => h) ?_
                  show m_B G (m_rm 4 0 0) M_MD_qGoesOn Q 0 0 386 [some (mR (12, 0, 177)), none] [] (L, r16, J, R)
                  refine b_blk (pc' := 387) (ls' := [some (mR (12, 0, 177)), none]) (st' := [mI 0]) (S' := (L, r16, J, R)) (P := True) [(.iconst 0, (0, 0, 0, 0, 0))] [] (by decide +kernel) rfl trivial ?_
                  cases hf
                  exact b_zret (by decide +kernel) rfl (by decide) hk
            · have hf := if_t h12 hf
              exact m_B_cg rfl rfl rfl (W_MD_qGoesOn_326 r7.2 J hR hf hk)
        · have hf := if_f h8 hf
          exact m_B_cg rfl rfl rfl (W_MD_qGoesOn_225 r7.2 J hR hf hk)
    · have hf := if_f h4 hf
      exact m_B_cg rfl rfl rfl (W_MD_qGoesOn_140 r3.2 J hR hf hk)
noncomputable def F_MD_qGoesOn (I : MI) : Option (Int32 × MI) :=
  (wl (fun s : MI => F_MD_qGoesOn_0 s) I).bind fun t1 => F_MD_qGoesOn_122 t1
set_option maxRecDepth 100000 in
set_option maxHeartbeats 400000 in
theorem W_MD_qGoesOn {G : MG} {Q : Option MV → MS → Prop} {L : List (Nat × Nat)} {R : Nat → Nat → Option MRef} (I : MI) (J : MJ) (hR : RF R) {r : Int32 × MI} (hf : F_MD_qGoesOn I = some r) (hk : (fun r : Int32 × MI => Q (some (mI r.1)) (L, r.2, J, R)) r) : m_B G (m_rm 4 0 0) M_MD_qGoesOn Q 0 0 0 [some (mR (12, 0, 177)), none] [] (L, I, J, R) := by
  unfold F_MD_qGoesOn at hf
  obtain ⟨t1, hw, hf⟩ := bnd_o hf
  refine wl_B (A := fun s : MI => m_B G (m_rm 4 0 0) M_MD_qGoesOn Q 0 0 0 [some (mR (12, 0, 177)), none] [] (L, s, J, R)) (B := (fun s : MI => m_B G (m_rm 4 0 0) M_MD_qGoesOn Q 0 0 122 [some (mR (12, 0, 177)), none] [] (L, s, J, R))) (fun s r hs hr => W_MD_qGoesOn_0 s J hR hs hr) hw ?_
  show m_B G (m_rm 4 0 0) M_MD_qGoesOn Q 0 0 122 [some (mR (12, 0, 177)), none] [] (L, t1, J, R)
  exact m_B_cg rfl rfl rfl (W_MD_qGoesOn_122 t1 J hR hf hk)
theorem C_MD_qGoesOn {G : MG} {L : List (Nat × Nat)} {R : Nat → Nat → Option MRef} (I : MI) (J : MJ) (hR : RF R) {r : Int32 × MI} (hf : F_MD_qGoesOn I = some r) : m_met G 4 0 0 y_MD_qGoesOn M_MD_qGoesOn [mR (12, 0, 177)] (L, I, J, R) (m_is (some (mI r.1)) (L, r.2, J, R)) :=
  m_met_in n_MD_qGoesOn (plainFor_of_name (by decide)) (by decide) (Nat.le_of_ble_eq_true rfl) (ls := [some (mR (12, 0, 177)), none]) rfl (W_MD_qGoesOn I J hR hf ⟨rfl, rfl⟩)
noncomputable def F_MD_qAsksWord (I : MI) (v1 : Int32) : Option (MI) :=
  if v1 = 0 then ((F_MD_asks 234 3 I).bind fun r2 => some r2) else (if v1 = 1 then ((F_MD_asks 235 5 I).bind fun r4 => some r4) else (if v1 = 2 then ((F_MD_asks 236 4 I).bind fun r6 => some r6) else (if v1 = 3 then ((F_MD_asks 237 3 I).bind fun r8 => some r8) else (if v1 = 4 then ((F_MD_asks 238 4 I).bind fun r10 => some r10) else (if v1 = 5 then ((F_MD_asks 239 6 I).bind fun r12 => some r12) else (if v1 = 6 then ((F_MD_asks 240 5 I).bind fun r14 => some r14) else (if v1 = 7 then ((F_MD_asks 241 3 I).bind fun r16 => some r16) else (if v1 = 8 then ((F_MD_asks 242 3 I).bind fun r18 => some r18) else ((F_MD_asks 243 5 I).bind fun r19 => some r19)))))))))
set_option maxRecDepth 100000 in
set_option maxHeartbeats 400000 in
theorem W_MD_qAsksWord {G : MG} {Q : Option MV → MS → Prop} {L : List (Nat × Nat)} {R : Nat → Nat → Option MRef} (I : MI) (J : MJ) (v1 : Int32) (hR : RF R) {r : MI} (hf : F_MD_qAsksWord I v1 = some r) (hk : (fun r : MI => Q (none) (L, r, J, R)) r) : m_B G (m_rm 5 0 0) M_MD_qAsksWord Q 0 0 0 [some (mR (12, 0, 177)), some (mI v1)] [] (L, I, J, R) := by
  unfold F_MD_qAsksWord at hf
  refine b_blk (pc' := 1) (ls' := [some (mR (12, 0, 177)), some (mI v1)]) (st' := [mI v1]) (S' := (L, I, J, R)) (P := True) [(.iload_n 1, (0, 0, 0, 0, 0))] [] (by decide +kernel) rfl trivial ?_
  by_cases h1 : v1 = 0
  · refine b_tswV (tgt := 52) (off := 51) (lo := 0) (hi := 8) (dflt := 150) (offs := #[51, 62, 73, 84, 95, 106, 117, 128, 139]) (len := 51) h1 (by decide +kernel) (by decide) (by decide) (by decide) (by decide) ?_
    have hf := if_t h1 hf
    refine b_blk (pc' := 57) (ls' := [some (mR (12, 0, 177)), some (mI v1)]) (st' := [mR (23, 3, 234), mR (12, 0, 177)]) (S' := (L, I, J, R)) (P := (True ∧ R 177 81 = some (23, 3, 234))) [(.aload_n 0, (0, 0, 0, 0, 0)), (.aload_n 0, (0, 0, 0, 0, 0)), (.getfield 189, (12, 81, 3, 0, 0))] [some (23, 3, 234)] (by decide +kernel) rfl ⟨trivial, (r_177_81 hR)⟩ ?_
    obtain ⟨r2, hc2, hf⟩ := bnd_o hf
    refine b_cV (as := [mR (23, 3, 234)]) (st := []) (by decide +kernel) k_12_295 n_MD_asks rfl (by decide) v_MD_asks (C_MD_asks 234 3 I J hR (by decide) hc2) (Nat.le_of_ble_eq_true rfl) (by decide) rfl rfl (fun _ h => h) ?_
    show m_B G (m_rm 5 0 0) M_MD_qAsksWord Q 0 0 60 [some (mR (12, 0, 177)), some (mI v1)] [] (L, r2, J, R)
    refine b_blk (pc' := 159) (ls' := [some (mR (12, 0, 177)), some (mI v1)]) (st' := []) (S' := (L, r2, J, R)) (P := True) [(.goto 99, (0, 159, 0, 0, 0))] [] (by decide +kernel) rfl trivial ?_
    cases hf
    exact b_vret (by decide +kernel) rfl hk
  have hf := if_f h1 hf
  by_cases h3 : v1 = 1
  · refine b_tswV (tgt := 63) (off := 62) (lo := 0) (hi := 8) (dflt := 150) (offs := #[51, 62, 73, 84, 95, 106, 117, 128, 139]) (len := 51) h3 (by decide +kernel) (by decide) (by decide) (by decide) (by decide) ?_
    have hf := if_t h3 hf
    refine b_blk (pc' := 68) (ls' := [some (mR (12, 0, 177)), some (mI v1)]) (st' := [mR (23, 5, 235), mR (12, 0, 177)]) (S' := (L, I, J, R)) (P := (True ∧ R 177 82 = some (23, 5, 235))) [(.aload_n 0, (0, 0, 0, 0, 0)), (.aload_n 0, (0, 0, 0, 0, 0)), (.getfield 192, (12, 82, 3, 0, 0))] [some (23, 5, 235)] (by decide +kernel) rfl ⟨trivial, (r_177_82 hR)⟩ ?_
    obtain ⟨r4, hc4, hf⟩ := bnd_o hf
    refine b_cV (as := [mR (23, 5, 235)]) (st := []) (by decide +kernel) k_12_295 n_MD_asks rfl (by decide) v_MD_asks (C_MD_asks 235 5 I J hR (by decide) hc4) (Nat.le_of_ble_eq_true rfl) (by decide) rfl rfl (fun _ h => h) ?_
    show m_B G (m_rm 5 0 0) M_MD_qAsksWord Q 0 0 71 [some (mR (12, 0, 177)), some (mI v1)] [] (L, r4, J, R)
    refine b_blk (pc' := 159) (ls' := [some (mR (12, 0, 177)), some (mI v1)]) (st' := []) (S' := (L, r4, J, R)) (P := True) [(.goto 88, (0, 159, 0, 0, 0))] [] (by decide +kernel) rfl trivial ?_
    cases hf
    exact b_vret (by decide +kernel) rfl hk
  have hf := if_f h3 hf
  by_cases h5 : v1 = 2
  · refine b_tswV (tgt := 74) (off := 73) (lo := 0) (hi := 8) (dflt := 150) (offs := #[51, 62, 73, 84, 95, 106, 117, 128, 139]) (len := 51) h5 (by decide +kernel) (by decide) (by decide) (by decide) (by decide) ?_
    have hf := if_t h5 hf
    refine b_blk (pc' := 79) (ls' := [some (mR (12, 0, 177)), some (mI v1)]) (st' := [mR (23, 4, 236), mR (12, 0, 177)]) (S' := (L, I, J, R)) (P := (True ∧ R 177 83 = some (23, 4, 236))) [(.aload_n 0, (0, 0, 0, 0, 0)), (.aload_n 0, (0, 0, 0, 0, 0)), (.getfield 195, (12, 83, 3, 0, 0))] [some (23, 4, 236)] (by decide +kernel) rfl ⟨trivial, (r_177_83 hR)⟩ ?_
    obtain ⟨r6, hc6, hf⟩ := bnd_o hf
    refine b_cV (as := [mR (23, 4, 236)]) (st := []) (by decide +kernel) k_12_295 n_MD_asks rfl (by decide) v_MD_asks (C_MD_asks 236 4 I J hR (by decide) hc6) (Nat.le_of_ble_eq_true rfl) (by decide) rfl rfl (fun _ h => h) ?_
    show m_B G (m_rm 5 0 0) M_MD_qAsksWord Q 0 0 82 [some (mR (12, 0, 177)), some (mI v1)] [] (L, r6, J, R)
    refine b_blk (pc' := 159) (ls' := [some (mR (12, 0, 177)), some (mI v1)]) (st' := []) (S' := (L, r6, J, R)) (P := True) [(.goto 77, (0, 159, 0, 0, 0))] [] (by decide +kernel) rfl trivial ?_
    cases hf
    exact b_vret (by decide +kernel) rfl hk
  have hf := if_f h5 hf
  by_cases h7 : v1 = 3
  · refine b_tswV (tgt := 85) (off := 84) (lo := 0) (hi := 8) (dflt := 150) (offs := #[51, 62, 73, 84, 95, 106, 117, 128, 139]) (len := 51) h7 (by decide +kernel) (by decide) (by decide) (by decide) (by decide) ?_
    have hf := if_t h7 hf
    refine b_blk (pc' := 90) (ls' := [some (mR (12, 0, 177)), some (mI v1)]) (st' := [mR (23, 3, 237), mR (12, 0, 177)]) (S' := (L, I, J, R)) (P := (True ∧ R 177 84 = some (23, 3, 237))) [(.aload_n 0, (0, 0, 0, 0, 0)), (.aload_n 0, (0, 0, 0, 0, 0)), (.getfield 198, (12, 84, 3, 0, 0))] [some (23, 3, 237)] (by decide +kernel) rfl ⟨trivial, (r_177_84 hR)⟩ ?_
    obtain ⟨r8, hc8, hf⟩ := bnd_o hf
    refine b_cV (as := [mR (23, 3, 237)]) (st := []) (by decide +kernel) k_12_295 n_MD_asks rfl (by decide) v_MD_asks (C_MD_asks 237 3 I J hR (by decide) hc8) (Nat.le_of_ble_eq_true rfl) (by decide) rfl rfl (fun _ h => h) ?_
    show m_B G (m_rm 5 0 0) M_MD_qAsksWord Q 0 0 93 [some (mR (12, 0, 177)), some (mI v1)] [] (L, r8, J, R)
    refine b_blk (pc' := 159) (ls' := [some (mR (12, 0, 177)), some (mI v1)]) (st' := []) (S' := (L, r8, J, R)) (P := True) [(.goto 66, (0, 159, 0, 0, 0))] [] (by decide +kernel) rfl trivial ?_
    cases hf
    exact b_vret (by decide +kernel) rfl hk
  have hf := if_f h7 hf
  by_cases h9 : v1 = 4
  · refine b_tswV (tgt := 96) (off := 95) (lo := 0) (hi := 8) (dflt := 150) (offs := #[51, 62, 73, 84, 95, 106, 117, 128, 139]) (len := 51) h9 (by decide +kernel) (by decide) (by decide) (by decide) (by decide) ?_
    have hf := if_t h9 hf
    refine b_blk (pc' := 101) (ls' := [some (mR (12, 0, 177)), some (mI v1)]) (st' := [mR (23, 4, 238), mR (12, 0, 177)]) (S' := (L, I, J, R)) (P := (True ∧ R 177 85 = some (23, 4, 238))) [(.aload_n 0, (0, 0, 0, 0, 0)), (.aload_n 0, (0, 0, 0, 0, 0)), (.getfield 201, (12, 85, 3, 0, 0))] [some (23, 4, 238)] (by decide +kernel) rfl ⟨trivial, (r_177_85 hR)⟩ ?_
    obtain ⟨r10, hc10, hf⟩ := bnd_o hf
    refine b_cV (as := [mR (23, 4, 238)]) (st := []) (by decide +kernel) k_12_295 n_MD_asks rfl (by decide) v_MD_asks (C_MD_asks 238 4 I J hR (by decide) hc10) (Nat.le_of_ble_eq_true rfl) (by decide) rfl rfl (fun _ h => h) ?_
    show m_B G (m_rm 5 0 0) M_MD_qAsksWord Q 0 0 104 [some (mR (12, 0, 177)), some (mI v1)] [] (L, r10, J, R)
    refine b_blk (pc' := 159) (ls' := [some (mR (12, 0, 177)), some (mI v1)]) (st' := []) (S' := (L, r10, J, R)) (P := True) [(.goto 55, (0, 159, 0, 0, 0))] [] (by decide +kernel) rfl trivial ?_
    cases hf
    exact b_vret (by decide +kernel) rfl hk
  have hf := if_f h9 hf
  by_cases h11 : v1 = 5
  · refine b_tswV (tgt := 107) (off := 106) (lo := 0) (hi := 8) (dflt := 150) (offs := #[51, 62, 73, 84, 95, 106, 117, 128, 139]) (len := 51) h11 (by decide +kernel) (by decide) (by decide) (by decide) (by decide) ?_
    have hf := if_t h11 hf
    refine b_blk (pc' := 112) (ls' := [some (mR (12, 0, 177)), some (mI v1)]) (st' := [mR (23, 6, 239), mR (12, 0, 177)]) (S' := (L, I, J, R)) (P := (True ∧ R 177 86 = some (23, 6, 239))) [(.aload_n 0, (0, 0, 0, 0, 0)), (.aload_n 0, (0, 0, 0, 0, 0)), (.getfield 204, (12, 86, 3, 0, 0))] [some (23, 6, 239)] (by decide +kernel) rfl ⟨trivial, (r_177_86 hR)⟩ ?_
    obtain ⟨r12, hc12, hf⟩ := bnd_o hf
    refine b_cV (as := [mR (23, 6, 239)]) (st := []) (by decide +kernel) k_12_295 n_MD_asks rfl (by decide) v_MD_asks (C_MD_asks 239 6 I J hR (by decide) hc12) (Nat.le_of_ble_eq_true rfl) (by decide) rfl rfl (fun _ h => h) ?_
    show m_B G (m_rm 5 0 0) M_MD_qAsksWord Q 0 0 115 [some (mR (12, 0, 177)), some (mI v1)] [] (L, r12, J, R)
    refine b_blk (pc' := 159) (ls' := [some (mR (12, 0, 177)), some (mI v1)]) (st' := []) (S' := (L, r12, J, R)) (P := True) [(.goto 44, (0, 159, 0, 0, 0))] [] (by decide +kernel) rfl trivial ?_
    cases hf
    exact b_vret (by decide +kernel) rfl hk
  have hf := if_f h11 hf
  by_cases h13 : v1 = 6
  · refine b_tswV (tgt := 118) (off := 117) (lo := 0) (hi := 8) (dflt := 150) (offs := #[51, 62, 73, 84, 95, 106, 117, 128, 139]) (len := 51) h13 (by decide +kernel) (by decide) (by decide) (by decide) (by decide) ?_
    have hf := if_t h13 hf
    refine b_blk (pc' := 123) (ls' := [some (mR (12, 0, 177)), some (mI v1)]) (st' := [mR (23, 5, 240), mR (12, 0, 177)]) (S' := (L, I, J, R)) (P := (True ∧ R 177 87 = some (23, 5, 240))) [(.aload_n 0, (0, 0, 0, 0, 0)), (.aload_n 0, (0, 0, 0, 0, 0)), (.getfield 207, (12, 87, 3, 0, 0))] [some (23, 5, 240)] (by decide +kernel) rfl ⟨trivial, (r_177_87 hR)⟩ ?_
    obtain ⟨r14, hc14, hf⟩ := bnd_o hf
    refine b_cV (as := [mR (23, 5, 240)]) (st := []) (by decide +kernel) k_12_295 n_MD_asks rfl (by decide) v_MD_asks (C_MD_asks 240 5 I J hR (by decide) hc14) (Nat.le_of_ble_eq_true rfl) (by decide) rfl rfl (fun _ h => h) ?_
    show m_B G (m_rm 5 0 0) M_MD_qAsksWord Q 0 0 126 [some (mR (12, 0, 177)), some (mI v1)] [] (L, r14, J, R)
    refine b_blk (pc' := 159) (ls' := [some (mR (12, 0, 177)), some (mI v1)]) (st' := []) (S' := (L, r14, J, R)) (P := True) [(.goto 33, (0, 159, 0, 0, 0))] [] (by decide +kernel) rfl trivial ?_
    cases hf
    exact b_vret (by decide +kernel) rfl hk
  have hf := if_f h13 hf
  by_cases h15 : v1 = 7
  · refine b_tswV (tgt := 129) (off := 128) (lo := 0) (hi := 8) (dflt := 150) (offs := #[51, 62, 73, 84, 95, 106, 117, 128, 139]) (len := 51) h15 (by decide +kernel) (by decide) (by decide) (by decide) (by decide) ?_
    have hf := if_t h15 hf
    refine b_blk (pc' := 134) (ls' := [some (mR (12, 0, 177)), some (mI v1)]) (st' := [mR (23, 3, 241), mR (12, 0, 177)]) (S' := (L, I, J, R)) (P := (True ∧ R 177 88 = some (23, 3, 241))) [(.aload_n 0, (0, 0, 0, 0, 0)), (.aload_n 0, (0, 0, 0, 0, 0)), (.getfield 210, (12, 88, 3, 0, 0))] [some (23, 3, 241)] (by decide +kernel) rfl ⟨trivial, (r_177_88 hR)⟩ ?_
    obtain ⟨r16, hc16, hf⟩ := bnd_o hf
    refine b_cV (as := [mR (23, 3, 241)]) (st := []) (by decide +kernel) k_12_295 n_MD_asks rfl (by decide) v_MD_asks (C_MD_asks 241 3 I J hR (by decide) hc16) (Nat.le_of_ble_eq_true rfl) (by decide) rfl rfl (fun _ h => h) ?_
    show m_B G (m_rm 5 0 0) M_MD_qAsksWord Q 0 0 137 [some (mR (12, 0, 177)), some (mI v1)] [] (L, r16, J, R)
    refine b_blk (pc' := 159) (ls' := [some (mR (12, 0, 177)), some (mI v1)]) (st' := []) (S' := (L, r16, J, R)) (P := True) [(.goto 22, (0, 159, 0, 0, 0))] [] (by decide +kernel) rfl trivial ?_
    cases hf
    exact b_vret (by decide +kernel) rfl hk
  have hf := if_f h15 hf
  by_cases h17 : v1 = 8
  · refine b_tswV (tgt := 140) (off := 139) (lo := 0) (hi := 8) (dflt := 150) (offs := #[51, 62, 73, 84, 95, 106, 117, 128, 139]) (len := 51) h17 (by decide +kernel) (by decide) (by decide) (by decide) (by decide) ?_
    have hf := if_t h17 hf
    refine b_blk (pc' := 145) (ls' := [some (mR (12, 0, 177)), some (mI v1)]) (st' := [mR (23, 3, 242), mR (12, 0, 177)]) (S' := (L, I, J, R)) (P := (True ∧ R 177 89 = some (23, 3, 242))) [(.aload_n 0, (0, 0, 0, 0, 0)), (.aload_n 0, (0, 0, 0, 0, 0)), (.getfield 213, (12, 89, 3, 0, 0))] [some (23, 3, 242)] (by decide +kernel) rfl ⟨trivial, (r_177_89 hR)⟩ ?_
    obtain ⟨r18, hc18, hf⟩ := bnd_o hf
    refine b_cV (as := [mR (23, 3, 242)]) (st := []) (by decide +kernel) k_12_295 n_MD_asks rfl (by decide) v_MD_asks (C_MD_asks 242 3 I J hR (by decide) hc18) (Nat.le_of_ble_eq_true rfl) (by decide) rfl rfl (fun _ h => h) ?_
    show m_B G (m_rm 5 0 0) M_MD_qAsksWord Q 0 0 148 [some (mR (12, 0, 177)), some (mI v1)] [] (L, r18, J, R)
    refine b_blk (pc' := 159) (ls' := [some (mR (12, 0, 177)), some (mI v1)]) (st' := []) (S' := (L, r18, J, R)) (P := True) [(.goto 11, (0, 159, 0, 0, 0))] [] (by decide +kernel) rfl trivial ?_
    cases hf
    exact b_vret (by decide +kernel) rfl hk
  have hf := if_f h17 hf
  refine b_tswD (tgt := 151) (lo := 0) (hi := 8) (dflt := 150) (offs := #[51, 62, 73, 84, 95, 106, 117, 128, 139]) (len := 51) (by decide +kernel) (by have q0 := lv_neT h1 (a := 0) (by decide); have q1 := lv_neT h3 (a := 1) (by decide); have q2 := lv_neT h5 (a := 2) (by decide); have q3 := lv_neT h7 (a := 3) (by decide); have q4 := lv_neT h9 (a := 4) (by decide); have q5 := lv_neT h11 (a := 5) (by decide); have q6 := lv_neT h13 (a := 6) (by decide); have q7 := lv_neT h15 (a := 7) (by decide); have q8 := lv_neT h17 (a := 8) (by decide); omega) (by decide) ?_
  refine b_blk (pc' := 156) (ls' := [some (mR (12, 0, 177)), some (mI v1)]) (st' := [mR (23, 5, 243), mR (12, 0, 177)]) (S' := (L, I, J, R)) (P := (True ∧ R 177 90 = some (23, 5, 243))) [(.aload_n 0, (0, 0, 0, 0, 0)), (.aload_n 0, (0, 0, 0, 0, 0)), (.getfield 216, (12, 90, 3, 0, 0))] [some (23, 5, 243)] (by decide +kernel) rfl ⟨trivial, (r_177_90 hR)⟩ ?_
  obtain ⟨r19, hc19, hf⟩ := bnd_o hf
  refine b_cV (as := [mR (23, 5, 243)]) (st := []) (by decide +kernel) k_12_295 n_MD_asks rfl (by decide) v_MD_asks (C_MD_asks 243 5 I J hR (by decide) hc19) (Nat.le_of_ble_eq_true rfl) (by decide) rfl rfl (fun _ h => h) ?_
  show m_B G (m_rm 5 0 0) M_MD_qAsksWord Q 0 0 159 [some (mR (12, 0, 177)), some (mI v1)] [] (L, r19, J, R)
  cases hf
  exact b_vret (by decide +kernel) rfl hk
theorem C_MD_qAsksWord {G : MG} {L : List (Nat × Nat)} {R : Nat → Nat → Option MRef} (I : MI) (J : MJ) (v1 : Int32) (hR : RF R) {r : MI} (hf : F_MD_qAsksWord I v1 = some r) : m_met G 5 0 0 y_MD_qAsksWord M_MD_qAsksWord [mR (12, 0, 177), mI v1] (L, I, J, R) (m_is (none) (L, r, J, R)) :=
  m_met_in n_MD_qAsksWord (plainFor_of_name (by decide)) (by decide) (Nat.le_of_ble_eq_true rfl) (ls := [some (mR (12, 0, 177)), some (mI v1)]) rfl (W_MD_qAsksWord I J v1 hR hf ⟨rfl, rfl⟩)
noncomputable def F_MD_qOpens (I : MI) (v1 : Int32) (v2 : Int32) : Option (MI) :=
  if (I 177 5) = (0 : Int32) then (if (I 177 95) = (6 : Int32) then ((F_MD_fail I (4 : Int32) v2).bind fun r5 => some r5) else (gd (I 177 94) 1700 <| bnd (m_up (m_up (m_up I 177 95 ((I 177 95) + (1 : Int32))) 245 ((I 177 94).toNatClampNeg) v1) 177 94 ((I 177 94) + (1 : Int32)) : MI) fun x4 => some x4)) else (some I)
set_option maxRecDepth 100000 in
set_option maxHeartbeats 400000 in
theorem W_MD_qOpens {G : MG} {Q : Option MV → MS → Prop} {L : List (Nat × Nat)} {R : Nat → Nat → Option MRef} (I : MI) (J : MJ) (v1 : Int32) (v2 : Int32) (hR : RF R) {r : MI} (hf : F_MD_qOpens I v1 v2 = some r) (hk : (fun r : MI => Q (none) (L, r, J, R)) r) : m_B G (m_rm 2 0 0) M_MD_qOpens Q 0 0 0 [some (mR (12, 0, 177)), some (mI v1), some (mI v2)] [] (L, I, J, R) := by
  unfold F_MD_qOpens at hf
  refine b_blk (pc' := 4) (ls' := [some (mR (12, 0, 177)), some (mI v1), some (mI v2)]) (st' := [mI (I 177 5)]) (S' := (L, I, J, R)) (P := True) [(.aload_n 0, (0, 0, 0, 0, 0)), (.getfield 234, (12, 5, 0, 0, 0))] [] (by decide +kernel) rfl trivial ?_
  refine b_if_eq (off := 4) (tgt := 8) (by decide +kernel) (by decide) (fun h1 => ?_) (fun h1 => ?_)
  · have hf := if_t h1 hf
    refine b_blk (pc' := 14) (ls' := [some (mR (12, 0, 177)), some (mI v1), some (mI v2)]) (st' := [mI 6, mI (I 177 95)]) (S' := (L, I, J, R)) (P := True) [(.aload_n 0, (0, 0, 0, 0, 0)), (.getfield 321, (12, 95, 0, 0, 0)), (.bipush 6, (0, 0, 0, 6, 0))] [] (by decide +kernel) rfl trivial ?_
    refine b_icmp_ne (off := 10) (tgt := 24) (by decide +kernel) (by decide) (fun h2 => ?_) (fun h2 => ?_)
    · have hf := if_f h2 hf
      obtain ⟨g3, hf⟩ := gd_s hf
      refine b_blk (pc' := 54) (ls' := [some (mR (12, 0, 177)), some (mI v1), some (mI v2)]) (st' := []) (S' := (L, m_up (m_up (m_up I 177 95 ((I 177 95) + (1 : Int32))) 245 ((I 177 94).toNatClampNeg) v1) 177 94 ((I 177 94) + (1 : Int32)), J, R)) (P := ((True ∧ R 177 93 = some (20, 1700, 245)) ∧ vp_in (I 177 94) 1700)) [(.aload_n 0, (0, 0, 0, 0, 0)), (.dup, (0, 0, 0, 0, 0)), (.getfield 321, (12, 95, 0, 0, 0)), (.iconst 1, (0, 0, 0, 1, 0)), (.iadd, (0, 0, 0, 0, 0)), (.putfield 321, (12, 95, 0, 0, 0)), (.aload_n 0, (0, 0, 0, 0, 0)), (.getfield 222, (12, 93, 3, 0, 0)), (.aload_n 0, (0, 0, 0, 0, 0)), (.getfield 318, (12, 94, 0, 0, 0)), (.iload_n 1, (0, 0, 0, 0, 0)), (.iastore, (0, 0, 0, 0, 0)), (.aload_n 0, (0, 0, 0, 0, 0)), (.dup, (0, 0, 0, 0, 0)), (.getfield 318, (12, 94, 0, 0, 0)), (.iconst 1, (0, 0, 0, 1, 0)), (.iadd, (0, 0, 0, 0, 0)), (.putfield 318, (12, 94, 0, 0, 0))] [some (20, 1700, 245)] (by decide +kernel) rfl ⟨⟨trivial, (r_177_93 hR)⟩, (in_n (n := 1700) (by decide) g3.1 g3.2)⟩ ?_
      obtain ⟨x4, ex4, hf⟩ := bnd_s hf
      refine m_B_cg (ls' := [some (mR (12, 0, 177)), some (mI v1), some (mI v2)]) (st' := []) (S' := (L, x4, J, R)) (by first | with_reducible rfl | rw [ex4]) (by first | with_reducible rfl | rw [ex4]) (by first | with_reducible rfl | rw [ex4]) ?_
      cases hf
      exact b_vret (by decide +kernel) rfl hk
    · have hf := if_t h2 hf
      refine b_blk (pc' := 20) (ls' := [some (mR (12, 0, 177)), some (mI v1), some (mI v2)]) (st' := [mI v2, mI 4, mR (12, 0, 177)]) (S' := (L, I, J, R)) (P := True) [(.aload_n 0, (0, 0, 0, 0, 0)), (.iconst 4, (0, 0, 0, 4, 0)), (.iload_n 2, (0, 0, 0, 0, 0))] [] (by decide +kernel) rfl trivial ?_
      obtain ⟨r5, hc5, hf⟩ := bnd_o hf
      refine b_cV (as := [mI 4, mI v2]) (st := []) (by decide +kernel) k_12_264 n_MD_fail rfl (by decide) v_MD_fail (C_MD_fail I J (4 : Int32) v2 hR hc5) (Nat.le_of_ble_eq_true rfl) (by decide) rfl rfl (fun _ h => h) ?_
      show m_B G (m_rm 2 0 0) M_MD_qOpens Q 0 0 23 [some (mR (12, 0, 177)), some (mI v1), some (mI v2)] [] (L, r5, J, R)
      cases hf
      exact b_vret (by decide +kernel) rfl hk
  · have hf := if_f h1 hf
    cases hf
    exact b_vret (by decide +kernel) rfl hk
theorem C_MD_qOpens {G : MG} {L : List (Nat × Nat)} {R : Nat → Nat → Option MRef} (I : MI) (J : MJ) (v1 : Int32) (v2 : Int32) (hR : RF R) {r : MI} (hf : F_MD_qOpens I v1 v2 = some r) : m_met G 2 0 0 y_MD_qOpens M_MD_qOpens [mR (12, 0, 177), mI v1, mI v2] (L, I, J, R) (m_is (none) (L, r, J, R)) :=
  m_met_in n_MD_qOpens (plainFor_of_name (by decide)) (by decide) (Nat.le_of_ble_eq_true rfl) (ls := [some (mR (12, 0, 177)), some (mI v1), some (mI v2)]) rfl (W_MD_qOpens I J v1 v2 hR hf ⟨rfl, rfl⟩)
noncomputable def F_MD_isAllowed (I : MI) (v1 : Int32) : Option (Int32) :=
  if (I 177 50) = (0 : Int32) then (if (4 : Int32) ≤ v1 then (some (0 : Int32)) else (some (1 : Int32))) else (if (I 177 50) = (1 : Int32) then (if v1 < (3 : Int32) then (some (1 : Int32)) else (if v1 = (4 : Int32) then (some (1 : Int32)) else (some (0 : Int32)))) else (if v1 = (0 : Int32) then (some (1 : Int32)) else (if v1 = (2 : Int32) then (some (1 : Int32)) else (if v1 ≤ (3 : Int32) then (some (0 : Int32)) else (some (1 : Int32))))))
set_option maxRecDepth 100000 in
set_option maxHeartbeats 400000 in
theorem W_MD_isAllowed {G : MG} {Q : Option MV → MS → Prop} {L : List (Nat × Nat)} {R : Nat → Nat → Option MRef} (I : MI) (J : MJ) (v1 : Int32) (hR : RF R) {r : Int32} (hf : F_MD_isAllowed I v1 = some r) (hk : (fun r : Int32 => Q (some (mI r)) (L, I, J, R)) r) : m_B G (m_rm 1 0 0) M_MD_isAllowed Q 0 0 0 [some (mR (12, 0, 177)), some (mI v1)] [] (L, I, J, R) := by
  unfold F_MD_isAllowed at hf
  refine b_blk (pc' := 4) (ls' := [some (mR (12, 0, 177)), some (mI v1)]) (st' := [mI (I 177 50)]) (S' := (L, I, J, R)) (P := True) [(.aload_n 0, (0, 0, 0, 0, 0)), (.getfield 292, (12, 50, 0, 0, 0))] [] (by decide +kernel) rfl trivial ?_
  refine b_if_ne (off := 16) (tgt := 20) (by decide +kernel) (by decide) (fun h1 => ?_) (fun h1 => ?_)
  · have hf := if_f h1 hf
    refine b_blk (pc' := 25) (ls' := [some (mR (12, 0, 177)), some (mI v1)]) (st' := [mI 1, mI (I 177 50)]) (S' := (L, I, J, R)) (P := True) [(.aload_n 0, (0, 0, 0, 0, 0)), (.getfield 292, (12, 50, 0, 0, 0)), (.iconst 1, (0, 0, 0, 1, 0))] [] (by decide +kernel) rfl trivial ?_
    refine b_icmp_ne (off := 21) (tgt := 46) (by decide +kernel) (by decide) (fun h2 => ?_) (fun h2 => ?_)
    · have hf := if_f h2 hf
      refine b_blk (pc' := 47) (ls' := [some (mR (12, 0, 177)), some (mI v1)]) (st' := [mI v1]) (S' := (L, I, J, R)) (P := True) [(.iload_n 1, (0, 0, 0, 0, 0))] [] (by decide +kernel) rfl trivial ?_
      refine b_if_eq (off := 13) (tgt := 60) (by decide +kernel) (by decide) (fun h3 => ?_) (fun h3 => ?_)
      · have hf := if_t h3 hf
        refine b_blk (pc' := 65) (ls' := [some (mR (12, 0, 177)), some (mI v1)]) (st' := [mI 1]) (S' := (L, I, J, R)) (P := True) [(.iconst 1, (0, 0, 0, 1, 0)), (.goto 4, (0, 65, 0, 0, 0))] [] (by decide +kernel) rfl trivial ?_
        cases hf
        exact b_zret (by decide +kernel) rfl (by decide) hk
      · have hf := if_f h3 hf
        refine b_blk (pc' := 52) (ls' := [some (mR (12, 0, 177)), some (mI v1)]) (st' := [mI 2, mI v1]) (S' := (L, I, J, R)) (P := True) [(.iload_n 1, (0, 0, 0, 0, 0)), (.iconst 2, (0, 0, 0, 2, 0))] [] (by decide +kernel) rfl trivial ?_
        refine b_icmp_eq (off := 8) (tgt := 60) (by decide +kernel) (by decide) (fun h4 => ?_) (fun h4 => ?_)
        · have hf := if_t h4 hf
          refine b_blk (pc' := 65) (ls' := [some (mR (12, 0, 177)), some (mI v1)]) (st' := [mI 1]) (S' := (L, I, J, R)) (P := True) [(.iconst 1, (0, 0, 0, 1, 0)), (.goto 4, (0, 65, 0, 0, 0))] [] (by decide +kernel) rfl trivial ?_
          cases hf
          exact b_zret (by decide +kernel) rfl (by decide) hk
        · have hf := if_f h4 hf
          refine b_blk (pc' := 57) (ls' := [some (mR (12, 0, 177)), some (mI v1)]) (st' := [mI 3, mI v1]) (S' := (L, I, J, R)) (P := True) [(.iload_n 1, (0, 0, 0, 0, 0)), (.iconst 3, (0, 0, 0, 3, 0))] [] (by decide +kernel) rfl trivial ?_
          refine b_icmp_le (off := 7) (tgt := 64) (by decide +kernel) (by decide) (fun h5 => ?_) (fun h5 => ?_)
          · have hf := if_t h5 hf
            refine b_blk (pc' := 65) (ls' := [some (mR (12, 0, 177)), some (mI v1)]) (st' := [mI 0]) (S' := (L, I, J, R)) (P := True) [(.iconst 0, (0, 0, 0, 0, 0))] [] (by decide +kernel) rfl trivial ?_
            cases hf
            exact b_zret (by decide +kernel) rfl (by decide) hk
          · have hf := if_f h5 hf
            refine b_blk (pc' := 65) (ls' := [some (mR (12, 0, 177)), some (mI v1)]) (st' := [mI 1]) (S' := (L, I, J, R)) (P := True) [(.iconst 1, (0, 0, 0, 1, 0)), (.goto 4, (0, 65, 0, 0, 0))] [] (by decide +kernel) rfl trivial ?_
            cases hf
            exact b_zret (by decide +kernel) rfl (by decide) hk
    · have hf := if_t h2 hf
      refine b_blk (pc' := 30) (ls' := [some (mR (12, 0, 177)), some (mI v1)]) (st' := [mI 3, mI v1]) (S' := (L, I, J, R)) (P := True) [(.iload_n 1, (0, 0, 0, 0, 0)), (.iconst 3, (0, 0, 0, 3, 0))] [] (by decide +kernel) rfl trivial ?_
      refine b_icmp_lt (off := 8) (tgt := 38) (by decide +kernel) (by decide) (fun h6 => ?_) (fun h6 => ?_)
      · have hf := if_t h6 hf
        refine b_blk (pc' := 65) (ls' := [some (mR (12, 0, 177)), some (mI v1)]) (st' := [mI 1]) (S' := (L, I, J, R)) (P := True) [(.iconst 1, (0, 0, 0, 1, 0)), (.goto 26, (0, 65, 0, 0, 0))] [] (by decide +kernel) rfl trivial ?_
        cases hf
        exact b_zret (by decide +kernel) rfl (by decide) hk
      · have hf := if_f h6 hf
        refine b_blk (pc' := 35) (ls' := [some (mR (12, 0, 177)), some (mI v1)]) (st' := [mI 4, mI v1]) (S' := (L, I, J, R)) (P := True) [(.iload_n 1, (0, 0, 0, 0, 0)), (.iconst 4, (0, 0, 0, 4, 0))] [] (by decide +kernel) rfl trivial ?_
        refine b_icmp_ne (off := 7) (tgt := 42) (by decide +kernel) (by decide) (fun h7 => ?_) (fun h7 => ?_)
        · have hf := if_f h7 hf
          refine b_blk (pc' := 65) (ls' := [some (mR (12, 0, 177)), some (mI v1)]) (st' := [mI 0]) (S' := (L, I, J, R)) (P := True) [(.iconst 0, (0, 0, 0, 0, 0)), (.goto 22, (0, 65, 0, 0, 0))] [] (by decide +kernel) rfl trivial ?_
          cases hf
          exact b_zret (by decide +kernel) rfl (by decide) hk
        · have hf := if_t h7 hf
          refine b_blk (pc' := 65) (ls' := [some (mR (12, 0, 177)), some (mI v1)]) (st' := [mI 1]) (S' := (L, I, J, R)) (P := True) [(.iconst 1, (0, 0, 0, 1, 0)), (.goto 26, (0, 65, 0, 0, 0))] [] (by decide +kernel) rfl trivial ?_
          cases hf
          exact b_zret (by decide +kernel) rfl (by decide) hk
  · have hf := if_t h1 hf
    refine b_blk (pc' := 9) (ls' := [some (mR (12, 0, 177)), some (mI v1)]) (st' := [mI 4, mI v1]) (S' := (L, I, J, R)) (P := True) [(.iload_n 1, (0, 0, 0, 0, 0)), (.iconst 4, (0, 0, 0, 4, 0))] [] (by decide +kernel) rfl trivial ?_
    refine b_icmp_ge (off := 7) (tgt := 16) (by decide +kernel) (by decide) (fun h8 => ?_) (fun h8 => ?_)
    · have hf := if_t h8 hf
      refine b_blk (pc' := 65) (ls' := [some (mR (12, 0, 177)), some (mI v1)]) (st' := [mI 0]) (S' := (L, I, J, R)) (P := True) [(.iconst 0, (0, 0, 0, 0, 0)), (.goto 48, (0, 65, 0, 0, 0))] [] (by decide +kernel) rfl trivial ?_
      cases hf
      exact b_zret (by decide +kernel) rfl (by decide) hk
    · have hf := if_f h8 hf
      refine b_blk (pc' := 65) (ls' := [some (mR (12, 0, 177)), some (mI v1)]) (st' := [mI 1]) (S' := (L, I, J, R)) (P := True) [(.iconst 1, (0, 0, 0, 1, 0)), (.goto 52, (0, 65, 0, 0, 0))] [] (by decide +kernel) rfl trivial ?_
      cases hf
      exact b_zret (by decide +kernel) rfl (by decide) hk
theorem C_MD_isAllowed {G : MG} {L : List (Nat × Nat)} {R : Nat → Nat → Option MRef} (I : MI) (J : MJ) (v1 : Int32) (hR : RF R) {r : Int32} (hf : F_MD_isAllowed I v1 = some r) : m_met G 1 0 0 y_MD_isAllowed M_MD_isAllowed [mR (12, 0, 177), mI v1] (L, I, J, R) (m_is (some (mI r)) (L, I, J, R)) :=
  m_met_in n_MD_isAllowed (plainFor_of_name (by decide)) (by decide) (Nat.le_of_ble_eq_true rfl) (ls := [some (mR (12, 0, 177)), some (mI v1)]) rfl (W_MD_isAllowed I J v1 hR hf ⟨rfl, rfl⟩)
noncomputable def F_MD_qWordHere_59 (I : MI) : Option (Int32 × MI) :=
  (F_MD_isHere 238 4 I).bind fun r1 => if r1.1 = (0 : Int32) then ((F_MD_isHere 239 6 r1.2).bind fun r3 => if r3.1 = (0 : Int32) then ((F_MD_isHere 240 5 r3.2).bind fun r5 => if r5.1 = (0 : Int32) then ((F_MD_isHere 241 3 r5.2).bind fun r7 => if r7.1 = (0 : Int32) then ((F_MD_isHere 242 3 r7.2).bind fun r9 => if r9.1 = (0 : Int32) then ((F_MD_isHere 243 5 r9.2).bind fun r11 => if r11.1 = (0 : Int32) then (some (((-1) : Int32), r11.2)) else (some ((9 : Int32), r11.2))) else (some ((8 : Int32), r9.2))) else (some ((7 : Int32), r7.2))) else (some ((6 : Int32), r5.2))) else (some ((5 : Int32), r3.2))) else (some ((4 : Int32), r1.2))
set_option maxRecDepth 100000 in
set_option maxHeartbeats 400000 in
theorem W_MD_qWordHere_59 {G : MG} {Q : Option MV → MS → Prop} {L : List (Nat × Nat)} {R : Nat → Nat → Option MRef} (I : MI) (J : MJ) (hR : RF R) {r : Int32 × MI} (hf : F_MD_qWordHere_59 I = some r) (hk : (fun r : Int32 × MI => Q (some (mI r.1)) (L, r.2, J, R)) r) : m_B G (m_rm 3 0 0) M_MD_qWordHere Q 0 0 59 [some (mR (12, 0, 177))] [] (L, I, J, R) := by
  unfold F_MD_qWordHere_59 at hf
  refine b_blk (pc' := 64) (ls' := [some (mR (12, 0, 177))]) (st' := [mR (23, 4, 238), mR (12, 0, 177)]) (S' := (L, I, J, R)) (P := (True ∧ R 177 85 = some (23, 4, 238))) [(.aload_n 0, (0, 0, 0, 0, 0)), (.aload_n 0, (0, 0, 0, 0, 0)), (.getfield 201, (12, 85, 3, 0, 0))] [some (23, 4, 238)] (by decide +kernel) rfl ⟨trivial, (r_177_85 hR)⟩ ?_
  obtain ⟨r1, hc1, hf⟩ := bnd_o hf
  refine b_cV (as := [mR (23, 4, 238)]) (st := []) (by decide +kernel) k_12_257 n_MD_isHere rfl (by decide) v_MD_isHere (C_MD_isHere 238 4 I J hR (by decide) hc1) (Nat.le_of_ble_eq_true rfl) (by decide) rfl rfl (fun _ h => h) ?_
  show m_B G (m_rm 3 0 0) M_MD_qWordHere Q 0 0 67 [some (mR (12, 0, 177))] [mI r1.1] (L, r1.2, J, R)
  refine b_if_eq (off := 5) (tgt := 72) (by decide +kernel) (by decide) (fun h2 => ?_) (fun h2 => ?_)
  · have hf := if_t h2 hf
    refine b_blk (pc' := 77) (ls' := [some (mR (12, 0, 177))]) (st' := [mR (23, 6, 239), mR (12, 0, 177)]) (S' := (L, r1.2, J, R)) (P := (True ∧ R 177 86 = some (23, 6, 239))) [(.aload_n 0, (0, 0, 0, 0, 0)), (.aload_n 0, (0, 0, 0, 0, 0)), (.getfield 204, (12, 86, 3, 0, 0))] [some (23, 6, 239)] (by decide +kernel) rfl ⟨trivial, (r_177_86 hR)⟩ ?_
    obtain ⟨r3, hc3, hf⟩ := bnd_o hf
    refine b_cV (as := [mR (23, 6, 239)]) (st := []) (by decide +kernel) k_12_257 n_MD_isHere rfl (by decide) v_MD_isHere (C_MD_isHere 239 6 r1.2 J hR (by decide) hc3) (Nat.le_of_ble_eq_true rfl) (by decide) rfl rfl (fun _ h => h) ?_
    show m_B G (m_rm 3 0 0) M_MD_qWordHere Q 0 0 80 [some (mR (12, 0, 177))] [mI r3.1] (L, r3.2, J, R)
    refine b_if_eq (off := 5) (tgt := 85) (by decide +kernel) (by decide) (fun h4 => ?_) (fun h4 => ?_)
    · have hf := if_t h4 hf
      refine b_blk (pc' := 90) (ls' := [some (mR (12, 0, 177))]) (st' := [mR (23, 5, 240), mR (12, 0, 177)]) (S' := (L, r3.2, J, R)) (P := (True ∧ R 177 87 = some (23, 5, 240))) [(.aload_n 0, (0, 0, 0, 0, 0)), (.aload_n 0, (0, 0, 0, 0, 0)), (.getfield 207, (12, 87, 3, 0, 0))] [some (23, 5, 240)] (by decide +kernel) rfl ⟨trivial, (r_177_87 hR)⟩ ?_
      obtain ⟨r5, hc5, hf⟩ := bnd_o hf
      refine b_cV (as := [mR (23, 5, 240)]) (st := []) (by decide +kernel) k_12_257 n_MD_isHere rfl (by decide) v_MD_isHere (C_MD_isHere 240 5 r3.2 J hR (by decide) hc5) (Nat.le_of_ble_eq_true rfl) (by decide) rfl rfl (fun _ h => h) ?_
      show m_B G (m_rm 3 0 0) M_MD_qWordHere Q 0 0 93 [some (mR (12, 0, 177))] [mI r5.1] (L, r5.2, J, R)
      refine b_if_eq (off := 6) (tgt := 99) (by decide +kernel) (by decide) (fun h6 => ?_) (fun h6 => ?_)
      · have hf := if_t h6 hf
        refine b_blk (pc' := 104) (ls' := [some (mR (12, 0, 177))]) (st' := [mR (23, 3, 241), mR (12, 0, 177)]) (S' := (L, r5.2, J, R)) (P := (True ∧ R 177 88 = some (23, 3, 241))) [(.aload_n 0, (0, 0, 0, 0, 0)), (.aload_n 0, (0, 0, 0, 0, 0)), (.getfield 210, (12, 88, 3, 0, 0))] [some (23, 3, 241)] (by decide +kernel) rfl ⟨trivial, (r_177_88 hR)⟩ ?_
        obtain ⟨r7, hc7, hf⟩ := bnd_o hf
        refine b_cV (as := [mR (23, 3, 241)]) (st := []) (by decide +kernel) k_12_257 n_MD_isHere rfl (by decide) v_MD_isHere (C_MD_isHere 241 3 r5.2 J hR (by decide) hc7) (Nat.le_of_ble_eq_true rfl) (by decide) rfl rfl (fun _ h => h) ?_
        show m_B G (m_rm 3 0 0) M_MD_qWordHere Q 0 0 107 [some (mR (12, 0, 177))] [mI r7.1] (L, r7.2, J, R)
        refine b_if_eq (off := 6) (tgt := 113) (by decide +kernel) (by decide) (fun h8 => ?_) (fun h8 => ?_)
        · have hf := if_t h8 hf
          refine b_blk (pc' := 118) (ls' := [some (mR (12, 0, 177))]) (st' := [mR (23, 3, 242), mR (12, 0, 177)]) (S' := (L, r7.2, J, R)) (P := (True ∧ R 177 89 = some (23, 3, 242))) [(.aload_n 0, (0, 0, 0, 0, 0)), (.aload_n 0, (0, 0, 0, 0, 0)), (.getfield 213, (12, 89, 3, 0, 0))] [some (23, 3, 242)] (by decide +kernel) rfl ⟨trivial, (r_177_89 hR)⟩ ?_
          obtain ⟨r9, hc9, hf⟩ := bnd_o hf
          refine b_cV (as := [mR (23, 3, 242)]) (st := []) (by decide +kernel) k_12_257 n_MD_isHere rfl (by decide) v_MD_isHere (C_MD_isHere 242 3 r7.2 J hR (by decide) hc9) (Nat.le_of_ble_eq_true rfl) (by decide) rfl rfl (fun _ h => h) ?_
          show m_B G (m_rm 3 0 0) M_MD_qWordHere Q 0 0 121 [some (mR (12, 0, 177))] [mI r9.1] (L, r9.2, J, R)
          refine b_if_eq (off := 6) (tgt := 127) (by decide +kernel) (by decide) (fun h10 => ?_) (fun h10 => ?_)
          · have hf := if_t h10 hf
            refine b_blk (pc' := 132) (ls' := [some (mR (12, 0, 177))]) (st' := [mR (23, 5, 243), mR (12, 0, 177)]) (S' := (L, r9.2, J, R)) (P := (True ∧ R 177 90 = some (23, 5, 243))) [(.aload_n 0, (0, 0, 0, 0, 0)), (.aload_n 0, (0, 0, 0, 0, 0)), (.getfield 216, (12, 90, 3, 0, 0))] [some (23, 5, 243)] (by decide +kernel) rfl ⟨trivial, (r_177_90 hR)⟩ ?_
            obtain ⟨r11, hc11, hf⟩ := bnd_o hf
            refine b_cV (as := [mR (23, 5, 243)]) (st := []) (by decide +kernel) k_12_257 n_MD_isHere rfl (by decide) v_MD_isHere (C_MD_isHere 243 5 r9.2 J hR (by decide) hc11) (Nat.le_of_ble_eq_true rfl) (by decide) rfl rfl (fun _ h => h) ?_
            show m_B G (m_rm 3 0 0) M_MD_qWordHere Q 0 0 135 [some (mR (12, 0, 177))] [mI r11.1] (L, r11.2, J, R)
            refine b_if_eq (off := 6) (tgt := 141) (by decide +kernel) (by decide) (fun h12 => ?_) (fun h12 => ?_)
            · have hf := if_t h12 hf
              refine b_blk (pc' := 142) (ls' := [some (mR (12, 0, 177))]) (st' := [mI (-1)]) (S' := (L, r11.2, J, R)) (P := True) [(.iconst (-1), (0, 0, 0, (-1), 0))] [] (by decide +kernel) rfl trivial ?_
              cases hf
              exact b_iret (by decide +kernel) rfl hk
            · have hf := if_f h12 hf
              refine b_blk (pc' := 140) (ls' := [some (mR (12, 0, 177))]) (st' := [mI 9]) (S' := (L, r11.2, J, R)) (P := True) [(.bipush 9, (0, 0, 0, 9, 0))] [] (by decide +kernel) rfl trivial ?_
              cases hf
              exact b_iret (by decide +kernel) rfl hk
          · have hf := if_f h10 hf
            refine b_blk (pc' := 126) (ls' := [some (mR (12, 0, 177))]) (st' := [mI 8]) (S' := (L, r9.2, J, R)) (P := True) [(.bipush 8, (0, 0, 0, 8, 0))] [] (by decide +kernel) rfl trivial ?_
            cases hf
            exact b_iret (by decide +kernel) rfl hk
        · have hf := if_f h8 hf
          refine b_blk (pc' := 112) (ls' := [some (mR (12, 0, 177))]) (st' := [mI 7]) (S' := (L, r7.2, J, R)) (P := True) [(.bipush 7, (0, 0, 0, 7, 0))] [] (by decide +kernel) rfl trivial ?_
          cases hf
          exact b_iret (by decide +kernel) rfl hk
      · have hf := if_f h6 hf
        refine b_blk (pc' := 98) (ls' := [some (mR (12, 0, 177))]) (st' := [mI 6]) (S' := (L, r5.2, J, R)) (P := True) [(.bipush 6, (0, 0, 0, 6, 0))] [] (by decide +kernel) rfl trivial ?_
        cases hf
        exact b_iret (by decide +kernel) rfl hk
    · have hf := if_f h4 hf
      refine b_blk (pc' := 84) (ls' := [some (mR (12, 0, 177))]) (st' := [mI 5]) (S' := (L, r3.2, J, R)) (P := True) [(.iconst 5, (0, 0, 0, 5, 0))] [] (by decide +kernel) rfl trivial ?_
      cases hf
      exact b_iret (by decide +kernel) rfl hk
  · have hf := if_f h2 hf
    refine b_blk (pc' := 71) (ls' := [some (mR (12, 0, 177))]) (st' := [mI 4]) (S' := (L, r1.2, J, R)) (P := True) [(.iconst 4, (0, 0, 0, 4, 0))] [] (by decide +kernel) rfl trivial ?_
    cases hf
    exact b_iret (by decide +kernel) rfl hk
noncomputable def F_MD_qWordHere (I : MI) : Option (Int32 × MI) :=
  (F_MD_isHere 234 3 I).bind fun r1 => if r1.1 = (0 : Int32) then ((F_MD_isHere 235 5 r1.2).bind fun r3 => if r3.1 = (0 : Int32) then ((F_MD_isHere 236 4 r3.2).bind fun r5 => if r5.1 = (0 : Int32) then (if (r5.2 177 50) = (0 : Int32) then ((F_MD_isHere 237 3 r5.2).bind fun r8 => if r8.1 = (0 : Int32) then (F_MD_qWordHere_59 r8.2) else (some ((3 : Int32), r8.2))) else (F_MD_qWordHere_59 r5.2)) else (some ((2 : Int32), r5.2))) else (some ((1 : Int32), r3.2))) else (some ((0 : Int32), r1.2))
set_option maxRecDepth 100000 in
set_option maxHeartbeats 400000 in
theorem W_MD_qWordHere {G : MG} {Q : Option MV → MS → Prop} {L : List (Nat × Nat)} {R : Nat → Nat → Option MRef} (I : MI) (J : MJ) (hR : RF R) {r : Int32 × MI} (hf : F_MD_qWordHere I = some r) (hk : (fun r : Int32 × MI => Q (some (mI r.1)) (L, r.2, J, R)) r) : m_B G (m_rm 3 0 0) M_MD_qWordHere Q 0 0 0 [some (mR (12, 0, 177))] [] (L, I, J, R) := by
  unfold F_MD_qWordHere at hf
  refine b_blk (pc' := 5) (ls' := [some (mR (12, 0, 177))]) (st' := [mR (23, 3, 234), mR (12, 0, 177)]) (S' := (L, I, J, R)) (P := (True ∧ R 177 81 = some (23, 3, 234))) [(.aload_n 0, (0, 0, 0, 0, 0)), (.aload_n 0, (0, 0, 0, 0, 0)), (.getfield 189, (12, 81, 3, 0, 0))] [some (23, 3, 234)] (by decide +kernel) rfl ⟨trivial, (r_177_81 hR)⟩ ?_
  obtain ⟨r1, hc1, hf⟩ := bnd_o hf
  refine b_cV (as := [mR (23, 3, 234)]) (st := []) (by decide +kernel) k_12_257 n_MD_isHere rfl (by decide) v_MD_isHere (C_MD_isHere 234 3 I J hR (by decide) hc1) (Nat.le_of_ble_eq_true rfl) (by decide) rfl rfl (fun _ h => h) ?_
  show m_B G (m_rm 3 0 0) M_MD_qWordHere Q 0 0 8 [some (mR (12, 0, 177))] [mI r1.1] (L, r1.2, J, R)
  refine b_if_eq (off := 5) (tgt := 13) (by decide +kernel) (by decide) (fun h2 => ?_) (fun h2 => ?_)
  · have hf := if_t h2 hf
    refine b_blk (pc' := 18) (ls' := [some (mR (12, 0, 177))]) (st' := [mR (23, 5, 235), mR (12, 0, 177)]) (S' := (L, r1.2, J, R)) (P := (True ∧ R 177 82 = some (23, 5, 235))) [(.aload_n 0, (0, 0, 0, 0, 0)), (.aload_n 0, (0, 0, 0, 0, 0)), (.getfield 192, (12, 82, 3, 0, 0))] [some (23, 5, 235)] (by decide +kernel) rfl ⟨trivial, (r_177_82 hR)⟩ ?_
    obtain ⟨r3, hc3, hf⟩ := bnd_o hf
    refine b_cV (as := [mR (23, 5, 235)]) (st := []) (by decide +kernel) k_12_257 n_MD_isHere rfl (by decide) v_MD_isHere (C_MD_isHere 235 5 r1.2 J hR (by decide) hc3) (Nat.le_of_ble_eq_true rfl) (by decide) rfl rfl (fun _ h => h) ?_
    show m_B G (m_rm 3 0 0) M_MD_qWordHere Q 0 0 21 [some (mR (12, 0, 177))] [mI r3.1] (L, r3.2, J, R)
    refine b_if_eq (off := 5) (tgt := 26) (by decide +kernel) (by decide) (fun h4 => ?_) (fun h4 => ?_)
    · have hf := if_t h4 hf
      refine b_blk (pc' := 31) (ls' := [some (mR (12, 0, 177))]) (st' := [mR (23, 4, 236), mR (12, 0, 177)]) (S' := (L, r3.2, J, R)) (P := (True ∧ R 177 83 = some (23, 4, 236))) [(.aload_n 0, (0, 0, 0, 0, 0)), (.aload_n 0, (0, 0, 0, 0, 0)), (.getfield 195, (12, 83, 3, 0, 0))] [some (23, 4, 236)] (by decide +kernel) rfl ⟨trivial, (r_177_83 hR)⟩ ?_
      obtain ⟨r5, hc5, hf⟩ := bnd_o hf
      refine b_cV (as := [mR (23, 4, 236)]) (st := []) (by decide +kernel) k_12_257 n_MD_isHere rfl (by decide) v_MD_isHere (C_MD_isHere 236 4 r3.2 J hR (by decide) hc5) (Nat.le_of_ble_eq_true rfl) (by decide) rfl rfl (fun _ h => h) ?_
      show m_B G (m_rm 3 0 0) M_MD_qWordHere Q 0 0 34 [some (mR (12, 0, 177))] [mI r5.1] (L, r5.2, J, R)
      refine b_if_eq (off := 5) (tgt := 39) (by decide +kernel) (by decide) (fun h6 => ?_) (fun h6 => ?_)
      · have hf := if_t h6 hf
        refine b_blk (pc' := 43) (ls' := [some (mR (12, 0, 177))]) (st' := [mI (r5.2 177 50)]) (S' := (L, r5.2, J, R)) (P := True) [(.aload_n 0, (0, 0, 0, 0, 0)), (.getfield 292, (12, 50, 0, 0, 0))] [] (by decide +kernel) rfl trivial ?_
        refine b_if_ne (off := 16) (tgt := 59) (by decide +kernel) (by decide) (fun h7 => ?_) (fun h7 => ?_)
        · have hf := if_f h7 hf
          exact m_B_cg rfl rfl rfl (W_MD_qWordHere_59 r5.2 J hR hf hk)
        · have hf := if_t h7 hf
          refine b_blk (pc' := 51) (ls' := [some (mR (12, 0, 177))]) (st' := [mR (23, 3, 237), mR (12, 0, 177)]) (S' := (L, r5.2, J, R)) (P := (True ∧ R 177 84 = some (23, 3, 237))) [(.aload_n 0, (0, 0, 0, 0, 0)), (.aload_n 0, (0, 0, 0, 0, 0)), (.getfield 198, (12, 84, 3, 0, 0))] [some (23, 3, 237)] (by decide +kernel) rfl ⟨trivial, (r_177_84 hR)⟩ ?_
          obtain ⟨r8, hc8, hf⟩ := bnd_o hf
          refine b_cV (as := [mR (23, 3, 237)]) (st := []) (by decide +kernel) k_12_257 n_MD_isHere rfl (by decide) v_MD_isHere (C_MD_isHere 237 3 r5.2 J hR (by decide) hc8) (Nat.le_of_ble_eq_true rfl) (by decide) rfl rfl (fun _ h => h) ?_
          show m_B G (m_rm 3 0 0) M_MD_qWordHere Q 0 0 54 [some (mR (12, 0, 177))] [mI r8.1] (L, r8.2, J, R)
          refine b_if_eq (off := 5) (tgt := 59) (by decide +kernel) (by decide) (fun h9 => ?_) (fun h9 => ?_)
          · have hf := if_t h9 hf
            exact m_B_cg rfl rfl rfl (W_MD_qWordHere_59 r8.2 J hR hf hk)
          · have hf := if_f h9 hf
            refine b_blk (pc' := 58) (ls' := [some (mR (12, 0, 177))]) (st' := [mI 3]) (S' := (L, r8.2, J, R)) (P := True) [(.iconst 3, (0, 0, 0, 3, 0))] [] (by decide +kernel) rfl trivial ?_
            cases hf
            exact b_iret (by decide +kernel) rfl hk
      · have hf := if_f h6 hf
        refine b_blk (pc' := 38) (ls' := [some (mR (12, 0, 177))]) (st' := [mI 2]) (S' := (L, r5.2, J, R)) (P := True) [(.iconst 2, (0, 0, 0, 2, 0))] [] (by decide +kernel) rfl trivial ?_
        cases hf
        exact b_iret (by decide +kernel) rfl hk
    · have hf := if_f h4 hf
      refine b_blk (pc' := 25) (ls' := [some (mR (12, 0, 177))]) (st' := [mI 1]) (S' := (L, r3.2, J, R)) (P := True) [(.iconst 1, (0, 0, 0, 1, 0))] [] (by decide +kernel) rfl trivial ?_
      cases hf
      exact b_iret (by decide +kernel) rfl hk
  · have hf := if_f h2 hf
    refine b_blk (pc' := 12) (ls' := [some (mR (12, 0, 177))]) (st' := [mI 0]) (S' := (L, r1.2, J, R)) (P := True) [(.iconst 0, (0, 0, 0, 0, 0))] [] (by decide +kernel) rfl trivial ?_
    cases hf
    exact b_iret (by decide +kernel) rfl hk
theorem C_MD_qWordHere {G : MG} {L : List (Nat × Nat)} {R : Nat → Nat → Option MRef} (I : MI) (J : MJ) (hR : RF R) {r : Int32 × MI} (hf : F_MD_qWordHere I = some r) : m_met G 3 0 0 y_MD_qWordHere M_MD_qWordHere [mR (12, 0, 177)] (L, I, J, R) (m_is (some (mI r.1)) (L, r.2, J, R)) :=
  m_met_in n_MD_qWordHere (plainFor_of_name (by decide)) (by decide) (Nat.le_of_ble_eq_true rfl) (ls := [some (mR (12, 0, 177))]) rfl (W_MD_qWordHere I J hR hf ⟨rfl, rfl⟩)
noncomputable def F_MD_qWordOf (I : MI) (v1 : Int32) (v2 : Int32) : Option (Int32 × MI) :=
  (F_MD_qWordHere I).bind fun r1 => if r1.1 < v1 then (some (((-1) : Int32), r1.2)) else (if v2 ≤ r1.1 then (some (((-1) : Int32), r1.2)) else ((F_MD_isAllowed r1.2 r1.1).bind fun r4 => if r4 = (0 : Int32) then (some (((-1) : Int32), r1.2)) else (some ((r1.1 : Int32), r1.2))))
set_option maxRecDepth 100000 in
set_option maxHeartbeats 400000 in
theorem W_MD_qWordOf {G : MG} {Q : Option MV → MS → Prop} {L : List (Nat × Nat)} {R : Nat → Nat → Option MRef} (I : MI) (J : MJ) (v1 : Int32) (v2 : Int32) (hR : RF R) {r : Int32 × MI} (hf : F_MD_qWordOf I v1 v2 = some r) (hk : (fun r : Int32 × MI => Q (some (mI r.1)) (L, r.2, J, R)) r) : m_B G (m_rm 4 0 0) M_MD_qWordOf Q 0 0 0 [some (mR (12, 0, 177)), some (mI v1), some (mI v2), none] [] (L, I, J, R) := by
  unfold F_MD_qWordOf at hf
  refine b_blk (pc' := 1) (ls' := [some (mR (12, 0, 177)), some (mI v1), some (mI v2), none]) (st' := [mR (12, 0, 177)]) (S' := (L, I, J, R)) (P := True) [(.aload_n 0, (0, 0, 0, 0, 0))] [] (by decide +kernel) rfl trivial ?_
  obtain ⟨r1, hc1, hf⟩ := bnd_o hf
  refine b_cV (as := []) (st := []) (by decide +kernel) k_12_571 n_MD_qWordHere rfl (by decide) v_MD_qWordHere (C_MD_qWordHere I J hR hc1) (Nat.le_of_ble_eq_true rfl) (by decide) rfl rfl (fun _ h => h) ?_
  show m_B G (m_rm 4 0 0) M_MD_qWordOf Q 0 0 4 [some (mR (12, 0, 177)), some (mI v1), some (mI v2), none] [mI r1.1] (L, r1.2, J, R)
  refine b_blk (pc' := 7) (ls' := [some (mR (12, 0, 177)), some (mI v1), some (mI v2), some (mI r1.1)]) (st' := [mI v1, mI r1.1]) (S' := (L, r1.2, J, R)) (P := True) [(.istore_n 3, (0, 0, 0, 0, 0)), (.iload_n 3, (0, 0, 0, 0, 0)), (.iload_n 1, (0, 0, 0, 0, 0))] [] (by decide +kernel) rfl trivial ?_
  refine b_icmp_lt (off := 20) (tgt := 27) (by decide +kernel) (by decide) (fun h2 => ?_) (fun h2 => ?_)
  · have hf := if_t h2 hf
    refine b_blk (pc' := 28) (ls' := [some (mR (12, 0, 177)), some (mI v1), some (mI v2), some (mI r1.1)]) (st' := [mI (-1)]) (S' := (L, r1.2, J, R)) (P := True) [(.iconst (-1), (0, 0, 0, (-1), 0))] [] (by decide +kernel) rfl trivial ?_
    cases hf
    exact b_iret (by decide +kernel) rfl hk
  · have hf := if_f h2 hf
    refine b_blk (pc' := 12) (ls' := [some (mR (12, 0, 177)), some (mI v1), some (mI v2), some (mI r1.1)]) (st' := [mI v2, mI r1.1]) (S' := (L, r1.2, J, R)) (P := True) [(.iload_n 3, (0, 0, 0, 0, 0)), (.iload_n 2, (0, 0, 0, 0, 0))] [] (by decide +kernel) rfl trivial ?_
    refine b_icmp_ge (off := 15) (tgt := 27) (by decide +kernel) (by decide) (fun h3 => ?_) (fun h3 => ?_)
    · have hf := if_t h3 hf
      refine b_blk (pc' := 28) (ls' := [some (mR (12, 0, 177)), some (mI v1), some (mI v2), some (mI r1.1)]) (st' := [mI (-1)]) (S' := (L, r1.2, J, R)) (P := True) [(.iconst (-1), (0, 0, 0, (-1), 0))] [] (by decide +kernel) rfl trivial ?_
      cases hf
      exact b_iret (by decide +kernel) rfl hk
    · have hf := if_f h3 hf
      refine b_blk (pc' := 17) (ls' := [some (mR (12, 0, 177)), some (mI v1), some (mI v2), some (mI r1.1)]) (st' := [mI r1.1, mR (12, 0, 177)]) (S' := (L, r1.2, J, R)) (P := True) [(.aload_n 0, (0, 0, 0, 0, 0)), (.iload_n 3, (0, 0, 0, 0, 0))] [] (by decide +kernel) rfl trivial ?_
      obtain ⟨r4, hc4, hf⟩ := bnd_o hf
      refine b_cV (as := [mI r1.1]) (st := []) (by decide +kernel) k_12_574 n_MD_isAllowed rfl (by decide) v_MD_isAllowed (C_MD_isAllowed r1.2 J r1.1 hR hc4) (Nat.le_of_ble_eq_true rfl) (by decide) rfl rfl (fun _ h => h) ?_
      show m_B G (m_rm 4 0 0) M_MD_qWordOf Q 0 0 20 [some (mR (12, 0, 177)), some (mI v1), some (mI v2), some (mI r1.1)] [mI r4] (L, r1.2, J, R)
      refine b_if_eq (off := 7) (tgt := 27) (by decide +kernel) (by decide) (fun h5 => ?_) (fun h5 => ?_)
      · have hf := if_t h5 hf
        refine b_blk (pc' := 28) (ls' := [some (mR (12, 0, 177)), some (mI v1), some (mI v2), some (mI r1.1)]) (st' := [mI (-1)]) (S' := (L, r1.2, J, R)) (P := True) [(.iconst (-1), (0, 0, 0, (-1), 0))] [] (by decide +kernel) rfl trivial ?_
        cases hf
        exact b_iret (by decide +kernel) rfl hk
      · have hf := if_f h5 hf
        refine b_blk (pc' := 28) (ls' := [some (mR (12, 0, 177)), some (mI v1), some (mI v2), some (mI r1.1)]) (st' := [mI r1.1]) (S' := (L, r1.2, J, R)) (P := True) [(.iload_n 3, (0, 0, 0, 0, 0)), (.goto 4, (0, 28, 0, 0, 0))] [] (by decide +kernel) rfl trivial ?_
        cases hf
        exact b_iret (by decide +kernel) rfl hk
theorem C_MD_qWordOf {G : MG} {L : List (Nat × Nat)} {R : Nat → Nat → Option MRef} (I : MI) (J : MJ) (v1 : Int32) (v2 : Int32) (hR : RF R) {r : Int32 × MI} (hf : F_MD_qWordOf I v1 v2 = some r) : m_met G 4 0 0 y_MD_qWordOf M_MD_qWordOf [mR (12, 0, 177), mI v1, mI v2] (L, I, J, R) (m_is (some (mI r.1)) (L, r.2, J, R)) :=
  m_met_in n_MD_qWordOf (plainFor_of_name (by decide)) (by decide) (Nat.le_of_ble_eq_true rfl) (ls := [some (mR (12, 0, 177)), some (mI v1), some (mI v2), none]) rfl (W_MD_qWordOf I J v1 v2 hR hf ⟨rfl, rfl⟩)
noncomputable def F_MD_qPartTold_118 (I : MI) (v1 : Int32) (v4 : Int32) (y0 : Int32) : Option ((Int32 × MI) ⊕ (MI)) :=
  if y0 = (-1 : Int32) then ((F_MD_asksSign I (40 : Int32)).bind fun r2 => some (.inl ((v1 : Int32), r2))) else (if v4 = (0 : Int32) then ((F_MD_qOpens I (22 : Int32) y0).bind fun r4 => (F_MD_asksSign r4 (40 : Int32)).bind fun r5 => some (.inl ((v1 : Int32), r5))) else ((F_MD_qOpens I (21 : Int32) y0).bind fun r6 => (F_MD_asksSign r6 (40 : Int32)).bind fun r7 => some (.inl ((v1 : Int32), r7))))
set_option maxRecDepth 100000 in
set_option maxHeartbeats 400000 in
theorem W_MD_qPartTold_118 {G : MG} {Q : Option MV → MS → Prop} {L : List (Nat × Nat)} {R : Nat → Nat → Option MRef} (I : MI) (J : MJ) (v1 : Int32) (v4 : Int32) (y0 : Int32) (hR : RF R) {r : (Int32 × MI) ⊕ (MI)} (hf : F_MD_qPartTold_118 I v1 v4 y0 = some r) (hk : (Sum.elim (fun s : Int32 × MI => m_B G (m_rm 6 0 0) M_MD_qPartTold Q 0 0 2 [some (mR (12, 0, 177)), some (mI s.1), none, none, none, none] [] (L, s.2, J, R)) (fun s : MI => m_B G (m_rm 6 0 0) M_MD_qPartTold Q 0 0 186 [some (mR (12, 0, 177)), none, none, none, none, none] [] (L, s, J, R))) r) : m_B G (m_rm 6 0 0) M_MD_qPartTold Q 0 0 118 [some (mR (12, 0, 177)), some (mI v1), none, none, some (mI v4), none] [mI y0] (L, I, J, R) := by
  unfold F_MD_qPartTold_118 at hf
  refine b_blk (pc' := 123) (ls' := [some (mR (12, 0, 177)), some (mI v1), none, none, some (mI v4), some (mI y0)]) (st' := [mI (-1), mI y0]) (S' := (L, I, J, R)) (P := True) [(.istore 5, (0, 0, 0, 0, 0)), (.iload 5, (0, 0, 0, 0, 0)), (.iconst (-1), (0, 0, 0, (-1), 0))] [] (by decide +kernel) rfl trivial ?_
  refine b_icmp_eq (off := 21) (tgt := 144) (by decide +kernel) (by decide) (fun h1 => ?_) (fun h1 => ?_)
  · have hf := if_t h1 hf
    refine b_blk (pc' := 147) (ls' := [some (mR (12, 0, 177)), some (mI v1), none, none, some (mI v4), some (mI y0)]) (st' := [mI 40, mR (12, 0, 177)]) (S' := (L, I, J, R)) (P := True) [(.aload_n 0, (0, 0, 0, 0, 0)), (.bipush 40, (0, 0, 0, 40, 0))] [] (by decide +kernel) rfl trivial ?_
    obtain ⟨r2, hc2, hf⟩ := bnd_o hf
    refine b_cV (as := [mI 40]) (st := []) (by decide +kernel) k_12_303 n_MD_asksSign rfl (by decide) v_MD_asksSign (C_MD_asksSign I J (40 : Int32) hR hc2) (Nat.le_of_ble_eq_true rfl) (by decide) rfl rfl (fun _ h => h) ?_
    show m_B G (m_rm 6 0 0) M_MD_qPartTold Q 0 0 150 [some (mR (12, 0, 177)), some (mI v1), none, none, some (mI v4), some (mI y0)] [] (L, r2, J, R)
    refine b_blk (pc' := 183) (ls' := [some (mR (12, 0, 177)), some (mI v1), none, none, some (mI v4), some (mI y0)]) (st' := []) (S' := (L, r2, J, R)) (P := True) [(.goto 33, (0, 183, 0, 0, 0))] [] (by decide +kernel) rfl trivial ?_
    refine b_blk (pc' := 2) (ls' := [some (mR (12, 0, 177)), some (mI v1), none, none, some (mI v4), some (mI y0)]) (st' := []) (S' := (L, r2, J, R)) (P := True) [(.goto (-181), (0, 2, 0, 0, 0))] [] (by decide +kernel) rfl trivial ?_
    refine b_frg 4 ?_
    refine b_frg 5 ?_
    cases hf
    exact hk
  · have hf := if_f h1 hf
    refine b_blk (pc' := 129) (ls' := [some (mR (12, 0, 177)), some (mI v1), none, none, some (mI v4), some (mI y0)]) (st' := [mI v4, mR (12, 0, 177)]) (S' := (L, I, J, R)) (P := True) [(.aload_n 0, (0, 0, 0, 0, 0)), (.iload 4, (0, 0, 0, 0, 0))] [] (by decide +kernel) rfl trivial ?_
    refine b_if_eq (off := 8) (tgt := 137) (by decide +kernel) (by decide) (fun h3 => ?_) (fun h3 => ?_)
    · have hf := if_t h3 hf
      refine b_blk (pc' := 141) (ls' := [some (mR (12, 0, 177)), some (mI v1), none, none, some (mI v4), some (mI y0)]) (st' := [mI y0, mI 22, mR (12, 0, 177)]) (S' := (L, I, J, R)) (P := True) [(.bipush 22, (0, 0, 0, 22, 0)), (.iload 5, (0, 0, 0, 0, 0))] [] (by decide +kernel) rfl trivial ?_
      obtain ⟨r4, hc4, hf⟩ := bnd_o hf
      refine b_cV (as := [mI 22, mI y0]) (st := []) (by decide +kernel) k_12_580 n_MD_qOpens rfl (by decide) v_MD_qOpens (C_MD_qOpens I J (22 : Int32) y0 hR hc4) (Nat.le_of_ble_eq_true rfl) (by decide) rfl rfl (fun _ h => h) ?_
      show m_B G (m_rm 6 0 0) M_MD_qPartTold Q 0 0 144 [some (mR (12, 0, 177)), some (mI v1), none, none, some (mI v4), some (mI y0)] [] (L, r4, J, R)
      refine b_blk (pc' := 147) (ls' := [some (mR (12, 0, 177)), some (mI v1), none, none, some (mI v4), some (mI y0)]) (st' := [mI 40, mR (12, 0, 177)]) (S' := (L, r4, J, R)) (P := True) [(.aload_n 0, (0, 0, 0, 0, 0)), (.bipush 40, (0, 0, 0, 40, 0))] [] (by decide +kernel) rfl trivial ?_
      obtain ⟨r5, hc5, hf⟩ := bnd_o hf
      refine b_cV (as := [mI 40]) (st := []) (by decide +kernel) k_12_303 n_MD_asksSign rfl (by decide) v_MD_asksSign (C_MD_asksSign r4 J (40 : Int32) hR hc5) (Nat.le_of_ble_eq_true rfl) (by decide) rfl rfl (fun _ h => h) ?_
      show m_B G (m_rm 6 0 0) M_MD_qPartTold Q 0 0 150 [some (mR (12, 0, 177)), some (mI v1), none, none, some (mI v4), some (mI y0)] [] (L, r5, J, R)
      refine b_blk (pc' := 183) (ls' := [some (mR (12, 0, 177)), some (mI v1), none, none, some (mI v4), some (mI y0)]) (st' := []) (S' := (L, r5, J, R)) (P := True) [(.goto 33, (0, 183, 0, 0, 0))] [] (by decide +kernel) rfl trivial ?_
      refine b_blk (pc' := 2) (ls' := [some (mR (12, 0, 177)), some (mI v1), none, none, some (mI v4), some (mI y0)]) (st' := []) (S' := (L, r5, J, R)) (P := True) [(.goto (-181), (0, 2, 0, 0, 0))] [] (by decide +kernel) rfl trivial ?_
      refine b_frg 4 ?_
      refine b_frg 5 ?_
      cases hf
      exact hk
    · have hf := if_f h3 hf
      refine b_blk (pc' := 139) (ls' := [some (mR (12, 0, 177)), some (mI v1), none, none, some (mI v4), some (mI y0)]) (st' := [mI 21, mR (12, 0, 177)]) (S' := (L, I, J, R)) (P := True) [(.bipush 21, (0, 0, 0, 21, 0)), (.goto 5, (0, 139, 0, 0, 0))] [] (by decide +kernel) rfl trivial ?_
      refine b_blk (pc' := 141) (ls' := [some (mR (12, 0, 177)), some (mI v1), none, none, some (mI v4), some (mI y0)]) (st' := [mI y0, mI 21, mR (12, 0, 177)]) (S' := (L, I, J, R)) (P := True) [(.iload 5, (0, 0, 0, 0, 0))] [] (by decide +kernel) rfl trivial ?_
      obtain ⟨r6, hc6, hf⟩ := bnd_o hf
      refine b_cV (as := [mI 21, mI y0]) (st := []) (by decide +kernel) k_12_580 n_MD_qOpens rfl (by decide) v_MD_qOpens (C_MD_qOpens I J (21 : Int32) y0 hR hc6) (Nat.le_of_ble_eq_true rfl) (by decide) rfl rfl (fun _ h => h) ?_
      show m_B G (m_rm 6 0 0) M_MD_qPartTold Q 0 0 144 [some (mR (12, 0, 177)), some (mI v1), none, none, some (mI v4), some (mI y0)] [] (L, r6, J, R)
      refine b_blk (pc' := 147) (ls' := [some (mR (12, 0, 177)), some (mI v1), none, none, some (mI v4), some (mI y0)]) (st' := [mI 40, mR (12, 0, 177)]) (S' := (L, r6, J, R)) (P := True) [(.aload_n 0, (0, 0, 0, 0, 0)), (.bipush 40, (0, 0, 0, 40, 0))] [] (by decide +kernel) rfl trivial ?_
      obtain ⟨r7, hc7, hf⟩ := bnd_o hf
      refine b_cV (as := [mI 40]) (st := []) (by decide +kernel) k_12_303 n_MD_asksSign rfl (by decide) v_MD_asksSign (C_MD_asksSign r6 J (40 : Int32) hR hc7) (Nat.le_of_ble_eq_true rfl) (by decide) rfl rfl (fun _ h => h) ?_
      show m_B G (m_rm 6 0 0) M_MD_qPartTold Q 0 0 150 [some (mR (12, 0, 177)), some (mI v1), none, none, some (mI v4), some (mI y0)] [] (L, r7, J, R)
      refine b_blk (pc' := 183) (ls' := [some (mR (12, 0, 177)), some (mI v1), none, none, some (mI v4), some (mI y0)]) (st' := []) (S' := (L, r7, J, R)) (P := True) [(.goto 33, (0, 183, 0, 0, 0))] [] (by decide +kernel) rfl trivial ?_
      refine b_blk (pc' := 2) (ls' := [some (mR (12, 0, 177)), some (mI v1), none, none, some (mI v4), some (mI y0)]) (st' := []) (S' := (L, r7, J, R)) (P := True) [(.goto (-181), (0, 2, 0, 0, 0))] [] (by decide +kernel) rfl trivial ?_
      refine b_frg 4 ?_
      refine b_frg 5 ?_
      cases hf
      exact hk
noncomputable def F_MD_qPartTold_101 (I : MI) (v1 : Int32) (v4 : Int32) : Option ((Int32 × MI) ⊕ (MI)) :=
  (F_MD_look I).bind fun r1 => if r1.1 = (40 : Int32) then (F_MD_qPartTold_118 r1.2 v1 v4 (r1.2 177 2)) else (F_MD_qPartTold_118 r1.2 v1 v4 (-1 : Int32))
set_option maxRecDepth 100000 in
set_option maxHeartbeats 400000 in
theorem W_MD_qPartTold_101 {G : MG} {Q : Option MV → MS → Prop} {L : List (Nat × Nat)} {R : Nat → Nat → Option MRef} (I : MI) (J : MJ) (v1 : Int32) (v4 : Int32) (hR : RF R) {r : (Int32 × MI) ⊕ (MI)} (hf : F_MD_qPartTold_101 I v1 v4 = some r) (hk : (Sum.elim (fun s : Int32 × MI => m_B G (m_rm 6 0 0) M_MD_qPartTold Q 0 0 2 [some (mR (12, 0, 177)), some (mI s.1), none, none, none, none] [] (L, s.2, J, R)) (fun s : MI => m_B G (m_rm 6 0 0) M_MD_qPartTold Q 0 0 186 [some (mR (12, 0, 177)), none, none, none, none, none] [] (L, s, J, R))) r) : m_B G (m_rm 6 0 0) M_MD_qPartTold Q 0 0 101 [some (mR (12, 0, 177)), some (mI v1), none, none, some (mI v4), none] [] (L, I, J, R) := by
  unfold F_MD_qPartTold_101 at hf
  refine b_blk (pc' := 102) (ls' := [some (mR (12, 0, 177)), some (mI v1), none, none, some (mI v4), none]) (st' := [mR (12, 0, 177)]) (S' := (L, I, J, R)) (P := True) [(.aload_n 0, (0, 0, 0, 0, 0))] [] (by decide +kernel) rfl trivial ?_
  obtain ⟨r1, hc1, hf⟩ := bnd_o hf
  refine b_cV (as := []) (st := []) (by decide +kernel) k_12_246 n_MD_look rfl (by decide) v_MD_look (C_MD_look I J hR hc1) (Nat.le_of_ble_eq_true rfl) (by decide) rfl rfl (fun _ h => h) ?_
  show m_B G (m_rm 6 0 0) M_MD_qPartTold Q 0 0 105 [some (mR (12, 0, 177)), some (mI v1), none, none, some (mI v4), none] [mI r1.1] (L, r1.2, J, R)
  refine b_blk (pc' := 107) (ls' := [some (mR (12, 0, 177)), some (mI v1), none, none, some (mI v4), none]) (st' := [mI 40, mI r1.1]) (S' := (L, r1.2, J, R)) (P := True) [(.bipush 40, (0, 0, 0, 40, 0))] [] (by decide +kernel) rfl trivial ?_
  refine b_icmp_ne (off := 10) (tgt := 117) (by decide +kernel) (by decide) (fun h2 => ?_) (fun h2 => ?_)
  · have hf := if_f h2 hf
    refine b_blk (pc' := 118) (ls' := [some (mR (12, 0, 177)), some (mI v1), none, none, some (mI v4), none]) (st' := [mI (-1)]) (S' := (L, r1.2, J, R)) (P := True) [(.iconst (-1), (0, 0, 0, (-1), 0))] [] (by decide +kernel) rfl trivial ?_
    exact m_B_cg rfl rfl rfl (W_MD_qPartTold_118 r1.2 J v1 v4 (-1 : Int32) hR hf hk)
  · have hf := if_t h2 hf
    refine b_blk (pc' := 118) (ls' := [some (mR (12, 0, 177)), some (mI v1), none, none, some (mI v4), none]) (st' := [mI (r1.2 177 2)]) (S' := (L, r1.2, J, R)) (P := True) [(.aload_n 0, (0, 0, 0, 0, 0)), (.getfield 240, (12, 2, 0, 0, 0)), (.goto 4, (0, 118, 0, 0, 0))] [] (by decide +kernel) rfl trivial ?_
    exact m_B_cg rfl rfl rfl (W_MD_qPartTold_118 r1.2 J v1 v4 (r1.2 177 2) hR hf hk)
noncomputable def F_MD_qPartTold_78 (I : MI) (v1 : Int32) : Option ((Int32 × MI) ⊕ (MI)) :=
  (F_MD_takes 232 3 I).bind fun r1 => if r1.1 = (0 : Int32) then ((F_MD_asks 233 3 r1.2).bind fun r3 => F_MD_qPartTold_101 r3 v1 r1.1) else (F_MD_qPartTold_101 r1.2 v1 r1.1)
set_option maxRecDepth 100000 in
set_option maxHeartbeats 400000 in
theorem W_MD_qPartTold_78 {G : MG} {Q : Option MV → MS → Prop} {L : List (Nat × Nat)} {R : Nat → Nat → Option MRef} (I : MI) (J : MJ) (v1 : Int32) (hR : RF R) {r : (Int32 × MI) ⊕ (MI)} (hf : F_MD_qPartTold_78 I v1 = some r) (hk : (Sum.elim (fun s : Int32 × MI => m_B G (m_rm 6 0 0) M_MD_qPartTold Q 0 0 2 [some (mR (12, 0, 177)), some (mI s.1), none, none, none, none] [] (L, s.2, J, R)) (fun s : MI => m_B G (m_rm 6 0 0) M_MD_qPartTold Q 0 0 186 [some (mR (12, 0, 177)), none, none, none, none, none] [] (L, s, J, R))) r) : m_B G (m_rm 6 0 0) M_MD_qPartTold Q 0 0 78 [some (mR (12, 0, 177)), some (mI v1), none, none, none, none] [] (L, I, J, R) := by
  unfold F_MD_qPartTold_78 at hf
  refine b_blk (pc' := 83) (ls' := [some (mR (12, 0, 177)), some (mI v1), none, none, none, none]) (st' := [mR (23, 3, 232), mR (12, 0, 177)]) (S' := (L, I, J, R)) (P := (True ∧ R 177 79 = some (23, 3, 232))) [(.aload_n 0, (0, 0, 0, 0, 0)), (.aload_n 0, (0, 0, 0, 0, 0)), (.getfield 183, (12, 79, 3, 0, 0))] [some (23, 3, 232)] (by decide +kernel) rfl ⟨trivial, (r_177_79 hR)⟩ ?_
  obtain ⟨r1, hc1, hf⟩ := bnd_o hf
  refine b_cV (as := [mR (23, 3, 232)]) (st := []) (by decide +kernel) k_12_261 n_MD_takes rfl (by decide) v_MD_takes (C_MD_takes 232 3 I J hR (by decide) hc1) (Nat.le_of_ble_eq_true rfl) (by decide) rfl rfl (fun _ h => h) ?_
  show m_B G (m_rm 6 0 0) M_MD_qPartTold Q 0 0 86 [some (mR (12, 0, 177)), some (mI v1), none, none, none, none] [mI r1.1] (L, r1.2, J, R)
  refine b_blk (pc' := 90) (ls' := [some (mR (12, 0, 177)), some (mI v1), none, none, some (mI r1.1), none]) (st' := [mI r1.1]) (S' := (L, r1.2, J, R)) (P := True) [(.istore 4, (0, 0, 0, 0, 0)), (.iload 4, (0, 0, 0, 0, 0))] [] (by decide +kernel) rfl trivial ?_
  refine b_if_ne (off := 11) (tgt := 101) (by decide +kernel) (by decide) (fun h2 => ?_) (fun h2 => ?_)
  · have hf := if_f h2 hf
    exact m_B_cg rfl rfl rfl (W_MD_qPartTold_101 r1.2 J v1 r1.1 hR hf hk)
  · have hf := if_t h2 hf
    refine b_blk (pc' := 98) (ls' := [some (mR (12, 0, 177)), some (mI v1), none, none, some (mI r1.1), none]) (st' := [mR (23, 3, 233), mR (12, 0, 177)]) (S' := (L, r1.2, J, R)) (P := (True ∧ R 177 80 = some (23, 3, 233))) [(.aload_n 0, (0, 0, 0, 0, 0)), (.aload_n 0, (0, 0, 0, 0, 0)), (.getfield 186, (12, 80, 3, 0, 0))] [some (23, 3, 233)] (by decide +kernel) rfl ⟨trivial, (r_177_80 hR)⟩ ?_
    obtain ⟨r3, hc3, hf⟩ := bnd_o hf
    refine b_cV (as := [mR (23, 3, 233)]) (st := []) (by decide +kernel) k_12_295 n_MD_asks rfl (by decide) v_MD_asks (C_MD_asks 233 3 r1.2 J hR (by decide) hc3) (Nat.le_of_ble_eq_true rfl) (by decide) rfl rfl (fun _ h => h) ?_
    show m_B G (m_rm 6 0 0) M_MD_qPartTold Q 0 0 101 [some (mR (12, 0, 177)), some (mI v1), none, none, some (mI r1.1), none] [] (L, r3, J, R)
    exact m_B_cg rfl rfl rfl (W_MD_qPartTold_101 r3 J v1 r1.1 hR hf hk)
noncomputable def F_MD_qPartTold_2 (I : MI) (v1 : Int32) : Option ((Int32 × MI) ⊕ (MI)) :=
  if v1 = (0 : Int32) then (some (.inr I)) else (if (I 177 5) = (0 : Int32) then ((F_MD_look I).bind fun r3 => (F_MD_qWordOf r3.2 (8 : Int32) (10 : Int32)).bind fun r4 => if r3.1 = (40 : Int32) then ((F_MD_qOpens r4.2 (20 : Int32) (r4.2 177 2)).bind fun r13 => some (.inl ((v1 : Int32), m_up r13 177 2 ((r13 177 2) + (1 : Int32))))) else ((F_MD_isHere 232 3 r4.2).bind fun r6 => if r6.1 = (0 : Int32) then ((F_MD_isHere 233 3 r6.2).bind fun r8 => if r8.1 = (0 : Int32) then (if r4.1 = (-1 : Int32) then (some (.inl ((0 : Int32), r8.2))) else ((F_MD_qOpens r8.2 (((60 : Int32) + r4.1) - (8 : Int32)) (r8.2 177 2)).bind fun r11 => (F_MD_qAsksWord r11 r4.1).bind fun r12 => some (.inl ((v1 : Int32), r12)))) else (F_MD_qPartTold_78 r8.2 v1)) else (F_MD_qPartTold_78 r6.2 v1))) else (some (.inr I)))
set_option maxRecDepth 100000 in
set_option maxHeartbeats 400000 in
theorem W_MD_qPartTold_2 {G : MG} {Q : Option MV → MS → Prop} {L : List (Nat × Nat)} {R : Nat → Nat → Option MRef} (I : MI) (J : MJ) (v1 : Int32) (hR : RF R) {r : (Int32 × MI) ⊕ (MI)} (hf : F_MD_qPartTold_2 I v1 = some r) (hk : (Sum.elim (fun s : Int32 × MI => m_B G (m_rm 6 0 0) M_MD_qPartTold Q 0 0 2 [some (mR (12, 0, 177)), some (mI s.1), none, none, none, none] [] (L, s.2, J, R)) (fun s : MI => m_B G (m_rm 6 0 0) M_MD_qPartTold Q 0 0 186 [some (mR (12, 0, 177)), none, none, none, none, none] [] (L, s, J, R))) r) : m_B G (m_rm 6 0 0) M_MD_qPartTold Q 0 0 2 [some (mR (12, 0, 177)), some (mI v1), none, none, none, none] [] (L, I, J, R) := by
  unfold F_MD_qPartTold_2 at hf
  refine b_blk (pc' := 3) (ls' := [some (mR (12, 0, 177)), some (mI v1), none, none, none, none]) (st' := [mI v1]) (S' := (L, I, J, R)) (P := True) [(.iload_n 1, (0, 0, 0, 0, 0))] [] (by decide +kernel) rfl trivial ?_
  refine b_if_eq (off := 183) (tgt := 186) (by decide +kernel) (by decide) (fun h1 => ?_) (fun h1 => ?_)
  · have hf := if_t h1 hf
    refine b_frg 1 ?_
    cases hf
    exact hk
  · have hf := if_f h1 hf
    refine b_blk (pc' := 10) (ls' := [some (mR (12, 0, 177)), some (mI v1), none, none, none, none]) (st' := [mI (I 177 5)]) (S' := (L, I, J, R)) (P := True) [(.aload_n 0, (0, 0, 0, 0, 0)), (.getfield 234, (12, 5, 0, 0, 0))] [] (by decide +kernel) rfl trivial ?_
    refine b_if_ne (off := 176) (tgt := 186) (by decide +kernel) (by decide) (fun h2 => ?_) (fun h2 => ?_)
    · have hf := if_f h2 hf
      refine b_frg 1 ?_
      cases hf
      exact hk
    · have hf := if_t h2 hf
      refine b_blk (pc' := 14) (ls' := [some (mR (12, 0, 177)), some (mI v1), none, none, none, none]) (st' := [mR (12, 0, 177)]) (S' := (L, I, J, R)) (P := True) [(.aload_n 0, (0, 0, 0, 0, 0))] [] (by decide +kernel) rfl trivial ?_
      obtain ⟨r3, hc3, hf⟩ := bnd_o hf
      refine b_cV (as := []) (st := []) (by decide +kernel) k_12_246 n_MD_look rfl (by decide) v_MD_look (C_MD_look I J hR hc3) (Nat.le_of_ble_eq_true rfl) (by decide) rfl rfl (fun _ h => h) ?_
      show m_B G (m_rm 6 0 0) M_MD_qPartTold Q 0 0 17 [some (mR (12, 0, 177)), some (mI v1), none, none, none, none] [mI r3.1] (L, r3.2, J, R)
      refine b_blk (pc' := 23) (ls' := [some (mR (12, 0, 177)), some (mI v1), some (mI r3.1), none, none, none]) (st' := [mI 10, mI 8, mR (12, 0, 177)]) (S' := (L, r3.2, J, R)) (P := True) [(.istore_n 2, (0, 0, 0, 0, 0)), (.aload_n 0, (0, 0, 0, 0, 0)), (.bipush 8, (0, 0, 0, 8, 0)), (.bipush 10, (0, 0, 0, 10, 0))] [] (by decide +kernel) rfl trivial ?_
      obtain ⟨r4, hc4, hf⟩ := bnd_o hf
      refine b_cV (as := [mI 8, mI 10]) (st := []) (by decide +kernel) k_12_577 n_MD_qWordOf rfl (by decide) v_MD_qWordOf (C_MD_qWordOf r3.2 J (8 : Int32) (10 : Int32) hR hc4) (Nat.le_of_ble_eq_true rfl) (by decide) rfl rfl (fun _ h => h) ?_
      show m_B G (m_rm 6 0 0) M_MD_qPartTold Q 0 0 26 [some (mR (12, 0, 177)), some (mI v1), some (mI r3.1), none, none, none] [mI r4.1] (L, r4.2, J, R)
      refine b_blk (pc' := 30) (ls' := [some (mR (12, 0, 177)), some (mI v1), some (mI r3.1), some (mI r4.1), none, none]) (st' := [mI 40, mI r3.1]) (S' := (L, r4.2, J, R)) (P := True) [(.istore_n 3, (0, 0, 0, 0, 0)), (.iload_n 2, (0, 0, 0, 0, 0)), (.bipush 40, (0, 0, 0, 40, 0))] [] (by decide +kernel) rfl trivial ?_
      refine b_icmp_ne (off := 26) (tgt := 56) (by decide +kernel) (by decide) (fun h5 => ?_) (fun h5 => ?_)
      · have hf := if_f h5 hf
        refine b_blk (pc' := 61) (ls' := [some (mR (12, 0, 177)), some (mI v1), some (mI r3.1), some (mI r4.1), none, none]) (st' := [mR (23, 3, 232), mR (12, 0, 177)]) (S' := (L, r4.2, J, R)) (P := (True ∧ R 177 79 = some (23, 3, 232))) [(.aload_n 0, (0, 0, 0, 0, 0)), (.aload_n 0, (0, 0, 0, 0, 0)), (.getfield 183, (12, 79, 3, 0, 0))] [some (23, 3, 232)] (by decide +kernel) rfl ⟨trivial, (r_177_79 hR)⟩ ?_
        obtain ⟨r6, hc6, hf⟩ := bnd_o hf
        refine b_cV (as := [mR (23, 3, 232)]) (st := []) (by decide +kernel) k_12_257 n_MD_isHere rfl (by decide) v_MD_isHere (C_MD_isHere 232 3 r4.2 J hR (by decide) hc6) (Nat.le_of_ble_eq_true rfl) (by decide) rfl rfl (fun _ h => h) ?_
        show m_B G (m_rm 6 0 0) M_MD_qPartTold Q 0 0 64 [some (mR (12, 0, 177)), some (mI v1), some (mI r3.1), some (mI r4.1), none, none] [mI r6.1] (L, r6.2, J, R)
        refine b_if_ne (off := 14) (tgt := 78) (by decide +kernel) (by decide) (fun h7 => ?_) (fun h7 => ?_)
        · have hf := if_f h7 hf
          refine b_frg 2 ?_
          refine b_frg 3 ?_
          exact m_B_cg rfl rfl rfl (W_MD_qPartTold_78 r6.2 J v1 hR hf hk)
        · have hf := if_t h7 hf
          refine b_blk (pc' := 72) (ls' := [some (mR (12, 0, 177)), some (mI v1), some (mI r3.1), some (mI r4.1), none, none]) (st' := [mR (23, 3, 233), mR (12, 0, 177)]) (S' := (L, r6.2, J, R)) (P := (True ∧ R 177 80 = some (23, 3, 233))) [(.aload_n 0, (0, 0, 0, 0, 0)), (.aload_n 0, (0, 0, 0, 0, 0)), (.getfield 186, (12, 80, 3, 0, 0))] [some (23, 3, 233)] (by decide +kernel) rfl ⟨trivial, (r_177_80 hR)⟩ ?_
          obtain ⟨r8, hc8, hf⟩ := bnd_o hf
          refine b_cV (as := [mR (23, 3, 233)]) (st := []) (by decide +kernel) k_12_257 n_MD_isHere rfl (by decide) v_MD_isHere (C_MD_isHere 233 3 r6.2 J hR (by decide) hc8) (Nat.le_of_ble_eq_true rfl) (by decide) rfl rfl (fun _ h => h) ?_
          show m_B G (m_rm 6 0 0) M_MD_qPartTold Q 0 0 75 [some (mR (12, 0, 177)), some (mI v1), some (mI r3.1), some (mI r4.1), none, none] [mI r8.1] (L, r8.2, J, R)
          refine b_if_eq (off := 78) (tgt := 153) (by decide +kernel) (by decide) (fun h9 => ?_) (fun h9 => ?_)
          · have hf := if_t h9 hf
            refine b_blk (pc' := 155) (ls' := [some (mR (12, 0, 177)), some (mI v1), some (mI r3.1), some (mI r4.1), none, none]) (st' := [mI (-1), mI r4.1]) (S' := (L, r8.2, J, R)) (P := True) [(.iload_n 3, (0, 0, 0, 0, 0)), (.iconst (-1), (0, 0, 0, (-1), 0))] [] (by decide +kernel) rfl trivial ?_
            refine b_icmp_eq (off := 26) (tgt := 181) (by decide +kernel) (by decide) (fun h10 => ?_) (fun h10 => ?_)
            · have hf := if_t h10 hf
              refine b_blk (pc' := 2) (ls' := [some (mR (12, 0, 177)), some (mI 0), some (mI r3.1), some (mI r4.1), none, none]) (st' := []) (S' := (L, r8.2, J, R)) (P := True) [(.iconst 0, (0, 0, 0, 0, 0)), (.istore_n 1, (0, 0, 0, 0, 0)), (.goto (-181), (0, 2, 0, 0, 0))] [] (by decide +kernel) rfl trivial ?_
              refine b_frg 2 ?_
              refine b_frg 3 ?_
              cases hf
              exact hk
            · have hf := if_f h10 hf
              refine b_blk (pc' := 170) (ls' := [some (mR (12, 0, 177)), some (mI v1), some (mI r3.1), some (mI r4.1), none, none]) (st' := [mI (r8.2 177 2), mI (((60 : Int32) + r4.1) - (8 : Int32)), mR (12, 0, 177)]) (S' := (L, r8.2, J, R)) (P := True) [(.aload_n 0, (0, 0, 0, 0, 0)), (.bipush 60, (0, 0, 0, 60, 0)), (.iload_n 3, (0, 0, 0, 0, 0)), (.iadd, (0, 0, 0, 0, 0)), (.bipush 8, (0, 0, 0, 8, 0)), (.isub, (0, 0, 0, 0, 0)), (.aload_n 0, (0, 0, 0, 0, 0)), (.getfield 240, (12, 2, 0, 0, 0))] [] (by decide +kernel) rfl trivial ?_
              obtain ⟨r11, hc11, hf⟩ := bnd_o hf
              refine b_cV (as := [mI (((60 : Int32) + r4.1) - (8 : Int32)), mI (r8.2 177 2)]) (st := []) (by decide +kernel) k_12_580 n_MD_qOpens rfl (by decide) v_MD_qOpens (C_MD_qOpens r8.2 J (((60 : Int32) + r4.1) - (8 : Int32)) (r8.2 177 2) hR hc11) (Nat.le_of_ble_eq_true rfl) (by decide) rfl rfl (fun _ h => h) ?_
              show m_B G (m_rm 6 0 0) M_MD_qPartTold Q 0 0 173 [some (mR (12, 0, 177)), some (mI v1), some (mI r3.1), some (mI r4.1), none, none] [] (L, r11, J, R)
              refine b_blk (pc' := 175) (ls' := [some (mR (12, 0, 177)), some (mI v1), some (mI r3.1), some (mI r4.1), none, none]) (st' := [mI r4.1, mR (12, 0, 177)]) (S' := (L, r11, J, R)) (P := True) [(.aload_n 0, (0, 0, 0, 0, 0)), (.iload_n 3, (0, 0, 0, 0, 0))] [] (by decide +kernel) rfl trivial ?_
              obtain ⟨r12, hc12, hf⟩ := bnd_o hf
              refine b_cV (as := [mI r4.1]) (st := []) (by decide +kernel) k_12_583 n_MD_qAsksWord rfl (by decide) v_MD_qAsksWord (C_MD_qAsksWord r11 J r4.1 hR hc12) (Nat.le_of_ble_eq_true rfl) (by decide) rfl rfl (fun _ h => h) ?_
              show m_B G (m_rm 6 0 0) M_MD_qPartTold Q 0 0 178 [some (mR (12, 0, 177)), some (mI v1), some (mI r3.1), some (mI r4.1), none, none] [] (L, r12, J, R)
              refine b_blk (pc' := 183) (ls' := [some (mR (12, 0, 177)), some (mI v1), some (mI r3.1), some (mI r4.1), none, none]) (st' := []) (S' := (L, r12, J, R)) (P := True) [(.goto 5, (0, 183, 0, 0, 0))] [] (by decide +kernel) rfl trivial ?_
              refine b_blk (pc' := 2) (ls' := [some (mR (12, 0, 177)), some (mI v1), some (mI r3.1), some (mI r4.1), none, none]) (st' := []) (S' := (L, r12, J, R)) (P := True) [(.goto (-181), (0, 2, 0, 0, 0))] [] (by decide +kernel) rfl trivial ?_
              refine b_frg 2 ?_
              refine b_frg 3 ?_
              cases hf
              exact hk
          · have hf := if_f h9 hf
            refine b_frg 2 ?_
            refine b_frg 3 ?_
            exact m_B_cg rfl rfl rfl (W_MD_qPartTold_78 r8.2 J v1 hR hf hk)
      · have hf := if_t h5 hf
        refine b_blk (pc' := 40) (ls' := [some (mR (12, 0, 177)), some (mI v1), some (mI r3.1), some (mI r4.1), none, none]) (st' := [mI (r4.2 177 2), mI 20, mR (12, 0, 177)]) (S' := (L, r4.2, J, R)) (P := True) [(.aload_n 0, (0, 0, 0, 0, 0)), (.bipush 20, (0, 0, 0, 20, 0)), (.aload_n 0, (0, 0, 0, 0, 0)), (.getfield 240, (12, 2, 0, 0, 0))] [] (by decide +kernel) rfl trivial ?_
        obtain ⟨r13, hc13, hf⟩ := bnd_o hf
        refine b_cV (as := [mI 20, mI (r4.2 177 2)]) (st := []) (by decide +kernel) k_12_580 n_MD_qOpens rfl (by decide) v_MD_qOpens (C_MD_qOpens r4.2 J (20 : Int32) (r4.2 177 2) hR hc13) (Nat.le_of_ble_eq_true rfl) (by decide) rfl rfl (fun _ h => h) ?_
        show m_B G (m_rm 6 0 0) M_MD_qPartTold Q 0 0 43 [some (mR (12, 0, 177)), some (mI v1), some (mI r3.1), some (mI r4.1), none, none] [] (L, r13, J, R)
        refine b_blk (pc' := 183) (ls' := [some (mR (12, 0, 177)), some (mI v1), some (mI r3.1), some (mI r4.1), none, none]) (st' := []) (S' := (L, m_up r13 177 2 ((r13 177 2) + (1 : Int32)), J, R)) (P := True) [(.aload_n 0, (0, 0, 0, 0, 0)), (.dup, (0, 0, 0, 0, 0)), (.getfield 240, (12, 2, 0, 0, 0)), (.iconst 1, (0, 0, 0, 1, 0)), (.iadd, (0, 0, 0, 0, 0)), (.putfield 240, (12, 2, 0, 0, 0)), (.goto 130, (0, 183, 0, 0, 0))] [] (by decide +kernel) rfl trivial ?_
        refine b_blk (pc' := 2) (ls' := [some (mR (12, 0, 177)), some (mI v1), some (mI r3.1), some (mI r4.1), none, none]) (st' := []) (S' := (L, m_up r13 177 2 ((r13 177 2) + (1 : Int32)), J, R)) (P := True) [(.goto (-181), (0, 2, 0, 0, 0))] [] (by decide +kernel) rfl trivial ?_
        refine b_frg 2 ?_
        refine b_frg 3 ?_
        cases hf
        exact hk
noncomputable def F_MD_qPartTold_212 (I : MI) (v2 : Int32) : Option (MI) :=
  if v2 = (-1 : Int32) then ((F_MD_number I (0 : Int32) (9999 : Int32)).bind fun r2 => (F_MD_qCode r2.2 ((1000 : Int32) + r2.1)).bind fun r3 => (F_MD_qEndsPart r3).bind fun r4 => some r4) else ((F_MD_qCode I ((40 : Int32) + v2)).bind fun r5 => (F_MD_qEndsPart r5).bind fun r6 => some r6)
set_option maxRecDepth 100000 in
set_option maxHeartbeats 400000 in
theorem W_MD_qPartTold_212 {G : MG} {Q : Option MV → MS → Prop} {L : List (Nat × Nat)} {R : Nat → Nat → Option MRef} (I : MI) (J : MJ) (v2 : Int32) (hR : RF R) {r : MI} (hf : F_MD_qPartTold_212 I v2 = some r) (hk : (fun r : MI => Q (none) (L, r, J, R)) r) : m_B G (m_rm 6 0 0) M_MD_qPartTold Q 0 0 212 [some (mR (12, 0, 177)), none, some (mI v2), none, none, none] [] (L, I, J, R) := by
  unfold F_MD_qPartTold_212 at hf
  refine b_blk (pc' := 215) (ls' := [some (mR (12, 0, 177)), none, some (mI v2), none, none, none]) (st' := [mI (-1), mI v2, mR (12, 0, 177)]) (S' := (L, I, J, R)) (P := True) [(.aload_n 0, (0, 0, 0, 0, 0)), (.iload_n 2, (0, 0, 0, 0, 0)), (.iconst (-1), (0, 0, 0, (-1), 0))] [] (by decide +kernel) rfl trivial ?_
  refine b_icmp_eq (off := 10) (tgt := 225) (by decide +kernel) (by decide) (fun h1 => ?_) (fun h1 => ?_)
  · have hf := if_t h1 hf
    refine b_blk (pc' := 233) (ls' := [some (mR (12, 0, 177)), none, some (mI v2), none, none, none]) (st' := [mI 9999, mI 0, mR (12, 0, 177), mI 1000, mR (12, 0, 177)]) (S' := (L, I, J, R)) (P := True) [(.sipush 1000, (0, 0, 0, 1000, 0)), (.aload_n 0, (0, 0, 0, 0, 0)), (.iconst 0, (0, 0, 0, 0, 0)), (.sipush 9999, (0, 0, 0, 9999, 0))] [] (by decide +kernel) rfl trivial ?_
    obtain ⟨r2, hc2, hf⟩ := bnd_o hf
    refine b_cV (as := [mI 0, mI 9999]) (st := [mI 1000, mR (12, 0, 177)]) (by decide +kernel) k_12_299 n_MD_number rfl (by decide) v_MD_number (C_MD_number I J (0 : Int32) (9999 : Int32) hR hc2) (Nat.le_of_ble_eq_true rfl) (by decide) rfl rfl (fun _ h => h) ?_
    show m_B G (m_rm 6 0 0) M_MD_qPartTold Q 0 0 236 [some (mR (12, 0, 177)), none, some (mI v2), none, none, none] [mI r2.1, mI 1000, mR (12, 0, 177)] (L, r2.2, J, R)
    refine b_blk (pc' := 237) (ls' := [some (mR (12, 0, 177)), none, some (mI v2), none, none, none]) (st' := [mI ((1000 : Int32) + r2.1), mR (12, 0, 177)]) (S' := (L, r2.2, J, R)) (P := True) [(.iadd, (0, 0, 0, 0, 0))] [] (by decide +kernel) rfl trivial ?_
    obtain ⟨r3, hc3, hf⟩ := bnd_o hf
    refine b_cV (as := [mI ((1000 : Int32) + r2.1)]) (st := []) (by decide +kernel) k_12_562 n_MD_qCode rfl (by decide) v_MD_qCode (C_MD_qCode r2.2 J ((1000 : Int32) + r2.1) hR hc3) (Nat.le_of_ble_eq_true rfl) (by decide) rfl rfl (fun _ h => h) ?_
    show m_B G (m_rm 6 0 0) M_MD_qPartTold Q 0 0 240 [some (mR (12, 0, 177)), none, some (mI v2), none, none, none] [] (L, r3, J, R)
    refine b_blk (pc' := 241) (ls' := [some (mR (12, 0, 177)), none, some (mI v2), none, none, none]) (st' := [mR (12, 0, 177)]) (S' := (L, r3, J, R)) (P := True) [(.aload_n 0, (0, 0, 0, 0, 0))] [] (by decide +kernel) rfl trivial ?_
    obtain ⟨r4, hc4, hf⟩ := bnd_o hf
    refine b_cV (as := []) (st := []) (by decide +kernel) k_12_586 n_MD_qEndsPart rfl (by decide) v_MD_qEndsPart (C_MD_qEndsPart r3 J hR hc4) (Nat.le_of_ble_eq_true rfl) (by decide) rfl rfl (fun _ h => h) ?_
    show m_B G (m_rm 6 0 0) M_MD_qPartTold Q 0 0 244 [some (mR (12, 0, 177)), none, some (mI v2), none, none, none] [] (L, r4, J, R)
    cases hf
    exact b_vret (by decide +kernel) rfl hk
  · have hf := if_f h1 hf
    refine b_blk (pc' := 237) (ls' := [some (mR (12, 0, 177)), none, some (mI v2), none, none, none]) (st' := [mI ((40 : Int32) + v2), mR (12, 0, 177)]) (S' := (L, I, J, R)) (P := True) [(.bipush 40, (0, 0, 0, 40, 0)), (.iload_n 2, (0, 0, 0, 0, 0)), (.iadd, (0, 0, 0, 0, 0)), (.goto 15, (0, 237, 0, 0, 0))] [] (by decide +kernel) rfl trivial ?_
    obtain ⟨r5, hc5, hf⟩ := bnd_o hf
    refine b_cV (as := [mI ((40 : Int32) + v2)]) (st := []) (by decide +kernel) k_12_562 n_MD_qCode rfl (by decide) v_MD_qCode (C_MD_qCode I J ((40 : Int32) + v2) hR hc5) (Nat.le_of_ble_eq_true rfl) (by decide) rfl rfl (fun _ h => h) ?_
    show m_B G (m_rm 6 0 0) M_MD_qPartTold Q 0 0 240 [some (mR (12, 0, 177)), none, some (mI v2), none, none, none] [] (L, r5, J, R)
    refine b_blk (pc' := 241) (ls' := [some (mR (12, 0, 177)), none, some (mI v2), none, none, none]) (st' := [mR (12, 0, 177)]) (S' := (L, r5, J, R)) (P := True) [(.aload_n 0, (0, 0, 0, 0, 0))] [] (by decide +kernel) rfl trivial ?_
    obtain ⟨r6, hc6, hf⟩ := bnd_o hf
    refine b_cV (as := []) (st := []) (by decide +kernel) k_12_586 n_MD_qEndsPart rfl (by decide) v_MD_qEndsPart (C_MD_qEndsPart r5 J hR hc6) (Nat.le_of_ble_eq_true rfl) (by decide) rfl rfl (fun _ h => h) ?_
    show m_B G (m_rm 6 0 0) M_MD_qPartTold Q 0 0 244 [some (mR (12, 0, 177)), none, some (mI v2), none, none, none] [] (L, r6, J, R)
    cases hf
    exact b_vret (by decide +kernel) rfl hk
noncomputable def F_MD_qPartTold_186 (I : MI) : Option (MI) :=
  if (I 177 5) = (0 : Int32) then ((F_MD_qWordOf I (0 : Int32) (8 : Int32)).bind fun r2 => if r2.1 = (-1 : Int32) then (F_MD_qPartTold_212 r2.2 r2.1) else ((F_MD_qAsksWord r2.2 r2.1).bind fun r4 => F_MD_qPartTold_212 r4 r2.1)) else (some I)
set_option maxRecDepth 100000 in
set_option maxHeartbeats 400000 in
theorem W_MD_qPartTold_186 {G : MG} {Q : Option MV → MS → Prop} {L : List (Nat × Nat)} {R : Nat → Nat → Option MRef} (I : MI) (J : MJ) (hR : RF R) {r : MI} (hf : F_MD_qPartTold_186 I = some r) (hk : (fun r : MI => Q (none) (L, r, J, R)) r) : m_B G (m_rm 6 0 0) M_MD_qPartTold Q 0 0 186 [some (mR (12, 0, 177)), none, none, none, none, none] [] (L, I, J, R) := by
  unfold F_MD_qPartTold_186 at hf
  refine b_blk (pc' := 190) (ls' := [some (mR (12, 0, 177)), none, none, none, none, none]) (st' := [mI (I 177 5)]) (S' := (L, I, J, R)) (P := True) [(.aload_n 0, (0, 0, 0, 0, 0)), (.getfield 234, (12, 5, 0, 0, 0))] [] (by decide +kernel) rfl trivial ?_
  refine b_if_eq (off := 4) (tgt := 194) (by decide +kernel) (by decide) (fun h1 => ?_) (fun h1 => ?_)
  · have hf := if_t h1 hf
    refine b_blk (pc' := 198) (ls' := [some (mR (12, 0, 177)), none, none, none, none, none]) (st' := [mI 8, mI 0, mR (12, 0, 177)]) (S' := (L, I, J, R)) (P := True) [(.aload_n 0, (0, 0, 0, 0, 0)), (.iconst 0, (0, 0, 0, 0, 0)), (.bipush 8, (0, 0, 0, 8, 0))] [] (by decide +kernel) rfl trivial ?_
    obtain ⟨r2, hc2, hf⟩ := bnd_o hf
    refine b_cV (as := [mI 0, mI 8]) (st := []) (by decide +kernel) k_12_577 n_MD_qWordOf rfl (by decide) v_MD_qWordOf (C_MD_qWordOf I J (0 : Int32) (8 : Int32) hR hc2) (Nat.le_of_ble_eq_true rfl) (by decide) rfl rfl (fun _ h => h) ?_
    show m_B G (m_rm 6 0 0) M_MD_qPartTold Q 0 0 201 [some (mR (12, 0, 177)), none, none, none, none, none] [mI r2.1] (L, r2.2, J, R)
    refine b_blk (pc' := 204) (ls' := [some (mR (12, 0, 177)), none, some (mI r2.1), none, none, none]) (st' := [mI (-1), mI r2.1]) (S' := (L, r2.2, J, R)) (P := True) [(.istore_n 2, (0, 0, 0, 0, 0)), (.iload_n 2, (0, 0, 0, 0, 0)), (.iconst (-1), (0, 0, 0, (-1), 0))] [] (by decide +kernel) rfl trivial ?_
    refine b_icmp_eq (off := 8) (tgt := 212) (by decide +kernel) (by decide) (fun h3 => ?_) (fun h3 => ?_)
    · have hf := if_t h3 hf
      exact m_B_cg rfl rfl rfl (W_MD_qPartTold_212 r2.2 J r2.1 hR hf hk)
    · have hf := if_f h3 hf
      refine b_blk (pc' := 209) (ls' := [some (mR (12, 0, 177)), none, some (mI r2.1), none, none, none]) (st' := [mI r2.1, mR (12, 0, 177)]) (S' := (L, r2.2, J, R)) (P := True) [(.aload_n 0, (0, 0, 0, 0, 0)), (.iload_n 2, (0, 0, 0, 0, 0))] [] (by decide +kernel) rfl trivial ?_
      obtain ⟨r4, hc4, hf⟩ := bnd_o hf
      refine b_cV (as := [mI r2.1]) (st := []) (by decide +kernel) k_12_583 n_MD_qAsksWord rfl (by decide) v_MD_qAsksWord (C_MD_qAsksWord r2.2 J r2.1 hR hc4) (Nat.le_of_ble_eq_true rfl) (by decide) rfl rfl (fun _ h => h) ?_
      show m_B G (m_rm 6 0 0) M_MD_qPartTold Q 0 0 212 [some (mR (12, 0, 177)), none, some (mI r2.1), none, none, none] [] (L, r4, J, R)
      exact m_B_cg rfl rfl rfl (W_MD_qPartTold_212 r4 J r2.1 hR hf hk)
  · have hf := if_f h1 hf
    cases hf
    exact b_vret (by decide +kernel) rfl hk
noncomputable def F_MD_qPartTold (I : MI) : Option (MI) :=
  (wl (fun s : Int32 × MI => F_MD_qPartTold_2 s.2 s.1) ((1 : Int32), I)).bind fun t1 => F_MD_qPartTold_186 t1
set_option maxRecDepth 100000 in
set_option maxHeartbeats 400000 in
theorem W_MD_qPartTold {G : MG} {Q : Option MV → MS → Prop} {L : List (Nat × Nat)} {R : Nat → Nat → Option MRef} (I : MI) (J : MJ) (hR : RF R) {r : MI} (hf : F_MD_qPartTold I = some r) (hk : (fun r : MI => Q (none) (L, r, J, R)) r) : m_B G (m_rm 6 0 0) M_MD_qPartTold Q 0 0 0 [some (mR (12, 0, 177)), none, none, none, none, none] [] (L, I, J, R) := by
  unfold F_MD_qPartTold at hf
  refine b_blk (pc' := 2) (ls' := [some (mR (12, 0, 177)), some (mI 1), none, none, none, none]) (st' := []) (S' := (L, I, J, R)) (P := True) [(.iconst 1, (0, 0, 0, 1, 0)), (.istore_n 1, (0, 0, 0, 0, 0))] [] (by decide +kernel) rfl trivial ?_
  obtain ⟨t1, hw, hf⟩ := bnd_o hf
  refine wl_B (A := fun s : Int32 × MI => m_B G (m_rm 6 0 0) M_MD_qPartTold Q 0 0 2 [some (mR (12, 0, 177)), some (mI s.1), none, none, none, none] [] (L, s.2, J, R)) (B := (fun s : MI => m_B G (m_rm 6 0 0) M_MD_qPartTold Q 0 0 186 [some (mR (12, 0, 177)), none, none, none, none, none] [] (L, s, J, R))) (fun s r hs hr => W_MD_qPartTold_2 s.2 J s.1 hR hs hr) hw ?_
  show m_B G (m_rm 6 0 0) M_MD_qPartTold Q 0 0 186 [some (mR (12, 0, 177)), none, none, none, none, none] [] (L, t1, J, R)
  exact m_B_cg rfl rfl rfl (W_MD_qPartTold_186 t1 J hR hf hk)
theorem C_MD_qPartTold {G : MG} {L : List (Nat × Nat)} {R : Nat → Nat → Option MRef} (I : MI) (J : MJ) (hR : RF R) {r : MI} (hf : F_MD_qPartTold I = some r) : m_met G 6 0 0 y_MD_qPartTold M_MD_qPartTold [mR (12, 0, 177)] (L, I, J, R) (m_is (none) (L, r, J, R)) :=
  m_met_in n_MD_qPartTold (plainFor_of_name (by decide)) (by decide) (Nat.le_of_ble_eq_true rfl) (ls := [some (mR (12, 0, 177)), none, none, none, none, none]) rfl (W_MD_qPartTold I J hR hf ⟨rfl, rfl⟩)
noncomputable def F_MD_qSums_15 (I : MI) (v1 : Int32) (v2 : Int32) : Option ((Int32 × MI) ⊕ (MI)) :=
  if v2 = (0 : Int32) then (some (.inr I)) else (if (I 177 5) = (0 : Int32) then ((F_MD_qPartTold I).bind fun r3 => if (r3 177 5) = (0 : Int32) then ((F_MD_qGoesOn r3).bind fun r5 => if r5.1 = (0 : Int32) then (some (.inl ((0 : Int32), r5.2))) else (some (.inl ((1 : Int32), r5.2)))) else (some (.inl ((0 : Int32), r3)))) else (some (.inr I)))
set_option maxRecDepth 100000 in
set_option maxHeartbeats 400000 in
theorem W_MD_qSums_15 {G : MG} {Q : Option MV → MS → Prop} {L : List (Nat × Nat)} {R : Nat → Nat → Option MRef} (I : MI) (J : MJ) (v1 : Int32) (v2 : Int32) (hR : RF R) {r : (Int32 × MI) ⊕ (MI)} (hf : F_MD_qSums_15 I v1 v2 = some r) (hk : (Sum.elim (fun s : Int32 × MI => m_B G (m_rm 7 0 0) M_MD_qSums Q 0 0 15 [some (mR (12, 0, 177)), some (mI v1), some (mI s.1)] [] (L, s.2, J, R)) (fun s : MI => m_B G (m_rm 7 0 0) M_MD_qSums Q 0 0 53 [some (mR (12, 0, 177)), some (mI v1), none] [] (L, s, J, R))) r) : m_B G (m_rm 7 0 0) M_MD_qSums Q 0 0 15 [some (mR (12, 0, 177)), some (mI v1), some (mI v2)] [] (L, I, J, R) := by
  unfold F_MD_qSums_15 at hf
  refine b_blk (pc' := 16) (ls' := [some (mR (12, 0, 177)), some (mI v1), some (mI v2)]) (st' := [mI v2]) (S' := (L, I, J, R)) (P := True) [(.iload_n 2, (0, 0, 0, 0, 0))] [] (by decide +kernel) rfl trivial ?_
  refine b_if_eq (off := 37) (tgt := 53) (by decide +kernel) (by decide) (fun h1 => ?_) (fun h1 => ?_)
  · have hf := if_t h1 hf
    refine b_frg 2 ?_
    cases hf
    exact hk
  · have hf := if_f h1 hf
    refine b_blk (pc' := 23) (ls' := [some (mR (12, 0, 177)), some (mI v1), some (mI v2)]) (st' := [mI (I 177 5)]) (S' := (L, I, J, R)) (P := True) [(.aload_n 0, (0, 0, 0, 0, 0)), (.getfield 234, (12, 5, 0, 0, 0))] [] (by decide +kernel) rfl trivial ?_
    refine b_if_ne (off := 30) (tgt := 53) (by decide +kernel) (by decide) (fun h2 => ?_) (fun h2 => ?_)
    · have hf := if_f h2 hf
      refine b_frg 2 ?_
      cases hf
      exact hk
    · have hf := if_t h2 hf
      refine b_blk (pc' := 27) (ls' := [some (mR (12, 0, 177)), some (mI v1), some (mI v2)]) (st' := [mR (12, 0, 177)]) (S' := (L, I, J, R)) (P := True) [(.aload_n 0, (0, 0, 0, 0, 0))] [] (by decide +kernel) rfl trivial ?_
      obtain ⟨r3, hc3, hf⟩ := bnd_o hf
      refine b_cV (as := []) (st := []) (by decide +kernel) k_12_598 n_MD_qPartTold rfl (by decide) v_MD_qPartTold (C_MD_qPartTold I J hR hc3) (Nat.le_of_ble_eq_true rfl) (by decide) rfl rfl (fun _ h => h) ?_
      show m_B G (m_rm 7 0 0) M_MD_qSums Q 0 0 30 [some (mR (12, 0, 177)), some (mI v1), some (mI v2)] [] (L, r3, J, R)
      refine b_blk (pc' := 34) (ls' := [some (mR (12, 0, 177)), some (mI v1), some (mI v2)]) (st' := [mI (r3 177 5)]) (S' := (L, r3, J, R)) (P := True) [(.aload_n 0, (0, 0, 0, 0, 0)), (.getfield 234, (12, 5, 0, 0, 0))] [] (by decide +kernel) rfl trivial ?_
      refine b_if_ne (off := 14) (tgt := 48) (by decide +kernel) (by decide) (fun h4 => ?_) (fun h4 => ?_)
      · have hf := if_f h4 hf
        refine b_blk (pc' := 15) (ls' := [some (mR (12, 0, 177)), some (mI v1), some (mI 0)]) (st' := []) (S' := (L, r3, J, R)) (P := True) [(.iconst 0, (0, 0, 0, 0, 0)), (.istore_n 2, (0, 0, 0, 0, 0)), (.goto (-35), (0, 15, 0, 0, 0))] [] (by decide +kernel) rfl trivial ?_
        cases hf
        exact hk
      · have hf := if_t h4 hf
        refine b_blk (pc' := 38) (ls' := [some (mR (12, 0, 177)), some (mI v1), some (mI v2)]) (st' := [mR (12, 0, 177)]) (S' := (L, r3, J, R)) (P := True) [(.aload_n 0, (0, 0, 0, 0, 0))] [] (by decide +kernel) rfl trivial ?_
        obtain ⟨r5, hc5, hf⟩ := bnd_o hf
        refine b_cV (as := []) (st := []) (by decide +kernel) k_12_601 n_MD_qGoesOn rfl (by decide) v_MD_qGoesOn (C_MD_qGoesOn r3 J hR hc5) (Nat.le_of_ble_eq_true rfl) (by decide) rfl rfl (fun _ h => h) ?_
        show m_B G (m_rm 7 0 0) M_MD_qSums Q 0 0 41 [some (mR (12, 0, 177)), some (mI v1), some (mI v2)] [mI r5.1] (L, r5.2, J, R)
        refine b_if_eq (off := 7) (tgt := 48) (by decide +kernel) (by decide) (fun h6 => ?_) (fun h6 => ?_)
        · have hf := if_t h6 hf
          refine b_blk (pc' := 15) (ls' := [some (mR (12, 0, 177)), some (mI v1), some (mI 0)]) (st' := []) (S' := (L, r5.2, J, R)) (P := True) [(.iconst 0, (0, 0, 0, 0, 0)), (.istore_n 2, (0, 0, 0, 0, 0)), (.goto (-35), (0, 15, 0, 0, 0))] [] (by decide +kernel) rfl trivial ?_
          cases hf
          exact hk
        · have hf := if_f h6 hf
          refine b_blk (pc' := 49) (ls' := [some (mR (12, 0, 177)), some (mI v1), some (mI v2)]) (st' := [mI 1]) (S' := (L, r5.2, J, R)) (P := True) [(.iconst 1, (0, 0, 0, 1, 0)), (.goto 4, (0, 49, 0, 0, 0))] [] (by decide +kernel) rfl trivial ?_
          refine b_blk (pc' := 15) (ls' := [some (mR (12, 0, 177)), some (mI v1), some (mI 1)]) (st' := []) (S' := (L, r5.2, J, R)) (P := True) [(.istore_n 2, (0, 0, 0, 0, 0)), (.goto (-35), (0, 15, 0, 0, 0))] [] (by decide +kernel) rfl trivial ?_
          cases hf
          exact hk
noncomputable def F_MD_qSums_53 (I : MI) (v1 : Int32) : Option ((MI) ⊕ (MI)) :=
  if (I 177 5) = (0 : Int32) then (if (I 177 94) ≤ (I 177 96) then (some (.inr I)) else ((F_MD_qDrops I).bind fun r3 => some (.inl r3))) else (some (.inr I))
set_option maxRecDepth 100000 in
set_option maxHeartbeats 400000 in
theorem W_MD_qSums_53 {G : MG} {Q : Option MV → MS → Prop} {L : List (Nat × Nat)} {R : Nat → Nat → Option MRef} (I : MI) (J : MJ) (v1 : Int32) (hR : RF R) {r : (MI) ⊕ (MI)} (hf : F_MD_qSums_53 I v1 = some r) (hk : (Sum.elim (fun s : MI => m_B G (m_rm 7 0 0) M_MD_qSums Q 0 0 53 [some (mR (12, 0, 177)), some (mI v1), none] [] (L, s, J, R)) (fun s : MI => m_B G (m_rm 7 0 0) M_MD_qSums Q 0 0 78 [some (mR (12, 0, 177)), some (mI v1), none] [] (L, s, J, R))) r) : m_B G (m_rm 7 0 0) M_MD_qSums Q 0 0 53 [some (mR (12, 0, 177)), some (mI v1), none] [] (L, I, J, R) := by
  unfold F_MD_qSums_53 at hf
  refine b_blk (pc' := 57) (ls' := [some (mR (12, 0, 177)), some (mI v1), none]) (st' := [mI (I 177 5)]) (S' := (L, I, J, R)) (P := True) [(.aload_n 0, (0, 0, 0, 0, 0)), (.getfield 234, (12, 5, 0, 0, 0))] [] (by decide +kernel) rfl trivial ?_
  refine b_if_ne (off := 21) (tgt := 78) (by decide +kernel) (by decide) (fun h1 => ?_) (fun h1 => ?_)
  · have hf := if_f h1 hf
    cases hf
    exact hk
  · have hf := if_t h1 hf
    refine b_blk (pc' := 68) (ls' := [some (mR (12, 0, 177)), some (mI v1), none]) (st' := [mI (I 177 96), mI (I 177 94)]) (S' := (L, I, J, R)) (P := True) [(.aload_n 0, (0, 0, 0, 0, 0)), (.getfield 318, (12, 94, 0, 0, 0)), (.aload_n 0, (0, 0, 0, 0, 0)), (.getfield 324, (12, 96, 0, 0, 0))] [] (by decide +kernel) rfl trivial ?_
    refine b_icmp_le (off := 10) (tgt := 78) (by decide +kernel) (by decide) (fun h2 => ?_) (fun h2 => ?_)
    · have hf := if_t h2 hf
      cases hf
      exact hk
    · have hf := if_f h2 hf
      refine b_blk (pc' := 72) (ls' := [some (mR (12, 0, 177)), some (mI v1), none]) (st' := [mR (12, 0, 177)]) (S' := (L, I, J, R)) (P := True) [(.aload_n 0, (0, 0, 0, 0, 0))] [] (by decide +kernel) rfl trivial ?_
      obtain ⟨r3, hc3, hf⟩ := bnd_o hf
      refine b_cV (as := []) (st := []) (by decide +kernel) k_12_568 n_MD_qDrops rfl (by decide) v_MD_qDrops (C_MD_qDrops I J hR hc3) (Nat.le_of_ble_eq_true rfl) (by decide) rfl rfl (fun _ h => h) ?_
      show m_B G (m_rm 7 0 0) M_MD_qSums Q 0 0 75 [some (mR (12, 0, 177)), some (mI v1), none] [] (L, r3, J, R)
      refine b_blk (pc' := 53) (ls' := [some (mR (12, 0, 177)), some (mI v1), none]) (st' := []) (S' := (L, r3, J, R)) (P := True) [(.goto (-22), (0, 53, 0, 0, 0))] [] (by decide +kernel) rfl trivial ?_
      cases hf
      exact hk
noncomputable def F_MD_qSums (I : MI) : Option (MI) :=
  (wl (fun s : Int32 × MI => F_MD_qSums_15 s.2 (I 177 96) s.1) ((1 : Int32), m_up I 177 96 (I 177 94))).bind fun t1 => (wl (fun s : MI => F_MD_qSums_53 s (I 177 96)) t1).bind fun t2 => some (m_up t2 177 96 (I 177 96))
set_option maxRecDepth 100000 in
set_option maxHeartbeats 400000 in
theorem W_MD_qSums {G : MG} {Q : Option MV → MS → Prop} {L : List (Nat × Nat)} {R : Nat → Nat → Option MRef} (I : MI) (J : MJ) (hR : RF R) {r : MI} (hf : F_MD_qSums I = some r) (hk : (fun r : MI => Q (none) (L, r, J, R)) r) : m_B G (m_rm 7 0 0) M_MD_qSums Q 0 0 0 [some (mR (12, 0, 177)), none, none] [] (L, I, J, R) := by
  unfold F_MD_qSums at hf
  refine b_blk (pc' := 15) (ls' := [some (mR (12, 0, 177)), some (mI (I 177 96)), some (mI 1)]) (st' := []) (S' := (L, m_up I 177 96 (I 177 94), J, R)) (P := True) [(.aload_n 0, (0, 0, 0, 0, 0)), (.getfield 324, (12, 96, 0, 0, 0)), (.istore_n 1, (0, 0, 0, 0, 0)), (.aload_n 0, (0, 0, 0, 0, 0)), (.aload_n 0, (0, 0, 0, 0, 0)), (.getfield 318, (12, 94, 0, 0, 0)), (.putfield 324, (12, 96, 0, 0, 0)), (.iconst 1, (0, 0, 0, 1, 0)), (.istore_n 2, (0, 0, 0, 0, 0))] [] (by decide +kernel) rfl trivial ?_
  obtain ⟨t1, hw, hf⟩ := bnd_o hf
  refine wl_B (A := fun s : Int32 × MI => m_B G (m_rm 7 0 0) M_MD_qSums Q 0 0 15 [some (mR (12, 0, 177)), some (mI (I 177 96)), some (mI s.1)] [] (L, s.2, J, R)) (B := (fun s : MI => m_B G (m_rm 7 0 0) M_MD_qSums Q 0 0 53 [some (mR (12, 0, 177)), some (mI (I 177 96)), none] [] (L, s, J, R))) (fun s r hs hr => W_MD_qSums_15 s.2 J (I 177 96) s.1 hR hs hr) hw ?_
  show m_B G (m_rm 7 0 0) M_MD_qSums Q 0 0 53 [some (mR (12, 0, 177)), some (mI (I 177 96)), none] [] (L, t1, J, R)
  obtain ⟨t2, hw, hf⟩ := bnd_o hf
  refine wl_B (A := fun s : MI => m_B G (m_rm 7 0 0) M_MD_qSums Q 0 0 53 [some (mR (12, 0, 177)), some (mI (I 177 96)), none] [] (L, s, J, R)) (B := (fun s : MI => m_B G (m_rm 7 0 0) M_MD_qSums Q 0 0 78 [some (mR (12, 0, 177)), some (mI (I 177 96)), none] [] (L, s, J, R))) (fun s r hs hr => W_MD_qSums_53 s J (I 177 96) hR hs hr) hw ?_
  show m_B G (m_rm 7 0 0) M_MD_qSums Q 0 0 78 [some (mR (12, 0, 177)), some (mI (I 177 96)), none] [] (L, t2, J, R)
  refine b_blk (pc' := 83) (ls' := [some (mR (12, 0, 177)), some (mI (I 177 96)), none]) (st' := []) (S' := (L, m_up t2 177 96 (I 177 96), J, R)) (P := True) [(.aload_n 0, (0, 0, 0, 0, 0)), (.iload_n 1, (0, 0, 0, 0, 0)), (.putfield 324, (12, 96, 0, 0, 0))] [] (by decide +kernel) rfl trivial ?_
  cases hf
  exact b_vret (by decide +kernel) rfl hk
theorem C_MD_qSums {G : MG} {L : List (Nat × Nat)} {R : Nat → Nat → Option MRef} (I : MI) (J : MJ) (hR : RF R) {r : MI} (hf : F_MD_qSums I = some r) : m_met G 7 0 0 y_MD_qSums M_MD_qSums [mR (12, 0, 177)] (L, I, J, R) (m_is (none) (L, r, J, R)) :=
  m_met_in n_MD_qSums (plainFor_of_name (by decide)) (by decide) (Nat.le_of_ble_eq_true rfl) (ls := [some (mR (12, 0, 177)), none, none]) rfl (W_MD_qSums I J hR hf ⟨rfl, rfl⟩)
noncomputable def F_MD_qDropsNots_0 (I : MI) : Option ((MI) ⊕ (MI)) :=
  if (I 177 5) = (0 : Int32) then ((F_MD_qIsOn I (12 : Int32)).bind fun r2 => if r2 = (0 : Int32) then (some (.inr I)) else ((F_MD_qDrops (m_up I 177 95 ((I 177 95) - (1 : Int32)))).bind fun r4 => some (.inl r4))) else (some (.inr I))
set_option maxRecDepth 100000 in
set_option maxHeartbeats 400000 in
theorem W_MD_qDropsNots_0 {G : MG} {Q : Option MV → MS → Prop} {L : List (Nat × Nat)} {R : Nat → Nat → Option MRef} (I : MI) (J : MJ) (hR : RF R) {r : (MI) ⊕ (MI)} (hf : F_MD_qDropsNots_0 I = some r) (hk : (Sum.elim (fun s : MI => m_B G (m_rm 3 0 0) M_MD_qDropsNots Q 0 0 0 [some (mR (12, 0, 177))] [] (L, s, J, R)) (fun s : MI => m_B G (m_rm 3 0 0) M_MD_qDropsNots Q 0 0 33 [none] [] (L, s, J, R))) r) : m_B G (m_rm 3 0 0) M_MD_qDropsNots Q 0 0 0 [some (mR (12, 0, 177))] [] (L, I, J, R) := by
  unfold F_MD_qDropsNots_0 at hf
  refine b_blk (pc' := 4) (ls' := [some (mR (12, 0, 177))]) (st' := [mI (I 177 5)]) (S' := (L, I, J, R)) (P := True) [(.aload_n 0, (0, 0, 0, 0, 0)), (.getfield 234, (12, 5, 0, 0, 0))] [] (by decide +kernel) rfl trivial ?_
  refine b_if_ne (off := 29) (tgt := 33) (by decide +kernel) (by decide) (fun h1 => ?_) (fun h1 => ?_)
  · have hf := if_f h1 hf
    refine b_frg 0 ?_
    cases hf
    exact hk
  · have hf := if_t h1 hf
    refine b_blk (pc' := 10) (ls' := [some (mR (12, 0, 177))]) (st' := [mI 12, mR (12, 0, 177)]) (S' := (L, I, J, R)) (P := True) [(.aload_n 0, (0, 0, 0, 0, 0)), (.bipush 12, (0, 0, 0, 12, 0))] [] (by decide +kernel) rfl trivial ?_
    obtain ⟨r2, hc2, hf⟩ := bnd_o hf
    refine b_cV (as := [mI 12]) (st := []) (by decide +kernel) k_12_595 n_MD_qIsOn rfl (by decide) v_MD_qIsOn (C_MD_qIsOn I J (12 : Int32) hR hc2) (Nat.le_of_ble_eq_true rfl) (by decide) rfl rfl (fun _ h => h) ?_
    show m_B G (m_rm 3 0 0) M_MD_qDropsNots Q 0 0 13 [some (mR (12, 0, 177))] [mI r2] (L, I, J, R)
    refine b_if_eq (off := 20) (tgt := 33) (by decide +kernel) (by decide) (fun h3 => ?_) (fun h3 => ?_)
    · have hf := if_t h3 hf
      refine b_frg 0 ?_
      cases hf
      exact hk
    · have hf := if_f h3 hf
      refine b_blk (pc' := 27) (ls' := [some (mR (12, 0, 177))]) (st' := [mR (12, 0, 177)]) (S' := (L, m_up I 177 95 ((I 177 95) - (1 : Int32)), J, R)) (P := True) [(.aload_n 0, (0, 0, 0, 0, 0)), (.dup, (0, 0, 0, 0, 0)), (.getfield 321, (12, 95, 0, 0, 0)), (.iconst 1, (0, 0, 0, 1, 0)), (.isub, (0, 0, 0, 0, 0)), (.putfield 321, (12, 95, 0, 0, 0)), (.aload_n 0, (0, 0, 0, 0, 0))] [] (by decide +kernel) rfl trivial ?_
      obtain ⟨r4, hc4, hf⟩ := bnd_o hf
      refine b_cV (as := []) (st := []) (by decide +kernel) k_12_568 n_MD_qDrops rfl (by decide) v_MD_qDrops (C_MD_qDrops (m_up I 177 95 ((I 177 95) - (1 : Int32))) J hR hc4) (Nat.le_of_ble_eq_true rfl) (by decide) rfl rfl (fun _ h => h) ?_
      show m_B G (m_rm 3 0 0) M_MD_qDropsNots Q 0 0 30 [some (mR (12, 0, 177))] [] (L, r4, J, R)
      refine b_blk (pc' := 0) (ls' := [some (mR (12, 0, 177))]) (st' := []) (S' := (L, r4, J, R)) (P := True) [(.goto (-30), (0, 0, 0, 0, 0))] [] (by decide +kernel) rfl trivial ?_
      cases hf
      exact hk
noncomputable def F_MD_qDropsNots (I : MI) : Option (MI) :=
  (wl (fun s : MI => F_MD_qDropsNots_0 s) I).bind fun t1 => some t1
set_option maxRecDepth 100000 in
set_option maxHeartbeats 400000 in
theorem W_MD_qDropsNots {G : MG} {Q : Option MV → MS → Prop} {L : List (Nat × Nat)} {R : Nat → Nat → Option MRef} (I : MI) (J : MJ) (hR : RF R) {r : MI} (hf : F_MD_qDropsNots I = some r) (hk : (fun r : MI => Q (none) (L, r, J, R)) r) : m_B G (m_rm 3 0 0) M_MD_qDropsNots Q 0 0 0 [some (mR (12, 0, 177))] [] (L, I, J, R) := by
  unfold F_MD_qDropsNots at hf
  obtain ⟨t1, hw, hf⟩ := bnd_o hf
  refine wl_B (A := fun s : MI => m_B G (m_rm 3 0 0) M_MD_qDropsNots Q 0 0 0 [some (mR (12, 0, 177))] [] (L, s, J, R)) (B := (fun s : MI => m_B G (m_rm 3 0 0) M_MD_qDropsNots Q 0 0 33 [none] [] (L, s, J, R))) (fun s r hs hr => W_MD_qDropsNots_0 s J hR hs hr) hw ?_
  show m_B G (m_rm 3 0 0) M_MD_qDropsNots Q 0 0 33 [none] [] (L, t1, J, R)
  cases hf
  exact b_vret (by decide +kernel) rfl hk
theorem C_MD_qDropsNots {G : MG} {L : List (Nat × Nat)} {R : Nat → Nat → Option MRef} (I : MI) (J : MJ) (hR : RF R) {r : MI} (hf : F_MD_qDropsNots I = some r) : m_met G 3 0 0 y_MD_qDropsNots M_MD_qDropsNots [mR (12, 0, 177)] (L, I, J, R) (m_is (none) (L, r, J, R)) :=
  m_met_in n_MD_qDropsNots (plainFor_of_name (by decide)) (by decide) (Nat.le_of_ble_eq_true rfl) (ls := [some (mR (12, 0, 177))]) rfl (W_MD_qDropsNots I J hR hf ⟨rfl, rfl⟩)
noncomputable def F_MD_qFact_63 (I : MI) (v1 : Int32) : Option (MI) :=
  (F_MD_qSums (m_up I 177 2 ((I 177 2) + (1 : Int32)))).bind fun r1 => if v1 = (60 : Int32) then ((F_MD_qCode r1 (7 : Int32)).bind fun r6 => some r6) else (if v1 = (62 : Int32) then ((F_MD_qCode r1 (8 : Int32)).bind fun r5 => some r5) else ((F_MD_qCode r1 (9 : Int32)).bind fun r4 => some r4))
set_option maxRecDepth 100000 in
set_option maxHeartbeats 400000 in
theorem W_MD_qFact_63 {G : MG} {Q : Option MV → MS → Prop} {L : List (Nat × Nat)} {R : Nat → Nat → Option MRef} (I : MI) (J : MJ) (v1 : Int32) (hR : RF R) {r : MI} (hf : F_MD_qFact_63 I v1 = some r) (hk : (fun r : MI => Q (none) (L, r, J, R)) r) : m_B G (m_rm 8 0 0) M_MD_qFact Q 0 0 63 [some (mR (12, 0, 177)), some (mI v1)] [] (L, I, J, R) := by
  unfold F_MD_qFact_63 at hf
  refine b_blk (pc' := 74) (ls' := [some (mR (12, 0, 177)), some (mI v1)]) (st' := [mR (12, 0, 177)]) (S' := (L, m_up I 177 2 ((I 177 2) + (1 : Int32)), J, R)) (P := True) [(.aload_n 0, (0, 0, 0, 0, 0)), (.dup, (0, 0, 0, 0, 0)), (.getfield 240, (12, 2, 0, 0, 0)), (.iconst 1, (0, 0, 0, 1, 0)), (.iadd, (0, 0, 0, 0, 0)), (.putfield 240, (12, 2, 0, 0, 0)), (.aload_n 0, (0, 0, 0, 0, 0))] [] (by decide +kernel) rfl trivial ?_
  obtain ⟨r1, hc1, hf⟩ := bnd_o hf
  refine b_cV (as := []) (st := []) (by decide +kernel) k_12_330 n_MD_qSums rfl (by decide) v_MD_qSums (C_MD_qSums (m_up I 177 2 ((I 177 2) + (1 : Int32))) J hR hc1) (Nat.le_of_ble_eq_true rfl) (by decide) rfl rfl (fun _ h => h) ?_
  show m_B G (m_rm 8 0 0) M_MD_qFact Q 0 0 77 [some (mR (12, 0, 177)), some (mI v1)] [] (L, r1, J, R)
  refine b_blk (pc' := 81) (ls' := [some (mR (12, 0, 177)), some (mI v1)]) (st' := [mI 60, mI v1, mR (12, 0, 177)]) (S' := (L, r1, J, R)) (P := True) [(.aload_n 0, (0, 0, 0, 0, 0)), (.iload_n 1, (0, 0, 0, 0, 0)), (.bipush 60, (0, 0, 0, 60, 0))] [] (by decide +kernel) rfl trivial ?_
  refine b_icmp_ne (off := 8) (tgt := 89) (by decide +kernel) (by decide) (fun h2 => ?_) (fun h2 => ?_)
  · have hf := if_f h2 hf
    refine b_blk (pc' := 92) (ls' := [some (mR (12, 0, 177)), some (mI v1)]) (st' := [mI 62, mI v1, mR (12, 0, 177)]) (S' := (L, r1, J, R)) (P := True) [(.iload_n 1, (0, 0, 0, 0, 0)), (.bipush 62, (0, 0, 0, 62, 0))] [] (by decide +kernel) rfl trivial ?_
    refine b_icmp_ne (off := 8) (tgt := 100) (by decide +kernel) (by decide) (fun h3 => ?_) (fun h3 => ?_)
    · have hf := if_f h3 hf
      refine b_blk (pc' := 102) (ls' := [some (mR (12, 0, 177)), some (mI v1)]) (st' := [mI 9, mR (12, 0, 177)]) (S' := (L, r1, J, R)) (P := True) [(.bipush 9, (0, 0, 0, 9, 0))] [] (by decide +kernel) rfl trivial ?_
      obtain ⟨r4, hc4, hf⟩ := bnd_o hf
      refine b_cV (as := [mI 9]) (st := []) (by decide +kernel) k_12_562 n_MD_qCode rfl (by decide) v_MD_qCode (C_MD_qCode r1 J (9 : Int32) hR hc4) (Nat.le_of_ble_eq_true rfl) (by decide) rfl rfl (fun _ h => h) ?_
      show m_B G (m_rm 8 0 0) M_MD_qFact Q 0 0 105 [some (mR (12, 0, 177)), some (mI v1)] [] (L, r4, J, R)
      cases hf
      exact b_vret (by decide +kernel) rfl hk
    · have hf := if_t h3 hf
      refine b_blk (pc' := 102) (ls' := [some (mR (12, 0, 177)), some (mI v1)]) (st' := [mI 8, mR (12, 0, 177)]) (S' := (L, r1, J, R)) (P := True) [(.bipush 8, (0, 0, 0, 8, 0)), (.goto 5, (0, 102, 0, 0, 0))] [] (by decide +kernel) rfl trivial ?_
      obtain ⟨r5, hc5, hf⟩ := bnd_o hf
      refine b_cV (as := [mI 8]) (st := []) (by decide +kernel) k_12_562 n_MD_qCode rfl (by decide) v_MD_qCode (C_MD_qCode r1 J (8 : Int32) hR hc5) (Nat.le_of_ble_eq_true rfl) (by decide) rfl rfl (fun _ h => h) ?_
      show m_B G (m_rm 8 0 0) M_MD_qFact Q 0 0 105 [some (mR (12, 0, 177)), some (mI v1)] [] (L, r5, J, R)
      cases hf
      exact b_vret (by decide +kernel) rfl hk
  · have hf := if_t h2 hf
    refine b_blk (pc' := 102) (ls' := [some (mR (12, 0, 177)), some (mI v1)]) (st' := [mI 7, mR (12, 0, 177)]) (S' := (L, r1, J, R)) (P := True) [(.bipush 7, (0, 0, 0, 7, 0)), (.goto 16, (0, 102, 0, 0, 0))] [] (by decide +kernel) rfl trivial ?_
    obtain ⟨r6, hc6, hf⟩ := bnd_o hf
    refine b_cV (as := [mI 7]) (st := []) (by decide +kernel) k_12_562 n_MD_qCode rfl (by decide) v_MD_qCode (C_MD_qCode r1 J (7 : Int32) hR hc6) (Nat.le_of_ble_eq_true rfl) (by decide) rfl rfl (fun _ h => h) ?_
    show m_B G (m_rm 8 0 0) M_MD_qFact Q 0 0 105 [some (mR (12, 0, 177)), some (mI v1)] [] (L, r6, J, R)
    cases hf
    exact b_vret (by decide +kernel) rfl hk
noncomputable def F_MD_qFact (I : MI) : Option (MI) :=
  (F_MD_takes 231 3 I).bind fun r1 => if r1.1 = (0 : Int32) then ((F_MD_qSums r1.2).bind fun r3 => if (r3 177 5) = (0 : Int32) then ((F_MD_look r3).bind fun r5 => if r5.1 = (60 : Int32) then (F_MD_qFact_63 r5.2 r5.1) else (if r5.1 = (62 : Int32) then (F_MD_qFact_63 r5.2 r5.1) else (if r5.1 = (61 : Int32) then (F_MD_qFact_63 r5.2 r5.1) else ((F_MD_fail r5.2 (1 : Int32) (r5.2 177 2)).bind fun r9 => some r9)))) else (some r3)) else ((F_MD_qCode r1.2 (13 : Int32)).bind fun r10 => some r10)
set_option maxRecDepth 100000 in
set_option maxHeartbeats 400000 in
theorem W_MD_qFact {G : MG} {Q : Option MV → MS → Prop} {L : List (Nat × Nat)} {R : Nat → Nat → Option MRef} (I : MI) (J : MJ) (hR : RF R) {r : MI} (hf : F_MD_qFact I = some r) (hk : (fun r : MI => Q (none) (L, r, J, R)) r) : m_B G (m_rm 8 0 0) M_MD_qFact Q 0 0 0 [some (mR (12, 0, 177)), none] [] (L, I, J, R) := by
  unfold F_MD_qFact at hf
  refine b_blk (pc' := 5) (ls' := [some (mR (12, 0, 177)), none]) (st' := [mR (23, 3, 231), mR (12, 0, 177)]) (S' := (L, I, J, R)) (P := (True ∧ R 177 78 = some (23, 3, 231))) [(.aload_n 0, (0, 0, 0, 0, 0)), (.aload_n 0, (0, 0, 0, 0, 0)), (.getfield 180, (12, 78, 3, 0, 0))] [some (23, 3, 231)] (by decide +kernel) rfl ⟨trivial, (r_177_78 hR)⟩ ?_
  obtain ⟨r1, hc1, hf⟩ := bnd_o hf
  refine b_cV (as := [mR (23, 3, 231)]) (st := []) (by decide +kernel) k_12_261 n_MD_takes rfl (by decide) v_MD_takes (C_MD_takes 231 3 I J hR (by decide) hc1) (Nat.le_of_ble_eq_true rfl) (by decide) rfl rfl (fun _ h => h) ?_
  show m_B G (m_rm 8 0 0) M_MD_qFact Q 0 0 8 [some (mR (12, 0, 177)), none] [mI r1.1] (L, r1.2, J, R)
  refine b_if_eq (off := 10) (tgt := 18) (by decide +kernel) (by decide) (fun h2 => ?_) (fun h2 => ?_)
  · have hf := if_t h2 hf
    refine b_blk (pc' := 19) (ls' := [some (mR (12, 0, 177)), none]) (st' := [mR (12, 0, 177)]) (S' := (L, r1.2, J, R)) (P := True) [(.aload_n 0, (0, 0, 0, 0, 0))] [] (by decide +kernel) rfl trivial ?_
    obtain ⟨r3, hc3, hf⟩ := bnd_o hf
    refine b_cV (as := []) (st := []) (by decide +kernel) k_12_330 n_MD_qSums rfl (by decide) v_MD_qSums (C_MD_qSums r1.2 J hR hc3) (Nat.le_of_ble_eq_true rfl) (by decide) rfl rfl (fun _ h => h) ?_
    show m_B G (m_rm 8 0 0) M_MD_qFact Q 0 0 22 [some (mR (12, 0, 177)), none] [] (L, r3, J, R)
    refine b_blk (pc' := 26) (ls' := [some (mR (12, 0, 177)), none]) (st' := [mI (r3 177 5)]) (S' := (L, r3, J, R)) (P := True) [(.aload_n 0, (0, 0, 0, 0, 0)), (.getfield 234, (12, 5, 0, 0, 0))] [] (by decide +kernel) rfl trivial ?_
    refine b_if_eq (off := 4) (tgt := 30) (by decide +kernel) (by decide) (fun h4 => ?_) (fun h4 => ?_)
    · have hf := if_t h4 hf
      refine b_blk (pc' := 31) (ls' := [some (mR (12, 0, 177)), none]) (st' := [mR (12, 0, 177)]) (S' := (L, r3, J, R)) (P := True) [(.aload_n 0, (0, 0, 0, 0, 0))] [] (by decide +kernel) rfl trivial ?_
      obtain ⟨r5, hc5, hf⟩ := bnd_o hf
      refine b_cV (as := []) (st := []) (by decide +kernel) k_12_246 n_MD_look rfl (by decide) v_MD_look (C_MD_look r3 J hR hc5) (Nat.le_of_ble_eq_true rfl) (by decide) rfl rfl (fun _ h => h) ?_
      show m_B G (m_rm 8 0 0) M_MD_qFact Q 0 0 34 [some (mR (12, 0, 177)), none] [mI r5.1] (L, r5.2, J, R)
      refine b_blk (pc' := 38) (ls' := [some (mR (12, 0, 177)), some (mI r5.1)]) (st' := [mI 60, mI r5.1]) (S' := (L, r5.2, J, R)) (P := True) [(.istore_n 1, (0, 0, 0, 0, 0)), (.iload_n 1, (0, 0, 0, 0, 0)), (.bipush 60, (0, 0, 0, 60, 0))] [] (by decide +kernel) rfl trivial ?_
      refine b_icmp_eq (off := 25) (tgt := 63) (by decide +kernel) (by decide) (fun h6 => ?_) (fun h6 => ?_)
      · have hf := if_t h6 hf
        exact m_B_cg rfl rfl rfl (W_MD_qFact_63 r5.2 J r5.1 hR hf hk)
      · have hf := if_f h6 hf
        refine b_blk (pc' := 44) (ls' := [some (mR (12, 0, 177)), some (mI r5.1)]) (st' := [mI 62, mI r5.1]) (S' := (L, r5.2, J, R)) (P := True) [(.iload_n 1, (0, 0, 0, 0, 0)), (.bipush 62, (0, 0, 0, 62, 0))] [] (by decide +kernel) rfl trivial ?_
        refine b_icmp_eq (off := 19) (tgt := 63) (by decide +kernel) (by decide) (fun h7 => ?_) (fun h7 => ?_)
        · have hf := if_t h7 hf
          exact m_B_cg rfl rfl rfl (W_MD_qFact_63 r5.2 J r5.1 hR hf hk)
        · have hf := if_f h7 hf
          refine b_blk (pc' := 50) (ls' := [some (mR (12, 0, 177)), some (mI r5.1)]) (st' := [mI 61, mI r5.1]) (S' := (L, r5.2, J, R)) (P := True) [(.iload_n 1, (0, 0, 0, 0, 0)), (.bipush 61, (0, 0, 0, 61, 0))] [] (by decide +kernel) rfl trivial ?_
          refine b_icmp_eq (off := 13) (tgt := 63) (by decide +kernel) (by decide) (fun h8 => ?_) (fun h8 => ?_)
          · have hf := if_t h8 hf
            exact m_B_cg rfl rfl rfl (W_MD_qFact_63 r5.2 J r5.1 hR hf hk)
          · have hf := if_f h8 hf
            refine b_blk (pc' := 59) (ls' := [some (mR (12, 0, 177)), some (mI r5.1)]) (st' := [mI (r5.2 177 2), mI 1, mR (12, 0, 177)]) (S' := (L, r5.2, J, R)) (P := True) [(.aload_n 0, (0, 0, 0, 0, 0)), (.iconst 1, (0, 0, 0, 1, 0)), (.aload_n 0, (0, 0, 0, 0, 0)), (.getfield 240, (12, 2, 0, 0, 0))] [] (by decide +kernel) rfl trivial ?_
            obtain ⟨r9, hc9, hf⟩ := bnd_o hf
            refine b_cV (as := [mI 1, mI (r5.2 177 2)]) (st := []) (by decide +kernel) k_12_264 n_MD_fail rfl (by decide) v_MD_fail (C_MD_fail r5.2 J (1 : Int32) (r5.2 177 2) hR hc9) (Nat.le_of_ble_eq_true rfl) (by decide) rfl rfl (fun _ h => h) ?_
            show m_B G (m_rm 8 0 0) M_MD_qFact Q 0 0 62 [some (mR (12, 0, 177)), some (mI r5.1)] [] (L, r9, J, R)
            cases hf
            exact b_vret (by decide +kernel) rfl hk
    · have hf := if_f h4 hf
      cases hf
      exact b_vret (by decide +kernel) rfl hk
  · have hf := if_f h2 hf
    refine b_blk (pc' := 14) (ls' := [some (mR (12, 0, 177)), none]) (st' := [mI 13, mR (12, 0, 177)]) (S' := (L, r1.2, J, R)) (P := True) [(.aload_n 0, (0, 0, 0, 0, 0)), (.bipush 13, (0, 0, 0, 13, 0))] [] (by decide +kernel) rfl trivial ?_
    obtain ⟨r10, hc10, hf⟩ := bnd_o hf
    refine b_cV (as := [mI 13]) (st := []) (by decide +kernel) k_12_562 n_MD_qCode rfl (by decide) v_MD_qCode (C_MD_qCode r1.2 J (13 : Int32) hR hc10) (Nat.le_of_ble_eq_true rfl) (by decide) rfl rfl (fun _ h => h) ?_
    show m_B G (m_rm 8 0 0) M_MD_qFact Q 0 0 17 [some (mR (12, 0, 177)), none] [] (L, r10, J, R)
    cases hf
    exact b_vret (by decide +kernel) rfl hk
theorem C_MD_qFact {G : MG} {L : List (Nat × Nat)} {R : Nat → Nat → Option MRef} (I : MI) (J : MJ) (hR : RF R) {r : MI} (hf : F_MD_qFact I = some r) : m_met G 8 0 0 y_MD_qFact M_MD_qFact [mR (12, 0, 177)] (L, I, J, R) (m_is (none) (L, r, J, R)) :=
  m_met_in n_MD_qFact (plainFor_of_name (by decide)) (by decide) (Nat.le_of_ble_eq_true rfl) (ls := [some (mR (12, 0, 177)), none]) rfl (W_MD_qFact I J hR hf ⟨rfl, rfl⟩)
noncomputable def F_MD_qHasSquare_2 (I : MI) (v1 : Int32) : Option ((Int32) ⊕ ((Unit) ⊕ (Int32))) :=
  if (I 177 94) ≤ v1 then (some (.inr (.inl ()))) else (gd v1 1700 <| if (I 245 v1.toNatClampNeg) = (25 : Int32) then (some (.inr (.inr (1 : Int32)))) else (some (.inl (v1 + 1 : Int32))))
set_option maxRecDepth 100000 in
set_option maxHeartbeats 400000 in
theorem W_MD_qHasSquare_2 {G : MG} {Q : Option MV → MS → Prop} {L : List (Nat × Nat)} {R : Nat → Nat → Option MRef} (I : MI) (J : MJ) (v1 : Int32) (hR : RF R) {r : (Int32) ⊕ ((Unit) ⊕ (Int32))} (hf : F_MD_qHasSquare_2 I v1 = some r) (hk : (Sum.elim (fun s : Int32 => m_B G (m_rm 1 0 0) M_MD_qHasSquare Q 0 0 2 [some (mR (12, 0, 177)), some (mI s)] [] (L, I, J, R)) (Sum.elim (fun s : Unit => m_B G (m_rm 1 0 0) M_MD_qHasSquare Q 0 0 29 [none, none] [] (L, I, J, R)) (fun r : Int32 => Q (some (mI r)) (L, I, J, R)))) r) : m_B G (m_rm 1 0 0) M_MD_qHasSquare Q 0 0 2 [some (mR (12, 0, 177)), some (mI v1)] [] (L, I, J, R) := by
  unfold F_MD_qHasSquare_2 at hf
  refine b_blk (pc' := 7) (ls' := [some (mR (12, 0, 177)), some (mI v1)]) (st' := [mI (I 177 94), mI v1]) (S' := (L, I, J, R)) (P := True) [(.iload_n 1, (0, 0, 0, 0, 0)), (.aload_n 0, (0, 0, 0, 0, 0)), (.getfield 318, (12, 94, 0, 0, 0))] [] (by decide +kernel) rfl trivial ?_
  refine b_icmp_ge (off := 22) (tgt := 29) (by decide +kernel) (by decide) (fun h1 => ?_) (fun h1 => ?_)
  · have hf := if_t h1 hf
    refine b_frg 0 ?_
    refine b_frg 1 ?_
    cases hf
    exact hk
  · have hf := if_f h1 hf
    obtain ⟨g2, hf⟩ := gd_s hf
    refine b_blk (pc' := 18) (ls' := [some (mR (12, 0, 177)), some (mI v1)]) (st' := [mI 25, mI (I 245 v1.toNatClampNeg)]) (S' := (L, I, J, R)) (P := ((True ∧ R 177 93 = some (20, 1700, 245)) ∧ vp_in v1 1700)) [(.aload_n 0, (0, 0, 0, 0, 0)), (.getfield 222, (12, 93, 3, 0, 0)), (.iload_n 1, (0, 0, 0, 0, 0)), (.iaload, (0, 0, 0, 0, 0)), (.bipush 25, (0, 0, 0, 25, 0))] [some (20, 1700, 245)] (by decide +kernel) rfl ⟨⟨trivial, (r_177_93 hR)⟩, (in_n (n := 1700) (by decide) g2.1 g2.2)⟩ ?_
    refine b_icmp_ne (off := 5) (tgt := 23) (by decide +kernel) (by decide) (fun h3 => ?_) (fun h3 => ?_)
    · have hf := if_f h3 hf
      refine b_blk (pc' := 2) (ls' := [some (mR (12, 0, 177)), some (mI (v1 + 1))]) (st' := []) (S' := (L, I, J, R)) (P := True) [(.iinc 1 1, (0, 0, 0, 1, 0)), (.goto (-24), (0, 2, 0, 0, 0))] [] (by decide +kernel) rfl trivial ?_
      cases hf
      exact hk
    · have hf := if_t h3 hf
      refine b_blk (pc' := 22) (ls' := [some (mR (12, 0, 177)), some (mI v1)]) (st' := [mI 1]) (S' := (L, I, J, R)) (P := True) [(.iconst 1, (0, 0, 0, 1, 0))] [] (by decide +kernel) rfl trivial ?_
      cases hf
      exact b_zret (by decide +kernel) rfl (by decide) hk
noncomputable def F_MD_qHasSquare (I : MI) : Option (Int32) :=
  (wl (fun s : Int32 => F_MD_qHasSquare_2 I s) (0 : Int32)).bind <| sel (fun q => some q) fun t1 => some (0 : Int32)
set_option maxRecDepth 100000 in
set_option maxHeartbeats 400000 in
theorem W_MD_qHasSquare {G : MG} {Q : Option MV → MS → Prop} {L : List (Nat × Nat)} {R : Nat → Nat → Option MRef} (I : MI) (J : MJ) (hR : RF R) {r : Int32} (hf : F_MD_qHasSquare I = some r) (hk : (fun r : Int32 => Q (some (mI r)) (L, I, J, R)) r) : m_B G (m_rm 1 0 0) M_MD_qHasSquare Q 0 0 0 [some (mR (12, 0, 177)), none] [] (L, I, J, R) := by
  unfold F_MD_qHasSquare at hf
  refine b_blk (pc' := 2) (ls' := [some (mR (12, 0, 177)), some (mI 0)]) (st' := []) (S' := (L, I, J, R)) (P := True) [(.iconst 0, (0, 0, 0, 0, 0)), (.istore_n 1, (0, 0, 0, 0, 0))] [] (by decide +kernel) rfl trivial ?_
  obtain ⟨t1, hw, hf⟩ := bnd_o hf
  refine wl_B (A := fun s : Int32 => m_B G (m_rm 1 0 0) M_MD_qHasSquare Q 0 0 2 [some (mR (12, 0, 177)), some (mI s)] [] (L, I, J, R)) (B := (Sum.elim (fun s : Unit => m_B G (m_rm 1 0 0) M_MD_qHasSquare Q 0 0 29 [none, none] [] (L, I, J, R)) (fun r : Int32 => Q (some (mI r)) (L, I, J, R)))) (fun s r hs hr => W_MD_qHasSquare_2 I J s hR hs hr) hw ?_
  rcases t1 with t1 | q
  rotate_left
  · cases se_r hf; exact hk
  replace hf := se_l hf
  show m_B G (m_rm 1 0 0) M_MD_qHasSquare Q 0 0 29 [none, none] [] (L, I, J, R)
  refine b_blk (pc' := 30) (ls' := [none, none]) (st' := [mI 0]) (S' := (L, I, J, R)) (P := True) [(.iconst 0, (0, 0, 0, 0, 0))] [] (by decide +kernel) rfl trivial ?_
  cases hf
  exact b_zret (by decide +kernel) rfl (by decide) hk
theorem C_MD_qHasSquare {G : MG} {L : List (Nat × Nat)} {R : Nat → Nat → Option MRef} (I : MI) (J : MJ) (hR : RF R) {r : Int32} (hf : F_MD_qHasSquare I = some r) : m_met G 1 0 0 y_MD_qHasSquare M_MD_qHasSquare [mR (12, 0, 177)] (L, I, J, R) (m_is (some (mI r)) (L, I, J, R)) :=
  m_met_in n_MD_qHasSquare (plainFor_of_name (by decide)) (by decide) (Nat.le_of_ble_eq_true rfl) (ls := [some (mR (12, 0, 177)), none]) rfl (W_MD_qHasSquare I J hR hf ⟨rfl, rfl⟩)
noncomputable def F_MD_qGoesOnTest_33 (I : MI) : Option ((MI) ⊕ (MI)) :=
  (F_MD_qIsOn I (25 : Int32)).bind fun r1 => if r1 = (0 : Int32) then ((F_MD_qDrops I).bind fun r3 => some (.inl r3)) else (some (.inr I))
set_option maxRecDepth 100000 in
set_option maxHeartbeats 400000 in
theorem W_MD_qGoesOnTest_33 {G : MG} {Q : Option MV → MS → Prop} {L : List (Nat × Nat)} {R : Nat → Nat → Option MRef} (I : MI) (J : MJ) (hR : RF R) {r : (MI) ⊕ (MI)} (hf : F_MD_qGoesOnTest_33 I = some r) (hk : (Sum.elim (fun s : MI => m_B G (m_rm 4 0 0) M_MD_qGoesOnTest Q 0 0 33 [some (mR (12, 0, 177))] [] (L, s, J, R)) (fun s : MI => m_B G (m_rm 4 0 0) M_MD_qGoesOnTest Q 0 0 49 [some (mR (12, 0, 177))] [] (L, s, J, R))) r) : m_B G (m_rm 4 0 0) M_MD_qGoesOnTest Q 0 0 33 [some (mR (12, 0, 177))] [] (L, I, J, R) := by
  unfold F_MD_qGoesOnTest_33 at hf
  refine b_blk (pc' := 36) (ls' := [some (mR (12, 0, 177))]) (st' := [mI 25, mR (12, 0, 177)]) (S' := (L, I, J, R)) (P := True) [(.aload_n 0, (0, 0, 0, 0, 0)), (.bipush 25, (0, 0, 0, 25, 0))] [] (by decide +kernel) rfl trivial ?_
  obtain ⟨r1, hc1, hf⟩ := bnd_o hf
  refine b_cV (as := [mI 25]) (st := []) (by decide +kernel) k_12_595 n_MD_qIsOn rfl (by decide) v_MD_qIsOn (C_MD_qIsOn I J (25 : Int32) hR hc1) (Nat.le_of_ble_eq_true rfl) (by decide) rfl rfl (fun _ h => h) ?_
  show m_B G (m_rm 4 0 0) M_MD_qGoesOnTest Q 0 0 39 [some (mR (12, 0, 177))] [mI r1] (L, I, J, R)
  refine b_if_ne (off := 10) (tgt := 49) (by decide +kernel) (by decide) (fun h2 => ?_) (fun h2 => ?_)
  · have hf := if_f h2 hf
    cases hf
    exact hk
  · have hf := if_t h2 hf
    refine b_blk (pc' := 43) (ls' := [some (mR (12, 0, 177))]) (st' := [mR (12, 0, 177)]) (S' := (L, I, J, R)) (P := True) [(.aload_n 0, (0, 0, 0, 0, 0))] [] (by decide +kernel) rfl trivial ?_
    obtain ⟨r3, hc3, hf⟩ := bnd_o hf
    refine b_cV (as := []) (st := []) (by decide +kernel) k_12_568 n_MD_qDrops rfl (by decide) v_MD_qDrops (C_MD_qDrops I J hR hc3) (Nat.le_of_ble_eq_true rfl) (by decide) rfl rfl (fun _ h => h) ?_
    show m_B G (m_rm 4 0 0) M_MD_qGoesOnTest Q 0 0 46 [some (mR (12, 0, 177))] [] (L, r3, J, R)
    refine b_blk (pc' := 33) (ls' := [some (mR (12, 0, 177))]) (st' := []) (S' := (L, r3, J, R)) (P := True) [(.goto (-13), (0, 33, 0, 0, 0))] [] (by decide +kernel) rfl trivial ?_
    cases hf
    exact hk
noncomputable def F_MD_qGoesOnTest_0 (I : MI) : Option ((MI) ⊕ (MI)) :=
  if (I 177 5) = (0 : Int32) then ((F_MD_look I).bind fun r2 => if r2.1 = (93 : Int32) then ((F_MD_qHasSquare r2.2).bind fun r4 => if r4 = (0 : Int32) then (some (.inr r2.2)) else ((wl (fun s : MI => F_MD_qGoesOnTest_33 s) (m_up r2.2 177 2 ((r2.2 177 2) + (1 : Int32)))).bind fun t6 => (F_MD_qDropsNots (m_up (m_up t6 177 94 ((t6 177 94) - (1 : Int32))) 177 95 ((t6 177 95) - (1 : Int32)))).bind fun r7 => some (.inl r7))) else (some (.inr r2.2))) else (some (.inr I))
set_option maxRecDepth 100000 in
set_option maxHeartbeats 400000 in
theorem W_MD_qGoesOnTest_0 {G : MG} {Q : Option MV → MS → Prop} {L : List (Nat × Nat)} {R : Nat → Nat → Option MRef} (I : MI) (J : MJ) (hR : RF R) {r : (MI) ⊕ (MI)} (hf : F_MD_qGoesOnTest_0 I = some r) (hk : (Sum.elim (fun s : MI => m_B G (m_rm 4 0 0) M_MD_qGoesOnTest Q 0 0 0 [some (mR (12, 0, 177))] [] (L, s, J, R)) (fun s : MI => m_B G (m_rm 4 0 0) M_MD_qGoesOnTest Q 0 0 76 [some (mR (12, 0, 177))] [] (L, s, J, R))) r) : m_B G (m_rm 4 0 0) M_MD_qGoesOnTest Q 0 0 0 [some (mR (12, 0, 177))] [] (L, I, J, R) := by
  unfold F_MD_qGoesOnTest_0 at hf
  refine b_blk (pc' := 4) (ls' := [some (mR (12, 0, 177))]) (st' := [mI (I 177 5)]) (S' := (L, I, J, R)) (P := True) [(.aload_n 0, (0, 0, 0, 0, 0)), (.getfield 234, (12, 5, 0, 0, 0))] [] (by decide +kernel) rfl trivial ?_
  refine b_if_ne (off := 72) (tgt := 76) (by decide +kernel) (by decide) (fun h1 => ?_) (fun h1 => ?_)
  · have hf := if_f h1 hf
    cases hf
    exact hk
  · have hf := if_t h1 hf
    refine b_blk (pc' := 8) (ls' := [some (mR (12, 0, 177))]) (st' := [mR (12, 0, 177)]) (S' := (L, I, J, R)) (P := True) [(.aload_n 0, (0, 0, 0, 0, 0))] [] (by decide +kernel) rfl trivial ?_
    obtain ⟨r2, hc2, hf⟩ := bnd_o hf
    refine b_cV (as := []) (st := []) (by decide +kernel) k_12_246 n_MD_look rfl (by decide) v_MD_look (C_MD_look I J hR hc2) (Nat.le_of_ble_eq_true rfl) (by decide) rfl rfl (fun _ h => h) ?_
    show m_B G (m_rm 4 0 0) M_MD_qGoesOnTest Q 0 0 11 [some (mR (12, 0, 177))] [mI r2.1] (L, r2.2, J, R)
    refine b_blk (pc' := 13) (ls' := [some (mR (12, 0, 177))]) (st' := [mI 93, mI r2.1]) (S' := (L, r2.2, J, R)) (P := True) [(.bipush 93, (0, 0, 0, 93, 0))] [] (by decide +kernel) rfl trivial ?_
    refine b_icmp_ne (off := 63) (tgt := 76) (by decide +kernel) (by decide) (fun h3 => ?_) (fun h3 => ?_)
    · have hf := if_f h3 hf
      cases hf
      exact hk
    · have hf := if_t h3 hf
      refine b_blk (pc' := 17) (ls' := [some (mR (12, 0, 177))]) (st' := [mR (12, 0, 177)]) (S' := (L, r2.2, J, R)) (P := True) [(.aload_n 0, (0, 0, 0, 0, 0))] [] (by decide +kernel) rfl trivial ?_
      obtain ⟨r4, hc4, hf⟩ := bnd_o hf
      refine b_cV (as := []) (st := []) (by decide +kernel) k_12_613 n_MD_qHasSquare rfl (by decide) v_MD_qHasSquare (C_MD_qHasSquare r2.2 J hR hc4) (Nat.le_of_ble_eq_true rfl) (by decide) rfl rfl (fun _ h => h) ?_
      show m_B G (m_rm 4 0 0) M_MD_qGoesOnTest Q 0 0 20 [some (mR (12, 0, 177))] [mI r4] (L, r2.2, J, R)
      refine b_if_eq (off := 56) (tgt := 76) (by decide +kernel) (by decide) (fun h5 => ?_) (fun h5 => ?_)
      · have hf := if_t h5 hf
        cases hf
        exact hk
      · have hf := if_f h5 hf
        refine b_blk (pc' := 33) (ls' := [some (mR (12, 0, 177))]) (st' := []) (S' := (L, m_up r2.2 177 2 ((r2.2 177 2) + (1 : Int32)), J, R)) (P := True) [(.aload_n 0, (0, 0, 0, 0, 0)), (.dup, (0, 0, 0, 0, 0)), (.getfield 240, (12, 2, 0, 0, 0)), (.iconst 1, (0, 0, 0, 1, 0)), (.iadd, (0, 0, 0, 0, 0)), (.putfield 240, (12, 2, 0, 0, 0))] [] (by decide +kernel) rfl trivial ?_
        obtain ⟨t6, hw, hf⟩ := bnd_o hf
        refine wl_B (A := fun s : MI => m_B G (m_rm 4 0 0) M_MD_qGoesOnTest Q 0 0 33 [some (mR (12, 0, 177))] [] (L, s, J, R)) (B := (fun s : MI => m_B G (m_rm 4 0 0) M_MD_qGoesOnTest Q 0 0 49 [some (mR (12, 0, 177))] [] (L, s, J, R))) (fun s r hs hr => W_MD_qGoesOnTest_33 s J hR hs hr) hw ?_
        show m_B G (m_rm 4 0 0) M_MD_qGoesOnTest Q 0 0 49 [some (mR (12, 0, 177))] [] (L, t6, J, R)
        refine b_blk (pc' := 70) (ls' := [some (mR (12, 0, 177))]) (st' := [mR (12, 0, 177)]) (S' := (L, m_up (m_up t6 177 94 ((t6 177 94) - (1 : Int32))) 177 95 ((t6 177 95) - (1 : Int32)), J, R)) (P := True) [(.aload_n 0, (0, 0, 0, 0, 0)), (.dup, (0, 0, 0, 0, 0)), (.getfield 318, (12, 94, 0, 0, 0)), (.iconst 1, (0, 0, 0, 1, 0)), (.isub, (0, 0, 0, 0, 0)), (.putfield 318, (12, 94, 0, 0, 0)), (.aload_n 0, (0, 0, 0, 0, 0)), (.dup, (0, 0, 0, 0, 0)), (.getfield 321, (12, 95, 0, 0, 0)), (.iconst 1, (0, 0, 0, 1, 0)), (.isub, (0, 0, 0, 0, 0)), (.putfield 321, (12, 95, 0, 0, 0)), (.aload_n 0, (0, 0, 0, 0, 0))] [] (by decide +kernel) rfl trivial ?_
        obtain ⟨r7, hc7, hf⟩ := bnd_o hf
        refine b_cV (as := []) (st := []) (by decide +kernel) k_12_607 n_MD_qDropsNots rfl (by decide) v_MD_qDropsNots (C_MD_qDropsNots (m_up (m_up t6 177 94 ((t6 177 94) - (1 : Int32))) 177 95 ((t6 177 95) - (1 : Int32))) J hR hc7) (Nat.le_of_ble_eq_true rfl) (by decide) rfl rfl (fun _ h => h) ?_
        show m_B G (m_rm 4 0 0) M_MD_qGoesOnTest Q 0 0 73 [some (mR (12, 0, 177))] [] (L, r7, J, R)
        refine b_blk (pc' := 0) (ls' := [some (mR (12, 0, 177))]) (st' := []) (S' := (L, r7, J, R)) (P := True) [(.goto (-73), (0, 0, 0, 0, 0))] [] (by decide +kernel) rfl trivial ?_
        cases hf
        exact hk
noncomputable def F_MD_qGoesOnTest_137 (I : MI) : Option ((MI) ⊕ (MI)) :=
  (F_MD_qIsOn I (10 : Int32)).bind fun r1 => if r1 = (0 : Int32) then ((F_MD_qIsOn I (11 : Int32)).bind fun r4 => if r4 = (0 : Int32) then (some (.inr I)) else ((F_MD_qDrops I).bind fun r6 => some (.inl r6))) else ((F_MD_qDrops I).bind fun r3 => some (.inl r3))
set_option maxRecDepth 100000 in
set_option maxHeartbeats 400000 in
theorem W_MD_qGoesOnTest_137 {G : MG} {Q : Option MV → MS → Prop} {L : List (Nat × Nat)} {R : Nat → Nat → Option MRef} (I : MI) (J : MJ) (hR : RF R) {r : (MI) ⊕ (MI)} (hf : F_MD_qGoesOnTest_137 I = some r) (hk : (Sum.elim (fun s : MI => m_B G (m_rm 4 0 0) M_MD_qGoesOnTest Q 0 0 137 [some (mR (12, 0, 177))] [] (L, s, J, R)) (fun s : MI => m_B G (m_rm 4 0 0) M_MD_qGoesOnTest Q 0 0 162 [some (mR (12, 0, 177))] [] (L, s, J, R))) r) : m_B G (m_rm 4 0 0) M_MD_qGoesOnTest Q 0 0 137 [some (mR (12, 0, 177))] [] (L, I, J, R) := by
  unfold F_MD_qGoesOnTest_137 at hf
  refine b_blk (pc' := 140) (ls' := [some (mR (12, 0, 177))]) (st' := [mI 10, mR (12, 0, 177)]) (S' := (L, I, J, R)) (P := True) [(.aload_n 0, (0, 0, 0, 0, 0)), (.bipush 10, (0, 0, 0, 10, 0))] [] (by decide +kernel) rfl trivial ?_
  obtain ⟨r1, hc1, hf⟩ := bnd_o hf
  refine b_cV (as := [mI 10]) (st := []) (by decide +kernel) k_12_595 n_MD_qIsOn rfl (by decide) v_MD_qIsOn (C_MD_qIsOn I J (10 : Int32) hR hc1) (Nat.le_of_ble_eq_true rfl) (by decide) rfl rfl (fun _ h => h) ?_
  show m_B G (m_rm 4 0 0) M_MD_qGoesOnTest Q 0 0 143 [some (mR (12, 0, 177))] [mI r1] (L, I, J, R)
  refine b_if_ne (off := 12) (tgt := 155) (by decide +kernel) (by decide) (fun h2 => ?_) (fun h2 => ?_)
  · have hf := if_f h2 hf
    refine b_blk (pc' := 156) (ls' := [some (mR (12, 0, 177))]) (st' := [mR (12, 0, 177)]) (S' := (L, I, J, R)) (P := True) [(.aload_n 0, (0, 0, 0, 0, 0))] [] (by decide +kernel) rfl trivial ?_
    obtain ⟨r3, hc3, hf⟩ := bnd_o hf
    refine b_cV (as := []) (st := []) (by decide +kernel) k_12_568 n_MD_qDrops rfl (by decide) v_MD_qDrops (C_MD_qDrops I J hR hc3) (Nat.le_of_ble_eq_true rfl) (by decide) rfl rfl (fun _ h => h) ?_
    show m_B G (m_rm 4 0 0) M_MD_qGoesOnTest Q 0 0 159 [some (mR (12, 0, 177))] [] (L, r3, J, R)
    refine b_blk (pc' := 137) (ls' := [some (mR (12, 0, 177))]) (st' := []) (S' := (L, r3, J, R)) (P := True) [(.goto (-22), (0, 137, 0, 0, 0))] [] (by decide +kernel) rfl trivial ?_
    cases hf
    exact hk
  · have hf := if_t h2 hf
    refine b_blk (pc' := 149) (ls' := [some (mR (12, 0, 177))]) (st' := [mI 11, mR (12, 0, 177)]) (S' := (L, I, J, R)) (P := True) [(.aload_n 0, (0, 0, 0, 0, 0)), (.bipush 11, (0, 0, 0, 11, 0))] [] (by decide +kernel) rfl trivial ?_
    obtain ⟨r4, hc4, hf⟩ := bnd_o hf
    refine b_cV (as := [mI 11]) (st := []) (by decide +kernel) k_12_595 n_MD_qIsOn rfl (by decide) v_MD_qIsOn (C_MD_qIsOn I J (11 : Int32) hR hc4) (Nat.le_of_ble_eq_true rfl) (by decide) rfl rfl (fun _ h => h) ?_
    show m_B G (m_rm 4 0 0) M_MD_qGoesOnTest Q 0 0 152 [some (mR (12, 0, 177))] [mI r4] (L, I, J, R)
    refine b_if_eq (off := 10) (tgt := 162) (by decide +kernel) (by decide) (fun h5 => ?_) (fun h5 => ?_)
    · have hf := if_t h5 hf
      cases hf
      exact hk
    · have hf := if_f h5 hf
      refine b_blk (pc' := 156) (ls' := [some (mR (12, 0, 177))]) (st' := [mR (12, 0, 177)]) (S' := (L, I, J, R)) (P := True) [(.aload_n 0, (0, 0, 0, 0, 0))] [] (by decide +kernel) rfl trivial ?_
      obtain ⟨r6, hc6, hf⟩ := bnd_o hf
      refine b_cV (as := []) (st := []) (by decide +kernel) k_12_568 n_MD_qDrops rfl (by decide) v_MD_qDrops (C_MD_qDrops I J hR hc6) (Nat.le_of_ble_eq_true rfl) (by decide) rfl rfl (fun _ h => h) ?_
      show m_B G (m_rm 4 0 0) M_MD_qGoesOnTest Q 0 0 159 [some (mR (12, 0, 177))] [] (L, r6, J, R)
      refine b_blk (pc' := 137) (ls' := [some (mR (12, 0, 177))]) (st' := []) (S' := (L, r6, J, R)) (P := True) [(.goto (-22), (0, 137, 0, 0, 0))] [] (by decide +kernel) rfl trivial ?_
      cases hf
      exact hk
noncomputable def F_MD_qGoesOnTest_87 (I : MI) : Option ((MI) ⊕ (MI)) :=
  (F_MD_qIsOn I (10 : Int32)).bind fun r1 => if r1 = (0 : Int32) then (some (.inr I)) else ((F_MD_qDrops I).bind fun r3 => some (.inl r3))
set_option maxRecDepth 100000 in
set_option maxHeartbeats 400000 in
theorem W_MD_qGoesOnTest_87 {G : MG} {Q : Option MV → MS → Prop} {L : List (Nat × Nat)} {R : Nat → Nat → Option MRef} (I : MI) (J : MJ) (hR : RF R) {r : (MI) ⊕ (MI)} (hf : F_MD_qGoesOnTest_87 I = some r) (hk : (Sum.elim (fun s : MI => m_B G (m_rm 4 0 0) M_MD_qGoesOnTest Q 0 0 87 [some (mR (12, 0, 177))] [] (L, s, J, R)) (fun s : MI => m_B G (m_rm 4 0 0) M_MD_qGoesOnTest Q 0 0 103 [some (mR (12, 0, 177))] [] (L, s, J, R))) r) : m_B G (m_rm 4 0 0) M_MD_qGoesOnTest Q 0 0 87 [some (mR (12, 0, 177))] [] (L, I, J, R) := by
  unfold F_MD_qGoesOnTest_87 at hf
  refine b_blk (pc' := 90) (ls' := [some (mR (12, 0, 177))]) (st' := [mI 10, mR (12, 0, 177)]) (S' := (L, I, J, R)) (P := True) [(.aload_n 0, (0, 0, 0, 0, 0)), (.bipush 10, (0, 0, 0, 10, 0))] [] (by decide +kernel) rfl trivial ?_
  obtain ⟨r1, hc1, hf⟩ := bnd_o hf
  refine b_cV (as := [mI 10]) (st := []) (by decide +kernel) k_12_595 n_MD_qIsOn rfl (by decide) v_MD_qIsOn (C_MD_qIsOn I J (10 : Int32) hR hc1) (Nat.le_of_ble_eq_true rfl) (by decide) rfl rfl (fun _ h => h) ?_
  show m_B G (m_rm 4 0 0) M_MD_qGoesOnTest Q 0 0 93 [some (mR (12, 0, 177))] [mI r1] (L, I, J, R)
  refine b_if_eq (off := 10) (tgt := 103) (by decide +kernel) (by decide) (fun h2 => ?_) (fun h2 => ?_)
  · have hf := if_t h2 hf
    cases hf
    exact hk
  · have hf := if_f h2 hf
    refine b_blk (pc' := 97) (ls' := [some (mR (12, 0, 177))]) (st' := [mR (12, 0, 177)]) (S' := (L, I, J, R)) (P := True) [(.aload_n 0, (0, 0, 0, 0, 0))] [] (by decide +kernel) rfl trivial ?_
    obtain ⟨r3, hc3, hf⟩ := bnd_o hf
    refine b_cV (as := []) (st := []) (by decide +kernel) k_12_568 n_MD_qDrops rfl (by decide) v_MD_qDrops (C_MD_qDrops I J hR hc3) (Nat.le_of_ble_eq_true rfl) (by decide) rfl rfl (fun _ h => h) ?_
    show m_B G (m_rm 4 0 0) M_MD_qGoesOnTest Q 0 0 100 [some (mR (12, 0, 177))] [] (L, r3, J, R)
    refine b_blk (pc' := 87) (ls' := [some (mR (12, 0, 177))]) (st' := []) (S' := (L, r3, J, R)) (P := True) [(.goto (-13), (0, 87, 0, 0, 0))] [] (by decide +kernel) rfl trivial ?_
    cases hf
    exact hk
noncomputable def F_MD_qGoesOnTest_76 (I : MI) : Option (Int32 × MI) :=
  (F_MD_takes 229 3 I).bind fun r1 => if r1.1 = (0 : Int32) then ((F_MD_takes 230 2 r1.2).bind fun r3 => if r3.1 = (0 : Int32) then (if (r3.2 177 5) = (0 : Int32) then ((F_MD_qHasSquare r3.2).bind fun r6 => if r6 = (0 : Int32) then (some ((0 : Int32), r3.2)) else ((F_MD_fail r3.2 (1 : Int32) (r3.2 177 2)).bind fun r8 => some ((0 : Int32), r8))) else (some ((0 : Int32), r3.2))) else ((wl (fun s : MI => F_MD_qGoesOnTest_137 s) r3.2).bind fun t9 => gd (t9 177 94) 1700 <| some ((1 : Int32), m_up (m_up t9 245 ((t9 177 94).toNatClampNeg) (11 : Int32)) 177 94 ((t9 177 94) + (1 : Int32))))) else ((wl (fun s : MI => F_MD_qGoesOnTest_87 s) r1.2).bind fun t11 => gd (t11 177 94) 1700 <| some ((1 : Int32), m_up (m_up t11 245 ((t11 177 94).toNatClampNeg) (10 : Int32)) 177 94 ((t11 177 94) + (1 : Int32))))
set_option maxRecDepth 100000 in
set_option maxHeartbeats 400000 in
theorem W_MD_qGoesOnTest_76 {G : MG} {Q : Option MV → MS → Prop} {L : List (Nat × Nat)} {R : Nat → Nat → Option MRef} (I : MI) (J : MJ) (hR : RF R) {r : Int32 × MI} (hf : F_MD_qGoesOnTest_76 I = some r) (hk : (fun r : Int32 × MI => Q (some (mI r.1)) (L, r.2, J, R)) r) : m_B G (m_rm 4 0 0) M_MD_qGoesOnTest Q 0 0 76 [some (mR (12, 0, 177))] [] (L, I, J, R) := by
  unfold F_MD_qGoesOnTest_76 at hf
  refine b_blk (pc' := 81) (ls' := [some (mR (12, 0, 177))]) (st' := [mR (23, 3, 229), mR (12, 0, 177)]) (S' := (L, I, J, R)) (P := (True ∧ R 177 76 = some (23, 3, 229))) [(.aload_n 0, (0, 0, 0, 0, 0)), (.aload_n 0, (0, 0, 0, 0, 0)), (.getfield 174, (12, 76, 3, 0, 0))] [some (23, 3, 229)] (by decide +kernel) rfl ⟨trivial, (r_177_76 hR)⟩ ?_
  obtain ⟨r1, hc1, hf⟩ := bnd_o hf
  refine b_cV (as := [mR (23, 3, 229)]) (st := []) (by decide +kernel) k_12_261 n_MD_takes rfl (by decide) v_MD_takes (C_MD_takes 229 3 I J hR (by decide) hc1) (Nat.le_of_ble_eq_true rfl) (by decide) rfl rfl (fun _ h => h) ?_
  show m_B G (m_rm 4 0 0) M_MD_qGoesOnTest Q 0 0 84 [some (mR (12, 0, 177))] [mI r1.1] (L, r1.2, J, R)
  refine b_if_eq (off := 42) (tgt := 126) (by decide +kernel) (by decide) (fun h2 => ?_) (fun h2 => ?_)
  · have hf := if_t h2 hf
    refine b_blk (pc' := 131) (ls' := [some (mR (12, 0, 177))]) (st' := [mR (23, 2, 230), mR (12, 0, 177)]) (S' := (L, r1.2, J, R)) (P := (True ∧ R 177 77 = some (23, 2, 230))) [(.aload_n 0, (0, 0, 0, 0, 0)), (.aload_n 0, (0, 0, 0, 0, 0)), (.getfield 177, (12, 77, 3, 0, 0))] [some (23, 2, 230)] (by decide +kernel) rfl ⟨trivial, (r_177_77 hR)⟩ ?_
    obtain ⟨r3, hc3, hf⟩ := bnd_o hf
    refine b_cV (as := [mR (23, 2, 230)]) (st := []) (by decide +kernel) k_12_261 n_MD_takes rfl (by decide) v_MD_takes (C_MD_takes 230 2 r1.2 J hR (by decide) hc3) (Nat.le_of_ble_eq_true rfl) (by decide) rfl rfl (fun _ h => h) ?_
    show m_B G (m_rm 4 0 0) M_MD_qGoesOnTest Q 0 0 134 [some (mR (12, 0, 177))] [mI r3.1] (L, r3.2, J, R)
    refine b_if_eq (off := 51) (tgt := 185) (by decide +kernel) (by decide) (fun h4 => ?_) (fun h4 => ?_)
    · have hf := if_t h4 hf
      refine b_blk (pc' := 189) (ls' := [some (mR (12, 0, 177))]) (st' := [mI (r3.2 177 5)]) (S' := (L, r3.2, J, R)) (P := True) [(.aload_n 0, (0, 0, 0, 0, 0)), (.getfield 234, (12, 5, 0, 0, 0))] [] (by decide +kernel) rfl trivial ?_
      refine b_if_ne (off := 19) (tgt := 208) (by decide +kernel) (by decide) (fun h5 => ?_) (fun h5 => ?_)
      · have hf := if_f h5 hf
        refine b_blk (pc' := 209) (ls' := [some (mR (12, 0, 177))]) (st' := [mI 0]) (S' := (L, r3.2, J, R)) (P := True) [(.iconst 0, (0, 0, 0, 0, 0))] [] (by decide +kernel) rfl trivial ?_
        cases hf
        exact b_zret (by decide +kernel) rfl (by decide) hk
      · have hf := if_t h5 hf
        refine b_blk (pc' := 193) (ls' := [some (mR (12, 0, 177))]) (st' := [mR (12, 0, 177)]) (S' := (L, r3.2, J, R)) (P := True) [(.aload_n 0, (0, 0, 0, 0, 0))] [] (by decide +kernel) rfl trivial ?_
        obtain ⟨r6, hc6, hf⟩ := bnd_o hf
        refine b_cV (as := []) (st := []) (by decide +kernel) k_12_613 n_MD_qHasSquare rfl (by decide) v_MD_qHasSquare (C_MD_qHasSquare r3.2 J hR hc6) (Nat.le_of_ble_eq_true rfl) (by decide) rfl rfl (fun _ h => h) ?_
        show m_B G (m_rm 4 0 0) M_MD_qGoesOnTest Q 0 0 196 [some (mR (12, 0, 177))] [mI r6] (L, r3.2, J, R)
        refine b_if_eq (off := 12) (tgt := 208) (by decide +kernel) (by decide) (fun h7 => ?_) (fun h7 => ?_)
        · have hf := if_t h7 hf
          refine b_blk (pc' := 209) (ls' := [some (mR (12, 0, 177))]) (st' := [mI 0]) (S' := (L, r3.2, J, R)) (P := True) [(.iconst 0, (0, 0, 0, 0, 0))] [] (by decide +kernel) rfl trivial ?_
          cases hf
          exact b_zret (by decide +kernel) rfl (by decide) hk
        · have hf := if_f h7 hf
          refine b_blk (pc' := 205) (ls' := [some (mR (12, 0, 177))]) (st' := [mI (r3.2 177 2), mI 1, mR (12, 0, 177)]) (S' := (L, r3.2, J, R)) (P := True) [(.aload_n 0, (0, 0, 0, 0, 0)), (.iconst 1, (0, 0, 0, 1, 0)), (.aload_n 0, (0, 0, 0, 0, 0)), (.getfield 240, (12, 2, 0, 0, 0))] [] (by decide +kernel) rfl trivial ?_
          obtain ⟨r8, hc8, hf⟩ := bnd_o hf
          refine b_cV (as := [mI 1, mI (r3.2 177 2)]) (st := []) (by decide +kernel) k_12_264 n_MD_fail rfl (by decide) v_MD_fail (C_MD_fail r3.2 J (1 : Int32) (r3.2 177 2) hR hc8) (Nat.le_of_ble_eq_true rfl) (by decide) rfl rfl (fun _ h => h) ?_
          show m_B G (m_rm 4 0 0) M_MD_qGoesOnTest Q 0 0 208 [some (mR (12, 0, 177))] [] (L, r8, J, R)
          refine b_blk (pc' := 209) (ls' := [some (mR (12, 0, 177))]) (st' := [mI 0]) (S' := (L, r8, J, R)) (P := True) [(.iconst 0, (0, 0, 0, 0, 0))] [] (by decide +kernel) rfl trivial ?_
          cases hf
          exact b_zret (by decide +kernel) rfl (by decide) hk
    · have hf := if_f h4 hf
      obtain ⟨t9, hw, hf⟩ := bnd_o hf
      refine wl_B (A := fun s : MI => m_B G (m_rm 4 0 0) M_MD_qGoesOnTest Q 0 0 137 [some (mR (12, 0, 177))] [] (L, s, J, R)) (B := (fun s : MI => m_B G (m_rm 4 0 0) M_MD_qGoesOnTest Q 0 0 162 [some (mR (12, 0, 177))] [] (L, s, J, R))) (fun s r hs hr => W_MD_qGoesOnTest_137 s J hR hs hr) hw ?_
      show m_B G (m_rm 4 0 0) M_MD_qGoesOnTest Q 0 0 162 [some (mR (12, 0, 177))] [] (L, t9, J, R)
      obtain ⟨g10, hf⟩ := gd_s hf
      refine b_blk (pc' := 184) (ls' := [some (mR (12, 0, 177))]) (st' := [mI 1]) (S' := (L, m_up (m_up t9 245 ((t9 177 94).toNatClampNeg) (11 : Int32)) 177 94 ((t9 177 94) + (1 : Int32)), J, R)) (P := ((True ∧ R 177 93 = some (20, 1700, 245)) ∧ vp_in (t9 177 94) 1700)) [(.aload_n 0, (0, 0, 0, 0, 0)), (.getfield 222, (12, 93, 3, 0, 0)), (.aload_n 0, (0, 0, 0, 0, 0)), (.getfield 318, (12, 94, 0, 0, 0)), (.bipush 11, (0, 0, 0, 11, 0)), (.iastore, (0, 0, 0, 0, 0)), (.aload_n 0, (0, 0, 0, 0, 0)), (.dup, (0, 0, 0, 0, 0)), (.getfield 318, (12, 94, 0, 0, 0)), (.iconst 1, (0, 0, 0, 1, 0)), (.iadd, (0, 0, 0, 0, 0)), (.putfield 318, (12, 94, 0, 0, 0)), (.iconst 1, (0, 0, 0, 1, 0))] [some (20, 1700, 245)] (by decide +kernel) rfl ⟨⟨trivial, (r_177_93 hR)⟩, (in_n (n := 1700) (by decide) g10.1 g10.2)⟩ ?_
      cases hf
      exact b_zret (by decide +kernel) rfl (by decide) hk
  · have hf := if_f h2 hf
    obtain ⟨t11, hw, hf⟩ := bnd_o hf
    refine wl_B (A := fun s : MI => m_B G (m_rm 4 0 0) M_MD_qGoesOnTest Q 0 0 87 [some (mR (12, 0, 177))] [] (L, s, J, R)) (B := (fun s : MI => m_B G (m_rm 4 0 0) M_MD_qGoesOnTest Q 0 0 103 [some (mR (12, 0, 177))] [] (L, s, J, R))) (fun s r hs hr => W_MD_qGoesOnTest_87 s J hR hs hr) hw ?_
    show m_B G (m_rm 4 0 0) M_MD_qGoesOnTest Q 0 0 103 [some (mR (12, 0, 177))] [] (L, t11, J, R)
    obtain ⟨g12, hf⟩ := gd_s hf
    refine b_blk (pc' := 125) (ls' := [some (mR (12, 0, 177))]) (st' := [mI 1]) (S' := (L, m_up (m_up t11 245 ((t11 177 94).toNatClampNeg) (10 : Int32)) 177 94 ((t11 177 94) + (1 : Int32)), J, R)) (P := ((True ∧ R 177 93 = some (20, 1700, 245)) ∧ vp_in (t11 177 94) 1700)) [(.aload_n 0, (0, 0, 0, 0, 0)), (.getfield 222, (12, 93, 3, 0, 0)), (.aload_n 0, (0, 0, 0, 0, 0)), (.getfield 318, (12, 94, 0, 0, 0)), (.bipush 10, (0, 0, 0, 10, 0)), (.iastore, (0, 0, 0, 0, 0)), (.aload_n 0, (0, 0, 0, 0, 0)), (.dup, (0, 0, 0, 0, 0)), (.getfield 318, (12, 94, 0, 0, 0)), (.iconst 1, (0, 0, 0, 1, 0)), (.iadd, (0, 0, 0, 0, 0)), (.putfield 318, (12, 94, 0, 0, 0)), (.iconst 1, (0, 0, 0, 1, 0))] [some (20, 1700, 245)] (by decide +kernel) rfl ⟨⟨trivial, (r_177_93 hR)⟩, (in_n (n := 1700) (by decide) g12.1 g12.2)⟩ ?_
    cases hf
    exact b_zret (by decide +kernel) rfl (by decide) hk
noncomputable def F_MD_qGoesOnTest (I : MI) : Option (Int32 × MI) :=
  (wl (fun s : MI => F_MD_qGoesOnTest_0 s) I).bind fun t1 => F_MD_qGoesOnTest_76 t1
set_option maxRecDepth 100000 in
set_option maxHeartbeats 400000 in
theorem W_MD_qGoesOnTest {G : MG} {Q : Option MV → MS → Prop} {L : List (Nat × Nat)} {R : Nat → Nat → Option MRef} (I : MI) (J : MJ) (hR : RF R) {r : Int32 × MI} (hf : F_MD_qGoesOnTest I = some r) (hk : (fun r : Int32 × MI => Q (some (mI r.1)) (L, r.2, J, R)) r) : m_B G (m_rm 4 0 0) M_MD_qGoesOnTest Q 0 0 0 [some (mR (12, 0, 177))] [] (L, I, J, R) := by
  unfold F_MD_qGoesOnTest at hf
  obtain ⟨t1, hw, hf⟩ := bnd_o hf
  refine wl_B (A := fun s : MI => m_B G (m_rm 4 0 0) M_MD_qGoesOnTest Q 0 0 0 [some (mR (12, 0, 177))] [] (L, s, J, R)) (B := (fun s : MI => m_B G (m_rm 4 0 0) M_MD_qGoesOnTest Q 0 0 76 [some (mR (12, 0, 177))] [] (L, s, J, R))) (fun s r hs hr => W_MD_qGoesOnTest_0 s J hR hs hr) hw ?_
  show m_B G (m_rm 4 0 0) M_MD_qGoesOnTest Q 0 0 76 [some (mR (12, 0, 177))] [] (L, t1, J, R)
  exact m_B_cg rfl rfl rfl (W_MD_qGoesOnTest_76 t1 J hR hf hk)
theorem C_MD_qGoesOnTest {G : MG} {L : List (Nat × Nat)} {R : Nat → Nat → Option MRef} (I : MI) (J : MJ) (hR : RF R) {r : Int32 × MI} (hf : F_MD_qGoesOnTest I = some r) : m_met G 4 0 0 y_MD_qGoesOnTest M_MD_qGoesOnTest [mR (12, 0, 177)] (L, I, J, R) (m_is (some (mI r.1)) (L, r.2, J, R)) :=
  m_met_in n_MD_qGoesOnTest (plainFor_of_name (by decide)) (by decide) (Nat.le_of_ble_eq_true rfl) (ls := [some (mR (12, 0, 177))]) rfl (W_MD_qGoesOnTest I J hR hf ⟨rfl, rfl⟩)
noncomputable def F_MD_qTest_2 (I : MI) (v1 : Int32) : Option ((Int32 × MI) ⊕ (MI)) :=
  if v1 = (0 : Int32) then (some (.inr I)) else (if (I 177 5) = (0 : Int32) then ((F_MD_look I).bind fun r3 => if r3.1 = (91 : Int32) then ((F_MD_qOpens r3.2 (25 : Int32) (r3.2 177 2)).bind fun r14 => some (.inl ((v1 : Int32), m_up r14 177 2 ((r14 177 2) + (1 : Int32))))) else ((F_MD_isHere 228 3 r3.2).bind fun r5 => if r5.1 = (0 : Int32) then ((F_MD_qFact r5.2).bind fun r7 => (F_MD_qDropsNots r7).bind fun r8 => if (r8 177 5) = (0 : Int32) then ((F_MD_qGoesOnTest r8).bind fun r10 => if r10.1 = (0 : Int32) then (some (.inl ((0 : Int32), r10.2))) else (some (.inl ((1 : Int32), r10.2)))) else (some (.inl ((0 : Int32), r8)))) else ((F_MD_qOpens r5.2 (12 : Int32) (r5.2 177 2)).bind fun r12 => (F_MD_asks 228 3 r12).bind fun r13 => some (.inl ((v1 : Int32), r13))))) else (some (.inr I)))
set_option maxRecDepth 100000 in
set_option maxHeartbeats 400000 in
theorem W_MD_qTest_2 {G : MG} {Q : Option MV → MS → Prop} {L : List (Nat × Nat)} {R : Nat → Nat → Option MRef} (I : MI) (J : MJ) (v1 : Int32) (hR : RF R) {r : (Int32 × MI) ⊕ (MI)} (hf : F_MD_qTest_2 I v1 = some r) (hk : (Sum.elim (fun s : Int32 × MI => m_B G (m_rm 9 0 0) M_MD_qTest Q 0 0 2 [some (mR (12, 0, 177)), some (mI s.1), none] [] (L, s.2, J, R)) (fun s : MI => m_B G (m_rm 9 0 0) M_MD_qTest Q 0 0 110 [some (mR (12, 0, 177)), none, none] [] (L, s, J, R))) r) : m_B G (m_rm 9 0 0) M_MD_qTest Q 0 0 2 [some (mR (12, 0, 177)), some (mI v1), none] [] (L, I, J, R) := by
  unfold F_MD_qTest_2 at hf
  refine b_blk (pc' := 3) (ls' := [some (mR (12, 0, 177)), some (mI v1), none]) (st' := [mI v1]) (S' := (L, I, J, R)) (P := True) [(.iload_n 1, (0, 0, 0, 0, 0))] [] (by decide +kernel) rfl trivial ?_
  refine b_if_eq (off := 107) (tgt := 110) (by decide +kernel) (by decide) (fun h1 => ?_) (fun h1 => ?_)
  · have hf := if_t h1 hf
    refine b_frg 1 ?_
    cases hf
    exact hk
  · have hf := if_f h1 hf
    refine b_blk (pc' := 10) (ls' := [some (mR (12, 0, 177)), some (mI v1), none]) (st' := [mI (I 177 5)]) (S' := (L, I, J, R)) (P := True) [(.aload_n 0, (0, 0, 0, 0, 0)), (.getfield 234, (12, 5, 0, 0, 0))] [] (by decide +kernel) rfl trivial ?_
    refine b_if_ne (off := 100) (tgt := 110) (by decide +kernel) (by decide) (fun h2 => ?_) (fun h2 => ?_)
    · have hf := if_f h2 hf
      refine b_frg 1 ?_
      cases hf
      exact hk
    · have hf := if_t h2 hf
      refine b_blk (pc' := 14) (ls' := [some (mR (12, 0, 177)), some (mI v1), none]) (st' := [mR (12, 0, 177)]) (S' := (L, I, J, R)) (P := True) [(.aload_n 0, (0, 0, 0, 0, 0))] [] (by decide +kernel) rfl trivial ?_
      obtain ⟨r3, hc3, hf⟩ := bnd_o hf
      refine b_cV (as := []) (st := []) (by decide +kernel) k_12_246 n_MD_look rfl (by decide) v_MD_look (C_MD_look I J hR hc3) (Nat.le_of_ble_eq_true rfl) (by decide) rfl rfl (fun _ h => h) ?_
      show m_B G (m_rm 9 0 0) M_MD_qTest Q 0 0 17 [some (mR (12, 0, 177)), some (mI v1), none] [mI r3.1] (L, r3.2, J, R)
      refine b_blk (pc' := 21) (ls' := [some (mR (12, 0, 177)), some (mI v1), some (mI r3.1)]) (st' := [mI 91, mI r3.1]) (S' := (L, r3.2, J, R)) (P := True) [(.istore_n 2, (0, 0, 0, 0, 0)), (.iload_n 2, (0, 0, 0, 0, 0)), (.bipush 91, (0, 0, 0, 91, 0))] [] (by decide +kernel) rfl trivial ?_
      refine b_icmp_ne (off := 26) (tgt := 47) (by decide +kernel) (by decide) (fun h4 => ?_) (fun h4 => ?_)
      · have hf := if_f h4 hf
        refine b_blk (pc' := 52) (ls' := [some (mR (12, 0, 177)), some (mI v1), some (mI r3.1)]) (st' := [mR (23, 3, 228), mR (12, 0, 177)]) (S' := (L, r3.2, J, R)) (P := (True ∧ R 177 75 = some (23, 3, 228))) [(.aload_n 0, (0, 0, 0, 0, 0)), (.aload_n 0, (0, 0, 0, 0, 0)), (.getfield 171, (12, 75, 3, 0, 0))] [some (23, 3, 228)] (by decide +kernel) rfl ⟨trivial, (r_177_75 hR)⟩ ?_
        obtain ⟨r5, hc5, hf⟩ := bnd_o hf
        refine b_cV (as := [mR (23, 3, 228)]) (st := []) (by decide +kernel) k_12_257 n_MD_isHere rfl (by decide) v_MD_isHere (C_MD_isHere 228 3 r3.2 J hR (by decide) hc5) (Nat.le_of_ble_eq_true rfl) (by decide) rfl rfl (fun _ h => h) ?_
        show m_B G (m_rm 9 0 0) M_MD_qTest Q 0 0 55 [some (mR (12, 0, 177)), some (mI v1), some (mI r3.1)] [mI r5.1] (L, r5.2, J, R)
        refine b_if_eq (off := 24) (tgt := 79) (by decide +kernel) (by decide) (fun h6 => ?_) (fun h6 => ?_)
        · have hf := if_t h6 hf
          refine b_blk (pc' := 80) (ls' := [some (mR (12, 0, 177)), some (mI v1), some (mI r3.1)]) (st' := [mR (12, 0, 177)]) (S' := (L, r5.2, J, R)) (P := True) [(.aload_n 0, (0, 0, 0, 0, 0))] [] (by decide +kernel) rfl trivial ?_
          obtain ⟨r7, hc7, hf⟩ := bnd_o hf
          refine b_cV (as := []) (st := []) (by decide +kernel) k_12_604 n_MD_qFact rfl (by decide) v_MD_qFact (C_MD_qFact r5.2 J hR hc7) (Nat.le_of_ble_eq_true rfl) (by decide) rfl rfl (fun _ h => h) ?_
          show m_B G (m_rm 9 0 0) M_MD_qTest Q 0 0 83 [some (mR (12, 0, 177)), some (mI v1), some (mI r3.1)] [] (L, r7, J, R)
          refine b_blk (pc' := 84) (ls' := [some (mR (12, 0, 177)), some (mI v1), some (mI r3.1)]) (st' := [mR (12, 0, 177)]) (S' := (L, r7, J, R)) (P := True) [(.aload_n 0, (0, 0, 0, 0, 0))] [] (by decide +kernel) rfl trivial ?_
          obtain ⟨r8, hc8, hf⟩ := bnd_o hf
          refine b_cV (as := []) (st := []) (by decide +kernel) k_12_607 n_MD_qDropsNots rfl (by decide) v_MD_qDropsNots (C_MD_qDropsNots r7 J hR hc8) (Nat.le_of_ble_eq_true rfl) (by decide) rfl rfl (fun _ h => h) ?_
          show m_B G (m_rm 9 0 0) M_MD_qTest Q 0 0 87 [some (mR (12, 0, 177)), some (mI v1), some (mI r3.1)] [] (L, r8, J, R)
          refine b_blk (pc' := 91) (ls' := [some (mR (12, 0, 177)), some (mI v1), some (mI r3.1)]) (st' := [mI (r8 177 5)]) (S' := (L, r8, J, R)) (P := True) [(.aload_n 0, (0, 0, 0, 0, 0)), (.getfield 234, (12, 5, 0, 0, 0))] [] (by decide +kernel) rfl trivial ?_
          refine b_if_ne (off := 14) (tgt := 105) (by decide +kernel) (by decide) (fun h9 => ?_) (fun h9 => ?_)
          · have hf := if_f h9 hf
            refine b_blk (pc' := 2) (ls' := [some (mR (12, 0, 177)), some (mI 0), some (mI r3.1)]) (st' := []) (S' := (L, r8, J, R)) (P := True) [(.iconst 0, (0, 0, 0, 0, 0)), (.istore_n 1, (0, 0, 0, 0, 0)), (.goto (-105), (0, 2, 0, 0, 0))] [] (by decide +kernel) rfl trivial ?_
            refine b_frg 2 ?_
            cases hf
            exact hk
          · have hf := if_t h9 hf
            refine b_blk (pc' := 95) (ls' := [some (mR (12, 0, 177)), some (mI v1), some (mI r3.1)]) (st' := [mR (12, 0, 177)]) (S' := (L, r8, J, R)) (P := True) [(.aload_n 0, (0, 0, 0, 0, 0))] [] (by decide +kernel) rfl trivial ?_
            obtain ⟨r10, hc10, hf⟩ := bnd_o hf
            refine b_cV (as := []) (st := []) (by decide +kernel) k_12_610 n_MD_qGoesOnTest rfl (by decide) v_MD_qGoesOnTest (C_MD_qGoesOnTest r8 J hR hc10) (Nat.le_of_ble_eq_true rfl) (by decide) rfl rfl (fun _ h => h) ?_
            show m_B G (m_rm 9 0 0) M_MD_qTest Q 0 0 98 [some (mR (12, 0, 177)), some (mI v1), some (mI r3.1)] [mI r10.1] (L, r10.2, J, R)
            refine b_if_eq (off := 7) (tgt := 105) (by decide +kernel) (by decide) (fun h11 => ?_) (fun h11 => ?_)
            · have hf := if_t h11 hf
              refine b_blk (pc' := 2) (ls' := [some (mR (12, 0, 177)), some (mI 0), some (mI r3.1)]) (st' := []) (S' := (L, r10.2, J, R)) (P := True) [(.iconst 0, (0, 0, 0, 0, 0)), (.istore_n 1, (0, 0, 0, 0, 0)), (.goto (-105), (0, 2, 0, 0, 0))] [] (by decide +kernel) rfl trivial ?_
              refine b_frg 2 ?_
              cases hf
              exact hk
            · have hf := if_f h11 hf
              refine b_blk (pc' := 106) (ls' := [some (mR (12, 0, 177)), some (mI v1), some (mI r3.1)]) (st' := [mI 1]) (S' := (L, r10.2, J, R)) (P := True) [(.iconst 1, (0, 0, 0, 1, 0)), (.goto 4, (0, 106, 0, 0, 0))] [] (by decide +kernel) rfl trivial ?_
              refine b_blk (pc' := 2) (ls' := [some (mR (12, 0, 177)), some (mI 1), some (mI r3.1)]) (st' := []) (S' := (L, r10.2, J, R)) (P := True) [(.istore_n 1, (0, 0, 0, 0, 0)), (.goto (-105), (0, 2, 0, 0, 0))] [] (by decide +kernel) rfl trivial ?_
              refine b_frg 2 ?_
              cases hf
              exact hk
        · have hf := if_f h6 hf
          refine b_blk (pc' := 65) (ls' := [some (mR (12, 0, 177)), some (mI v1), some (mI r3.1)]) (st' := [mI (r5.2 177 2), mI 12, mR (12, 0, 177)]) (S' := (L, r5.2, J, R)) (P := True) [(.aload_n 0, (0, 0, 0, 0, 0)), (.bipush 12, (0, 0, 0, 12, 0)), (.aload_n 0, (0, 0, 0, 0, 0)), (.getfield 240, (12, 2, 0, 0, 0))] [] (by decide +kernel) rfl trivial ?_
          obtain ⟨r12, hc12, hf⟩ := bnd_o hf
          refine b_cV (as := [mI 12, mI (r5.2 177 2)]) (st := []) (by decide +kernel) k_12_580 n_MD_qOpens rfl (by decide) v_MD_qOpens (C_MD_qOpens r5.2 J (12 : Int32) (r5.2 177 2) hR hc12) (Nat.le_of_ble_eq_true rfl) (by decide) rfl rfl (fun _ h => h) ?_
          show m_B G (m_rm 9 0 0) M_MD_qTest Q 0 0 68 [some (mR (12, 0, 177)), some (mI v1), some (mI r3.1)] [] (L, r12, J, R)
          refine b_blk (pc' := 73) (ls' := [some (mR (12, 0, 177)), some (mI v1), some (mI r3.1)]) (st' := [mR (23, 3, 228), mR (12, 0, 177)]) (S' := (L, r12, J, R)) (P := (True ∧ R 177 75 = some (23, 3, 228))) [(.aload_n 0, (0, 0, 0, 0, 0)), (.aload_n 0, (0, 0, 0, 0, 0)), (.getfield 171, (12, 75, 3, 0, 0))] [some (23, 3, 228)] (by decide +kernel) rfl ⟨trivial, (r_177_75 hR)⟩ ?_
          obtain ⟨r13, hc13, hf⟩ := bnd_o hf
          refine b_cV (as := [mR (23, 3, 228)]) (st := []) (by decide +kernel) k_12_295 n_MD_asks rfl (by decide) v_MD_asks (C_MD_asks 228 3 r12 J hR (by decide) hc13) (Nat.le_of_ble_eq_true rfl) (by decide) rfl rfl (fun _ h => h) ?_
          show m_B G (m_rm 9 0 0) M_MD_qTest Q 0 0 76 [some (mR (12, 0, 177)), some (mI v1), some (mI r3.1)] [] (L, r13, J, R)
          refine b_blk (pc' := 2) (ls' := [some (mR (12, 0, 177)), some (mI v1), some (mI r3.1)]) (st' := []) (S' := (L, r13, J, R)) (P := True) [(.goto (-74), (0, 2, 0, 0, 0))] [] (by decide +kernel) rfl trivial ?_
          refine b_frg 2 ?_
          cases hf
          exact hk
      · have hf := if_t h4 hf
        refine b_blk (pc' := 31) (ls' := [some (mR (12, 0, 177)), some (mI v1), some (mI r3.1)]) (st' := [mI (r3.2 177 2), mI 25, mR (12, 0, 177)]) (S' := (L, r3.2, J, R)) (P := True) [(.aload_n 0, (0, 0, 0, 0, 0)), (.bipush 25, (0, 0, 0, 25, 0)), (.aload_n 0, (0, 0, 0, 0, 0)), (.getfield 240, (12, 2, 0, 0, 0))] [] (by decide +kernel) rfl trivial ?_
        obtain ⟨r14, hc14, hf⟩ := bnd_o hf
        refine b_cV (as := [mI 25, mI (r3.2 177 2)]) (st := []) (by decide +kernel) k_12_580 n_MD_qOpens rfl (by decide) v_MD_qOpens (C_MD_qOpens r3.2 J (25 : Int32) (r3.2 177 2) hR hc14) (Nat.le_of_ble_eq_true rfl) (by decide) rfl rfl (fun _ h => h) ?_
        show m_B G (m_rm 9 0 0) M_MD_qTest Q 0 0 34 [some (mR (12, 0, 177)), some (mI v1), some (mI r3.1)] [] (L, r14, J, R)
        refine b_blk (pc' := 2) (ls' := [some (mR (12, 0, 177)), some (mI v1), some (mI r3.1)]) (st' := []) (S' := (L, m_up r14 177 2 ((r14 177 2) + (1 : Int32)), J, R)) (P := True) [(.aload_n 0, (0, 0, 0, 0, 0)), (.dup, (0, 0, 0, 0, 0)), (.getfield 240, (12, 2, 0, 0, 0)), (.iconst 1, (0, 0, 0, 1, 0)), (.iadd, (0, 0, 0, 0, 0)), (.putfield 240, (12, 2, 0, 0, 0)), (.goto (-42), (0, 2, 0, 0, 0))] [] (by decide +kernel) rfl trivial ?_
        refine b_frg 2 ?_
        cases hf
        exact hk
noncomputable def F_MD_qTest_110 (I : MI) : Option ((MI) ⊕ (MI)) :=
  if (I 177 5) = (0 : Int32) then (if (I 177 94) ≤ (0 : Int32) then (some (.inr I)) else ((F_MD_qDrops I).bind fun r3 => some (.inl r3))) else (some (.inr I))
set_option maxRecDepth 100000 in
set_option maxHeartbeats 400000 in
theorem W_MD_qTest_110 {G : MG} {Q : Option MV → MS → Prop} {L : List (Nat × Nat)} {R : Nat → Nat → Option MRef} (I : MI) (J : MJ) (hR : RF R) {r : (MI) ⊕ (MI)} (hf : F_MD_qTest_110 I = some r) (hk : (Sum.elim (fun s : MI => m_B G (m_rm 9 0 0) M_MD_qTest Q 0 0 110 [some (mR (12, 0, 177)), none, none] [] (L, s, J, R)) (fun s : MI => m_B G (m_rm 9 0 0) M_MD_qTest Q 0 0 131 [none, none, none] [] (L, s, J, R))) r) : m_B G (m_rm 9 0 0) M_MD_qTest Q 0 0 110 [some (mR (12, 0, 177)), none, none] [] (L, I, J, R) := by
  unfold F_MD_qTest_110 at hf
  refine b_blk (pc' := 114) (ls' := [some (mR (12, 0, 177)), none, none]) (st' := [mI (I 177 5)]) (S' := (L, I, J, R)) (P := True) [(.aload_n 0, (0, 0, 0, 0, 0)), (.getfield 234, (12, 5, 0, 0, 0))] [] (by decide +kernel) rfl trivial ?_
  refine b_if_ne (off := 17) (tgt := 131) (by decide +kernel) (by decide) (fun h1 => ?_) (fun h1 => ?_)
  · have hf := if_f h1 hf
    refine b_frg 0 ?_
    cases hf
    exact hk
  · have hf := if_t h1 hf
    refine b_blk (pc' := 121) (ls' := [some (mR (12, 0, 177)), none, none]) (st' := [mI (I 177 94)]) (S' := (L, I, J, R)) (P := True) [(.aload_n 0, (0, 0, 0, 0, 0)), (.getfield 318, (12, 94, 0, 0, 0))] [] (by decide +kernel) rfl trivial ?_
    refine b_if_le (off := 10) (tgt := 131) (by decide +kernel) (by decide) (fun h2 => ?_) (fun h2 => ?_)
    · have hf := if_t h2 hf
      refine b_frg 0 ?_
      cases hf
      exact hk
    · have hf := if_f h2 hf
      refine b_blk (pc' := 125) (ls' := [some (mR (12, 0, 177)), none, none]) (st' := [mR (12, 0, 177)]) (S' := (L, I, J, R)) (P := True) [(.aload_n 0, (0, 0, 0, 0, 0))] [] (by decide +kernel) rfl trivial ?_
      obtain ⟨r3, hc3, hf⟩ := bnd_o hf
      refine b_cV (as := []) (st := []) (by decide +kernel) k_12_568 n_MD_qDrops rfl (by decide) v_MD_qDrops (C_MD_qDrops I J hR hc3) (Nat.le_of_ble_eq_true rfl) (by decide) rfl rfl (fun _ h => h) ?_
      show m_B G (m_rm 9 0 0) M_MD_qTest Q 0 0 128 [some (mR (12, 0, 177)), none, none] [] (L, r3, J, R)
      refine b_blk (pc' := 110) (ls' := [some (mR (12, 0, 177)), none, none]) (st' := []) (S' := (L, r3, J, R)) (P := True) [(.goto (-18), (0, 110, 0, 0, 0))] [] (by decide +kernel) rfl trivial ?_
      cases hf
      exact hk
noncomputable def F_MD_qTest (I : MI) : Option (MI) :=
  (wl (fun s : Int32 × MI => F_MD_qTest_2 s.2 s.1) ((1 : Int32), I)).bind fun t1 => (wl (fun s : MI => F_MD_qTest_110 s) t1).bind fun t2 => some t2
set_option maxRecDepth 100000 in
set_option maxHeartbeats 400000 in
theorem W_MD_qTest {G : MG} {Q : Option MV → MS → Prop} {L : List (Nat × Nat)} {R : Nat → Nat → Option MRef} (I : MI) (J : MJ) (hR : RF R) {r : MI} (hf : F_MD_qTest I = some r) (hk : (fun r : MI => Q (none) (L, r, J, R)) r) : m_B G (m_rm 9 0 0) M_MD_qTest Q 0 0 0 [some (mR (12, 0, 177)), none, none] [] (L, I, J, R) := by
  unfold F_MD_qTest at hf
  refine b_blk (pc' := 2) (ls' := [some (mR (12, 0, 177)), some (mI 1), none]) (st' := []) (S' := (L, I, J, R)) (P := True) [(.iconst 1, (0, 0, 0, 1, 0)), (.istore_n 1, (0, 0, 0, 0, 0))] [] (by decide +kernel) rfl trivial ?_
  obtain ⟨t1, hw, hf⟩ := bnd_o hf
  refine wl_B (A := fun s : Int32 × MI => m_B G (m_rm 9 0 0) M_MD_qTest Q 0 0 2 [some (mR (12, 0, 177)), some (mI s.1), none] [] (L, s.2, J, R)) (B := (fun s : MI => m_B G (m_rm 9 0 0) M_MD_qTest Q 0 0 110 [some (mR (12, 0, 177)), none, none] [] (L, s, J, R))) (fun s r hs hr => W_MD_qTest_2 s.2 J s.1 hR hs hr) hw ?_
  show m_B G (m_rm 9 0 0) M_MD_qTest Q 0 0 110 [some (mR (12, 0, 177)), none, none] [] (L, t1, J, R)
  obtain ⟨t2, hw, hf⟩ := bnd_o hf
  refine wl_B (A := fun s : MI => m_B G (m_rm 9 0 0) M_MD_qTest Q 0 0 110 [some (mR (12, 0, 177)), none, none] [] (L, s, J, R)) (B := (fun s : MI => m_B G (m_rm 9 0 0) M_MD_qTest Q 0 0 131 [none, none, none] [] (L, s, J, R))) (fun s r hs hr => W_MD_qTest_110 s J hR hs hr) hw ?_
  show m_B G (m_rm 9 0 0) M_MD_qTest Q 0 0 131 [none, none, none] [] (L, t2, J, R)
  cases hf
  exact b_vret (by decide +kernel) rfl hk
theorem C_MD_qTest {G : MG} {L : List (Nat × Nat)} {R : Nat → Nat → Option MRef} (I : MI) (J : MJ) (hR : RF R) {r : MI} (hf : F_MD_qTest I = some r) : m_met G 9 0 0 y_MD_qTest M_MD_qTest [mR (12, 0, 177)] (L, I, J, R) (m_is (none) (L, r, J, R)) :=
  m_met_in n_MD_qTest (plainFor_of_name (by decide)) (by decide) (Nat.le_of_ble_eq_true rfl) (ls := [some (mR (12, 0, 177)), none, none]) rfl (W_MD_qTest I J hR hf ⟨rfl, rfl⟩)
noncomputable def F_MD_codesTold_92 (I : MI) (v1 : Int32) (v3 : Int32) : Option ((Int32 × MI) ⊕ (MI)) :=
  if (I 177 92) ≤ v3 then (some (.inr I)) else (gd v3 1700 <| gd (I 177 47) 3200 <| some (.inl ((v3 + 1 : Int32), m_up (m_up I 212 ((I 177 47).toNatClampNeg) (I 244 v3.toNatClampNeg)) 177 47 ((I 177 47) + (1 : Int32)))))
set_option maxRecDepth 100000 in
set_option maxHeartbeats 400000 in
theorem W_MD_codesTold_92 {G : MG} {Q : Option MV → MS → Prop} {L : List (Nat × Nat)} {R : Nat → Nat → Option MRef} (I : MI) (J : MJ) (v1 : Int32) (v3 : Int32) (hR : RF R) {r : (Int32 × MI) ⊕ (MI)} (hf : F_MD_codesTold_92 I v1 v3 = some r) (hk : (Sum.elim (fun s : Int32 × MI => m_B G (m_rm 10 0 0) M_MD_codesTold Q 0 0 92 [some (mR (12, 0, 177)), some (mI v1), none, some (mI s.1)] [] (L, s.2, J, R)) (fun s : MI => m_B G (m_rm 10 0 0) M_MD_codesTold Q 0 0 131 [some (mR (12, 0, 177)), some (mI v1), none, none] [] (L, s, J, R))) r) : m_B G (m_rm 10 0 0) M_MD_codesTold Q 0 0 92 [some (mR (12, 0, 177)), some (mI v1), none, some (mI v3)] [] (L, I, J, R) := by
  unfold F_MD_codesTold_92 at hf
  refine b_blk (pc' := 97) (ls' := [some (mR (12, 0, 177)), some (mI v1), none, some (mI v3)]) (st' := [mI (I 177 92), mI v3]) (S' := (L, I, J, R)) (P := True) [(.iload_n 3, (0, 0, 0, 0, 0)), (.aload_n 0, (0, 0, 0, 0, 0)), (.getfield 315, (12, 92, 0, 0, 0))] [] (by decide +kernel) rfl trivial ?_
  refine b_icmp_ge (off := 34) (tgt := 131) (by decide +kernel) (by decide) (fun h1 => ?_) (fun h1 => ?_)
  · have hf := if_t h1 hf
    refine b_frg 3 ?_
    cases hf
    exact hk
  · have hf := if_f h1 hf
    obtain ⟨g2, hf⟩ := gd_s hf
    obtain ⟨g3, hf⟩ := gd_s hf
    refine b_blk (pc' := 92) (ls' := [some (mR (12, 0, 177)), some (mI v1), none, some (mI (v3 + 1))]) (st' := []) (S' := (L, m_up (m_up I 212 ((I 177 47).toNatClampNeg) (I 244 v3.toNatClampNeg)) 177 47 ((I 177 47) + (1 : Int32)), J, R)) (P := ((((True ∧ R 177 46 = some (20, 3200, 212)) ∧ R 177 91 = some (20, 1700, 244)) ∧ vp_in v3 1700) ∧ vp_in (I 177 47) 3200)) [(.aload_n 0, (0, 0, 0, 0, 0)), (.getfield 118, (12, 46, 3, 0, 0)), (.aload_n 0, (0, 0, 0, 0, 0)), (.getfield 333, (12, 47, 0, 0, 0)), (.aload_n 0, (0, 0, 0, 0, 0)), (.getfield 219, (12, 91, 3, 0, 0)), (.iload_n 3, (0, 0, 0, 0, 0)), (.iaload, (0, 0, 0, 0, 0)), (.iastore, (0, 0, 0, 0, 0)), (.aload_n 0, (0, 0, 0, 0, 0)), (.dup, (0, 0, 0, 0, 0)), (.getfield 333, (12, 47, 0, 0, 0)), (.iconst 1, (0, 0, 0, 1, 0)), (.iadd, (0, 0, 0, 0, 0)), (.putfield 333, (12, 47, 0, 0, 0)), (.iinc 3 1, (0, 0, 0, 1, 0)), (.goto (-36), (0, 92, 0, 0, 0))] [some (20, 3200, 212), some (20, 1700, 244)] (by decide +kernel) rfl ⟨⟨⟨⟨trivial, (r_177_46 hR)⟩, (r_177_91 hR)⟩, (in_n (n := 1700) (by decide) g2.1 g2.2)⟩, (in_n (n := 3200) (by decide) g3.1 g3.2)⟩ ?_
    cases hf
    exact hk
noncomputable def F_MD_codesTold_72 (I : MI) (v1 : Int32) : Option (MI) :=
  if (I 177 5) = (0 : Int32) then (gd v1 4 <| (wl (fun s : Int32 × MI => F_MD_codesTold_92 s.2 v1 s.1) ((0 : Int32), m_up I 210 (v1.toNatClampNeg) (I 177 47))).bind fun t3 => gd v1 4 <| some (m_up t3 211 (v1.toNatClampNeg) (t3 177 47))) else (some I)
set_option maxRecDepth 100000 in
set_option maxHeartbeats 400000 in
theorem W_MD_codesTold_72 {G : MG} {Q : Option MV → MS → Prop} {L : List (Nat × Nat)} {R : Nat → Nat → Option MRef} (I : MI) (J : MJ) (v1 : Int32) (hR : RF R) {r : MI} (hf : F_MD_codesTold_72 I v1 = some r) (hk : (fun r : MI => Q (none) (L, r, J, R)) r) : m_B G (m_rm 10 0 0) M_MD_codesTold Q 0 0 72 [some (mR (12, 0, 177)), some (mI v1), none, none] [] (L, I, J, R) := by
  unfold F_MD_codesTold_72 at hf
  refine b_blk (pc' := 76) (ls' := [some (mR (12, 0, 177)), some (mI v1), none, none]) (st' := [mI (I 177 5)]) (S' := (L, I, J, R)) (P := True) [(.aload_n 0, (0, 0, 0, 0, 0)), (.getfield 234, (12, 5, 0, 0, 0))] [] (by decide +kernel) rfl trivial ?_
  refine b_if_eq (off := 4) (tgt := 80) (by decide +kernel) (by decide) (fun h1 => ?_) (fun h1 => ?_)
  · have hf := if_t h1 hf
    obtain ⟨g2, hf⟩ := gd_s hf
    refine b_blk (pc' := 92) (ls' := [some (mR (12, 0, 177)), some (mI v1), none, some (mI 0)]) (st' := []) (S' := (L, m_up I 210 (v1.toNatClampNeg) (I 177 47), J, R)) (P := ((True ∧ R 177 44 = some (20, 4, 210)) ∧ vp_in v1 4)) [(.aload_n 0, (0, 0, 0, 0, 0)), (.getfield 112, (12, 44, 3, 0, 0)), (.iload_n 1, (0, 0, 0, 0, 0)), (.aload_n 0, (0, 0, 0, 0, 0)), (.getfield 333, (12, 47, 0, 0, 0)), (.iastore, (0, 0, 0, 0, 0)), (.iconst 0, (0, 0, 0, 0, 0)), (.istore_n 3, (0, 0, 0, 0, 0))] [some (20, 4, 210)] (by decide +kernel) rfl ⟨⟨trivial, (r_177_44 hR)⟩, (in_n (n := 4) (by decide) g2.1 g2.2)⟩ ?_
    obtain ⟨t3, hw, hf⟩ := bnd_o hf
    refine wl_B (A := fun s : Int32 × MI => m_B G (m_rm 10 0 0) M_MD_codesTold Q 0 0 92 [some (mR (12, 0, 177)), some (mI v1), none, some (mI s.1)] [] (L, s.2, J, R)) (B := (fun s : MI => m_B G (m_rm 10 0 0) M_MD_codesTold Q 0 0 131 [some (mR (12, 0, 177)), some (mI v1), none, none] [] (L, s, J, R))) (fun s r hs hr => W_MD_codesTold_92 s.2 J v1 s.1 hR hs hr) hw ?_
    show m_B G (m_rm 10 0 0) M_MD_codesTold Q 0 0 131 [some (mR (12, 0, 177)), some (mI v1), none, none] [] (L, t3, J, R)
    obtain ⟨g4, hf⟩ := gd_s hf
    refine b_blk (pc' := 141) (ls' := [some (mR (12, 0, 177)), some (mI v1), none, none]) (st' := []) (S' := (L, m_up t3 211 (v1.toNatClampNeg) (t3 177 47), J, R)) (P := ((True ∧ R 177 45 = some (20, 4, 211)) ∧ vp_in v1 4)) [(.aload_n 0, (0, 0, 0, 0, 0)), (.getfield 115, (12, 45, 3, 0, 0)), (.iload_n 1, (0, 0, 0, 0, 0)), (.aload_n 0, (0, 0, 0, 0, 0)), (.getfield 333, (12, 47, 0, 0, 0)), (.iastore, (0, 0, 0, 0, 0))] [some (20, 4, 211)] (by decide +kernel) rfl ⟨⟨trivial, (r_177_45 hR)⟩, (in_n (n := 4) (by decide) g4.1 g4.2)⟩ ?_
    cases hf
    exact b_vret (by decide +kernel) rfl hk
  · have hf := if_f h1 hf
    cases hf
    exact b_vret (by decide +kernel) rfl hk
noncomputable def F_MD_codesTold_23 (I : MI) (v1 : Int32) : Option (MI) :=
  if (I 177 5) = (0 : Int32) then (bnd (m_up (m_up (m_up (m_up (m_up I 177 50 v1) 177 92 (0 : Int32)) 177 94 (0 : Int32)) 177 95 (0 : Int32)) 177 96 (0 : Int32) : MI) fun x2 => if v1 = (1 : Int32) then ((F_MD_qTest x2).bind fun r5 => F_MD_codesTold_72 r5 v1) else ((F_MD_qSums x2).bind fun r4 => F_MD_codesTold_72 r4 v1)) else (some I)
set_option maxRecDepth 100000 in
set_option maxHeartbeats 400000 in
theorem W_MD_codesTold_23 {G : MG} {Q : Option MV → MS → Prop} {L : List (Nat × Nat)} {R : Nat → Nat → Option MRef} (I : MI) (J : MJ) (v1 : Int32) (hR : RF R) {r : MI} (hf : F_MD_codesTold_23 I v1 = some r) (hk : (fun r : MI => Q (none) (L, r, J, R)) r) : m_B G (m_rm 10 0 0) M_MD_codesTold Q 0 0 23 [some (mR (12, 0, 177)), some (mI v1), none, none] [] (L, I, J, R) := by
  unfold F_MD_codesTold_23 at hf
  refine b_blk (pc' := 27) (ls' := [some (mR (12, 0, 177)), some (mI v1), none, none]) (st' := [mI (I 177 5)]) (S' := (L, I, J, R)) (P := True) [(.aload_n 0, (0, 0, 0, 0, 0)), (.getfield 234, (12, 5, 0, 0, 0))] [] (by decide +kernel) rfl trivial ?_
  refine b_if_eq (off := 4) (tgt := 31) (by decide +kernel) (by decide) (fun h1 => ?_) (fun h1 => ?_)
  · have hf := if_t h1 hf
    refine b_blk (pc' := 58) (ls' := [some (mR (12, 0, 177)), some (mI v1), none, none]) (st' := [mI 1, mI v1]) (S' := (L, m_up (m_up (m_up (m_up (m_up I 177 50 v1) 177 92 (0 : Int32)) 177 94 (0 : Int32)) 177 95 (0 : Int32)) 177 96 (0 : Int32), J, R)) (P := True) [(.aload_n 0, (0, 0, 0, 0, 0)), (.iload_n 1, (0, 0, 0, 0, 0)), (.putfield 292, (12, 50, 0, 0, 0)), (.aload_n 0, (0, 0, 0, 0, 0)), (.iconst 0, (0, 0, 0, 0, 0)), (.putfield 315, (12, 92, 0, 0, 0)), (.aload_n 0, (0, 0, 0, 0, 0)), (.iconst 0, (0, 0, 0, 0, 0)), (.putfield 318, (12, 94, 0, 0, 0)), (.aload_n 0, (0, 0, 0, 0, 0)), (.iconst 0, (0, 0, 0, 0, 0)), (.putfield 321, (12, 95, 0, 0, 0)), (.aload_n 0, (0, 0, 0, 0, 0)), (.iconst 0, (0, 0, 0, 0, 0)), (.putfield 324, (12, 96, 0, 0, 0)), (.iload_n 1, (0, 0, 0, 0, 0)), (.iconst 1, (0, 0, 0, 1, 0))] [] (by decide +kernel) rfl trivial ?_
    obtain ⟨x2, ex2, hf⟩ := bnd_s hf
    refine m_B_cg (ls' := [some (mR (12, 0, 177)), some (mI v1), none, none]) (st' := [mI 1, mI v1]) (S' := (L, x2, J, R)) (by first | with_reducible rfl | rw [ex2]) (by first | with_reducible rfl | rw [ex2]) (by first | with_reducible rfl | rw [ex2]) ?_
    refine b_icmp_ne (off := 10) (tgt := 68) (by decide +kernel) (by decide) (fun h3 => ?_) (fun h3 => ?_)
    · have hf := if_f h3 hf
      refine b_blk (pc' := 69) (ls' := [some (mR (12, 0, 177)), some (mI v1), none, none]) (st' := [mR (12, 0, 177)]) (S' := (L, x2, J, R)) (P := True) [(.aload_n 0, (0, 0, 0, 0, 0))] [] (by decide +kernel) rfl trivial ?_
      obtain ⟨r4, hc4, hf⟩ := bnd_o hf
      refine b_cV (as := []) (st := []) (by decide +kernel) k_12_330 n_MD_qSums rfl (by decide) v_MD_qSums (C_MD_qSums x2 J hR hc4) (Nat.le_of_ble_eq_true rfl) (by decide) rfl rfl (fun _ h => h) ?_
      show m_B G (m_rm 10 0 0) M_MD_codesTold Q 0 0 72 [some (mR (12, 0, 177)), some (mI v1), none, none] [] (L, r4, J, R)
      exact m_B_cg rfl rfl rfl (W_MD_codesTold_72 r4 J v1 hR hf hk)
    · have hf := if_t h3 hf
      refine b_blk (pc' := 62) (ls' := [some (mR (12, 0, 177)), some (mI v1), none, none]) (st' := [mR (12, 0, 177)]) (S' := (L, x2, J, R)) (P := True) [(.aload_n 0, (0, 0, 0, 0, 0))] [] (by decide +kernel) rfl trivial ?_
      obtain ⟨r5, hc5, hf⟩ := bnd_o hf
      refine b_cV (as := []) (st := []) (by decide +kernel) k_12_327 n_MD_qTest rfl (by decide) v_MD_qTest (C_MD_qTest x2 J hR hc5) (Nat.le_of_ble_eq_true rfl) (by decide) rfl rfl (fun _ h => h) ?_
      show m_B G (m_rm 10 0 0) M_MD_codesTold Q 0 0 65 [some (mR (12, 0, 177)), some (mI v1), none, none] [] (L, r5, J, R)
      refine b_blk (pc' := 72) (ls' := [some (mR (12, 0, 177)), some (mI v1), none, none]) (st' := []) (S' := (L, r5, J, R)) (P := True) [(.goto 7, (0, 72, 0, 0, 0))] [] (by decide +kernel) rfl trivial ?_
      exact m_B_cg rfl rfl rfl (W_MD_codesTold_72 r5 J v1 hR hf hk)
  · have hf := if_f h1 hf
    cases hf
    exact b_vret (by decide +kernel) rfl hk
noncomputable def F_MD_codesTold (I : MI) (v1 : Int32) (v2 : Int32) : Option (MI) :=
  if (I 177 5) = (0 : Int32) then (gd v1 4 <| if (I 210 v1.toNatClampNeg) = (-1 : Int32) then (F_MD_codesTold_23 I v1) else ((F_MD_fail I (5 : Int32) v2).bind fun r4 => F_MD_codesTold_23 r4 v1)) else (F_MD_codesTold_23 I v1)
set_option maxRecDepth 100000 in
set_option maxHeartbeats 400000 in
theorem W_MD_codesTold {G : MG} {Q : Option MV → MS → Prop} {L : List (Nat × Nat)} {R : Nat → Nat → Option MRef} (I : MI) (J : MJ) (v1 : Int32) (v2 : Int32) (hR : RF R) {r : MI} (hf : F_MD_codesTold I v1 v2 = some r) (hk : (fun r : MI => Q (none) (L, r, J, R)) r) : m_B G (m_rm 10 0 0) M_MD_codesTold Q 0 0 0 [some (mR (12, 0, 177)), some (mI v1), some (mI v2), none] [] (L, I, J, R) := by
  unfold F_MD_codesTold at hf
  refine b_blk (pc' := 4) (ls' := [some (mR (12, 0, 177)), some (mI v1), some (mI v2), none]) (st' := [mI (I 177 5)]) (S' := (L, I, J, R)) (P := True) [(.aload_n 0, (0, 0, 0, 0, 0)), (.getfield 234, (12, 5, 0, 0, 0))] [] (by decide +kernel) rfl trivial ?_
  refine b_if_ne (off := 19) (tgt := 23) (by decide +kernel) (by decide) (fun h1 => ?_) (fun h1 => ?_)
  · have hf := if_f h1 hf
    refine b_frg 2 ?_
    exact m_B_cg rfl rfl rfl (W_MD_codesTold_23 I J v1 hR hf hk)
  · have hf := if_t h1 hf
    obtain ⟨g2, hf⟩ := gd_s hf
    refine b_blk (pc' := 14) (ls' := [some (mR (12, 0, 177)), some (mI v1), some (mI v2), none]) (st' := [mI (-1), mI (I 210 v1.toNatClampNeg)]) (S' := (L, I, J, R)) (P := ((True ∧ R 177 44 = some (20, 4, 210)) ∧ vp_in v1 4)) [(.aload_n 0, (0, 0, 0, 0, 0)), (.getfield 112, (12, 44, 3, 0, 0)), (.iload_n 1, (0, 0, 0, 0, 0)), (.iaload, (0, 0, 0, 0, 0)), (.iconst (-1), (0, 0, 0, (-1), 0))] [some (20, 4, 210)] (by decide +kernel) rfl ⟨⟨trivial, (r_177_44 hR)⟩, (in_n (n := 4) (by decide) g2.1 g2.2)⟩ ?_
    refine b_icmp_eq (off := 9) (tgt := 23) (by decide +kernel) (by decide) (fun h3 => ?_) (fun h3 => ?_)
    · have hf := if_t h3 hf
      refine b_frg 2 ?_
      exact m_B_cg rfl rfl rfl (W_MD_codesTold_23 I J v1 hR hf hk)
    · have hf := if_f h3 hf
      refine b_blk (pc' := 20) (ls' := [some (mR (12, 0, 177)), some (mI v1), some (mI v2), none]) (st' := [mI v2, mI 5, mR (12, 0, 177)]) (S' := (L, I, J, R)) (P := True) [(.aload_n 0, (0, 0, 0, 0, 0)), (.iconst 5, (0, 0, 0, 5, 0)), (.iload_n 2, (0, 0, 0, 0, 0))] [] (by decide +kernel) rfl trivial ?_
      obtain ⟨r4, hc4, hf⟩ := bnd_o hf
      refine b_cV (as := [mI 5, mI v2]) (st := []) (by decide +kernel) k_12_264 n_MD_fail rfl (by decide) v_MD_fail (C_MD_fail I J (5 : Int32) v2 hR hc4) (Nat.le_of_ble_eq_true rfl) (by decide) rfl rfl (fun _ h => h) ?_
      show m_B G (m_rm 10 0 0) M_MD_codesTold Q 0 0 23 [some (mR (12, 0, 177)), some (mI v1), some (mI v2), none] [] (L, r4, J, R)
      refine b_frg 2 ?_
      exact m_B_cg rfl rfl rfl (W_MD_codesTold_23 r4 J v1 hR hf hk)
theorem C_MD_codesTold {G : MG} {L : List (Nat × Nat)} {R : Nat → Nat → Option MRef} (I : MI) (J : MJ) (v1 : Int32) (v2 : Int32) (hR : RF R) {r : MI} (hf : F_MD_codesTold I v1 v2 = some r) : m_met G 10 0 0 y_MD_codesTold M_MD_codesTold [mR (12, 0, 177), mI v1, mI v2] (L, I, J, R) (m_is (none) (L, r, J, R)) :=
  m_met_in n_MD_codesTold (plainFor_of_name (by decide)) (by decide) (Nat.le_of_ble_eq_true rfl) (ls := [some (mR (12, 0, 177)), some (mI v1), some (mI v2), none]) rfl (W_MD_codesTold I J v1 v2 hR hf ⟨rfl, rfl⟩)
noncomputable def F_MD_isOwnHere_223 (I : MI) (y0 : Int32) : Option (Int32 × MI) :=
  if y0 = (0 : Int32) then ((F_MD_isHere 198 2 I).bind fun r2 => if r2.1 = (0 : Int32) then ((F_MD_isHere 199 3 r2.2).bind fun r4 => if r4.1 = (0 : Int32) then ((F_MD_isHere 200 3 r4.2).bind fun r6 => if r6.1 = (0 : Int32) then ((F_MD_isHere 201 3 r6.2).bind fun r8 => if r8.1 = (0 : Int32) then ((F_MD_isHere 202 3 r8.2).bind fun r10 => if r10.1 = (0 : Int32) then ((F_MD_isHere 203 3 r10.2).bind fun r12 => if r12.1 = (0 : Int32) then (some ((0 : Int32), r12.2)) else (some ((1 : Int32), r12.2))) else (some ((1 : Int32), r10.2))) else (some ((1 : Int32), r8.2))) else (some ((1 : Int32), r6.2))) else (some ((1 : Int32), r4.2))) else (some ((1 : Int32), r2.2))) else (some ((1 : Int32), I))
set_option maxRecDepth 100000 in
set_option maxHeartbeats 400000 in
theorem W_MD_isOwnHere_223 {G : MG} {Q : Option MV → MS → Prop} {L : List (Nat × Nat)} {R : Nat → Nat → Option MRef} (I : MI) (J : MJ) (y0 : Int32) (hR : RF R) {r : Int32 × MI} (hf : F_MD_isOwnHere_223 I y0 = some r) (hk : (fun r : Int32 × MI => Q (some (mI r.1)) (L, r.2, J, R)) r) : m_B G (m_rm 3 0 0) M_MD_isOwnHere Q 0 0 223 [some (mR (12, 0, 177)), none] [mI y0] (L, I, J, R) := by
  unfold F_MD_isOwnHere_223 at hf
  refine b_blk (pc' := 225) (ls' := [some (mR (12, 0, 177)), some (mI y0)]) (st' := [mI y0]) (S' := (L, I, J, R)) (P := True) [(.istore_n 1, (0, 0, 0, 0, 0)), (.iload_n 1, (0, 0, 0, 0, 0))] [] (by decide +kernel) rfl trivial ?_
  refine b_if_ne (off := 69) (tgt := 294) (by decide +kernel) (by decide) (fun h1 => ?_) (fun h1 => ?_)
  · have hf := if_f h1 hf
    refine b_blk (pc' := 299) (ls' := [some (mR (12, 0, 177)), some (mI y0)]) (st' := [mI 1]) (S' := (L, I, J, R)) (P := True) [(.iconst 1, (0, 0, 0, 1, 0)), (.goto 4, (0, 299, 0, 0, 0))] [] (by decide +kernel) rfl trivial ?_
    refine b_blk (pc' := 301) (ls' := [some (mR (12, 0, 177)), some (mI 1)]) (st' := [mI 1]) (S' := (L, I, J, R)) (P := True) [(.istore_n 1, (0, 0, 0, 0, 0)), (.iload_n 1, (0, 0, 0, 0, 0))] [] (by decide +kernel) rfl trivial ?_
    cases hf
    exact b_zret (by decide +kernel) rfl (by decide) hk
  · have hf := if_t h1 hf
    refine b_blk (pc' := 233) (ls' := [some (mR (12, 0, 177)), some (mI y0)]) (st' := [mR (23, 2, 198), mR (12, 0, 177)]) (S' := (L, I, J, R)) (P := (True ∧ R 177 29 = some (23, 2, 198))) [(.aload_n 0, (0, 0, 0, 0, 0)), (.aload_n 0, (0, 0, 0, 0, 0)), (.getfield 75, (12, 29, 3, 0, 0))] [some (23, 2, 198)] (by decide +kernel) rfl ⟨trivial, (r_177_29 hR)⟩ ?_
    obtain ⟨r2, hc2, hf⟩ := bnd_o hf
    refine b_cV (as := [mR (23, 2, 198)]) (st := []) (by decide +kernel) k_12_257 n_MD_isHere rfl (by decide) v_MD_isHere (C_MD_isHere 198 2 I J hR (by decide) hc2) (Nat.le_of_ble_eq_true rfl) (by decide) rfl rfl (fun _ h => h) ?_
    show m_B G (m_rm 3 0 0) M_MD_isOwnHere Q 0 0 236 [some (mR (12, 0, 177)), some (mI y0)] [mI r2.1] (L, r2.2, J, R)
    refine b_if_ne (off := 58) (tgt := 294) (by decide +kernel) (by decide) (fun h3 => ?_) (fun h3 => ?_)
    · have hf := if_f h3 hf
      refine b_blk (pc' := 299) (ls' := [some (mR (12, 0, 177)), some (mI y0)]) (st' := [mI 1]) (S' := (L, r2.2, J, R)) (P := True) [(.iconst 1, (0, 0, 0, 1, 0)), (.goto 4, (0, 299, 0, 0, 0))] [] (by decide +kernel) rfl trivial ?_
      refine b_blk (pc' := 301) (ls' := [some (mR (12, 0, 177)), some (mI 1)]) (st' := [mI 1]) (S' := (L, r2.2, J, R)) (P := True) [(.istore_n 1, (0, 0, 0, 0, 0)), (.iload_n 1, (0, 0, 0, 0, 0))] [] (by decide +kernel) rfl trivial ?_
      cases hf
      exact b_zret (by decide +kernel) rfl (by decide) hk
    · have hf := if_t h3 hf
      refine b_blk (pc' := 244) (ls' := [some (mR (12, 0, 177)), some (mI y0)]) (st' := [mR (23, 3, 199), mR (12, 0, 177)]) (S' := (L, r2.2, J, R)) (P := (True ∧ R 177 30 = some (23, 3, 199))) [(.aload_n 0, (0, 0, 0, 0, 0)), (.aload_n 0, (0, 0, 0, 0, 0)), (.getfield 78, (12, 30, 3, 0, 0))] [some (23, 3, 199)] (by decide +kernel) rfl ⟨trivial, (r_177_30 hR)⟩ ?_
      obtain ⟨r4, hc4, hf⟩ := bnd_o hf
      refine b_cV (as := [mR (23, 3, 199)]) (st := []) (by decide +kernel) k_12_257 n_MD_isHere rfl (by decide) v_MD_isHere (C_MD_isHere 199 3 r2.2 J hR (by decide) hc4) (Nat.le_of_ble_eq_true rfl) (by decide) rfl rfl (fun _ h => h) ?_
      show m_B G (m_rm 3 0 0) M_MD_isOwnHere Q 0 0 247 [some (mR (12, 0, 177)), some (mI y0)] [mI r4.1] (L, r4.2, J, R)
      refine b_if_ne (off := 47) (tgt := 294) (by decide +kernel) (by decide) (fun h5 => ?_) (fun h5 => ?_)
      · have hf := if_f h5 hf
        refine b_blk (pc' := 299) (ls' := [some (mR (12, 0, 177)), some (mI y0)]) (st' := [mI 1]) (S' := (L, r4.2, J, R)) (P := True) [(.iconst 1, (0, 0, 0, 1, 0)), (.goto 4, (0, 299, 0, 0, 0))] [] (by decide +kernel) rfl trivial ?_
        refine b_blk (pc' := 301) (ls' := [some (mR (12, 0, 177)), some (mI 1)]) (st' := [mI 1]) (S' := (L, r4.2, J, R)) (P := True) [(.istore_n 1, (0, 0, 0, 0, 0)), (.iload_n 1, (0, 0, 0, 0, 0))] [] (by decide +kernel) rfl trivial ?_
        cases hf
        exact b_zret (by decide +kernel) rfl (by decide) hk
      · have hf := if_t h5 hf
        refine b_blk (pc' := 255) (ls' := [some (mR (12, 0, 177)), some (mI y0)]) (st' := [mR (23, 3, 200), mR (12, 0, 177)]) (S' := (L, r4.2, J, R)) (P := (True ∧ R 177 31 = some (23, 3, 200))) [(.aload_n 0, (0, 0, 0, 0, 0)), (.aload_n 0, (0, 0, 0, 0, 0)), (.getfield 81, (12, 31, 3, 0, 0))] [some (23, 3, 200)] (by decide +kernel) rfl ⟨trivial, (r_177_31 hR)⟩ ?_
        obtain ⟨r6, hc6, hf⟩ := bnd_o hf
        refine b_cV (as := [mR (23, 3, 200)]) (st := []) (by decide +kernel) k_12_257 n_MD_isHere rfl (by decide) v_MD_isHere (C_MD_isHere 200 3 r4.2 J hR (by decide) hc6) (Nat.le_of_ble_eq_true rfl) (by decide) rfl rfl (fun _ h => h) ?_
        show m_B G (m_rm 3 0 0) M_MD_isOwnHere Q 0 0 258 [some (mR (12, 0, 177)), some (mI y0)] [mI r6.1] (L, r6.2, J, R)
        refine b_if_ne (off := 36) (tgt := 294) (by decide +kernel) (by decide) (fun h7 => ?_) (fun h7 => ?_)
        · have hf := if_f h7 hf
          refine b_blk (pc' := 299) (ls' := [some (mR (12, 0, 177)), some (mI y0)]) (st' := [mI 1]) (S' := (L, r6.2, J, R)) (P := True) [(.iconst 1, (0, 0, 0, 1, 0)), (.goto 4, (0, 299, 0, 0, 0))] [] (by decide +kernel) rfl trivial ?_
          refine b_blk (pc' := 301) (ls' := [some (mR (12, 0, 177)), some (mI 1)]) (st' := [mI 1]) (S' := (L, r6.2, J, R)) (P := True) [(.istore_n 1, (0, 0, 0, 0, 0)), (.iload_n 1, (0, 0, 0, 0, 0))] [] (by decide +kernel) rfl trivial ?_
          cases hf
          exact b_zret (by decide +kernel) rfl (by decide) hk
        · have hf := if_t h7 hf
          refine b_blk (pc' := 266) (ls' := [some (mR (12, 0, 177)), some (mI y0)]) (st' := [mR (23, 3, 201), mR (12, 0, 177)]) (S' := (L, r6.2, J, R)) (P := (True ∧ R 177 32 = some (23, 3, 201))) [(.aload_n 0, (0, 0, 0, 0, 0)), (.aload_n 0, (0, 0, 0, 0, 0)), (.getfield 84, (12, 32, 3, 0, 0))] [some (23, 3, 201)] (by decide +kernel) rfl ⟨trivial, (r_177_32 hR)⟩ ?_
          obtain ⟨r8, hc8, hf⟩ := bnd_o hf
          refine b_cV (as := [mR (23, 3, 201)]) (st := []) (by decide +kernel) k_12_257 n_MD_isHere rfl (by decide) v_MD_isHere (C_MD_isHere 201 3 r6.2 J hR (by decide) hc8) (Nat.le_of_ble_eq_true rfl) (by decide) rfl rfl (fun _ h => h) ?_
          show m_B G (m_rm 3 0 0) M_MD_isOwnHere Q 0 0 269 [some (mR (12, 0, 177)), some (mI y0)] [mI r8.1] (L, r8.2, J, R)
          refine b_if_ne (off := 25) (tgt := 294) (by decide +kernel) (by decide) (fun h9 => ?_) (fun h9 => ?_)
          · have hf := if_f h9 hf
            refine b_blk (pc' := 299) (ls' := [some (mR (12, 0, 177)), some (mI y0)]) (st' := [mI 1]) (S' := (L, r8.2, J, R)) (P := True) [(.iconst 1, (0, 0, 0, 1, 0)), (.goto 4, (0, 299, 0, 0, 0))] [] (by decide +kernel) rfl trivial ?_
            refine b_blk (pc' := 301) (ls' := [some (mR (12, 0, 177)), some (mI 1)]) (st' := [mI 1]) (S' := (L, r8.2, J, R)) (P := True) [(.istore_n 1, (0, 0, 0, 0, 0)), (.iload_n 1, (0, 0, 0, 0, 0))] [] (by decide +kernel) rfl trivial ?_
            cases hf
            exact b_zret (by decide +kernel) rfl (by decide) hk
          · have hf := if_t h9 hf
            refine b_blk (pc' := 277) (ls' := [some (mR (12, 0, 177)), some (mI y0)]) (st' := [mR (23, 3, 202), mR (12, 0, 177)]) (S' := (L, r8.2, J, R)) (P := (True ∧ R 177 33 = some (23, 3, 202))) [(.aload_n 0, (0, 0, 0, 0, 0)), (.aload_n 0, (0, 0, 0, 0, 0)), (.getfield 87, (12, 33, 3, 0, 0))] [some (23, 3, 202)] (by decide +kernel) rfl ⟨trivial, (r_177_33 hR)⟩ ?_
            obtain ⟨r10, hc10, hf⟩ := bnd_o hf
            refine b_cV (as := [mR (23, 3, 202)]) (st := []) (by decide +kernel) k_12_257 n_MD_isHere rfl (by decide) v_MD_isHere (C_MD_isHere 202 3 r8.2 J hR (by decide) hc10) (Nat.le_of_ble_eq_true rfl) (by decide) rfl rfl (fun _ h => h) ?_
            show m_B G (m_rm 3 0 0) M_MD_isOwnHere Q 0 0 280 [some (mR (12, 0, 177)), some (mI y0)] [mI r10.1] (L, r10.2, J, R)
            refine b_if_ne (off := 14) (tgt := 294) (by decide +kernel) (by decide) (fun h11 => ?_) (fun h11 => ?_)
            · have hf := if_f h11 hf
              refine b_blk (pc' := 299) (ls' := [some (mR (12, 0, 177)), some (mI y0)]) (st' := [mI 1]) (S' := (L, r10.2, J, R)) (P := True) [(.iconst 1, (0, 0, 0, 1, 0)), (.goto 4, (0, 299, 0, 0, 0))] [] (by decide +kernel) rfl trivial ?_
              refine b_blk (pc' := 301) (ls' := [some (mR (12, 0, 177)), some (mI 1)]) (st' := [mI 1]) (S' := (L, r10.2, J, R)) (P := True) [(.istore_n 1, (0, 0, 0, 0, 0)), (.iload_n 1, (0, 0, 0, 0, 0))] [] (by decide +kernel) rfl trivial ?_
              cases hf
              exact b_zret (by decide +kernel) rfl (by decide) hk
            · have hf := if_t h11 hf
              refine b_blk (pc' := 288) (ls' := [some (mR (12, 0, 177)), some (mI y0)]) (st' := [mR (23, 3, 203), mR (12, 0, 177)]) (S' := (L, r10.2, J, R)) (P := (True ∧ R 177 34 = some (23, 3, 203))) [(.aload_n 0, (0, 0, 0, 0, 0)), (.aload_n 0, (0, 0, 0, 0, 0)), (.getfield 90, (12, 34, 3, 0, 0))] [some (23, 3, 203)] (by decide +kernel) rfl ⟨trivial, (r_177_34 hR)⟩ ?_
              obtain ⟨r12, hc12, hf⟩ := bnd_o hf
              refine b_cV (as := [mR (23, 3, 203)]) (st := []) (by decide +kernel) k_12_257 n_MD_isHere rfl (by decide) v_MD_isHere (C_MD_isHere 203 3 r10.2 J hR (by decide) hc12) (Nat.le_of_ble_eq_true rfl) (by decide) rfl rfl (fun _ h => h) ?_
              show m_B G (m_rm 3 0 0) M_MD_isOwnHere Q 0 0 291 [some (mR (12, 0, 177)), some (mI y0)] [mI r12.1] (L, r12.2, J, R)
              refine b_if_eq (off := 7) (tgt := 298) (by decide +kernel) (by decide) (fun h13 => ?_) (fun h13 => ?_)
              · have hf := if_t h13 hf
                refine b_blk (pc' := 301) (ls' := [some (mR (12, 0, 177)), some (mI 0)]) (st' := [mI 0]) (S' := (L, r12.2, J, R)) (P := True) [(.iconst 0, (0, 0, 0, 0, 0)), (.istore_n 1, (0, 0, 0, 0, 0)), (.iload_n 1, (0, 0, 0, 0, 0))] [] (by decide +kernel) rfl trivial ?_
                cases hf
                exact b_zret (by decide +kernel) rfl (by decide) hk
              · have hf := if_f h13 hf
                refine b_blk (pc' := 299) (ls' := [some (mR (12, 0, 177)), some (mI y0)]) (st' := [mI 1]) (S' := (L, r12.2, J, R)) (P := True) [(.iconst 1, (0, 0, 0, 1, 0)), (.goto 4, (0, 299, 0, 0, 0))] [] (by decide +kernel) rfl trivial ?_
                refine b_blk (pc' := 301) (ls' := [some (mR (12, 0, 177)), some (mI 1)]) (st' := [mI 1]) (S' := (L, r12.2, J, R)) (P := True) [(.istore_n 1, (0, 0, 0, 0, 0)), (.iload_n 1, (0, 0, 0, 0, 0))] [] (by decide +kernel) rfl trivial ?_
                cases hf
                exact b_zret (by decide +kernel) rfl (by decide) hk
noncomputable def F_MD_isOwnHere_218 (I : MI) : Option (Int32 × MI) :=
  F_MD_isOwnHere_223 I (1 : Int32)
set_option maxRecDepth 100000 in
set_option maxHeartbeats 400000 in
theorem W_MD_isOwnHere_218 {G : MG} {Q : Option MV → MS → Prop} {L : List (Nat × Nat)} {R : Nat → Nat → Option MRef} (I : MI) (J : MJ) (hR : RF R) {r : Int32 × MI} (hf : F_MD_isOwnHere_218 I = some r) (hk : (fun r : Int32 × MI => Q (some (mI r.1)) (L, r.2, J, R)) r) : m_B G (m_rm 3 0 0) M_MD_isOwnHere Q 0 0 218 [some (mR (12, 0, 177)), none] [] (L, I, J, R) := by
  unfold F_MD_isOwnHere_218 at hf
  refine b_blk (pc' := 223) (ls' := [some (mR (12, 0, 177)), none]) (st' := [mI 1]) (S' := (L, I, J, R)) (P := True) [(.iconst 1, (0, 0, 0, 1, 0)), (.goto 4, (0, 223, 0, 0, 0))] [] (by decide +kernel) rfl trivial ?_
  exact m_B_cg rfl rfl rfl (W_MD_isOwnHere_223 I J (1 : Int32) hR hf hk)
noncomputable def F_MD_isOwnHere_147 (I : MI) (y0 : Int32) : Option (Int32 × MI) :=
  if y0 = (0 : Int32) then ((F_MD_isHere 192 4 I).bind fun r2 => if r2.1 = (0 : Int32) then ((F_MD_isHere 193 6 r2.2).bind fun r4 => if r4.1 = (0 : Int32) then ((F_MD_isHere 194 5 r4.2).bind fun r6 => if r6.1 = (0 : Int32) then ((F_MD_isHere 195 3 r6.2).bind fun r8 => if r8.1 = (0 : Int32) then ((F_MD_isHere 196 5 r8.2).bind fun r10 => if r10.1 = (0 : Int32) then ((F_MD_isHere 197 5 r10.2).bind fun r12 => if r12.1 = (0 : Int32) then (F_MD_isOwnHere_223 r12.2 (0 : Int32)) else (F_MD_isOwnHere_218 r12.2)) else (F_MD_isOwnHere_218 r10.2)) else (F_MD_isOwnHere_218 r8.2)) else (F_MD_isOwnHere_218 r6.2)) else (F_MD_isOwnHere_218 r4.2)) else (F_MD_isOwnHere_218 r2.2)) else (F_MD_isOwnHere_218 I)
set_option maxRecDepth 100000 in
set_option maxHeartbeats 400000 in
theorem W_MD_isOwnHere_147 {G : MG} {Q : Option MV → MS → Prop} {L : List (Nat × Nat)} {R : Nat → Nat → Option MRef} (I : MI) (J : MJ) (y0 : Int32) (hR : RF R) {r : Int32 × MI} (hf : F_MD_isOwnHere_147 I y0 = some r) (hk : (fun r : Int32 × MI => Q (some (mI r.1)) (L, r.2, J, R)) r) : m_B G (m_rm 3 0 0) M_MD_isOwnHere Q 0 0 147 [some (mR (12, 0, 177)), none] [mI y0] (L, I, J, R) := by
  unfold F_MD_isOwnHere_147 at hf
  refine b_blk (pc' := 149) (ls' := [some (mR (12, 0, 177)), some (mI y0)]) (st' := [mI y0]) (S' := (L, I, J, R)) (P := True) [(.istore_n 1, (0, 0, 0, 0, 0)), (.iload_n 1, (0, 0, 0, 0, 0))] [] (by decide +kernel) rfl trivial ?_
  refine b_if_ne (off := 69) (tgt := 218) (by decide +kernel) (by decide) (fun h1 => ?_) (fun h1 => ?_)
  · have hf := if_f h1 hf
    refine b_frg 1 ?_
    exact m_B_cg rfl rfl rfl (W_MD_isOwnHere_218 I J hR hf hk)
  · have hf := if_t h1 hf
    refine b_blk (pc' := 157) (ls' := [some (mR (12, 0, 177)), some (mI y0)]) (st' := [mR (23, 4, 192), mR (12, 0, 177)]) (S' := (L, I, J, R)) (P := (True ∧ R 177 23 = some (23, 4, 192))) [(.aload_n 0, (0, 0, 0, 0, 0)), (.aload_n 0, (0, 0, 0, 0, 0)), (.getfield 57, (12, 23, 3, 0, 0))] [some (23, 4, 192)] (by decide +kernel) rfl ⟨trivial, (r_177_23 hR)⟩ ?_
    obtain ⟨r2, hc2, hf⟩ := bnd_o hf
    refine b_cV (as := [mR (23, 4, 192)]) (st := []) (by decide +kernel) k_12_257 n_MD_isHere rfl (by decide) v_MD_isHere (C_MD_isHere 192 4 I J hR (by decide) hc2) (Nat.le_of_ble_eq_true rfl) (by decide) rfl rfl (fun _ h => h) ?_
    show m_B G (m_rm 3 0 0) M_MD_isOwnHere Q 0 0 160 [some (mR (12, 0, 177)), some (mI y0)] [mI r2.1] (L, r2.2, J, R)
    refine b_if_ne (off := 58) (tgt := 218) (by decide +kernel) (by decide) (fun h3 => ?_) (fun h3 => ?_)
    · have hf := if_f h3 hf
      refine b_frg 1 ?_
      exact m_B_cg rfl rfl rfl (W_MD_isOwnHere_218 r2.2 J hR hf hk)
    · have hf := if_t h3 hf
      refine b_blk (pc' := 168) (ls' := [some (mR (12, 0, 177)), some (mI y0)]) (st' := [mR (23, 6, 193), mR (12, 0, 177)]) (S' := (L, r2.2, J, R)) (P := (True ∧ R 177 24 = some (23, 6, 193))) [(.aload_n 0, (0, 0, 0, 0, 0)), (.aload_n 0, (0, 0, 0, 0, 0)), (.getfield 60, (12, 24, 3, 0, 0))] [some (23, 6, 193)] (by decide +kernel) rfl ⟨trivial, (r_177_24 hR)⟩ ?_
      obtain ⟨r4, hc4, hf⟩ := bnd_o hf
      refine b_cV (as := [mR (23, 6, 193)]) (st := []) (by decide +kernel) k_12_257 n_MD_isHere rfl (by decide) v_MD_isHere (C_MD_isHere 193 6 r2.2 J hR (by decide) hc4) (Nat.le_of_ble_eq_true rfl) (by decide) rfl rfl (fun _ h => h) ?_
      show m_B G (m_rm 3 0 0) M_MD_isOwnHere Q 0 0 171 [some (mR (12, 0, 177)), some (mI y0)] [mI r4.1] (L, r4.2, J, R)
      refine b_if_ne (off := 47) (tgt := 218) (by decide +kernel) (by decide) (fun h5 => ?_) (fun h5 => ?_)
      · have hf := if_f h5 hf
        refine b_frg 1 ?_
        exact m_B_cg rfl rfl rfl (W_MD_isOwnHere_218 r4.2 J hR hf hk)
      · have hf := if_t h5 hf
        refine b_blk (pc' := 179) (ls' := [some (mR (12, 0, 177)), some (mI y0)]) (st' := [mR (23, 5, 194), mR (12, 0, 177)]) (S' := (L, r4.2, J, R)) (P := (True ∧ R 177 25 = some (23, 5, 194))) [(.aload_n 0, (0, 0, 0, 0, 0)), (.aload_n 0, (0, 0, 0, 0, 0)), (.getfield 63, (12, 25, 3, 0, 0))] [some (23, 5, 194)] (by decide +kernel) rfl ⟨trivial, (r_177_25 hR)⟩ ?_
        obtain ⟨r6, hc6, hf⟩ := bnd_o hf
        refine b_cV (as := [mR (23, 5, 194)]) (st := []) (by decide +kernel) k_12_257 n_MD_isHere rfl (by decide) v_MD_isHere (C_MD_isHere 194 5 r4.2 J hR (by decide) hc6) (Nat.le_of_ble_eq_true rfl) (by decide) rfl rfl (fun _ h => h) ?_
        show m_B G (m_rm 3 0 0) M_MD_isOwnHere Q 0 0 182 [some (mR (12, 0, 177)), some (mI y0)] [mI r6.1] (L, r6.2, J, R)
        refine b_if_ne (off := 36) (tgt := 218) (by decide +kernel) (by decide) (fun h7 => ?_) (fun h7 => ?_)
        · have hf := if_f h7 hf
          refine b_frg 1 ?_
          exact m_B_cg rfl rfl rfl (W_MD_isOwnHere_218 r6.2 J hR hf hk)
        · have hf := if_t h7 hf
          refine b_blk (pc' := 190) (ls' := [some (mR (12, 0, 177)), some (mI y0)]) (st' := [mR (23, 3, 195), mR (12, 0, 177)]) (S' := (L, r6.2, J, R)) (P := (True ∧ R 177 26 = some (23, 3, 195))) [(.aload_n 0, (0, 0, 0, 0, 0)), (.aload_n 0, (0, 0, 0, 0, 0)), (.getfield 66, (12, 26, 3, 0, 0))] [some (23, 3, 195)] (by decide +kernel) rfl ⟨trivial, (r_177_26 hR)⟩ ?_
          obtain ⟨r8, hc8, hf⟩ := bnd_o hf
          refine b_cV (as := [mR (23, 3, 195)]) (st := []) (by decide +kernel) k_12_257 n_MD_isHere rfl (by decide) v_MD_isHere (C_MD_isHere 195 3 r6.2 J hR (by decide) hc8) (Nat.le_of_ble_eq_true rfl) (by decide) rfl rfl (fun _ h => h) ?_
          show m_B G (m_rm 3 0 0) M_MD_isOwnHere Q 0 0 193 [some (mR (12, 0, 177)), some (mI y0)] [mI r8.1] (L, r8.2, J, R)
          refine b_if_ne (off := 25) (tgt := 218) (by decide +kernel) (by decide) (fun h9 => ?_) (fun h9 => ?_)
          · have hf := if_f h9 hf
            refine b_frg 1 ?_
            exact m_B_cg rfl rfl rfl (W_MD_isOwnHere_218 r8.2 J hR hf hk)
          · have hf := if_t h9 hf
            refine b_blk (pc' := 201) (ls' := [some (mR (12, 0, 177)), some (mI y0)]) (st' := [mR (23, 5, 196), mR (12, 0, 177)]) (S' := (L, r8.2, J, R)) (P := (True ∧ R 177 27 = some (23, 5, 196))) [(.aload_n 0, (0, 0, 0, 0, 0)), (.aload_n 0, (0, 0, 0, 0, 0)), (.getfield 69, (12, 27, 3, 0, 0))] [some (23, 5, 196)] (by decide +kernel) rfl ⟨trivial, (r_177_27 hR)⟩ ?_
            obtain ⟨r10, hc10, hf⟩ := bnd_o hf
            refine b_cV (as := [mR (23, 5, 196)]) (st := []) (by decide +kernel) k_12_257 n_MD_isHere rfl (by decide) v_MD_isHere (C_MD_isHere 196 5 r8.2 J hR (by decide) hc10) (Nat.le_of_ble_eq_true rfl) (by decide) rfl rfl (fun _ h => h) ?_
            show m_B G (m_rm 3 0 0) M_MD_isOwnHere Q 0 0 204 [some (mR (12, 0, 177)), some (mI y0)] [mI r10.1] (L, r10.2, J, R)
            refine b_if_ne (off := 14) (tgt := 218) (by decide +kernel) (by decide) (fun h11 => ?_) (fun h11 => ?_)
            · have hf := if_f h11 hf
              refine b_frg 1 ?_
              exact m_B_cg rfl rfl rfl (W_MD_isOwnHere_218 r10.2 J hR hf hk)
            · have hf := if_t h11 hf
              refine b_blk (pc' := 212) (ls' := [some (mR (12, 0, 177)), some (mI y0)]) (st' := [mR (23, 5, 197), mR (12, 0, 177)]) (S' := (L, r10.2, J, R)) (P := (True ∧ R 177 28 = some (23, 5, 197))) [(.aload_n 0, (0, 0, 0, 0, 0)), (.aload_n 0, (0, 0, 0, 0, 0)), (.getfield 72, (12, 28, 3, 0, 0))] [some (23, 5, 197)] (by decide +kernel) rfl ⟨trivial, (r_177_28 hR)⟩ ?_
              obtain ⟨r12, hc12, hf⟩ := bnd_o hf
              refine b_cV (as := [mR (23, 5, 197)]) (st := []) (by decide +kernel) k_12_257 n_MD_isHere rfl (by decide) v_MD_isHere (C_MD_isHere 197 5 r10.2 J hR (by decide) hc12) (Nat.le_of_ble_eq_true rfl) (by decide) rfl rfl (fun _ h => h) ?_
              show m_B G (m_rm 3 0 0) M_MD_isOwnHere Q 0 0 215 [some (mR (12, 0, 177)), some (mI y0)] [mI r12.1] (L, r12.2, J, R)
              refine b_if_eq (off := 7) (tgt := 222) (by decide +kernel) (by decide) (fun h13 => ?_) (fun h13 => ?_)
              · have hf := if_t h13 hf
                refine b_blk (pc' := 223) (ls' := [some (mR (12, 0, 177)), some (mI y0)]) (st' := [mI 0]) (S' := (L, r12.2, J, R)) (P := True) [(.iconst 0, (0, 0, 0, 0, 0))] [] (by decide +kernel) rfl trivial ?_
                refine b_frg 1 ?_
                exact m_B_cg rfl rfl rfl (W_MD_isOwnHere_223 r12.2 J (0 : Int32) hR hf hk)
              · have hf := if_f h13 hf
                refine b_frg 1 ?_
                exact m_B_cg rfl rfl rfl (W_MD_isOwnHere_218 r12.2 J hR hf hk)
noncomputable def F_MD_isOwnHere_142 (I : MI) : Option (Int32 × MI) :=
  F_MD_isOwnHere_147 I (1 : Int32)
set_option maxRecDepth 100000 in
set_option maxHeartbeats 400000 in
theorem W_MD_isOwnHere_142 {G : MG} {Q : Option MV → MS → Prop} {L : List (Nat × Nat)} {R : Nat → Nat → Option MRef} (I : MI) (J : MJ) (hR : RF R) {r : Int32 × MI} (hf : F_MD_isOwnHere_142 I = some r) (hk : (fun r : Int32 × MI => Q (some (mI r.1)) (L, r.2, J, R)) r) : m_B G (m_rm 3 0 0) M_MD_isOwnHere Q 0 0 142 [some (mR (12, 0, 177)), none] [] (L, I, J, R) := by
  unfold F_MD_isOwnHere_142 at hf
  refine b_blk (pc' := 147) (ls' := [some (mR (12, 0, 177)), none]) (st' := [mI 1]) (S' := (L, I, J, R)) (P := True) [(.iconst 1, (0, 0, 0, 1, 0)), (.goto 4, (0, 147, 0, 0, 0))] [] (by decide +kernel) rfl trivial ?_
  exact m_B_cg rfl rfl rfl (W_MD_isOwnHere_147 I J (1 : Int32) hR hf hk)
noncomputable def F_MD_isOwnHere_71 (I : MI) (y0 : Int32) : Option (Int32 × MI) :=
  if y0 = (0 : Int32) then ((F_MD_isHere 186 3 I).bind fun r2 => if r2.1 = (0 : Int32) then ((F_MD_isHere 187 5 r2.2).bind fun r4 => if r4.1 = (0 : Int32) then ((F_MD_isHere 188 5 r4.2).bind fun r6 => if r6.1 = (0 : Int32) then ((F_MD_isHere 189 5 r6.2).bind fun r8 => if r8.1 = (0 : Int32) then ((F_MD_isHere 190 4 r8.2).bind fun r10 => if r10.1 = (0 : Int32) then ((F_MD_isHere 191 4 r10.2).bind fun r12 => if r12.1 = (0 : Int32) then (F_MD_isOwnHere_147 r12.2 (0 : Int32)) else (F_MD_isOwnHere_142 r12.2)) else (F_MD_isOwnHere_142 r10.2)) else (F_MD_isOwnHere_142 r8.2)) else (F_MD_isOwnHere_142 r6.2)) else (F_MD_isOwnHere_142 r4.2)) else (F_MD_isOwnHere_142 r2.2)) else (F_MD_isOwnHere_142 I)
set_option maxRecDepth 100000 in
set_option maxHeartbeats 400000 in
theorem W_MD_isOwnHere_71 {G : MG} {Q : Option MV → MS → Prop} {L : List (Nat × Nat)} {R : Nat → Nat → Option MRef} (I : MI) (J : MJ) (y0 : Int32) (hR : RF R) {r : Int32 × MI} (hf : F_MD_isOwnHere_71 I y0 = some r) (hk : (fun r : Int32 × MI => Q (some (mI r.1)) (L, r.2, J, R)) r) : m_B G (m_rm 3 0 0) M_MD_isOwnHere Q 0 0 71 [some (mR (12, 0, 177)), none] [mI y0] (L, I, J, R) := by
  unfold F_MD_isOwnHere_71 at hf
  refine b_blk (pc' := 73) (ls' := [some (mR (12, 0, 177)), some (mI y0)]) (st' := [mI y0]) (S' := (L, I, J, R)) (P := True) [(.istore_n 1, (0, 0, 0, 0, 0)), (.iload_n 1, (0, 0, 0, 0, 0))] [] (by decide +kernel) rfl trivial ?_
  refine b_if_ne (off := 69) (tgt := 142) (by decide +kernel) (by decide) (fun h1 => ?_) (fun h1 => ?_)
  · have hf := if_f h1 hf
    refine b_frg 1 ?_
    exact m_B_cg rfl rfl rfl (W_MD_isOwnHere_142 I J hR hf hk)
  · have hf := if_t h1 hf
    refine b_blk (pc' := 81) (ls' := [some (mR (12, 0, 177)), some (mI y0)]) (st' := [mR (23, 3, 186), mR (12, 0, 177)]) (S' := (L, I, J, R)) (P := (True ∧ R 177 17 = some (23, 3, 186))) [(.aload_n 0, (0, 0, 0, 0, 0)), (.aload_n 0, (0, 0, 0, 0, 0)), (.getfield 39, (12, 17, 3, 0, 0))] [some (23, 3, 186)] (by decide +kernel) rfl ⟨trivial, (r_177_17 hR)⟩ ?_
    obtain ⟨r2, hc2, hf⟩ := bnd_o hf
    refine b_cV (as := [mR (23, 3, 186)]) (st := []) (by decide +kernel) k_12_257 n_MD_isHere rfl (by decide) v_MD_isHere (C_MD_isHere 186 3 I J hR (by decide) hc2) (Nat.le_of_ble_eq_true rfl) (by decide) rfl rfl (fun _ h => h) ?_
    show m_B G (m_rm 3 0 0) M_MD_isOwnHere Q 0 0 84 [some (mR (12, 0, 177)), some (mI y0)] [mI r2.1] (L, r2.2, J, R)
    refine b_if_ne (off := 58) (tgt := 142) (by decide +kernel) (by decide) (fun h3 => ?_) (fun h3 => ?_)
    · have hf := if_f h3 hf
      refine b_frg 1 ?_
      exact m_B_cg rfl rfl rfl (W_MD_isOwnHere_142 r2.2 J hR hf hk)
    · have hf := if_t h3 hf
      refine b_blk (pc' := 92) (ls' := [some (mR (12, 0, 177)), some (mI y0)]) (st' := [mR (23, 5, 187), mR (12, 0, 177)]) (S' := (L, r2.2, J, R)) (P := (True ∧ R 177 18 = some (23, 5, 187))) [(.aload_n 0, (0, 0, 0, 0, 0)), (.aload_n 0, (0, 0, 0, 0, 0)), (.getfield 42, (12, 18, 3, 0, 0))] [some (23, 5, 187)] (by decide +kernel) rfl ⟨trivial, (r_177_18 hR)⟩ ?_
      obtain ⟨r4, hc4, hf⟩ := bnd_o hf
      refine b_cV (as := [mR (23, 5, 187)]) (st := []) (by decide +kernel) k_12_257 n_MD_isHere rfl (by decide) v_MD_isHere (C_MD_isHere 187 5 r2.2 J hR (by decide) hc4) (Nat.le_of_ble_eq_true rfl) (by decide) rfl rfl (fun _ h => h) ?_
      show m_B G (m_rm 3 0 0) M_MD_isOwnHere Q 0 0 95 [some (mR (12, 0, 177)), some (mI y0)] [mI r4.1] (L, r4.2, J, R)
      refine b_if_ne (off := 47) (tgt := 142) (by decide +kernel) (by decide) (fun h5 => ?_) (fun h5 => ?_)
      · have hf := if_f h5 hf
        refine b_frg 1 ?_
        exact m_B_cg rfl rfl rfl (W_MD_isOwnHere_142 r4.2 J hR hf hk)
      · have hf := if_t h5 hf
        refine b_blk (pc' := 103) (ls' := [some (mR (12, 0, 177)), some (mI y0)]) (st' := [mR (23, 5, 188), mR (12, 0, 177)]) (S' := (L, r4.2, J, R)) (P := (True ∧ R 177 19 = some (23, 5, 188))) [(.aload_n 0, (0, 0, 0, 0, 0)), (.aload_n 0, (0, 0, 0, 0, 0)), (.getfield 45, (12, 19, 3, 0, 0))] [some (23, 5, 188)] (by decide +kernel) rfl ⟨trivial, (r_177_19 hR)⟩ ?_
        obtain ⟨r6, hc6, hf⟩ := bnd_o hf
        refine b_cV (as := [mR (23, 5, 188)]) (st := []) (by decide +kernel) k_12_257 n_MD_isHere rfl (by decide) v_MD_isHere (C_MD_isHere 188 5 r4.2 J hR (by decide) hc6) (Nat.le_of_ble_eq_true rfl) (by decide) rfl rfl (fun _ h => h) ?_
        show m_B G (m_rm 3 0 0) M_MD_isOwnHere Q 0 0 106 [some (mR (12, 0, 177)), some (mI y0)] [mI r6.1] (L, r6.2, J, R)
        refine b_if_ne (off := 36) (tgt := 142) (by decide +kernel) (by decide) (fun h7 => ?_) (fun h7 => ?_)
        · have hf := if_f h7 hf
          refine b_frg 1 ?_
          exact m_B_cg rfl rfl rfl (W_MD_isOwnHere_142 r6.2 J hR hf hk)
        · have hf := if_t h7 hf
          refine b_blk (pc' := 114) (ls' := [some (mR (12, 0, 177)), some (mI y0)]) (st' := [mR (23, 5, 189), mR (12, 0, 177)]) (S' := (L, r6.2, J, R)) (P := (True ∧ R 177 20 = some (23, 5, 189))) [(.aload_n 0, (0, 0, 0, 0, 0)), (.aload_n 0, (0, 0, 0, 0, 0)), (.getfield 48, (12, 20, 3, 0, 0))] [some (23, 5, 189)] (by decide +kernel) rfl ⟨trivial, (r_177_20 hR)⟩ ?_
          obtain ⟨r8, hc8, hf⟩ := bnd_o hf
          refine b_cV (as := [mR (23, 5, 189)]) (st := []) (by decide +kernel) k_12_257 n_MD_isHere rfl (by decide) v_MD_isHere (C_MD_isHere 189 5 r6.2 J hR (by decide) hc8) (Nat.le_of_ble_eq_true rfl) (by decide) rfl rfl (fun _ h => h) ?_
          show m_B G (m_rm 3 0 0) M_MD_isOwnHere Q 0 0 117 [some (mR (12, 0, 177)), some (mI y0)] [mI r8.1] (L, r8.2, J, R)
          refine b_if_ne (off := 25) (tgt := 142) (by decide +kernel) (by decide) (fun h9 => ?_) (fun h9 => ?_)
          · have hf := if_f h9 hf
            refine b_frg 1 ?_
            exact m_B_cg rfl rfl rfl (W_MD_isOwnHere_142 r8.2 J hR hf hk)
          · have hf := if_t h9 hf
            refine b_blk (pc' := 125) (ls' := [some (mR (12, 0, 177)), some (mI y0)]) (st' := [mR (23, 4, 190), mR (12, 0, 177)]) (S' := (L, r8.2, J, R)) (P := (True ∧ R 177 21 = some (23, 4, 190))) [(.aload_n 0, (0, 0, 0, 0, 0)), (.aload_n 0, (0, 0, 0, 0, 0)), (.getfield 51, (12, 21, 3, 0, 0))] [some (23, 4, 190)] (by decide +kernel) rfl ⟨trivial, (r_177_21 hR)⟩ ?_
            obtain ⟨r10, hc10, hf⟩ := bnd_o hf
            refine b_cV (as := [mR (23, 4, 190)]) (st := []) (by decide +kernel) k_12_257 n_MD_isHere rfl (by decide) v_MD_isHere (C_MD_isHere 190 4 r8.2 J hR (by decide) hc10) (Nat.le_of_ble_eq_true rfl) (by decide) rfl rfl (fun _ h => h) ?_
            show m_B G (m_rm 3 0 0) M_MD_isOwnHere Q 0 0 128 [some (mR (12, 0, 177)), some (mI y0)] [mI r10.1] (L, r10.2, J, R)
            refine b_if_ne (off := 14) (tgt := 142) (by decide +kernel) (by decide) (fun h11 => ?_) (fun h11 => ?_)
            · have hf := if_f h11 hf
              refine b_frg 1 ?_
              exact m_B_cg rfl rfl rfl (W_MD_isOwnHere_142 r10.2 J hR hf hk)
            · have hf := if_t h11 hf
              refine b_blk (pc' := 136) (ls' := [some (mR (12, 0, 177)), some (mI y0)]) (st' := [mR (23, 4, 191), mR (12, 0, 177)]) (S' := (L, r10.2, J, R)) (P := (True ∧ R 177 22 = some (23, 4, 191))) [(.aload_n 0, (0, 0, 0, 0, 0)), (.aload_n 0, (0, 0, 0, 0, 0)), (.getfield 54, (12, 22, 3, 0, 0))] [some (23, 4, 191)] (by decide +kernel) rfl ⟨trivial, (r_177_22 hR)⟩ ?_
              obtain ⟨r12, hc12, hf⟩ := bnd_o hf
              refine b_cV (as := [mR (23, 4, 191)]) (st := []) (by decide +kernel) k_12_257 n_MD_isHere rfl (by decide) v_MD_isHere (C_MD_isHere 191 4 r10.2 J hR (by decide) hc12) (Nat.le_of_ble_eq_true rfl) (by decide) rfl rfl (fun _ h => h) ?_
              show m_B G (m_rm 3 0 0) M_MD_isOwnHere Q 0 0 139 [some (mR (12, 0, 177)), some (mI y0)] [mI r12.1] (L, r12.2, J, R)
              refine b_if_eq (off := 7) (tgt := 146) (by decide +kernel) (by decide) (fun h13 => ?_) (fun h13 => ?_)
              · have hf := if_t h13 hf
                refine b_blk (pc' := 147) (ls' := [some (mR (12, 0, 177)), some (mI y0)]) (st' := [mI 0]) (S' := (L, r12.2, J, R)) (P := True) [(.iconst 0, (0, 0, 0, 0, 0))] [] (by decide +kernel) rfl trivial ?_
                refine b_frg 1 ?_
                exact m_B_cg rfl rfl rfl (W_MD_isOwnHere_147 r12.2 J (0 : Int32) hR hf hk)
              · have hf := if_f h13 hf
                refine b_frg 1 ?_
                exact m_B_cg rfl rfl rfl (W_MD_isOwnHere_142 r12.2 J hR hf hk)
noncomputable def F_MD_isOwnHere_66 (I : MI) : Option (Int32 × MI) :=
  F_MD_isOwnHere_71 I (1 : Int32)
set_option maxRecDepth 100000 in
set_option maxHeartbeats 400000 in
theorem W_MD_isOwnHere_66 {G : MG} {Q : Option MV → MS → Prop} {L : List (Nat × Nat)} {R : Nat → Nat → Option MRef} (I : MI) (J : MJ) (hR : RF R) {r : Int32 × MI} (hf : F_MD_isOwnHere_66 I = some r) (hk : (fun r : Int32 × MI => Q (some (mI r.1)) (L, r.2, J, R)) r) : m_B G (m_rm 3 0 0) M_MD_isOwnHere Q 0 0 66 [some (mR (12, 0, 177)), none] [] (L, I, J, R) := by
  unfold F_MD_isOwnHere_66 at hf
  refine b_blk (pc' := 71) (ls' := [some (mR (12, 0, 177)), none]) (st' := [mI 1]) (S' := (L, I, J, R)) (P := True) [(.iconst 1, (0, 0, 0, 1, 0)), (.goto 4, (0, 71, 0, 0, 0))] [] (by decide +kernel) rfl trivial ?_
  exact m_B_cg rfl rfl rfl (W_MD_isOwnHere_71 I J (1 : Int32) hR hf hk)
noncomputable def F_MD_isOwnHere (I : MI) : Option (Int32 × MI) :=
  (F_MD_isHere 180 5 I).bind fun r1 => if r1.1 = (0 : Int32) then ((F_MD_isHere 181 2 r1.2).bind fun r3 => if r3.1 = (0 : Int32) then ((F_MD_isHere 182 5 r3.2).bind fun r5 => if r5.1 = (0 : Int32) then ((F_MD_isHere 183 4 r5.2).bind fun r7 => if r7.1 = (0 : Int32) then ((F_MD_isHere 184 5 r7.2).bind fun r9 => if r9.1 = (0 : Int32) then ((F_MD_isHere 185 3 r9.2).bind fun r11 => if r11.1 = (0 : Int32) then (F_MD_isOwnHere_71 r11.2 (0 : Int32)) else (F_MD_isOwnHere_66 r11.2)) else (F_MD_isOwnHere_66 r9.2)) else (F_MD_isOwnHere_66 r7.2)) else (F_MD_isOwnHere_66 r5.2)) else (F_MD_isOwnHere_66 r3.2)) else (F_MD_isOwnHere_66 r1.2)
set_option maxRecDepth 100000 in
set_option maxHeartbeats 400000 in
theorem W_MD_isOwnHere {G : MG} {Q : Option MV → MS → Prop} {L : List (Nat × Nat)} {R : Nat → Nat → Option MRef} (I : MI) (J : MJ) (hR : RF R) {r : Int32 × MI} (hf : F_MD_isOwnHere I = some r) (hk : (fun r : Int32 × MI => Q (some (mI r.1)) (L, r.2, J, R)) r) : m_B G (m_rm 3 0 0) M_MD_isOwnHere Q 0 0 0 [some (mR (12, 0, 177)), none] [] (L, I, J, R) := by
  unfold F_MD_isOwnHere at hf
  refine b_blk (pc' := 5) (ls' := [some (mR (12, 0, 177)), none]) (st' := [mR (23, 5, 180), mR (12, 0, 177)]) (S' := (L, I, J, R)) (P := (True ∧ R 177 11 = some (23, 5, 180))) [(.aload_n 0, (0, 0, 0, 0, 0)), (.aload_n 0, (0, 0, 0, 0, 0)), (.getfield 20, (12, 11, 3, 0, 0))] [some (23, 5, 180)] (by decide +kernel) rfl ⟨trivial, (r_177_11 hR)⟩ ?_
  obtain ⟨r1, hc1, hf⟩ := bnd_o hf
  refine b_cV (as := [mR (23, 5, 180)]) (st := []) (by decide +kernel) k_12_257 n_MD_isHere rfl (by decide) v_MD_isHere (C_MD_isHere 180 5 I J hR (by decide) hc1) (Nat.le_of_ble_eq_true rfl) (by decide) rfl rfl (fun _ h => h) ?_
  show m_B G (m_rm 3 0 0) M_MD_isOwnHere Q 0 0 8 [some (mR (12, 0, 177)), none] [mI r1.1] (L, r1.2, J, R)
  refine b_if_ne (off := 58) (tgt := 66) (by decide +kernel) (by decide) (fun h2 => ?_) (fun h2 => ?_)
  · have hf := if_f h2 hf
    exact m_B_cg rfl rfl rfl (W_MD_isOwnHere_66 r1.2 J hR hf hk)
  · have hf := if_t h2 hf
    refine b_blk (pc' := 16) (ls' := [some (mR (12, 0, 177)), none]) (st' := [mR (23, 2, 181), mR (12, 0, 177)]) (S' := (L, r1.2, J, R)) (P := (True ∧ R 177 12 = some (23, 2, 181))) [(.aload_n 0, (0, 0, 0, 0, 0)), (.aload_n 0, (0, 0, 0, 0, 0)), (.getfield 24, (12, 12, 3, 0, 0))] [some (23, 2, 181)] (by decide +kernel) rfl ⟨trivial, (r_177_12 hR)⟩ ?_
    obtain ⟨r3, hc3, hf⟩ := bnd_o hf
    refine b_cV (as := [mR (23, 2, 181)]) (st := []) (by decide +kernel) k_12_257 n_MD_isHere rfl (by decide) v_MD_isHere (C_MD_isHere 181 2 r1.2 J hR (by decide) hc3) (Nat.le_of_ble_eq_true rfl) (by decide) rfl rfl (fun _ h => h) ?_
    show m_B G (m_rm 3 0 0) M_MD_isOwnHere Q 0 0 19 [some (mR (12, 0, 177)), none] [mI r3.1] (L, r3.2, J, R)
    refine b_if_ne (off := 47) (tgt := 66) (by decide +kernel) (by decide) (fun h4 => ?_) (fun h4 => ?_)
    · have hf := if_f h4 hf
      exact m_B_cg rfl rfl rfl (W_MD_isOwnHere_66 r3.2 J hR hf hk)
    · have hf := if_t h4 hf
      refine b_blk (pc' := 27) (ls' := [some (mR (12, 0, 177)), none]) (st' := [mR (23, 5, 182), mR (12, 0, 177)]) (S' := (L, r3.2, J, R)) (P := (True ∧ R 177 13 = some (23, 5, 182))) [(.aload_n 0, (0, 0, 0, 0, 0)), (.aload_n 0, (0, 0, 0, 0, 0)), (.getfield 27, (12, 13, 3, 0, 0))] [some (23, 5, 182)] (by decide +kernel) rfl ⟨trivial, (r_177_13 hR)⟩ ?_
      obtain ⟨r5, hc5, hf⟩ := bnd_o hf
      refine b_cV (as := [mR (23, 5, 182)]) (st := []) (by decide +kernel) k_12_257 n_MD_isHere rfl (by decide) v_MD_isHere (C_MD_isHere 182 5 r3.2 J hR (by decide) hc5) (Nat.le_of_ble_eq_true rfl) (by decide) rfl rfl (fun _ h => h) ?_
      show m_B G (m_rm 3 0 0) M_MD_isOwnHere Q 0 0 30 [some (mR (12, 0, 177)), none] [mI r5.1] (L, r5.2, J, R)
      refine b_if_ne (off := 36) (tgt := 66) (by decide +kernel) (by decide) (fun h6 => ?_) (fun h6 => ?_)
      · have hf := if_f h6 hf
        exact m_B_cg rfl rfl rfl (W_MD_isOwnHere_66 r5.2 J hR hf hk)
      · have hf := if_t h6 hf
        refine b_blk (pc' := 38) (ls' := [some (mR (12, 0, 177)), none]) (st' := [mR (23, 4, 183), mR (12, 0, 177)]) (S' := (L, r5.2, J, R)) (P := (True ∧ R 177 14 = some (23, 4, 183))) [(.aload_n 0, (0, 0, 0, 0, 0)), (.aload_n 0, (0, 0, 0, 0, 0)), (.getfield 30, (12, 14, 3, 0, 0))] [some (23, 4, 183)] (by decide +kernel) rfl ⟨trivial, (r_177_14 hR)⟩ ?_
        obtain ⟨r7, hc7, hf⟩ := bnd_o hf
        refine b_cV (as := [mR (23, 4, 183)]) (st := []) (by decide +kernel) k_12_257 n_MD_isHere rfl (by decide) v_MD_isHere (C_MD_isHere 183 4 r5.2 J hR (by decide) hc7) (Nat.le_of_ble_eq_true rfl) (by decide) rfl rfl (fun _ h => h) ?_
        show m_B G (m_rm 3 0 0) M_MD_isOwnHere Q 0 0 41 [some (mR (12, 0, 177)), none] [mI r7.1] (L, r7.2, J, R)
        refine b_if_ne (off := 25) (tgt := 66) (by decide +kernel) (by decide) (fun h8 => ?_) (fun h8 => ?_)
        · have hf := if_f h8 hf
          exact m_B_cg rfl rfl rfl (W_MD_isOwnHere_66 r7.2 J hR hf hk)
        · have hf := if_t h8 hf
          refine b_blk (pc' := 49) (ls' := [some (mR (12, 0, 177)), none]) (st' := [mR (23, 5, 184), mR (12, 0, 177)]) (S' := (L, r7.2, J, R)) (P := (True ∧ R 177 15 = some (23, 5, 184))) [(.aload_n 0, (0, 0, 0, 0, 0)), (.aload_n 0, (0, 0, 0, 0, 0)), (.getfield 33, (12, 15, 3, 0, 0))] [some (23, 5, 184)] (by decide +kernel) rfl ⟨trivial, (r_177_15 hR)⟩ ?_
          obtain ⟨r9, hc9, hf⟩ := bnd_o hf
          refine b_cV (as := [mR (23, 5, 184)]) (st := []) (by decide +kernel) k_12_257 n_MD_isHere rfl (by decide) v_MD_isHere (C_MD_isHere 184 5 r7.2 J hR (by decide) hc9) (Nat.le_of_ble_eq_true rfl) (by decide) rfl rfl (fun _ h => h) ?_
          show m_B G (m_rm 3 0 0) M_MD_isOwnHere Q 0 0 52 [some (mR (12, 0, 177)), none] [mI r9.1] (L, r9.2, J, R)
          refine b_if_ne (off := 14) (tgt := 66) (by decide +kernel) (by decide) (fun h10 => ?_) (fun h10 => ?_)
          · have hf := if_f h10 hf
            exact m_B_cg rfl rfl rfl (W_MD_isOwnHere_66 r9.2 J hR hf hk)
          · have hf := if_t h10 hf
            refine b_blk (pc' := 60) (ls' := [some (mR (12, 0, 177)), none]) (st' := [mR (23, 3, 185), mR (12, 0, 177)]) (S' := (L, r9.2, J, R)) (P := (True ∧ R 177 16 = some (23, 3, 185))) [(.aload_n 0, (0, 0, 0, 0, 0)), (.aload_n 0, (0, 0, 0, 0, 0)), (.getfield 36, (12, 16, 3, 0, 0))] [some (23, 3, 185)] (by decide +kernel) rfl ⟨trivial, (r_177_16 hR)⟩ ?_
            obtain ⟨r11, hc11, hf⟩ := bnd_o hf
            refine b_cV (as := [mR (23, 3, 185)]) (st := []) (by decide +kernel) k_12_257 n_MD_isHere rfl (by decide) v_MD_isHere (C_MD_isHere 185 3 r9.2 J hR (by decide) hc11) (Nat.le_of_ble_eq_true rfl) (by decide) rfl rfl (fun _ h => h) ?_
            show m_B G (m_rm 3 0 0) M_MD_isOwnHere Q 0 0 63 [some (mR (12, 0, 177)), none] [mI r11.1] (L, r11.2, J, R)
            refine b_if_eq (off := 7) (tgt := 70) (by decide +kernel) (by decide) (fun h12 => ?_) (fun h12 => ?_)
            · have hf := if_t h12 hf
              refine b_blk (pc' := 71) (ls' := [some (mR (12, 0, 177)), none]) (st' := [mI 0]) (S' := (L, r11.2, J, R)) (P := True) [(.iconst 0, (0, 0, 0, 0, 0))] [] (by decide +kernel) rfl trivial ?_
              exact m_B_cg rfl rfl rfl (W_MD_isOwnHere_71 r11.2 J (0 : Int32) hR hf hk)
            · have hf := if_f h12 hf
              exact m_B_cg rfl rfl rfl (W_MD_isOwnHere_66 r11.2 J hR hf hk)
theorem C_MD_isOwnHere {G : MG} {L : List (Nat × Nat)} {R : Nat → Nat → Option MRef} (I : MI) (J : MJ) (hR : RF R) {r : Int32 × MI} (hf : F_MD_isOwnHere I = some r) : m_met G 3 0 0 y_MD_isOwnHere M_MD_isOwnHere [mR (12, 0, 177)] (L, I, J, R) (m_is (some (mI r.1)) (L, r.2, J, R)) :=
  m_met_in n_MD_isOwnHere (plainFor_of_name (by decide)) (by decide) (Nat.le_of_ble_eq_true rfl) (ls := [some (mR (12, 0, 177)), none]) rfl (W_MD_isOwnHere I J hR hf ⟨rfl, rfl⟩)
noncomputable def F_MD_name_58 (I : MI) (v1 : Int64) : Option ((Int64 × MI) ⊕ ((Int64 × MI) ⊕ (Int64 × MI))) :=
  if (I 177 3) ≤ (I 177 2) then (some (.inr (.inl ((v1 : Int64), I)))) else (gd (I 177 2) 1600 <| (F_MD_isLetter (I 178 (I 177 2).toNatClampNeg)).bind fun r3 => if r3 = (0 : Int32) then (some (.inr (.inl ((v1 : Int64), I)))) else (if ((I 177 2) - (I 177 35)) = (6 : Int32) then ((F_MD_fail I (1 : Int32) (I 177 2)).bind fun r8 => some (.inr (.inr ((0 : Int64), r8)))) else (gd (I 177 2) 1600 <| bnd (((((27 : Int64) * v1) + ((I 178 (I 177 2).toNatClampNeg).toInt64)) - (97 : Int64)) + (1 : Int64) : Int64) fun x7 => some (.inl ((x7 : Int64), m_up I 177 2 ((I 177 2) + (1 : Int32)))))))
set_option maxRecDepth 100000 in
set_option maxHeartbeats 400000 in
theorem W_MD_name_58 {G : MG} {Q : Option MV → MS → Prop} {L : List (Nat × Nat)} {R : Nat → Nat → Option MRef} (I : MI) (J : MJ) (v1 : Int64) (hR : RF R) {r : (Int64 × MI) ⊕ ((Int64 × MI) ⊕ (Int64 × MI))} (hf : F_MD_name_58 I v1 = some r) (hk : (Sum.elim (fun s : Int64 × MI => m_B G (m_rm 4 0 0) M_MD_name Q 0 0 58 [some (mR (12, 0, 177)), some (mJ s.1), none] [] (L, s.2, J, R)) (Sum.elim (fun s : Int64 × MI => m_B G (m_rm 4 0 0) M_MD_name Q 0 0 145 [some (mR (12, 0, 177)), some (mJ s.1), none] [] (L, s.2, J, R)) (fun r : Int64 × MI => Q (some (mJ r.1)) (L, r.2, J, R)))) r) : m_B G (m_rm 4 0 0) M_MD_name Q 0 0 58 [some (mR (12, 0, 177)), some (mJ v1), none] [] (L, I, J, R) := by
  unfold F_MD_name_58 at hf
  refine b_blk (pc' := 66) (ls' := [some (mR (12, 0, 177)), some (mJ v1), none]) (st' := [mI (I 177 3), mI (I 177 2)]) (S' := (L, I, J, R)) (P := True) [(.aload_n 0, (0, 0, 0, 0, 0)), (.getfield 240, (12, 2, 0, 0, 0)), (.aload_n 0, (0, 0, 0, 0, 0)), (.getfield 243, (12, 3, 0, 0, 0))] [] (by decide +kernel) rfl trivial ?_
  refine b_icmp_ge (off := 79) (tgt := 145) (by decide +kernel) (by decide) (fun h1 => ?_) (fun h1 => ?_)
  · have hf := if_t h1 hf
    cases hf
    exact hk
  · have hf := if_f h1 hf
    obtain ⟨g2, hf⟩ := gd_s hf
    refine b_blk (pc' := 78) (ls' := [some (mR (12, 0, 177)), some (mJ v1), none]) (st' := [mI (I 178 (I 177 2).toNatClampNeg)]) (S' := (L, I, J, R)) (P := ((True ∧ R 177 0 = some (20, 1600, 178)) ∧ vp_in (I 177 2) 1600)) [(.aload_n 0, (0, 0, 0, 0, 0)), (.getfield 7, (12, 0, 3, 0, 0)), (.aload_n 0, (0, 0, 0, 0, 0)), (.getfield 240, (12, 2, 0, 0, 0)), (.iaload, (0, 0, 0, 0, 0))] [some (20, 1600, 178)] (by decide +kernel) rfl ⟨⟨trivial, (r_177_0 hR)⟩, (in_n (n := 1600) (by decide) g2.1 g2.2)⟩ ?_
    obtain ⟨r3, hc3, hf⟩ := bnd_o hf
    refine b_cS (as := [mI (I 178 (I 177 2).toNatClampNeg)]) (st := []) (by decide +kernel) k_12_250 n_MD_isLetter s_MD_isLetter (C_MD_isLetter I J (I 178 (I 177 2).toNatClampNeg) hR hc3) (Nat.le_of_ble_eq_true rfl) (by decide) rfl rfl (fun _ h => h) ?_
    show m_B G (m_rm 4 0 0) M_MD_name Q 0 0 81 [some (mR (12, 0, 177)), some (mJ v1), none] [mI r3] (L, I, J, R)
    refine b_if_eq (off := 64) (tgt := 145) (by decide +kernel) (by decide) (fun h4 => ?_) (fun h4 => ?_)
    · have hf := if_t h4 hf
      cases hf
      exact hk
    · have hf := if_f h4 hf
      refine b_blk (pc' := 95) (ls' := [some (mR (12, 0, 177)), some (mJ v1), none]) (st' := [mI 6, mI ((I 177 2) - (I 177 35))]) (S' := (L, I, J, R)) (P := True) [(.aload_n 0, (0, 0, 0, 0, 0)), (.getfield 240, (12, 2, 0, 0, 0)), (.aload_n 0, (0, 0, 0, 0, 0)), (.getfield 285, (12, 35, 0, 0, 0)), (.isub, (0, 0, 0, 0, 0)), (.bipush 6, (0, 0, 0, 6, 0))] [] (by decide +kernel) rfl trivial ?_
      refine b_icmp_ne (off := 14) (tgt := 109) (by decide +kernel) (by decide) (fun h5 => ?_) (fun h5 => ?_)
      · have hf := if_f h5 hf
        obtain ⟨g6, hf⟩ := gd_s hf
        refine b_blk (pc' := 58) (ls' := [some (mR (12, 0, 177)), some (mJ (((((27 : Int64) * v1) + ((I 178 (I 177 2).toNatClampNeg).toInt64)) - (97 : Int64)) + (1 : Int64))), none]) (st' := []) (S' := (L, m_up I 177 2 ((I 177 2) + (1 : Int32)), J, R)) (P := ((True ∧ R 177 0 = some (20, 1600, 178)) ∧ vp_in (I 177 2) 1600)) [(.ldc2_w 288, (0, 0, 0, 0, 27)), (.lload_n 1, (0, 0, 0, 0, 0)), (.lmul, (0, 0, 0, 0, 0)), (.aload_n 0, (0, 0, 0, 0, 0)), (.getfield 7, (12, 0, 3, 0, 0)), (.aload_n 0, (0, 0, 0, 0, 0)), (.getfield 240, (12, 2, 0, 0, 0)), (.iaload, (0, 0, 0, 0, 0)), (.i2l, (0, 0, 0, 0, 0)), (.ladd, (0, 0, 0, 0, 0)), (.ldc2_w 290, (0, 0, 0, 0, 97)), (.lsub, (0, 0, 0, 0, 0)), (.lconst 1, (0, 0, 0, 0, 1)), (.ladd, (0, 0, 0, 0, 0)), (.lstore_n 1, (0, 0, 0, 0, 0)), (.aload_n 0, (0, 0, 0, 0, 0)), (.dup, (0, 0, 0, 0, 0)), (.getfield 240, (12, 2, 0, 0, 0)), (.iconst 1, (0, 0, 0, 1, 0)), (.iadd, (0, 0, 0, 0, 0)), (.putfield 240, (12, 2, 0, 0, 0)), (.goto (-84), (0, 58, 0, 0, 0))] [some (20, 1600, 178)] (by decide +kernel) rfl ⟨⟨trivial, (r_177_0 hR)⟩, (in_n (n := 1600) (by decide) g6.1 g6.2)⟩ ?_
        obtain ⟨x7, ex7, hf⟩ := bnd_s hf
        refine m_B_cg (ls' := [some (mR (12, 0, 177)), some (mJ x7), none]) (st' := []) (S' := (L, m_up I 177 2 ((I 177 2) + (1 : Int32)), J, R)) (by first | with_reducible rfl | rw [ex7]) (by first | with_reducible rfl | rw [ex7]) (by first | with_reducible rfl | rw [ex7]) ?_
        cases hf
        exact hk
      · have hf := if_t h5 hf
        refine b_blk (pc' := 104) (ls' := [some (mR (12, 0, 177)), some (mJ v1), none]) (st' := [mI (I 177 2), mI 1, mR (12, 0, 177)]) (S' := (L, I, J, R)) (P := True) [(.aload_n 0, (0, 0, 0, 0, 0)), (.iconst 1, (0, 0, 0, 1, 0)), (.aload_n 0, (0, 0, 0, 0, 0)), (.getfield 240, (12, 2, 0, 0, 0))] [] (by decide +kernel) rfl trivial ?_
        obtain ⟨r8, hc8, hf⟩ := bnd_o hf
        refine b_cV (as := [mI 1, mI (I 177 2)]) (st := []) (by decide +kernel) k_12_264 n_MD_fail rfl (by decide) v_MD_fail (C_MD_fail I J (1 : Int32) (I 177 2) hR hc8) (Nat.le_of_ble_eq_true rfl) (by decide) rfl rfl (fun _ h => h) ?_
        show m_B G (m_rm 4 0 0) M_MD_name Q 0 0 107 [some (mR (12, 0, 177)), some (mJ v1), none] [] (L, r8, J, R)
        refine b_blk (pc' := 108) (ls' := [some (mR (12, 0, 177)), some (mJ v1), none]) (st' := [mJ 0]) (S' := (L, r8, J, R)) (P := True) [(.lconst 0, (0, 0, 0, 0, 0))] [] (by decide +kernel) rfl trivial ?_
        cases hf
        exact b_lret (by decide +kernel) rfl hk
noncomputable def F_MD_name (I : MI) : Option (Int64 × MI) :=
  if (I 177 5) = (0 : Int32) then ((F_MD_look I).bind fun r2 => (F_MD_isLetter r2.1).bind fun r3 => if r3 = (0 : Int32) then ((F_MD_fail r2.2 (1 : Int32) (r2.2 177 2)).bind fun r5 => some ((0 : Int64), r5)) else (if (r2.2 177 2) = (r2.2 177 4) then ((F_MD_fail r2.2 (1 : Int32) (r2.2 177 2)).bind fun r7 => some ((0 : Int64), r7)) else ((F_MD_isOwnHere r2.2).bind fun r8 => if r8.1 = (0 : Int32) then ((wl (fun s : Int64 × MI => F_MD_name_58 s.2 s.1) ((0 : Int64), m_up r8.2 177 35 (r8.2 177 2))).bind <| sel (fun q => some q) fun t10 => some ((t10.1 : Int64), m_up t10.2 177 4 (t10.2 177 2))) else ((F_MD_fail r8.2 (1 : Int32) (r8.2 177 2)).bind fun r11 => some ((0 : Int64), r11))))) else (some ((0 : Int64), I))
set_option maxRecDepth 100000 in
set_option maxHeartbeats 400000 in
theorem W_MD_name {G : MG} {Q : Option MV → MS → Prop} {L : List (Nat × Nat)} {R : Nat → Nat → Option MRef} (I : MI) (J : MJ) (hR : RF R) {r : Int64 × MI} (hf : F_MD_name I = some r) (hk : (fun r : Int64 × MI => Q (some (mJ r.1)) (L, r.2, J, R)) r) : m_B G (m_rm 4 0 0) M_MD_name Q 0 0 0 [some (mR (12, 0, 177)), none, none] [] (L, I, J, R) := by
  unfold F_MD_name at hf
  refine b_blk (pc' := 4) (ls' := [some (mR (12, 0, 177)), none, none]) (st' := [mI (I 177 5)]) (S' := (L, I, J, R)) (P := True) [(.aload_n 0, (0, 0, 0, 0, 0)), (.getfield 234, (12, 5, 0, 0, 0))] [] (by decide +kernel) rfl trivial ?_
  refine b_if_eq (off := 5) (tgt := 9) (by decide +kernel) (by decide) (fun h1 => ?_) (fun h1 => ?_)
  · have hf := if_t h1 hf
    refine b_blk (pc' := 10) (ls' := [some (mR (12, 0, 177)), none, none]) (st' := [mR (12, 0, 177)]) (S' := (L, I, J, R)) (P := True) [(.aload_n 0, (0, 0, 0, 0, 0))] [] (by decide +kernel) rfl trivial ?_
    obtain ⟨r2, hc2, hf⟩ := bnd_o hf
    refine b_cV (as := []) (st := []) (by decide +kernel) k_12_246 n_MD_look rfl (by decide) v_MD_look (C_MD_look I J hR hc2) (Nat.le_of_ble_eq_true rfl) (by decide) rfl rfl (fun _ h => h) ?_
    show m_B G (m_rm 4 0 0) M_MD_name Q 0 0 13 [some (mR (12, 0, 177)), none, none] [mI r2.1] (L, r2.2, J, R)
    obtain ⟨r3, hc3, hf⟩ := bnd_o hf
    refine b_cS (as := [mI r2.1]) (st := []) (by decide +kernel) k_12_250 n_MD_isLetter s_MD_isLetter (C_MD_isLetter r2.2 J r2.1 hR hc3) (Nat.le_of_ble_eq_true rfl) (by decide) rfl rfl (fun _ h => h) ?_
    show m_B G (m_rm 4 0 0) M_MD_name Q 0 0 16 [some (mR (12, 0, 177)), none, none] [mI r3] (L, r2.2, J, R)
    refine b_if_eq (off := 21) (tgt := 37) (by decide +kernel) (by decide) (fun h4 => ?_) (fun h4 => ?_)
    · have hf := if_t h4 hf
      refine b_blk (pc' := 43) (ls' := [some (mR (12, 0, 177)), none, none]) (st' := [mI (r2.2 177 2), mI 1, mR (12, 0, 177)]) (S' := (L, r2.2, J, R)) (P := True) [(.aload_n 0, (0, 0, 0, 0, 0)), (.iconst 1, (0, 0, 0, 1, 0)), (.aload_n 0, (0, 0, 0, 0, 0)), (.getfield 240, (12, 2, 0, 0, 0))] [] (by decide +kernel) rfl trivial ?_
      obtain ⟨r5, hc5, hf⟩ := bnd_o hf
      refine b_cV (as := [mI 1, mI (r2.2 177 2)]) (st := []) (by decide +kernel) k_12_264 n_MD_fail rfl (by decide) v_MD_fail (C_MD_fail r2.2 J (1 : Int32) (r2.2 177 2) hR hc5) (Nat.le_of_ble_eq_true rfl) (by decide) rfl rfl (fun _ h => h) ?_
      show m_B G (m_rm 4 0 0) M_MD_name Q 0 0 46 [some (mR (12, 0, 177)), none, none] [] (L, r5, J, R)
      refine b_blk (pc' := 47) (ls' := [some (mR (12, 0, 177)), none, none]) (st' := [mJ 0]) (S' := (L, r5, J, R)) (P := True) [(.lconst 0, (0, 0, 0, 0, 0))] [] (by decide +kernel) rfl trivial ?_
      cases hf
      exact b_lret (by decide +kernel) rfl hk
    · have hf := if_f h4 hf
      refine b_blk (pc' := 27) (ls' := [some (mR (12, 0, 177)), none, none]) (st' := [mI (r2.2 177 4), mI (r2.2 177 2)]) (S' := (L, r2.2, J, R)) (P := True) [(.aload_n 0, (0, 0, 0, 0, 0)), (.getfield 240, (12, 2, 0, 0, 0)), (.aload_n 0, (0, 0, 0, 0, 0)), (.getfield 254, (12, 4, 0, 0, 0))] [] (by decide +kernel) rfl trivial ?_
      refine b_icmp_eq (off := 10) (tgt := 37) (by decide +kernel) (by decide) (fun h6 => ?_) (fun h6 => ?_)
      · have hf := if_t h6 hf
        refine b_blk (pc' := 43) (ls' := [some (mR (12, 0, 177)), none, none]) (st' := [mI (r2.2 177 2), mI 1, mR (12, 0, 177)]) (S' := (L, r2.2, J, R)) (P := True) [(.aload_n 0, (0, 0, 0, 0, 0)), (.iconst 1, (0, 0, 0, 1, 0)), (.aload_n 0, (0, 0, 0, 0, 0)), (.getfield 240, (12, 2, 0, 0, 0))] [] (by decide +kernel) rfl trivial ?_
        obtain ⟨r7, hc7, hf⟩ := bnd_o hf
        refine b_cV (as := [mI 1, mI (r2.2 177 2)]) (st := []) (by decide +kernel) k_12_264 n_MD_fail rfl (by decide) v_MD_fail (C_MD_fail r2.2 J (1 : Int32) (r2.2 177 2) hR hc7) (Nat.le_of_ble_eq_true rfl) (by decide) rfl rfl (fun _ h => h) ?_
        show m_B G (m_rm 4 0 0) M_MD_name Q 0 0 46 [some (mR (12, 0, 177)), none, none] [] (L, r7, J, R)
        refine b_blk (pc' := 47) (ls' := [some (mR (12, 0, 177)), none, none]) (st' := [mJ 0]) (S' := (L, r7, J, R)) (P := True) [(.lconst 0, (0, 0, 0, 0, 0))] [] (by decide +kernel) rfl trivial ?_
        cases hf
        exact b_lret (by decide +kernel) rfl hk
      · have hf := if_f h6 hf
        refine b_blk (pc' := 31) (ls' := [some (mR (12, 0, 177)), none, none]) (st' := [mR (12, 0, 177)]) (S' := (L, r2.2, J, R)) (P := True) [(.aload_n 0, (0, 0, 0, 0, 0))] [] (by decide +kernel) rfl trivial ?_
        obtain ⟨r8, hc8, hf⟩ := bnd_o hf
        refine b_cV (as := []) (st := []) (by decide +kernel) k_12_281 n_MD_isOwnHere rfl (by decide) v_MD_isOwnHere (C_MD_isOwnHere r2.2 J hR hc8) (Nat.le_of_ble_eq_true rfl) (by decide) rfl rfl (fun _ h => h) ?_
        show m_B G (m_rm 4 0 0) M_MD_name Q 0 0 34 [some (mR (12, 0, 177)), none, none] [mI r8.1] (L, r8.2, J, R)
        refine b_if_eq (off := 14) (tgt := 48) (by decide +kernel) (by decide) (fun h9 => ?_) (fun h9 => ?_)
        · have hf := if_t h9 hf
          refine b_blk (pc' := 58) (ls' := [some (mR (12, 0, 177)), some (mJ 0), none]) (st' := []) (S' := (L, m_up r8.2 177 35 (r8.2 177 2), J, R)) (P := True) [(.aload_n 0, (0, 0, 0, 0, 0)), (.aload_n 0, (0, 0, 0, 0, 0)), (.getfield 240, (12, 2, 0, 0, 0)), (.putfield 285, (12, 35, 0, 0, 0)), (.lconst 0, (0, 0, 0, 0, 0)), (.lstore_n 1, (0, 0, 0, 0, 0))] [] (by decide +kernel) rfl trivial ?_
          obtain ⟨t10, hw, hf⟩ := bnd_o hf
          refine wl_B (A := fun s : Int64 × MI => m_B G (m_rm 4 0 0) M_MD_name Q 0 0 58 [some (mR (12, 0, 177)), some (mJ s.1), none] [] (L, s.2, J, R)) (B := (Sum.elim (fun s : Int64 × MI => m_B G (m_rm 4 0 0) M_MD_name Q 0 0 145 [some (mR (12, 0, 177)), some (mJ s.1), none] [] (L, s.2, J, R)) (fun r : Int64 × MI => Q (some (mJ r.1)) (L, r.2, J, R)))) (fun s r hs hr => W_MD_name_58 s.2 J s.1 hR hs hr) hw ?_
          rcases t10 with t10 | q
          rotate_left
          · cases se_r hf; exact hk
          replace hf := se_l hf
          show m_B G (m_rm 4 0 0) M_MD_name Q 0 0 145 [some (mR (12, 0, 177)), some (mJ t10.1), none] [] (L, t10.2, J, R)
          refine b_blk (pc' := 154) (ls' := [some (mR (12, 0, 177)), some (mJ t10.1), none]) (st' := [mJ t10.1]) (S' := (L, m_up t10.2 177 4 (t10.2 177 2), J, R)) (P := True) [(.aload_n 0, (0, 0, 0, 0, 0)), (.aload_n 0, (0, 0, 0, 0, 0)), (.getfield 240, (12, 2, 0, 0, 0)), (.putfield 254, (12, 4, 0, 0, 0)), (.lload_n 1, (0, 0, 0, 0, 0))] [] (by decide +kernel) rfl trivial ?_
          cases hf
          exact b_lret (by decide +kernel) rfl hk
        · have hf := if_f h9 hf
          refine b_blk (pc' := 43) (ls' := [some (mR (12, 0, 177)), none, none]) (st' := [mI (r8.2 177 2), mI 1, mR (12, 0, 177)]) (S' := (L, r8.2, J, R)) (P := True) [(.aload_n 0, (0, 0, 0, 0, 0)), (.iconst 1, (0, 0, 0, 1, 0)), (.aload_n 0, (0, 0, 0, 0, 0)), (.getfield 240, (12, 2, 0, 0, 0))] [] (by decide +kernel) rfl trivial ?_
          obtain ⟨r11, hc11, hf⟩ := bnd_o hf
          refine b_cV (as := [mI 1, mI (r8.2 177 2)]) (st := []) (by decide +kernel) k_12_264 n_MD_fail rfl (by decide) v_MD_fail (C_MD_fail r8.2 J (1 : Int32) (r8.2 177 2) hR hc11) (Nat.le_of_ble_eq_true rfl) (by decide) rfl rfl (fun _ h => h) ?_
          show m_B G (m_rm 4 0 0) M_MD_name Q 0 0 46 [some (mR (12, 0, 177)), none, none] [] (L, r11, J, R)
          refine b_blk (pc' := 47) (ls' := [some (mR (12, 0, 177)), none, none]) (st' := [mJ 0]) (S' := (L, r11, J, R)) (P := True) [(.lconst 0, (0, 0, 0, 0, 0))] [] (by decide +kernel) rfl trivial ?_
          cases hf
          exact b_lret (by decide +kernel) rfl hk
  · have hf := if_f h1 hf
    refine b_blk (pc' := 8) (ls' := [some (mR (12, 0, 177)), none, none]) (st' := [mJ 0]) (S' := (L, I, J, R)) (P := True) [(.lconst 0, (0, 0, 0, 0, 0))] [] (by decide +kernel) rfl trivial ?_
    cases hf
    exact b_lret (by decide +kernel) rfl hk
theorem C_MD_name {G : MG} {L : List (Nat × Nat)} {R : Nat → Nat → Option MRef} (I : MI) (J : MJ) (hR : RF R) {r : Int64 × MI} (hf : F_MD_name I = some r) : m_met G 4 0 0 y_MD_name M_MD_name [mR (12, 0, 177)] (L, I, J, R) (m_is (some (mJ r.1)) (L, r.2, J, R)) :=
  m_met_in n_MD_name (plainFor_of_name (by decide)) (by decide) (Nat.le_of_ble_eq_true rfl) (ls := [some (mR (12, 0, 177)), none, none]) rfl (W_MD_name I J hR hf ⟨rfl, rfl⟩)
