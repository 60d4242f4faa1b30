/-! the class: its Reader as functions -/
noncomputable def F_Reader_isBlank (sd : Nat) (v0 : Int32) : Option (Int32) :=
  if v0 = (10 : Int32) then (some (1 : Int32)) else (if v0 = (32 : Int32) then (some (1 : Int32)) else (some (0 : Int32)))
set_option maxRecDepth 100000 in
set_option maxHeartbeats 400000 in
theorem W_Reader_isBlank {G : MG} {Q : Option MV → MS → Prop} {L : List (Nat × Nat)} {R : Nat → Nat → Option MRef} (sd : Nat) (I : MI) (J : MJ) (v0 : Int32) (hR : RF R) (ht : R 19 4 = some (8, 0, sd)) (hqd : sd = 3 ∨ sd = 11) {r : Int32} (hf : F_Reader_isBlank sd v0 = some r) (hk : (fun r : Int32 => Q (some (mI r)) (L, I, J, R)) r) : m_B G (m_rm 1 0 0) M_Reader_isBlank Q 0 0 0 [some (mI v0)] [] (L, I, J, R) := by
  unfold F_Reader_isBlank at hf
  refine b_blk (pc' := 3) (ls' := [some (mI v0)]) (st' := [mI 10, mI v0]) (S' := (L, I, J, R)) (P := True) [(.iload_n 0, (0, 0, 0, 0, 0)), (.bipush 10, (0, 0, 0, 10, 0))] [] (by decide +kernel) rfl trivial ?_
  refine b_icmp_eq (off := 9) (tgt := 12) (by decide +kernel) (by decide) (fun h1 => ?_) (fun h1 => ?_)
  · have hf := if_t h1 hf
    refine b_blk (pc' := 17) (ls' := [some (mI v0)]) (st' := [mI 1]) (S' := (L, I, J, R)) (P := True) [(.iconst 1, (0, 0, 0, 1, 0)), (.goto 4, (0, 17, 0, 0, 0))] [] (by decide +kernel) rfl trivial ?_
    cases hf
    exact b_zret (by decide +kernel) rfl (by decide) hk
  · have hf := if_f h1 hf
    refine b_blk (pc' := 9) (ls' := [some (mI v0)]) (st' := [mI 32, mI v0]) (S' := (L, I, J, R)) (P := True) [(.iload_n 0, (0, 0, 0, 0, 0)), (.bipush 32, (0, 0, 0, 32, 0))] [] (by decide +kernel) rfl trivial ?_
    refine b_icmp_ne (off := 7) (tgt := 16) (by decide +kernel) (by decide) (fun h2 => ?_) (fun h2 => ?_)
    · have hf := if_f h2 hf
      refine b_blk (pc' := 17) (ls' := [some (mI v0)]) (st' := [mI 0]) (S' := (L, I, J, R)) (P := True) [(.iconst 0, (0, 0, 0, 0, 0))] [] (by decide +kernel) rfl trivial ?_
      cases hf
      exact b_zret (by decide +kernel) rfl (by decide) hk
    · have hf := if_t h2 hf
      refine b_blk (pc' := 17) (ls' := [some (mI v0)]) (st' := [mI 1]) (S' := (L, I, J, R)) (P := True) [(.iconst 1, (0, 0, 0, 1, 0)), (.goto 4, (0, 17, 0, 0, 0))] [] (by decide +kernel) rfl trivial ?_
      cases hf
      exact b_zret (by decide +kernel) rfl (by decide) hk
theorem C_Reader_isBlank {G : MG} {L : List (Nat × Nat)} {R : Nat → Nat → Option MRef} (sd : Nat) (I : MI) (J : MJ) (v0 : Int32) (hR : RF R) (ht : R 19 4 = some (8, 0, sd)) (hqd : sd = 3 ∨ sd = 11) {r : Int32} (hf : F_Reader_isBlank sd v0 = some r) : m_met G 1 0 0 y_Reader_isBlank M_Reader_isBlank [mI v0] (L, I, J, R) (m_is (some (mI r)) (L, I, J, R)) :=
  m_met_in n_Reader_isBlank (plainFor_of_name (by decide)) (by decide) (Nat.le_of_ble_eq_true rfl) (ls := [some (mI v0)]) rfl (W_Reader_isBlank sd I J v0 hR ht hqd hf ⟨rfl, rfl⟩)
noncomputable def F_Reader_isLetter (sd : Nat) (v0 : Int32) : Option (Int32) :=
  if v0 < (97 : Int32) then (some (0 : Int32)) else (if (122 : Int32) < v0 then (some (0 : Int32)) else (some (1 : Int32)))
set_option maxRecDepth 100000 in
set_option maxHeartbeats 400000 in
theorem W_Reader_isLetter {G : MG} {Q : Option MV → MS → Prop} {L : List (Nat × Nat)} {R : Nat → Nat → Option MRef} (sd : Nat) (I : MI) (J : MJ) (v0 : Int32) (hR : RF R) (ht : R 19 4 = some (8, 0, sd)) (hqd : sd = 3 ∨ sd = 11) {r : Int32} (hf : F_Reader_isLetter sd v0 = some r) (hk : (fun r : Int32 => Q (some (mI r)) (L, I, J, R)) r) : m_B G (m_rm 1 0 0) M_Reader_isLetter Q 0 0 0 [some (mI v0)] [] (L, I, J, R) := by
  unfold F_Reader_isLetter at hf
  refine b_blk (pc' := 3) (ls' := [some (mI v0)]) (st' := [mI 97, mI v0]) (S' := (L, I, J, R)) (P := True) [(.iload_n 0, (0, 0, 0, 0, 0)), (.bipush 97, (0, 0, 0, 97, 0))] [] (by decide +kernel) rfl trivial ?_
  refine b_icmp_lt (off := 13) (tgt := 16) (by decide +kernel) (by decide) (fun h1 => ?_) (fun h1 => ?_)
  · have hf := if_t h1 hf
    refine b_blk (pc' := 17) (ls' := [some (mI v0)]) (st' := [mI 0]) (S' := (L, I, J, R)) (P := True) [(.iconst 0, (0, 0, 0, 0, 0))] [] (by decide +kernel) rfl trivial ?_
    cases hf
    exact b_zret (by decide +kernel) rfl (by decide) hk
  · have hf := if_f h1 hf
    refine b_blk (pc' := 9) (ls' := [some (mI v0)]) (st' := [mI 122, mI v0]) (S' := (L, I, J, R)) (P := True) [(.iload_n 0, (0, 0, 0, 0, 0)), (.bipush 122, (0, 0, 0, 122, 0))] [] (by decide +kernel) rfl trivial ?_
    refine b_icmp_gt (off := 7) (tgt := 16) (by decide +kernel) (by decide) (fun h2 => ?_) (fun h2 => ?_)
    · have hf := if_t h2 hf
      refine b_blk (pc' := 17) (ls' := [some (mI v0)]) (st' := [mI 0]) (S' := (L, I, J, R)) (P := True) [(.iconst 0, (0, 0, 0, 0, 0))] [] (by decide +kernel) rfl trivial ?_
      cases hf
      exact b_zret (by decide +kernel) rfl (by decide) hk
    · have hf := if_f h2 hf
      refine b_blk (pc' := 17) (ls' := [some (mI v0)]) (st' := [mI 1]) (S' := (L, I, J, R)) (P := True) [(.iconst 1, (0, 0, 0, 1, 0)), (.goto 4, (0, 17, 0, 0, 0))] [] (by decide +kernel) rfl trivial ?_
      cases hf
      exact b_zret (by decide +kernel) rfl (by decide) hk
theorem C_Reader_isLetter {G : MG} {L : List (Nat × Nat)} {R : Nat → Nat → Option MRef} (sd : Nat) (I : MI) (J : MJ) (v0 : Int32) (hR : RF R) (ht : R 19 4 = some (8, 0, sd)) (hqd : sd = 3 ∨ sd = 11) {r : Int32} (hf : F_Reader_isLetter sd v0 = some r) : m_met G 1 0 0 y_Reader_isLetter M_Reader_isLetter [mI v0] (L, I, J, R) (m_is (some (mI r)) (L, I, J, R)) :=
  m_met_in n_Reader_isLetter (plainFor_of_name (by decide)) (by decide) (Nat.le_of_ble_eq_true rfl) (ls := [some (mI v0)]) rfl (W_Reader_isLetter sd I J v0 hR ht hqd hf ⟨rfl, rfl⟩)
noncomputable def F_Reader_isDigit (sd : Nat) (v0 : Int32) : Option (Int32) :=
  if v0 < (48 : Int32) then (some (0 : Int32)) else (if (57 : Int32) < v0 then (some (0 : Int32)) else (some (1 : Int32)))
set_option maxRecDepth 100000 in
set_option maxHeartbeats 400000 in
theorem W_Reader_isDigit {G : MG} {Q : Option MV → MS → Prop} {L : List (Nat × Nat)} {R : Nat → Nat → Option MRef} (sd : Nat) (I : MI) (J : MJ) (v0 : Int32) (hR : RF R) (ht : R 19 4 = some (8, 0, sd)) (hqd : sd = 3 ∨ sd = 11) {r : Int32} (hf : F_Reader_isDigit sd v0 = some r) (hk : (fun r : Int32 => Q (some (mI r)) (L, I, J, R)) r) : m_B G (m_rm 1 0 0) M_Reader_isDigit Q 0 0 0 [some (mI v0)] [] (L, I, J, R) := by
  unfold F_Reader_isDigit at hf
  refine b_blk (pc' := 3) (ls' := [some (mI v0)]) (st' := [mI 48, mI v0]) (S' := (L, I, J, R)) (P := True) [(.iload_n 0, (0, 0, 0, 0, 0)), (.bipush 48, (0, 0, 0, 48, 0))] [] (by decide +kernel) rfl trivial ?_
  refine b_icmp_lt (off := 13) (tgt := 16) (by decide +kernel) (by decide) (fun h1 => ?_) (fun h1 => ?_)
  · have hf := if_t h1 hf
    refine b_blk (pc' := 17) (ls' := [some (mI v0)]) (st' := [mI 0]) (S' := (L, I, J, R)) (P := True) [(.iconst 0, (0, 0, 0, 0, 0))] [] (by decide +kernel) rfl trivial ?_
    cases hf
    exact b_zret (by decide +kernel) rfl (by decide) hk
  · have hf := if_f h1 hf
    refine b_blk (pc' := 9) (ls' := [some (mI v0)]) (st' := [mI 57, mI v0]) (S' := (L, I, J, R)) (P := True) [(.iload_n 0, (0, 0, 0, 0, 0)), (.bipush 57, (0, 0, 0, 57, 0))] [] (by decide +kernel) rfl trivial ?_
    refine b_icmp_gt (off := 7) (tgt := 16) (by decide +kernel) (by decide) (fun h2 => ?_) (fun h2 => ?_)
    · have hf := if_t h2 hf
      refine b_blk (pc' := 17) (ls' := [some (mI v0)]) (st' := [mI 0]) (S' := (L, I, J, R)) (P := True) [(.iconst 0, (0, 0, 0, 0, 0))] [] (by decide +kernel) rfl trivial ?_
      cases hf
      exact b_zret (by decide +kernel) rfl (by decide) hk
    · have hf := if_f h2 hf
      refine b_blk (pc' := 17) (ls' := [some (mI v0)]) (st' := [mI 1]) (S' := (L, I, J, R)) (P := True) [(.iconst 1, (0, 0, 0, 1, 0)), (.goto 4, (0, 17, 0, 0, 0))] [] (by decide +kernel) rfl trivial ?_
      cases hf
      exact b_zret (by decide +kernel) rfl (by decide) hk
theorem C_Reader_isDigit {G : MG} {L : List (Nat × Nat)} {R : Nat → Nat → Option MRef} (sd : Nat) (I : MI) (J : MJ) (v0 : Int32) (hR : RF R) (ht : R 19 4 = some (8, 0, sd)) (hqd : sd = 3 ∨ sd = 11) {r : Int32} (hf : F_Reader_isDigit sd v0 = some r) : m_met G 1 0 0 y_Reader_isDigit M_Reader_isDigit [mI v0] (L, I, J, R) (m_is (some (mI r)) (L, I, J, R)) :=
  m_met_in n_Reader_isDigit (plainFor_of_name (by decide)) (by decide) (Nat.le_of_ble_eq_true rfl) (ls := [some (mI v0)]) rfl (W_Reader_isDigit sd I J v0 hR ht hqd hf ⟨rfl, rfl⟩)
noncomputable def F_Reader_wordNumber_9 (sd : Nat) (I : MI) (v1 : Int32) (v2 : Int32) (v3 : Int32) : Option ((Int32 × Int32 × Int32) ⊕ ((Unit) ⊕ (Int32))) :=
  if (147 : Int32) ≤ v3 then (some (.inr (.inl ()))) else (gd v3 147 <| if (wch v3) = (32 : Int32) then (if v2 = (I 19 8) then (some (.inr (.inr (v1 : Int32)))) else (some (.inl ((v1 + 1 : Int32), (I 19 7 : Int32), (v3 + 1 : Int32))))) else (if v2 < (0 : Int32) then (some (.inl ((v1 : Int32), ((-1) : Int32), (v3 + 1 : Int32)))) else (if (I 19 8) ≤ v2 then (some (.inl ((v1 : Int32), ((-1) : Int32), (v3 + 1 : Int32)))) else (gd v2 1600 <| if (I 2 v2.toNatClampNeg) = (wch v3) then (some (.inl ((v1 : Int32), (v2 + (1 : Int32) : Int32), (v3 + 1 : Int32)))) else (some (.inl ((v1 : Int32), ((-1) : Int32), (v3 + 1 : Int32))))))))
set_option maxRecDepth 100000 in
set_option maxHeartbeats 400000 in
theorem W_Reader_wordNumber_9 {G : MG} {Q : Option MV → MS → Prop} {L : List (Nat × Nat)} {R : Nat → Nat → Option MRef} (sd : Nat) (I : MI) (J : MJ) (v1 : Int32) (v2 : Int32) (v3 : Int32) (hR : RF R) (ht : R 19 4 = some (8, 0, sd)) (hqd : sd = 3 ∨ sd = 11) {r : (Int32 × Int32 × Int32) ⊕ ((Unit) ⊕ (Int32))} (hf : F_Reader_wordNumber_9 sd I v1 v2 v3 = some r) (hk : (Sum.elim (fun s : Int32 × Int32 × Int32 => m_B G (m_rm 5 0 0) M_Reader_wordNumber Q 0 0 9 [some (mR (5, 0, 19)), some (mI s.1), some (mI s.2.1), some (mI s.2.2), none] [] (L, I, J, R)) (Sum.elim (fun s : Unit => m_B G (m_rm 5 0 0) M_Reader_wordNumber Q 0 0 94 [none, none, none, none, none] [] (L, I, J, R)) (fun r : Int32 => Q (some (mI r)) (L, I, J, R)))) r) : m_B G (m_rm 5 0 0) M_Reader_wordNumber Q 0 0 9 [some (mR (5, 0, 19)), some (mI v1), some (mI v2), some (mI v3), none] [] (L, I, J, R) := by
  unfold F_Reader_wordNumber_9 at hf
  refine b_blk (pc' := 10) (ls' := [some (mR (5, 0, 19)), some (mI v1), some (mI v2), some (mI v3), none]) (st' := [mI v3]) (S' := (L, I, J, R)) (P := True) [(.iload_n 3, (0, 0, 0, 0, 0))] [] (by decide +kernel) rfl trivial ?_
  refine b_slen (by decide +kernel) (by decide +kernel) rfl (Nat.le_of_ble_eq_true rfl) (by decide) ?_
  show m_B G (m_rm 5 0 0) M_Reader_wordNumber Q 0 0 15 [some (mR (5, 0, 19)), some (mI v1), some (mI v2), some (mI v3), none] [mI 147, mI v3] (L, I, J, R)
  refine b_icmp_ge (off := 79) (tgt := 94) (by decide +kernel) (by decide) (fun h1 => ?_) (fun h1 => ?_)
  · have hf := if_t h1 hf
    refine b_frg 0 ?_
    refine b_frg 1 ?_
    refine b_frg 2 ?_
    refine b_frg 3 ?_
    cases hf
    exact hk
  · have hf := if_f h1 hf
    obtain ⟨g2, hf⟩ := gd_s hf
    refine b_schar (x := v3) (by decide +kernel) (by decide +kernel) (by decide +kernel) rfl rfl (in_n (n := 147) (by decide) g2.1 g2.2) (Nat.le_of_ble_eq_true rfl) (by decide) ?_
    show m_B G (m_rm 5 0 0) M_Reader_wordNumber Q 0 0 24 [some (mR (5, 0, 19)), some (mI v1), some (mI v2), some (mI v3), none] [mI (wch v3)] (L, I, J, R)
    refine b_blk (pc' := 30) (ls' := [some (mR (5, 0, 19)), some (mI v1), some (mI v2), some (mI v3), some (mI (wch v3))]) (st' := [mI 32, mI (wch v3)]) (S' := (L, I, J, R)) (P := True) [(.istore 4, (0, 0, 0, 0, 0)), (.iload 4, (0, 0, 0, 0, 0)), (.bipush 32, (0, 0, 0, 32, 0))] [] (by decide +kernel) rfl trivial ?_
    refine b_icmp_ne (off := 24) (tgt := 54) (by decide +kernel) (by decide) (fun h3 => ?_) (fun h3 => ?_)
    · have hf := if_f h3 hf
      refine b_blk (pc' := 55) (ls' := [some (mR (5, 0, 19)), some (mI v1), some (mI v2), some (mI v3), some (mI (wch v3))]) (st' := [mI v2]) (S' := (L, I, J, R)) (P := True) [(.iload_n 2, (0, 0, 0, 0, 0))] [] (by decide +kernel) rfl trivial ?_
      refine b_if_lt (off := 31) (tgt := 86) (by decide +kernel) (by decide) (fun h4 => ?_) (fun h4 => ?_)
      · have hf := if_t h4 hf
        refine b_blk (pc' := 9) (ls' := [some (mR (5, 0, 19)), some (mI v1), some (mI (-1)), some (mI (v3 + 1)), some (mI (wch v3))]) (st' := []) (S' := (L, I, J, R)) (P := True) [(.iconst (-1), (0, 0, 0, (-1), 0)), (.istore_n 2, (0, 0, 0, 0, 0)), (.iinc 3 1, (0, 0, 0, 1, 0)), (.goto (-82), (0, 9, 0, 0, 0))] [] (by decide +kernel) rfl trivial ?_
        refine b_frg 4 ?_
        cases hf
        exact hk
      · have hf := if_f h4 hf
        refine b_blk (pc' := 63) (ls' := [some (mR (5, 0, 19)), some (mI v1), some (mI v2), some (mI v3), some (mI (wch v3))]) (st' := [mI (I 19 8), mI v2]) (S' := (L, I, J, R)) (P := True) [(.iload_n 2, (0, 0, 0, 0, 0)), (.aload_n 0, (0, 0, 0, 0, 0)), (.getfield 106, (5, 8, 0, 0, 0))] [] (by decide +kernel) rfl trivial ?_
        refine b_icmp_ge (off := 23) (tgt := 86) (by decide +kernel) (by decide) (fun h5 => ?_) (fun h5 => ?_)
        · have hf := if_t h5 hf
          refine b_blk (pc' := 9) (ls' := [some (mR (5, 0, 19)), some (mI v1), some (mI (-1)), some (mI (v3 + 1)), some (mI (wch v3))]) (st' := []) (S' := (L, I, J, R)) (P := True) [(.iconst (-1), (0, 0, 0, (-1), 0)), (.istore_n 2, (0, 0, 0, 0, 0)), (.iinc 3 1, (0, 0, 0, 1, 0)), (.goto (-82), (0, 9, 0, 0, 0))] [] (by decide +kernel) rfl trivial ?_
          refine b_frg 4 ?_
          cases hf
          exact hk
        · have hf := if_f h5 hf
          obtain ⟨g6, hf⟩ := gd_s hf
          refine b_blk (pc' := 77) (ls' := [some (mR (5, 0, 19)), some (mI v1), some (mI v2), some (mI v3), some (mI (wch v3))]) (st' := [mI (wch v3), mI (I 2 v2.toNatClampNeg)]) (S' := (L, I, J, R)) (P := (((True ∧ R 19 0 = some (9, 0, 1)) ∧ R 1 0 = some (22, 1600, 2)) ∧ vp_in v2 1600)) [(.aload_n 0, (0, 0, 0, 0, 0)), (.getfield 15, (5, 0, 3, 0, 0)), (.getfield 141, (9, 0, 3, 0, 0)), (.iload_n 2, (0, 0, 0, 0, 0)), (.baload, (0, 0, 0, 0, 0)), (.iload 4, (0, 0, 0, 0, 0))] [some (9, 0, 1), some (22, 1600, 2)] (by decide +kernel) rfl ⟨⟨⟨trivial, (r_19_0 hR)⟩, (r_1_0 hR)⟩, (in_n (n := 1600) (by decide) g6.1 g6.2)⟩ ?_
          refine b_icmp_ne (off := 9) (tgt := 86) (by decide +kernel) (by decide) (fun h7 => ?_) (fun h7 => ?_)
          · have hf := if_f h7 hf
            refine b_blk (pc' := 9) (ls' := [some (mR (5, 0, 19)), some (mI v1), some (mI (-1)), some (mI (v3 + 1)), some (mI (wch v3))]) (st' := []) (S' := (L, I, J, R)) (P := True) [(.iconst (-1), (0, 0, 0, (-1), 0)), (.istore_n 2, (0, 0, 0, 0, 0)), (.iinc 3 1, (0, 0, 0, 1, 0)), (.goto (-82), (0, 9, 0, 0, 0))] [] (by decide +kernel) rfl trivial ?_
            refine b_frg 4 ?_
            cases hf
            exact hk
          · have hf := if_t h7 hf
            refine b_blk (pc' := 87) (ls' := [some (mR (5, 0, 19)), some (mI v1), some (mI v2), some (mI v3), some (mI (wch v3))]) (st' := [mI (v2 + (1 : Int32))]) (S' := (L, I, J, R)) (P := True) [(.iload_n 2, (0, 0, 0, 0, 0)), (.iconst 1, (0, 0, 0, 1, 0)), (.iadd, (0, 0, 0, 0, 0)), (.goto 4, (0, 87, 0, 0, 0))] [] (by decide +kernel) rfl trivial ?_
            refine b_blk (pc' := 9) (ls' := [some (mR (5, 0, 19)), some (mI v1), some (mI (v2 + (1 : Int32))), some (mI (v3 + 1)), some (mI (wch v3))]) (st' := []) (S' := (L, I, J, R)) (P := True) [(.istore_n 2, (0, 0, 0, 0, 0)), (.iinc 3 1, (0, 0, 0, 1, 0)), (.goto (-82), (0, 9, 0, 0, 0))] [] (by decide +kernel) rfl trivial ?_
            refine b_frg 4 ?_
            cases hf
            exact hk
    · have hf := if_t h3 hf
      refine b_blk (pc' := 38) (ls' := [some (mR (5, 0, 19)), some (mI v1), some (mI v2), some (mI v3), some (mI (wch v3))]) (st' := [mI (I 19 8), mI v2]) (S' := (L, I, J, R)) (P := True) [(.iload_n 2, (0, 0, 0, 0, 0)), (.aload_n 0, (0, 0, 0, 0, 0)), (.getfield 106, (5, 8, 0, 0, 0))] [] (by decide +kernel) rfl trivial ?_
      refine b_icmp_ne (off := 5) (tgt := 43) (by decide +kernel) (by decide) (fun h8 => ?_) (fun h8 => ?_)
      · have hf := if_f h8 hf
        refine b_blk (pc' := 88) (ls' := [some (mR (5, 0, 19)), some (mI (v1 + 1)), some (mI (I 19 7)), some (mI v3), some (mI (wch v3))]) (st' := []) (S' := (L, I, J, R)) (P := True) [(.iinc 1 1, (0, 0, 0, 1, 0)), (.aload_n 0, (0, 0, 0, 0, 0)), (.getfield 66, (5, 7, 0, 0, 0)), (.istore_n 2, (0, 0, 0, 0, 0)), (.goto 37, (0, 88, 0, 0, 0))] [] (by decide +kernel) rfl trivial ?_
        refine b_blk (pc' := 9) (ls' := [some (mR (5, 0, 19)), some (mI (v1 + 1)), some (mI (I 19 7)), some (mI (v3 + 1)), some (mI (wch v3))]) (st' := []) (S' := (L, I, J, R)) (P := True) [(.iinc 3 1, (0, 0, 0, 1, 0)), (.goto (-82), (0, 9, 0, 0, 0))] [] (by decide +kernel) rfl trivial ?_
        refine b_frg 4 ?_
        cases hf
        exact hk
      · have hf := if_t h8 hf
        refine b_blk (pc' := 42) (ls' := [some (mR (5, 0, 19)), some (mI v1), some (mI v2), some (mI v3), some (mI (wch v3))]) (st' := [mI v1]) (S' := (L, I, J, R)) (P := True) [(.iload_n 1, (0, 0, 0, 0, 0))] [] (by decide +kernel) rfl trivial ?_
        cases hf
        exact b_iret (by decide +kernel) rfl hk
noncomputable def F_Reader_wordNumber (sd : Nat) (I : MI) : Option (Int32) :=
  (wl (fun s : Int32 × Int32 × Int32 => F_Reader_wordNumber_9 sd I s.1 s.2.1 s.2.2) ((0 : Int32), (I 19 7 : Int32), (0 : Int32))).bind <| sel (fun q => some q) fun t1 => some ((-1) : Int32)
set_option maxRecDepth 100000 in
set_option maxHeartbeats 400000 in
theorem W_Reader_wordNumber {G : MG} {Q : Option MV → MS → Prop} {L : List (Nat × Nat)} {R : Nat → Nat → Option MRef} (sd : Nat) (I : MI) (J : MJ) (hR : RF R) (ht : R 19 4 = some (8, 0, sd)) (hqd : sd = 3 ∨ sd = 11) {r : Int32} (hf : F_Reader_wordNumber sd I = some r) (hk : (fun r : Int32 => Q (some (mI r)) (L, I, J, R)) r) : m_B G (m_rm 5 0 0) M_Reader_wordNumber Q 0 0 0 [some (mR (5, 0, 19)), none, none, none, none] [] (L, I, J, R) := by
  unfold F_Reader_wordNumber at hf
  refine b_blk (pc' := 9) (ls' := [some (mR (5, 0, 19)), some (mI 0), some (mI (I 19 7)), some (mI 0), none]) (st' := []) (S' := (L, I, J, R)) (P := True) [(.iconst 0, (0, 0, 0, 0, 0)), (.istore_n 1, (0, 0, 0, 0, 0)), (.aload_n 0, (0, 0, 0, 0, 0)), (.getfield 66, (5, 7, 0, 0, 0)), (.istore_n 2, (0, 0, 0, 0, 0)), (.iconst 0, (0, 0, 0, 0, 0)), (.istore_n 3, (0, 0, 0, 0, 0))] [] (by decide +kernel) rfl trivial ?_
  obtain ⟨t1, hw, hf⟩ := bnd_o hf
  refine wl_B (A := fun s : Int32 × Int32 × Int32 => m_B G (m_rm 5 0 0) M_Reader_wordNumber Q 0 0 9 [some (mR (5, 0, 19)), some (mI s.1), some (mI s.2.1), some (mI s.2.2), none] [] (L, I, J, R)) (B := (Sum.elim (fun s : Unit => m_B G (m_rm 5 0 0) M_Reader_wordNumber Q 0 0 94 [none, none, none, none, none] [] (L, I, J, R)) (fun r : Int32 => Q (some (mI r)) (L, I, J, R)))) (fun s r hs hr => W_Reader_wordNumber_9 sd I J s.1 s.2.1 s.2.2 hR ht hqd hs hr) hw ?_
  rcases t1 with t1 | q
  rotate_left
  · cases se_r hf; exact hk
  replace hf := se_l hf
  show m_B G (m_rm 5 0 0) M_Reader_wordNumber Q 0 0 94 [none, none, none, none, none] [] (L, I, J, R)
  refine b_blk (pc' := 95) (ls' := [none, none, none, none, none]) (st' := [mI (-1)]) (S' := (L, I, J, R)) (P := True) [(.iconst (-1), (0, 0, 0, (-1), 0))] [] (by decide +kernel) rfl trivial ?_
  cases hf
  exact b_iret (by decide +kernel) rfl hk
theorem C_Reader_wordNumber {G : MG} {L : List (Nat × Nat)} {R : Nat → Nat → Option MRef} (sd : Nat) (I : MI) (J : MJ) (hR : RF R) (ht : R 19 4 = some (8, 0, sd)) (hqd : sd = 3 ∨ sd = 11) {r : Int32} (hf : F_Reader_wordNumber sd I = some r) : m_met G 5 0 0 y_Reader_wordNumber M_Reader_wordNumber [mR (5, 0, 19)] (L, I, J, R) (m_is (some (mI r)) (L, I, J, R)) :=
  m_met_in n_Reader_wordNumber (plainFor_of_name (by decide)) (by decide) (Nat.le_of_ble_eq_true rfl) (ls := [some (mR (5, 0, 19)), none, none, none, none]) rfl (W_Reader_wordNumber sd I J hR ht hqd hf ⟨rfl, rfl⟩)
noncomputable def F_Reader_advance_39 (sd : Nat) (I : MI) (v1 : Int32) (v2 : Int32) : Option ((MI) ⊕ (MI)) :=
  if (I 1 1) ≤ (I 19 7) then (some (.inr I)) else ((F_Tape_byteAt I (I 19 7)).bind fun r2 => (F_Reader_isBlank sd r2).bind fun r3 => if r3 = (0 : Int32) then (some (.inr I)) else (some (.inl (m_up I 19 7 ((I 19 7) + (1 : Int32))))))
set_option maxRecDepth 100000 in
set_option maxHeartbeats 400000 in
theorem W_Reader_advance_39 {G : MG} {Q : Option MV → MS → Prop} {L : List (Nat × Nat)} {R : Nat → Nat → Option MRef} (sd : Nat) (I : MI) (J : MJ) (v1 : Int32) (v2 : Int32) (hR : RF R) (ht : R 19 4 = some (8, 0, sd)) (hqd : sd = 3 ∨ sd = 11) {r : (MI) ⊕ (MI)} (hf : F_Reader_advance_39 sd I v1 v2 = some r) (hk : (Sum.elim (fun s : MI => m_B G (m_rm 6 0 0) M_Reader_advance Q 0 0 39 [some (mR (5, 0, 19)), some (mI v1), some (mI v2), none] [] (L, s, J, R)) (fun s : MI => m_B G (m_rm 6 0 0) M_Reader_advance Q 0 0 83 [some (mR (5, 0, 19)), some (mI v1), some (mI v2), none] [] (L, s, J, R))) r) : m_B G (m_rm 6 0 0) M_Reader_advance Q 0 0 39 [some (mR (5, 0, 19)), some (mI v1), some (mI v2), none] [] (L, I, J, R) := by
  unfold F_Reader_advance_39 at hf
  refine b_blk (pc' := 50) (ls' := [some (mR (5, 0, 19)), some (mI v1), some (mI v2), none]) (st' := [mI (I 1 1), mI (I 19 7)]) (S' := (L, I, J, R)) (P := (True ∧ R 19 0 = some (9, 0, 1))) [(.aload_n 0, (0, 0, 0, 0, 0)), (.getfield 66, (5, 7, 0, 0, 0)), (.aload_n 0, (0, 0, 0, 0, 0)), (.getfield 15, (5, 0, 3, 0, 0)), (.getfield 109, (9, 1, 0, 0, 0))] [some (9, 0, 1)] (by decide +kernel) rfl ⟨trivial, (r_19_0 hR)⟩ ?_
  refine b_icmp_ge (off := 33) (tgt := 83) (by decide +kernel) (by decide) (fun h1 => ?_) (fun h1 => ?_)
  · have hf := if_t h1 hf
    cases hf
    exact hk
  · have hf := if_f h1 hf
    refine b_blk (pc' := 61) (ls' := [some (mR (5, 0, 19)), some (mI v1), some (mI v2), none]) (st' := [mI (I 19 7), mR (9, 0, 1)]) (S' := (L, I, J, R)) (P := (True ∧ R 19 0 = some (9, 0, 1))) [(.aload_n 0, (0, 0, 0, 0, 0)), (.getfield 15, (5, 0, 3, 0, 0)), (.aload_n 0, (0, 0, 0, 0, 0)), (.getfield 66, (5, 7, 0, 0, 0))] [some (9, 0, 1)] (by decide +kernel) rfl ⟨trivial, (r_19_0 hR)⟩ ?_
    obtain ⟨r2, hc2, hf⟩ := bnd_o hf
    refine b_cV (as := [mI (I 19 7)]) (st := []) (by decide +kernel) k_5_114 n_Tape_byteAt rfl (by decide) v_Tape_byteAt (C_Tape_byteAt I J (I 19 7) hR hc2) (Nat.le_of_ble_eq_true rfl) (by decide) rfl rfl (fun _ h => h) ?_
    show m_B G (m_rm 6 0 0) M_Reader_advance Q 0 0 64 [some (mR (5, 0, 19)), some (mI v1), some (mI v2), none] [mI r2] (L, I, J, R)
    obtain ⟨r3, hc3, hf⟩ := bnd_o hf
    refine b_cS (as := [mI r2]) (st := []) (by decide +kernel) k_5_118 n_Reader_isBlank s_Reader_isBlank (C_Reader_isBlank sd I J r2 hR ht hqd hc3) (Nat.le_of_ble_eq_true rfl) (by decide) rfl rfl (fun _ h => h) ?_
    show m_B G (m_rm 6 0 0) M_Reader_advance Q 0 0 67 [some (mR (5, 0, 19)), some (mI v1), some (mI v2), none] [mI r3] (L, I, J, R)
    refine b_if_eq (off := 16) (tgt := 83) (by decide +kernel) (by decide) (fun h4 => ?_) (fun h4 => ?_)
    · have hf := if_t h4 hf
      cases hf
      exact hk
    · have hf := if_f h4 hf
      refine b_blk (pc' := 39) (ls' := [some (mR (5, 0, 19)), some (mI v1), some (mI v2), none]) (st' := []) (S' := (L, m_up I 19 7 ((I 19 7) + (1 : Int32)), J, R)) (P := True) [(.aload_n 0, (0, 0, 0, 0, 0)), (.dup, (0, 0, 0, 0, 0)), (.getfield 66, (5, 7, 0, 0, 0)), (.iconst 1, (0, 0, 0, 1, 0)), (.iadd, (0, 0, 0, 0, 0)), (.putfield 66, (5, 7, 0, 0, 0)), (.goto (-41), (0, 39, 0, 0, 0))] [] (by decide +kernel) rfl trivial ?_
      cases hf
      exact hk
noncomputable def F_Reader_advance_263 (sd : Nat) (I : MI) (v1 : Int32) (v2 : Int32) : Option (MI) :=
  if v1 = (0 : Int32) then (some I) else (if (I 19 7) = v2 then (if (I 19 6) = (256 : Int32) then (some (m_up I 19 6 (259 : Int32))) else (if (I 19 6) = (257 : Int32) then (some (m_up I 19 6 (259 : Int32))) else (some I))) else (some I))
set_option maxRecDepth 100000 in
set_option maxHeartbeats 400000 in
theorem W_Reader_advance_263 {G : MG} {Q : Option MV → MS → Prop} {L : List (Nat × Nat)} {R : Nat → Nat → Option MRef} (sd : Nat) (I : MI) (J : MJ) (v1 : Int32) (v2 : Int32) (hR : RF R) (ht : R 19 4 = some (8, 0, sd)) (hqd : sd = 3 ∨ sd = 11) {r : MI} (hf : F_Reader_advance_263 sd I v1 v2 = some r) (hk : (fun r : MI => Q (none) (L, r, J, R)) r) : m_B G (m_rm 6 0 0) M_Reader_advance Q 0 0 263 [some (mR (5, 0, 19)), some (mI v1), some (mI v2), none] [] (L, I, J, R) := by
  unfold F_Reader_advance_263 at hf
  refine b_blk (pc' := 264) (ls' := [some (mR (5, 0, 19)), some (mI v1), some (mI v2), none]) (st' := [mI v1]) (S' := (L, I, J, R)) (P := True) [(.iload_n 1, (0, 0, 0, 0, 0))] [] (by decide +kernel) rfl trivial ?_
  refine b_if_eq (off := 38) (tgt := 302) (by decide +kernel) (by decide) (fun h1 => ?_) (fun h1 => ?_)
  · have hf := if_t h1 hf
    cases hf
    exact b_vret (by decide +kernel) rfl hk
  · have hf := if_f h1 hf
    refine b_blk (pc' := 272) (ls' := [some (mR (5, 0, 19)), some (mI v1), some (mI v2), none]) (st' := [mI v2, mI (I 19 7)]) (S' := (L, I, J, R)) (P := True) [(.aload_n 0, (0, 0, 0, 0, 0)), (.getfield 66, (5, 7, 0, 0, 0)), (.iload_n 2, (0, 0, 0, 0, 0))] [] (by decide +kernel) rfl trivial ?_
    refine b_icmp_ne (off := 30) (tgt := 302) (by decide +kernel) (by decide) (fun h2 => ?_) (fun h2 => ?_)
    · have hf := if_f h2 hf
      cases hf
      exact b_vret (by decide +kernel) rfl hk
    · have hf := if_t h2 hf
      refine b_blk (pc' := 282) (ls' := [some (mR (5, 0, 19)), some (mI v1), some (mI v2), none]) (st' := [mI 256, mI (I 19 6)]) (S' := (L, I, J, R)) (P := True) [(.aload_n 0, (0, 0, 0, 0, 0)), (.getfield 39, (5, 6, 0, 0, 0)), (.sipush 256, (0, 0, 0, 256, 0))] [] (by decide +kernel) rfl trivial ?_
      refine b_icmp_eq (off := 13) (tgt := 295) (by decide +kernel) (by decide) (fun h3 => ?_) (fun h3 => ?_)
      · have hf := if_t h3 hf
        refine b_blk (pc' := 302) (ls' := [some (mR (5, 0, 19)), some (mI v1), some (mI v2), none]) (st' := []) (S' := (L, m_up I 19 6 (259 : Int32), J, R)) (P := True) [(.aload_n 0, (0, 0, 0, 0, 0)), (.sipush 259, (0, 0, 0, 259, 0)), (.putfield 39, (5, 6, 0, 0, 0))] [] (by decide +kernel) rfl trivial ?_
        cases hf
        exact b_vret (by decide +kernel) rfl hk
      · have hf := if_f h3 hf
        refine b_blk (pc' := 292) (ls' := [some (mR (5, 0, 19)), some (mI v1), some (mI v2), none]) (st' := [mI 257, mI (I 19 6)]) (S' := (L, I, J, R)) (P := True) [(.aload_n 0, (0, 0, 0, 0, 0)), (.getfield 39, (5, 6, 0, 0, 0)), (.sipush 257, (0, 0, 0, 257, 0))] [] (by decide +kernel) rfl trivial ?_
        refine b_icmp_ne (off := 10) (tgt := 302) (by decide +kernel) (by decide) (fun h4 => ?_) (fun h4 => ?_)
        · have hf := if_f h4 hf
          cases hf
          exact b_vret (by decide +kernel) rfl hk
        · have hf := if_t h4 hf
          refine b_blk (pc' := 302) (ls' := [some (mR (5, 0, 19)), some (mI v1), some (mI v2), none]) (st' := []) (S' := (L, m_up I 19 6 (259 : Int32), J, R)) (P := True) [(.aload_n 0, (0, 0, 0, 0, 0)), (.sipush 259, (0, 0, 0, 259, 0)), (.putfield 39, (5, 6, 0, 0, 0))] [] (by decide +kernel) rfl trivial ?_
          cases hf
          exact b_vret (by decide +kernel) rfl hk
noncomputable def F_Reader_advance_194 (sd : Nat) (I : MI) (v1 : Int32) (v2 : Int32) : Option ((MI) ⊕ (MI)) :=
  if (I 1 1) ≤ (I 19 8) then (some (.inr I)) else ((F_Tape_byteAt I (I 19 8)).bind fun r2 => (F_Reader_isDigit sd r2).bind fun r3 => if r3 = (0 : Int32) then (some (.inr I)) else (some (.inl (m_up I 19 8 ((I 19 8) + (1 : Int32))))))
set_option maxRecDepth 100000 in
set_option maxHeartbeats 400000 in
theorem W_Reader_advance_194 {G : MG} {Q : Option MV → MS → Prop} {L : List (Nat × Nat)} {R : Nat → Nat → Option MRef} (sd : Nat) (I : MI) (J : MJ) (v1 : Int32) (v2 : Int32) (hR : RF R) (ht : R 19 4 = some (8, 0, sd)) (hqd : sd = 3 ∨ sd = 11) {r : (MI) ⊕ (MI)} (hf : F_Reader_advance_194 sd I v1 v2 = some r) (hk : (Sum.elim (fun s : MI => m_B G (m_rm 6 0 0) M_Reader_advance Q 0 0 194 [some (mR (5, 0, 19)), some (mI v1), some (mI v2), none] [] (L, s, J, R)) (fun s : MI => m_B G (m_rm 6 0 0) M_Reader_advance Q 0 0 238 [some (mR (5, 0, 19)), some (mI v1), some (mI v2), none] [] (L, s, J, R))) r) : m_B G (m_rm 6 0 0) M_Reader_advance Q 0 0 194 [some (mR (5, 0, 19)), some (mI v1), some (mI v2), none] [] (L, I, J, R) := by
  unfold F_Reader_advance_194 at hf
  refine b_blk (pc' := 205) (ls' := [some (mR (5, 0, 19)), some (mI v1), some (mI v2), none]) (st' := [mI (I 1 1), mI (I 19 8)]) (S' := (L, I, J, R)) (P := (True ∧ R 19 0 = some (9, 0, 1))) [(.aload_n 0, (0, 0, 0, 0, 0)), (.getfield 106, (5, 8, 0, 0, 0)), (.aload_n 0, (0, 0, 0, 0, 0)), (.getfield 15, (5, 0, 3, 0, 0)), (.getfield 109, (9, 1, 0, 0, 0))] [some (9, 0, 1)] (by decide +kernel) rfl ⟨trivial, (r_19_0 hR)⟩ ?_
  refine b_icmp_ge (off := 33) (tgt := 238) (by decide +kernel) (by decide) (fun h1 => ?_) (fun h1 => ?_)
  · have hf := if_t h1 hf
    cases hf
    exact hk
  · have hf := if_f h1 hf
    refine b_blk (pc' := 216) (ls' := [some (mR (5, 0, 19)), some (mI v1), some (mI v2), none]) (st' := [mI (I 19 8), mR (9, 0, 1)]) (S' := (L, I, J, R)) (P := (True ∧ R 19 0 = some (9, 0, 1))) [(.aload_n 0, (0, 0, 0, 0, 0)), (.getfield 15, (5, 0, 3, 0, 0)), (.aload_n 0, (0, 0, 0, 0, 0)), (.getfield 106, (5, 8, 0, 0, 0))] [some (9, 0, 1)] (by decide +kernel) rfl ⟨trivial, (r_19_0 hR)⟩ ?_
    obtain ⟨r2, hc2, hf⟩ := bnd_o hf
    refine b_cV (as := [mI (I 19 8)]) (st := []) (by decide +kernel) k_5_114 n_Tape_byteAt rfl (by decide) v_Tape_byteAt (C_Tape_byteAt I J (I 19 8) hR hc2) (Nat.le_of_ble_eq_true rfl) (by decide) rfl rfl (fun _ h => h) ?_
    show m_B G (m_rm 6 0 0) M_Reader_advance Q 0 0 219 [some (mR (5, 0, 19)), some (mI v1), some (mI v2), none] [mI r2] (L, I, J, R)
    obtain ⟨r3, hc3, hf⟩ := bnd_o hf
    refine b_cS (as := [mI r2]) (st := []) (by decide +kernel) k_5_128 n_Reader_isDigit s_Reader_isDigit (C_Reader_isDigit sd I J r2 hR ht hqd hc3) (Nat.le_of_ble_eq_true rfl) (by decide) rfl rfl (fun _ h => h) ?_
    show m_B G (m_rm 6 0 0) M_Reader_advance Q 0 0 222 [some (mR (5, 0, 19)), some (mI v1), some (mI v2), none] [mI r3] (L, I, J, R)
    refine b_if_eq (off := 16) (tgt := 238) (by decide +kernel) (by decide) (fun h4 => ?_) (fun h4 => ?_)
    · have hf := if_t h4 hf
      cases hf
      exact hk
    · have hf := if_f h4 hf
      refine b_blk (pc' := 194) (ls' := [some (mR (5, 0, 19)), some (mI v1), some (mI v2), none]) (st' := []) (S' := (L, m_up I 19 8 ((I 19 8) + (1 : Int32)), J, R)) (P := True) [(.aload_n 0, (0, 0, 0, 0, 0)), (.dup, (0, 0, 0, 0, 0)), (.getfield 106, (5, 8, 0, 0, 0)), (.iconst 1, (0, 0, 0, 1, 0)), (.iadd, (0, 0, 0, 0, 0)), (.putfield 106, (5, 8, 0, 0, 0)), (.goto (-41), (0, 194, 0, 0, 0))] [] (by decide +kernel) rfl trivial ?_
      cases hf
      exact hk
noncomputable def F_Reader_advance_238 (sd : Nat) (I : MI) (v1 : Int32) (v2 : Int32) : Option (MI) :=
  F_Reader_advance_263 sd (m_up I 19 6 (257 : Int32)) v1 v2
set_option maxRecDepth 100000 in
set_option maxHeartbeats 400000 in
theorem W_Reader_advance_238 {G : MG} {Q : Option MV → MS → Prop} {L : List (Nat × Nat)} {R : Nat → Nat → Option MRef} (sd : Nat) (I : MI) (J : MJ) (v1 : Int32) (v2 : Int32) (hR : RF R) (ht : R 19 4 = some (8, 0, sd)) (hqd : sd = 3 ∨ sd = 11) {r : MI} (hf : F_Reader_advance_238 sd I v1 v2 = some r) (hk : (fun r : MI => Q (none) (L, r, J, R)) r) : m_B G (m_rm 6 0 0) M_Reader_advance Q 0 0 238 [some (mR (5, 0, 19)), some (mI v1), some (mI v2), none] [] (L, I, J, R) := by
  unfold F_Reader_advance_238 at hf
  refine b_blk (pc' := 263) (ls' := [some (mR (5, 0, 19)), some (mI v1), some (mI v2), none]) (st' := []) (S' := (L, m_up I 19 6 (257 : Int32), J, R)) (P := True) [(.aload_n 0, (0, 0, 0, 0, 0)), (.sipush 257, (0, 0, 0, 257, 0)), (.putfield 39, (5, 6, 0, 0, 0)), (.goto 18, (0, 263, 0, 0, 0))] [] (by decide +kernel) rfl trivial ?_
  exact m_B_cg rfl rfl rfl (W_Reader_advance_263 sd (m_up I 19 6 (257 : Int32)) J v1 v2 hR ht hqd hf hk)
noncomputable def F_Reader_advance_125 (sd : Nat) (I : MI) (v1 : Int32) (v2 : Int32) : Option ((MI) ⊕ (MI)) :=
  if (I 1 1) ≤ (I 19 8) then (some (.inr I)) else ((F_Tape_byteAt I (I 19 8)).bind fun r2 => (F_Reader_isLetter sd r2).bind fun r3 => if r3 = (0 : Int32) then (some (.inr I)) else (some (.inl (m_up I 19 8 ((I 19 8) + (1 : Int32))))))
set_option maxRecDepth 100000 in
set_option maxHeartbeats 400000 in
theorem W_Reader_advance_125 {G : MG} {Q : Option MV → MS → Prop} {L : List (Nat × Nat)} {R : Nat → Nat → Option MRef} (sd : Nat) (I : MI) (J : MJ) (v1 : Int32) (v2 : Int32) (hR : RF R) (ht : R 19 4 = some (8, 0, sd)) (hqd : sd = 3 ∨ sd = 11) {r : (MI) ⊕ (MI)} (hf : F_Reader_advance_125 sd I v1 v2 = some r) (hk : (Sum.elim (fun s : MI => m_B G (m_rm 6 0 0) M_Reader_advance Q 0 0 125 [some (mR (5, 0, 19)), some (mI v1), some (mI v2), none] [] (L, s, J, R)) (fun s : MI => m_B G (m_rm 6 0 0) M_Reader_advance Q 0 0 169 [some (mR (5, 0, 19)), some (mI v1), some (mI v2), none] [] (L, s, J, R))) r) : m_B G (m_rm 6 0 0) M_Reader_advance Q 0 0 125 [some (mR (5, 0, 19)), some (mI v1), some (mI v2), none] [] (L, I, J, R) := by
  unfold F_Reader_advance_125 at hf
  refine b_blk (pc' := 136) (ls' := [some (mR (5, 0, 19)), some (mI v1), some (mI v2), none]) (st' := [mI (I 1 1), mI (I 19 8)]) (S' := (L, I, J, R)) (P := (True ∧ R 19 0 = some (9, 0, 1))) [(.aload_n 0, (0, 0, 0, 0, 0)), (.getfield 106, (5, 8, 0, 0, 0)), (.aload_n 0, (0, 0, 0, 0, 0)), (.getfield 15, (5, 0, 3, 0, 0)), (.getfield 109, (9, 1, 0, 0, 0))] [some (9, 0, 1)] (by decide +kernel) rfl ⟨trivial, (r_19_0 hR)⟩ ?_
  refine b_icmp_ge (off := 33) (tgt := 169) (by decide +kernel) (by decide) (fun h1 => ?_) (fun h1 => ?_)
  · have hf := if_t h1 hf
    cases hf
    exact hk
  · have hf := if_f h1 hf
    refine b_blk (pc' := 147) (ls' := [some (mR (5, 0, 19)), some (mI v1), some (mI v2), none]) (st' := [mI (I 19 8), mR (9, 0, 1)]) (S' := (L, I, J, R)) (P := (True ∧ R 19 0 = some (9, 0, 1))) [(.aload_n 0, (0, 0, 0, 0, 0)), (.getfield 15, (5, 0, 3, 0, 0)), (.aload_n 0, (0, 0, 0, 0, 0)), (.getfield 106, (5, 8, 0, 0, 0))] [some (9, 0, 1)] (by decide +kernel) rfl ⟨trivial, (r_19_0 hR)⟩ ?_
    obtain ⟨r2, hc2, hf⟩ := bnd_o hf
    refine b_cV (as := [mI (I 19 8)]) (st := []) (by decide +kernel) k_5_114 n_Tape_byteAt rfl (by decide) v_Tape_byteAt (C_Tape_byteAt I J (I 19 8) hR hc2) (Nat.le_of_ble_eq_true rfl) (by decide) rfl rfl (fun _ h => h) ?_
    show m_B G (m_rm 6 0 0) M_Reader_advance Q 0 0 150 [some (mR (5, 0, 19)), some (mI v1), some (mI v2), none] [mI r2] (L, I, J, R)
    obtain ⟨r3, hc3, hf⟩ := bnd_o hf
    refine b_cS (as := [mI r2]) (st := []) (by decide +kernel) k_5_121 n_Reader_isLetter s_Reader_isLetter (C_Reader_isLetter sd I J r2 hR ht hqd hc3) (Nat.le_of_ble_eq_true rfl) (by decide) rfl rfl (fun _ h => h) ?_
    show m_B G (m_rm 6 0 0) M_Reader_advance Q 0 0 153 [some (mR (5, 0, 19)), some (mI v1), some (mI v2), none] [mI r3] (L, I, J, R)
    refine b_if_eq (off := 16) (tgt := 169) (by decide +kernel) (by decide) (fun h4 => ?_) (fun h4 => ?_)
    · have hf := if_t h4 hf
      cases hf
      exact hk
    · have hf := if_f h4 hf
      refine b_blk (pc' := 125) (ls' := [some (mR (5, 0, 19)), some (mI v1), some (mI v2), none]) (st' := []) (S' := (L, m_up I 19 8 ((I 19 8) + (1 : Int32)), J, R)) (P := True) [(.aload_n 0, (0, 0, 0, 0, 0)), (.dup, (0, 0, 0, 0, 0)), (.getfield 106, (5, 8, 0, 0, 0)), (.iconst 1, (0, 0, 0, 1, 0)), (.iadd, (0, 0, 0, 0, 0)), (.putfield 106, (5, 8, 0, 0, 0)), (.goto (-41), (0, 125, 0, 0, 0))] [] (by decide +kernel) rfl trivial ?_
      cases hf
      exact hk
noncomputable def F_Reader_advance_169 (sd : Nat) (I : MI) (v1 : Int32) (v2 : Int32) : Option (MI) :=
  (F_Reader_wordNumber sd I).bind fun r1 => F_Reader_advance_263 sd (m_up (m_up I 19 9 r1) 19 6 (256 : Int32)) v1 v2
set_option maxRecDepth 100000 in
set_option maxHeartbeats 400000 in
theorem W_Reader_advance_169 {G : MG} {Q : Option MV → MS → Prop} {L : List (Nat × Nat)} {R : Nat → Nat → Option MRef} (sd : Nat) (I : MI) (J : MJ) (v1 : Int32) (v2 : Int32) (hR : RF R) (ht : R 19 4 = some (8, 0, sd)) (hqd : sd = 3 ∨ sd = 11) {r : MI} (hf : F_Reader_advance_169 sd I v1 v2 = some r) (hk : (fun r : MI => Q (none) (L, r, J, R)) r) : m_B G (m_rm 6 0 0) M_Reader_advance Q 0 0 169 [some (mR (5, 0, 19)), some (mI v1), some (mI v2), none] [] (L, I, J, R) := by
  unfold F_Reader_advance_169 at hf
  refine b_blk (pc' := 171) (ls' := [some (mR (5, 0, 19)), some (mI v1), some (mI v2), none]) (st' := [mR (5, 0, 19), mR (5, 0, 19)]) (S' := (L, I, J, R)) (P := True) [(.aload_n 0, (0, 0, 0, 0, 0)), (.aload_n 0, (0, 0, 0, 0, 0))] [] (by decide +kernel) rfl trivial ?_
  obtain ⟨r1, hc1, hf⟩ := bnd_o hf
  refine b_cV (as := []) (st := [mR (5, 0, 19)]) (by decide +kernel) k_5_124 n_Reader_wordNumber rfl (by decide) v_Reader_wordNumber (C_Reader_wordNumber sd I J hR ht hqd hc1) (Nat.le_of_ble_eq_true rfl) (by decide) rfl rfl (fun _ h => h) ?_
  show m_B G (m_rm 6 0 0) M_Reader_advance Q 0 0 174 [some (mR (5, 0, 19)), some (mI v1), some (mI v2), none] [mI r1, mR (5, 0, 19)] (L, I, J, R)
  refine b_blk (pc' := 263) (ls' := [some (mR (5, 0, 19)), some (mI v1), some (mI v2), none]) (st' := []) (S' := (L, m_up (m_up I 19 9 r1) 19 6 (256 : Int32), J, R)) (P := True) [(.putfield 42, (5, 9, 0, 0, 0)), (.aload_n 0, (0, 0, 0, 0, 0)), (.sipush 256, (0, 0, 0, 256, 0)), (.putfield 39, (5, 6, 0, 0, 0)), (.goto 79, (0, 263, 0, 0, 0))] [] (by decide +kernel) rfl trivial ?_
  exact m_B_cg rfl rfl rfl (W_Reader_advance_263 sd (m_up (m_up I 19 9 r1) 19 6 (256 : Int32)) J v1 v2 hR ht hqd hf hk)
noncomputable def F_Reader_advance_83 (sd : Nat) (I : MI) (v1 : Int32) (v2 : Int32) : Option (MI) :=
  (F_Tape_byteAt I (I 19 7)).bind fun r1 => if r1 = (-1 : Int32) then (F_Reader_advance_263 sd (m_up (m_up I 19 8 (I 19 7)) 19 6 (258 : Int32)) v1 v2) else ((F_Reader_isLetter sd r1).bind fun r3 => if r3 = (0 : Int32) then ((F_Reader_isDigit sd r1).bind fun r5 => if r5 = (0 : Int32) then (F_Reader_advance_263 sd (m_up (m_up (m_up I 19 8 (I 19 7)) 19 6 r1) 19 8 ((I 19 7) + (1 : Int32))) v1 v2) else ((wl (fun s : MI => F_Reader_advance_194 sd s v1 v2) (m_up I 19 8 (I 19 7))).bind fun t7 => F_Reader_advance_238 sd t7 v1 v2)) else ((wl (fun s : MI => F_Reader_advance_125 sd s v1 v2) (m_up I 19 8 (I 19 7))).bind fun t8 => F_Reader_advance_169 sd t8 v1 v2))
set_option maxRecDepth 100000 in
set_option maxHeartbeats 400000 in
theorem W_Reader_advance_83 {G : MG} {Q : Option MV → MS → Prop} {L : List (Nat × Nat)} {R : Nat → Nat → Option MRef} (sd : Nat) (I : MI) (J : MJ) (v1 : Int32) (v2 : Int32) (hR : RF R) (ht : R 19 4 = some (8, 0, sd)) (hqd : sd = 3 ∨ sd = 11) {r : MI} (hf : F_Reader_advance_83 sd I v1 v2 = some r) (hk : (fun r : MI => Q (none) (L, r, J, R)) r) : m_B G (m_rm 6 0 0) M_Reader_advance Q 0 0 83 [some (mR (5, 0, 19)), some (mI v1), some (mI v2), none] [] (L, I, J, R) := by
  unfold F_Reader_advance_83 at hf
  refine b_blk (pc' := 91) (ls' := [some (mR (5, 0, 19)), some (mI v1), some (mI v2), none]) (st' := [mI (I 19 7), mR (9, 0, 1)]) (S' := (L, I, J, R)) (P := (True ∧ R 19 0 = some (9, 0, 1))) [(.aload_n 0, (0, 0, 0, 0, 0)), (.getfield 15, (5, 0, 3, 0, 0)), (.aload_n 0, (0, 0, 0, 0, 0)), (.getfield 66, (5, 7, 0, 0, 0))] [some (9, 0, 1)] (by decide +kernel) rfl ⟨trivial, (r_19_0 hR)⟩ ?_
  obtain ⟨r1, hc1, hf⟩ := bnd_o hf
  refine b_cV (as := [mI (I 19 7)]) (st := []) (by decide +kernel) k_5_114 n_Tape_byteAt rfl (by decide) v_Tape_byteAt (C_Tape_byteAt I J (I 19 7) hR hc1) (Nat.le_of_ble_eq_true rfl) (by decide) rfl rfl (fun _ h => h) ?_
  show m_B G (m_rm 6 0 0) M_Reader_advance Q 0 0 94 [some (mR (5, 0, 19)), some (mI v1), some (mI v2), none] [mI r1] (L, I, J, R)
  refine b_blk (pc' := 105) (ls' := [some (mR (5, 0, 19)), some (mI v1), some (mI v2), some (mI r1)]) (st' := [mI (-1), mI r1]) (S' := (L, m_up I 19 8 (I 19 7), J, R)) (P := True) [(.istore_n 3, (0, 0, 0, 0, 0)), (.aload_n 0, (0, 0, 0, 0, 0)), (.aload_n 0, (0, 0, 0, 0, 0)), (.getfield 66, (5, 7, 0, 0, 0)), (.putfield 106, (5, 8, 0, 0, 0)), (.iload_n 3, (0, 0, 0, 0, 0)), (.iconst (-1), (0, 0, 0, (-1), 0))] [] (by decide +kernel) rfl trivial ?_
  refine b_icmp_ne (off := 13) (tgt := 118) (by decide +kernel) (by decide) (fun h2 => ?_) (fun h2 => ?_)
  · have hf := if_f h2 hf
    refine b_blk (pc' := 119) (ls' := [some (mR (5, 0, 19)), some (mI v1), some (mI v2), some (mI r1)]) (st' := [mI r1]) (S' := (L, m_up I 19 8 (I 19 7), J, R)) (P := True) [(.iload_n 3, (0, 0, 0, 0, 0))] [] (by decide +kernel) rfl trivial ?_
    obtain ⟨r3, hc3, hf⟩ := bnd_o hf
    refine b_cS (as := [mI r1]) (st := []) (by decide +kernel) k_5_121 n_Reader_isLetter s_Reader_isLetter (C_Reader_isLetter sd (m_up I 19 8 (I 19 7)) J r1 hR ht hqd hc3) (Nat.le_of_ble_eq_true rfl) (by decide) rfl rfl (fun _ h => h) ?_
    show m_B G (m_rm 6 0 0) M_Reader_advance Q 0 0 122 [some (mR (5, 0, 19)), some (mI v1), some (mI v2), some (mI r1)] [mI r3] (L, m_up I 19 8 (I 19 7), J, R)
    refine b_if_eq (off := 65) (tgt := 187) (by decide +kernel) (by decide) (fun h4 => ?_) (fun h4 => ?_)
    · have hf := if_t h4 hf
      refine b_blk (pc' := 188) (ls' := [some (mR (5, 0, 19)), some (mI v1), some (mI v2), some (mI r1)]) (st' := [mI r1]) (S' := (L, m_up I 19 8 (I 19 7), J, R)) (P := True) [(.iload_n 3, (0, 0, 0, 0, 0))] [] (by decide +kernel) rfl trivial ?_
      obtain ⟨r5, hc5, hf⟩ := bnd_o hf
      refine b_cS (as := [mI r1]) (st := []) (by decide +kernel) k_5_128 n_Reader_isDigit s_Reader_isDigit (C_Reader_isDigit sd (m_up I 19 8 (I 19 7)) J r1 hR ht hqd hc5) (Nat.le_of_ble_eq_true rfl) (by decide) rfl rfl (fun _ h => h) ?_
      show m_B G (m_rm 6 0 0) M_Reader_advance Q 0 0 191 [some (mR (5, 0, 19)), some (mI v1), some (mI v2), some (mI r1)] [mI r5] (L, m_up I 19 8 (I 19 7), J, R)
      refine b_if_eq (off := 57) (tgt := 248) (by decide +kernel) (by decide) (fun h6 => ?_) (fun h6 => ?_)
      · have hf := if_t h6 hf
        refine b_blk (pc' := 263) (ls' := [some (mR (5, 0, 19)), some (mI v1), some (mI v2), some (mI r1)]) (st' := []) (S' := (L, m_up (m_up (m_up I 19 8 (I 19 7)) 19 6 r1) 19 8 ((I 19 7) + (1 : Int32)), J, R)) (P := True) [(.aload_n 0, (0, 0, 0, 0, 0)), (.iload_n 3, (0, 0, 0, 0, 0)), (.putfield 39, (5, 6, 0, 0, 0)), (.aload_n 0, (0, 0, 0, 0, 0)), (.dup, (0, 0, 0, 0, 0)), (.getfield 106, (5, 8, 0, 0, 0)), (.iconst 1, (0, 0, 0, 1, 0)), (.iadd, (0, 0, 0, 0, 0)), (.putfield 106, (5, 8, 0, 0, 0))] [] (by decide +kernel) rfl trivial ?_
        refine b_frg 3 ?_
        exact m_B_cg rfl rfl rfl (W_Reader_advance_263 sd (m_up (m_up (m_up I 19 8 (I 19 7)) 19 6 r1) 19 8 ((I 19 7) + (1 : Int32))) J v1 v2 hR ht hqd hf hk)
      · have hf := if_f h6 hf
        refine b_frg 3 ?_
        obtain ⟨t7, hw, hf⟩ := bnd_o hf
        refine wl_B (A := fun s : MI => m_B G (m_rm 6 0 0) M_Reader_advance Q 0 0 194 [some (mR (5, 0, 19)), some (mI v1), some (mI v2), none] [] (L, s, J, R)) (B := (fun s : MI => m_B G (m_rm 6 0 0) M_Reader_advance Q 0 0 238 [some (mR (5, 0, 19)), some (mI v1), some (mI v2), none] [] (L, s, J, R))) (fun s r hs hr => W_Reader_advance_194 sd s J v1 v2 hR ht hqd hs hr) hw ?_
        show m_B G (m_rm 6 0 0) M_Reader_advance Q 0 0 238 [some (mR (5, 0, 19)), some (mI v1), some (mI v2), none] [] (L, t7, J, R)
        exact m_B_cg rfl rfl rfl (W_Reader_advance_238 sd t7 J v1 v2 hR ht hqd hf hk)
    · have hf := if_f h4 hf
      refine b_frg 3 ?_
      obtain ⟨t8, hw, hf⟩ := bnd_o hf
      refine wl_B (A := fun s : MI => m_B G (m_rm 6 0 0) M_Reader_advance Q 0 0 125 [some (mR (5, 0, 19)), some (mI v1), some (mI v2), none] [] (L, s, J, R)) (B := (fun s : MI => m_B G (m_rm 6 0 0) M_Reader_advance Q 0 0 169 [some (mR (5, 0, 19)), some (mI v1), some (mI v2), none] [] (L, s, J, R))) (fun s r hs hr => W_Reader_advance_125 sd s J v1 v2 hR ht hqd hs hr) hw ?_
      show m_B G (m_rm 6 0 0) M_Reader_advance Q 0 0 169 [some (mR (5, 0, 19)), some (mI v1), some (mI v2), none] [] (L, t8, J, R)
      exact m_B_cg rfl rfl rfl (W_Reader_advance_169 sd t8 J v1 v2 hR ht hqd hf hk)
  · have hf := if_t h2 hf
    refine b_blk (pc' := 263) (ls' := [some (mR (5, 0, 19)), some (mI v1), some (mI v2), some (mI r1)]) (st' := []) (S' := (L, m_up (m_up I 19 8 (I 19 7)) 19 6 (258 : Int32), J, R)) (P := True) [(.aload_n 0, (0, 0, 0, 0, 0)), (.sipush 258, (0, 0, 0, 258, 0)), (.putfield 39, (5, 6, 0, 0, 0)), (.goto 148, (0, 263, 0, 0, 0))] [] (by decide +kernel) rfl trivial ?_
    refine b_frg 3 ?_
    exact m_B_cg rfl rfl rfl (W_Reader_advance_263 sd (m_up (m_up I 19 8 (I 19 7)) 19 6 (258 : Int32)) J v1 v2 hR ht hqd hf hk)
noncomputable def F_Reader_advance_25 (sd : Nat) (I : MI) (y0 : Int32) : Option (MI) :=
  (wl (fun s : MI => F_Reader_advance_39 sd s y0 (I 19 8)) (m_up I 19 7 (I 19 8))).bind fun t1 => F_Reader_advance_83 sd t1 y0 (I 19 8)
set_option maxRecDepth 100000 in
set_option maxHeartbeats 400000 in
theorem W_Reader_advance_25 {G : MG} {Q : Option MV → MS → Prop} {L : List (Nat × Nat)} {R : Nat → Nat → Option MRef} (sd : Nat) (I : MI) (J : MJ) (y0 : Int32) (hR : RF R) (ht : R 19 4 = some (8, 0, sd)) (hqd : sd = 3 ∨ sd = 11) {r : MI} (hf : F_Reader_advance_25 sd I y0 = some r) (hk : (fun r : MI => Q (none) (L, r, J, R)) r) : m_B G (m_rm 6 0 0) M_Reader_advance Q 0 0 25 [some (mR (5, 0, 19)), none, none, none] [mI y0] (L, I, J, R) := by
  unfold F_Reader_advance_25 at hf
  refine b_blk (pc' := 39) (ls' := [some (mR (5, 0, 19)), some (mI y0), some (mI (I 19 8)), none]) (st' := []) (S' := (L, m_up I 19 7 (I 19 8), J, R)) (P := True) [(.istore_n 1, (0, 0, 0, 0, 0)), (.aload_n 0, (0, 0, 0, 0, 0)), (.getfield 106, (5, 8, 0, 0, 0)), (.istore_n 2, (0, 0, 0, 0, 0)), (.aload_n 0, (0, 0, 0, 0, 0)), (.aload_n 0, (0, 0, 0, 0, 0)), (.getfield 106, (5, 8, 0, 0, 0)), (.putfield 66, (5, 7, 0, 0, 0))] [] (by decide +kernel) rfl trivial ?_
  obtain ⟨t1, hw, hf⟩ := bnd_o hf
  refine wl_B (A := fun s : MI => m_B G (m_rm 6 0 0) M_Reader_advance Q 0 0 39 [some (mR (5, 0, 19)), some (mI y0), some (mI (I 19 8)), none] [] (L, s, J, R)) (B := (fun s : MI => m_B G (m_rm 6 0 0) M_Reader_advance Q 0 0 83 [some (mR (5, 0, 19)), some (mI y0), some (mI (I 19 8)), none] [] (L, s, J, R))) (fun s r hs hr => W_Reader_advance_39 sd s J y0 (I 19 8) hR ht hqd hs hr) hw ?_
  show m_B G (m_rm 6 0 0) M_Reader_advance Q 0 0 83 [some (mR (5, 0, 19)), some (mI y0), some (mI (I 19 8)), none] [] (L, t1, J, R)
  exact m_B_cg rfl rfl rfl (W_Reader_advance_83 sd t1 J y0 (I 19 8) hR ht hqd hf hk)
noncomputable def F_Reader_advance_20 (sd : Nat) (I : MI) : Option (MI) :=
  F_Reader_advance_25 sd I (1 : Int32)
set_option maxRecDepth 100000 in
set_option maxHeartbeats 400000 in
theorem W_Reader_advance_20 {G : MG} {Q : Option MV → MS → Prop} {L : List (Nat × Nat)} {R : Nat → Nat → Option MRef} (sd : Nat) (I : MI) (J : MJ) (hR : RF R) (ht : R 19 4 = some (8, 0, sd)) (hqd : sd = 3 ∨ sd = 11) {r : MI} (hf : F_Reader_advance_20 sd I = some r) (hk : (fun r : MI => Q (none) (L, r, J, R)) r) : m_B G (m_rm 6 0 0) M_Reader_advance Q 0 0 20 [some (mR (5, 0, 19)), none, none, none] [] (L, I, J, R) := by
  unfold F_Reader_advance_20 at hf
  refine b_blk (pc' := 25) (ls' := [some (mR (5, 0, 19)), none, none, none]) (st' := [mI 1]) (S' := (L, I, J, R)) (P := True) [(.iconst 1, (0, 0, 0, 1, 0)), (.goto 4, (0, 25, 0, 0, 0))] [] (by decide +kernel) rfl trivial ?_
  exact m_B_cg rfl rfl rfl (W_Reader_advance_25 sd I J (1 : Int32) hR ht hqd hf hk)
noncomputable def F_Reader_advance (sd : Nat) (I : MI) : Option (MI) :=
  if (I 19 6) = (256 : Int32) then (F_Reader_advance_20 sd I) else (if (I 19 6) = (257 : Int32) then (F_Reader_advance_20 sd I) else (F_Reader_advance_25 sd I (0 : Int32)))
set_option maxRecDepth 100000 in
set_option maxHeartbeats 400000 in
theorem W_Reader_advance {G : MG} {Q : Option MV → MS → Prop} {L : List (Nat × Nat)} {R : Nat → Nat → Option MRef} (sd : Nat) (I : MI) (J : MJ) (hR : RF R) (ht : R 19 4 = some (8, 0, sd)) (hqd : sd = 3 ∨ sd = 11) {r : MI} (hf : F_Reader_advance sd I = some r) (hk : (fun r : MI => Q (none) (L, r, J, R)) r) : m_B G (m_rm 6 0 0) M_Reader_advance Q 0 0 0 [some (mR (5, 0, 19)), none, none, none] [] (L, I, J, R) := by
  unfold F_Reader_advance at hf
  refine b_blk (pc' := 7) (ls' := [some (mR (5, 0, 19)), none, none, none]) (st' := [mI 256, mI (I 19 6)]) (S' := (L, I, J, R)) (P := True) [(.aload_n 0, (0, 0, 0, 0, 0)), (.getfield 39, (5, 6, 0, 0, 0)), (.sipush 256, (0, 0, 0, 256, 0))] [] (by decide +kernel) rfl trivial ?_
  refine b_icmp_eq (off := 13) (tgt := 20) (by decide +kernel) (by decide) (fun h1 => ?_) (fun h1 => ?_)
  · have hf := if_t h1 hf
    exact m_B_cg rfl rfl rfl (W_Reader_advance_20 sd I J hR ht hqd hf hk)
  · have hf := if_f h1 hf
    refine b_blk (pc' := 17) (ls' := [some (mR (5, 0, 19)), none, none, none]) (st' := [mI 257, mI (I 19 6)]) (S' := (L, I, J, R)) (P := True) [(.aload_n 0, (0, 0, 0, 0, 0)), (.getfield 39, (5, 6, 0, 0, 0)), (.sipush 257, (0, 0, 0, 257, 0))] [] (by decide +kernel) rfl trivial ?_
    refine b_icmp_ne (off := 7) (tgt := 24) (by decide +kernel) (by decide) (fun h2 => ?_) (fun h2 => ?_)
    · have hf := if_f h2 hf
      refine b_blk (pc' := 25) (ls' := [some (mR (5, 0, 19)), none, none, none]) (st' := [mI 0]) (S' := (L, I, J, R)) (P := True) [(.iconst 0, (0, 0, 0, 0, 0))] [] (by decide +kernel) rfl trivial ?_
      exact m_B_cg rfl rfl rfl (W_Reader_advance_25 sd I J (0 : Int32) hR ht hqd hf hk)
    · have hf := if_t h2 hf
      exact m_B_cg rfl rfl rfl (W_Reader_advance_20 sd I J hR ht hqd hf hk)
theorem C_Reader_advance {G : MG} {L : List (Nat × Nat)} {R : Nat → Nat → Option MRef} (sd : Nat) (I : MI) (J : MJ) (hR : RF R) (ht : R 19 4 = some (8, 0, sd)) (hqd : sd = 3 ∨ sd = 11) {r : MI} (hf : F_Reader_advance sd I = some r) : m_met G 6 0 0 y_Reader_advance M_Reader_advance [mR (5, 0, 19)] (L, I, J, R) (m_is (none) (L, r, J, R)) :=
  m_met_in n_Reader_advance (plainFor_of_name (by decide)) (by decide) (Nat.le_of_ble_eq_true rfl) (ls := [some (mR (5, 0, 19)), none, none, none]) rfl (W_Reader_advance sd I J hR ht hqd hf ⟨rfl, rfl⟩)
noncomputable def F_Reader_wrong (sd : Nat) (I : MI) (v1 : Int32) (v2 : Int32) : Option (Int32 × MI) :=
  some ((0 : Int32), m_up (m_up I 19 1 v1) 19 2 v2)
set_option maxRecDepth 100000 in
set_option maxHeartbeats 400000 in
theorem W_Reader_wrong {G : MG} {Q : Option MV → MS → Prop} {L : List (Nat × Nat)} {R : Nat → Nat → Option MRef} (sd : Nat) (I : MI) (J : MJ) (v1 : Int32) (v2 : Int32) (hR : RF R) (ht : R 19 4 = some (8, 0, sd)) (hqd : sd = 3 ∨ sd = 11) {r : Int32 × MI} (hf : F_Reader_wrong sd I v1 v2 = some r) (hk : (fun r : Int32 × MI => Q (some (mI r.1)) (L, r.2, J, R)) r) : m_B G (m_rm 1 0 0) M_Reader_wrong Q 0 0 0 [some (mR (5, 0, 19)), some (mI v1), some (mI v2)] [] (L, I, J, R) := by
  unfold F_Reader_wrong at hf
  refine b_blk (pc' := 11) (ls' := [some (mR (5, 0, 19)), some (mI v1), some (mI v2)]) (st' := [mI 0]) (S' := (L, m_up (m_up I 19 1 v1) 19 2 v2, J, R)) (P := True) [(.aload_n 0, (0, 0, 0, 0, 0)), (.iload_n 1, (0, 0, 0, 0, 0)), (.putfield 103, (5, 1, 0, 0, 0)), (.aload_n 0, (0, 0, 0, 0, 0)), (.iload_n 2, (0, 0, 0, 0, 0)), (.putfield 9, (5, 2, 0, 0, 0)), (.iconst 0, (0, 0, 0, 0, 0))] [] (by decide +kernel) rfl trivial ?_
  cases hf
  exact b_zret (by decide +kernel) rfl (by decide) hk
theorem C_Reader_wrong {G : MG} {L : List (Nat × Nat)} {R : Nat → Nat → Option MRef} (sd : Nat) (I : MI) (J : MJ) (v1 : Int32) (v2 : Int32) (hR : RF R) (ht : R 19 4 = some (8, 0, sd)) (hqd : sd = 3 ∨ sd = 11) {r : Int32 × MI} (hf : F_Reader_wrong sd I v1 v2 = some r) : m_met G 1 0 0 y_Reader_wrong M_Reader_wrong [mR (5, 0, 19), mI v1, mI v2] (L, I, J, R) (m_is (some (mI r.1)) (L, r.2, J, R)) :=
  m_met_in n_Reader_wrong (plainFor_of_name (by decide)) (by decide) (Nat.le_of_ble_eq_true rfl) (ls := [some (mR (5, 0, 19)), some (mI v1), some (mI v2)]) rfl (W_Reader_wrong sd I J v1 v2 hR ht hqd hf ⟨rfl, rfl⟩)
noncomputable def F_Reader_isWord (sd : Nat) (I : MI) (v1 : Int32) : Option (Int32) :=
  if (I 19 6) = (256 : Int32) then (if (I 19 9) = v1 then (some (1 : Int32)) else (some (0 : Int32))) else (some (0 : Int32))
set_option maxRecDepth 100000 in
set_option maxHeartbeats 400000 in
theorem W_Reader_isWord {G : MG} {Q : Option MV → MS → Prop} {L : List (Nat × Nat)} {R : Nat → Nat → Option MRef} (sd : Nat) (I : MI) (J : MJ) (v1 : Int32) (hR : RF R) (ht : R 19 4 = some (8, 0, sd)) (hqd : sd = 3 ∨ sd = 11) {r : Int32} (hf : F_Reader_isWord sd I v1 = some r) (hk : (fun r : Int32 => Q (some (mI r)) (L, I, J, R)) r) : m_B G (m_rm 1 0 0) M_Reader_isWord Q 0 0 0 [some (mR (5, 0, 19)), some (mI v1)] [] (L, I, J, R) := by
  unfold F_Reader_isWord at hf
  refine b_blk (pc' := 7) (ls' := [some (mR (5, 0, 19)), some (mI v1)]) (st' := [mI 256, mI (I 19 6)]) (S' := (L, I, J, R)) (P := True) [(.aload_n 0, (0, 0, 0, 0, 0)), (.getfield 39, (5, 6, 0, 0, 0)), (.sipush 256, (0, 0, 0, 256, 0))] [] (by decide +kernel) rfl trivial ?_
  refine b_icmp_ne (off := 15) (tgt := 22) (by decide +kernel) (by decide) (fun h1 => ?_) (fun h1 => ?_)
  · have hf := if_f h1 hf
    refine b_blk (pc' := 23) (ls' := [some (mR (5, 0, 19)), some (mI v1)]) (st' := [mI 0]) (S' := (L, I, J, R)) (P := True) [(.iconst 0, (0, 0, 0, 0, 0))] [] (by decide +kernel) rfl trivial ?_
    cases hf
    exact b_zret (by decide +kernel) rfl (by decide) hk
  · have hf := if_t h1 hf
    refine b_blk (pc' := 15) (ls' := [some (mR (5, 0, 19)), some (mI v1)]) (st' := [mI v1, mI (I 19 9)]) (S' := (L, I, J, R)) (P := True) [(.aload_n 0, (0, 0, 0, 0, 0)), (.getfield 42, (5, 9, 0, 0, 0)), (.iload_n 1, (0, 0, 0, 0, 0))] [] (by decide +kernel) rfl trivial ?_
    refine b_icmp_ne (off := 7) (tgt := 22) (by decide +kernel) (by decide) (fun h2 => ?_) (fun h2 => ?_)
    · have hf := if_f h2 hf
      refine b_blk (pc' := 23) (ls' := [some (mR (5, 0, 19)), some (mI v1)]) (st' := [mI 0]) (S' := (L, I, J, R)) (P := True) [(.iconst 0, (0, 0, 0, 0, 0))] [] (by decide +kernel) rfl trivial ?_
      cases hf
      exact b_zret (by decide +kernel) rfl (by decide) hk
    · have hf := if_t h2 hf
      refine b_blk (pc' := 23) (ls' := [some (mR (5, 0, 19)), some (mI v1)]) (st' := [mI 1]) (S' := (L, I, J, R)) (P := True) [(.iconst 1, (0, 0, 0, 1, 0)), (.goto 4, (0, 23, 0, 0, 0))] [] (by decide +kernel) rfl trivial ?_
      cases hf
      exact b_zret (by decide +kernel) rfl (by decide) hk
theorem C_Reader_isWord {G : MG} {L : List (Nat × Nat)} {R : Nat → Nat → Option MRef} (sd : Nat) (I : MI) (J : MJ) (v1 : Int32) (hR : RF R) (ht : R 19 4 = some (8, 0, sd)) (hqd : sd = 3 ∨ sd = 11) {r : Int32} (hf : F_Reader_isWord sd I v1 = some r) : m_met G 1 0 0 y_Reader_isWord M_Reader_isWord [mR (5, 0, 19), mI v1] (L, I, J, R) (m_is (some (mI r)) (L, I, J, R)) :=
  m_met_in n_Reader_isWord (plainFor_of_name (by decide)) (by decide) (Nat.le_of_ble_eq_true rfl) (ls := [some (mR (5, 0, 19)), some (mI v1)]) rfl (W_Reader_isWord sd I J v1 hR ht hqd hf ⟨rfl, rfl⟩)
noncomputable def F_Reader_need (sd : Nat) (I : MI) (v1 : Int32) : Option (Int32 × MI) :=
  if (I 19 6) = v1 then ((F_Reader_advance sd I).bind fun r2 => some ((1 : Int32), r2)) else ((F_Reader_wrong sd I (1 : Int32) (I 19 7)).bind fun r3 => gq (r3.1 = 0 ∨ r3.1 = 1) <| some ((r3.1 : Int32), r3.2))
set_option maxRecDepth 100000 in
set_option maxHeartbeats 400000 in
theorem W_Reader_need {G : MG} {Q : Option MV → MS → Prop} {L : List (Nat × Nat)} {R : Nat → Nat → Option MRef} (sd : Nat) (I : MI) (J : MJ) (v1 : Int32) (hR : RF R) (ht : R 19 4 = some (8, 0, sd)) (hqd : sd = 3 ∨ sd = 11) {r : Int32 × MI} (hf : F_Reader_need sd I v1 = some r) (hk : (fun r : Int32 × MI => Q (some (mI r.1)) (L, r.2, J, R)) r) : m_B G (m_rm 7 0 0) M_Reader_need Q 0 0 0 [some (mR (5, 0, 19)), some (mI v1)] [] (L, I, J, R) := by
  unfold F_Reader_need at hf
  refine b_blk (pc' := 5) (ls' := [some (mR (5, 0, 19)), some (mI v1)]) (st' := [mI v1, mI (I 19 6)]) (S' := (L, I, J, R)) (P := True) [(.aload_n 0, (0, 0, 0, 0, 0)), (.getfield 39, (5, 6, 0, 0, 0)), (.iload_n 1, (0, 0, 0, 0, 0))] [] (by decide +kernel) rfl trivial ?_
  refine b_icmp_eq (off := 13) (tgt := 18) (by decide +kernel) (by decide) (fun h1 => ?_) (fun h1 => ?_)
  · have hf := if_t h1 hf
    refine b_blk (pc' := 19) (ls' := [some (mR (5, 0, 19)), some (mI v1)]) (st' := [mR (5, 0, 19)]) (S' := (L, I, J, R)) (P := True) [(.aload_n 0, (0, 0, 0, 0, 0))] [] (by decide +kernel) rfl trivial ?_
    obtain ⟨r2, hc2, hf⟩ := bnd_o hf
    refine b_cV (as := []) (st := []) (by decide +kernel) k_5_88 n_Reader_advance rfl (by decide) v_Reader_advance (C_Reader_advance sd I J hR ht hqd hc2) (Nat.le_of_ble_eq_true rfl) (by decide) rfl rfl (fun _ h => h) ?_
    show m_B G (m_rm 7 0 0) M_Reader_need Q 0 0 22 [some (mR (5, 0, 19)), some (mI v1)] [] (L, r2, J, R)
    refine b_blk (pc' := 23) (ls' := [some (mR (5, 0, 19)), some (mI v1)]) (st' := [mI 1]) (S' := (L, r2, J, R)) (P := True) [(.iconst 1, (0, 0, 0, 1, 0))] [] (by decide +kernel) rfl trivial ?_
    cases hf
    exact b_zret (by decide +kernel) rfl (by decide) hk
  · have hf := if_f h1 hf
    refine b_blk (pc' := 14) (ls' := [some (mR (5, 0, 19)), some (mI v1)]) (st' := [mI (I 19 7), mI 1, mR (5, 0, 19)]) (S' := (L, I, J, R)) (P := True) [(.aload_n 0, (0, 0, 0, 0, 0)), (.iconst 1, (0, 0, 0, 1, 0)), (.aload_n 0, (0, 0, 0, 0, 0)), (.getfield 66, (5, 7, 0, 0, 0))] [] (by decide +kernel) rfl trivial ?_
    obtain ⟨r3, hc3, hf⟩ := bnd_o hf
    refine b_cV (as := [mI 1, mI (I 19 7)]) (st := []) (by decide +kernel) k_5_69 n_Reader_wrong rfl (by decide) v_Reader_wrong (C_Reader_wrong sd I J (1 : Int32) (I 19 7) hR ht hqd hc3) (Nat.le_of_ble_eq_true rfl) (by decide) rfl rfl (fun _ h => h) ?_
    show m_B G (m_rm 7 0 0) M_Reader_need Q 0 0 17 [some (mR (5, 0, 19)), some (mI v1)] [mI r3.1] (L, r3.2, J, R)
    obtain ⟨g4, hf⟩ := gq_s hf
    cases hf
    exact b_zret (by decide +kernel) rfl g4 hk
theorem C_Reader_need {G : MG} {L : List (Nat × Nat)} {R : Nat → Nat → Option MRef} (sd : Nat) (I : MI) (J : MJ) (v1 : Int32) (hR : RF R) (ht : R 19 4 = some (8, 0, sd)) (hqd : sd = 3 ∨ sd = 11) {r : Int32 × MI} (hf : F_Reader_need sd I v1 = some r) : m_met G 7 0 0 y_Reader_need M_Reader_need [mR (5, 0, 19), mI v1] (L, I, J, R) (m_is (some (mI r.1)) (L, r.2, J, R)) :=
  m_met_in n_Reader_need (plainFor_of_name (by decide)) (by decide) (Nat.le_of_ble_eq_true rfl) (ls := [some (mR (5, 0, 19)), some (mI v1)]) rfl (W_Reader_need sd I J v1 hR ht hqd hf ⟨rfl, rfl⟩)
noncomputable def F_Reader_needWord (sd : Nat) (I : MI) (v1 : Int32) : Option (Int32 × MI) :=
  (F_Reader_isWord sd I v1).bind fun r1 => if r1 = (0 : Int32) then ((F_Reader_wrong sd I (1 : Int32) (I 19 7)).bind fun r4 => gq (r4.1 = 0 ∨ r4.1 = 1) <| some ((r4.1 : Int32), r4.2)) else ((F_Reader_advance sd I).bind fun r3 => some ((1 : Int32), r3))
set_option maxRecDepth 100000 in
set_option maxHeartbeats 400000 in
theorem W_Reader_needWord {G : MG} {Q : Option MV → MS → Prop} {L : List (Nat × Nat)} {R : Nat → Nat → Option MRef} (sd : Nat) (I : MI) (J : MJ) (v1 : Int32) (hR : RF R) (ht : R 19 4 = some (8, 0, sd)) (hqd : sd = 3 ∨ sd = 11) {r : Int32 × MI} (hf : F_Reader_needWord sd I v1 = some r) (hk : (fun r : Int32 × MI => Q (some (mI r.1)) (L, r.2, J, R)) r) : m_B G (m_rm 7 0 0) M_Reader_needWord Q 0 0 0 [some (mR (5, 0, 19)), some (mI v1)] [] (L, I, J, R) := by
  unfold F_Reader_needWord at hf
  refine b_blk (pc' := 2) (ls' := [some (mR (5, 0, 19)), some (mI v1)]) (st' := [mI v1, mR (5, 0, 19)]) (S' := (L, I, J, R)) (P := True) [(.aload_n 0, (0, 0, 0, 0, 0)), (.iload_n 1, (0, 0, 0, 0, 0))] [] (by decide +kernel) rfl trivial ?_
  obtain ⟨r1, hc1, hf⟩ := bnd_o hf
  refine b_cV (as := [mI v1]) (st := []) (by decide +kernel) k_5_145 n_Reader_isWord rfl (by decide) v_Reader_isWord (C_Reader_isWord sd I J v1 hR ht hqd hc1) (Nat.le_of_ble_eq_true rfl) (by decide) rfl rfl (fun _ h => h) ?_
  show m_B G (m_rm 7 0 0) M_Reader_needWord Q 0 0 5 [some (mR (5, 0, 19)), some (mI v1)] [mI r1] (L, I, J, R)
  refine b_if_ne (off := 13) (tgt := 18) (by decide +kernel) (by decide) (fun h2 => ?_) (fun h2 => ?_)
  · have hf := if_f h2 hf
    refine b_blk (pc' := 19) (ls' := [some (mR (5, 0, 19)), some (mI v1)]) (st' := [mR (5, 0, 19)]) (S' := (L, I, J, R)) (P := True) [(.aload_n 0, (0, 0, 0, 0, 0))] [] (by decide +kernel) rfl trivial ?_
    obtain ⟨r3, hc3, hf⟩ := bnd_o hf
    refine b_cV (as := []) (st := []) (by decide +kernel) k_5_88 n_Reader_advance rfl (by decide) v_Reader_advance (C_Reader_advance sd I J hR ht hqd hc3) (Nat.le_of_ble_eq_true rfl) (by decide) rfl rfl (fun _ h => h) ?_
    show m_B G (m_rm 7 0 0) M_Reader_needWord Q 0 0 22 [some (mR (5, 0, 19)), some (mI v1)] [] (L, r3, J, R)
    refine b_blk (pc' := 23) (ls' := [some (mR (5, 0, 19)), some (mI v1)]) (st' := [mI 1]) (S' := (L, r3, J, R)) (P := True) [(.iconst 1, (0, 0, 0, 1, 0))] [] (by decide +kernel) rfl trivial ?_
    cases hf
    exact b_zret (by decide +kernel) rfl (by decide) hk
  · have hf := if_t h2 hf
    refine b_blk (pc' := 14) (ls' := [some (mR (5, 0, 19)), some (mI v1)]) (st' := [mI (I 19 7), mI 1, mR (5, 0, 19)]) (S' := (L, I, J, R)) (P := True) [(.aload_n 0, (0, 0, 0, 0, 0)), (.iconst 1, (0, 0, 0, 1, 0)), (.aload_n 0, (0, 0, 0, 0, 0)), (.getfield 66, (5, 7, 0, 0, 0))] [] (by decide +kernel) rfl trivial ?_
    obtain ⟨r4, hc4, hf⟩ := bnd_o hf
    refine b_cV (as := [mI 1, mI (I 19 7)]) (st := []) (by decide +kernel) k_5_69 n_Reader_wrong rfl (by decide) v_Reader_wrong (C_Reader_wrong sd I J (1 : Int32) (I 19 7) hR ht hqd hc4) (Nat.le_of_ble_eq_true rfl) (by decide) rfl rfl (fun _ h => h) ?_
    show m_B G (m_rm 7 0 0) M_Reader_needWord Q 0 0 17 [some (mR (5, 0, 19)), some (mI v1)] [mI r4.1] (L, r4.2, J, R)
    obtain ⟨g5, hf⟩ := gq_s hf
    cases hf
    exact b_zret (by decide +kernel) rfl g5 hk
theorem C_Reader_needWord {G : MG} {L : List (Nat × Nat)} {R : Nat → Nat → Option MRef} (sd : Nat) (I : MI) (J : MJ) (v1 : Int32) (hR : RF R) (ht : R 19 4 = some (8, 0, sd)) (hqd : sd = 3 ∨ sd = 11) {r : Int32 × MI} (hf : F_Reader_needWord sd I v1 = some r) : m_met G 7 0 0 y_Reader_needWord M_Reader_needWord [mR (5, 0, 19), mI v1] (L, I, J, R) (m_is (some (mI r.1)) (L, r.2, J, R)) :=
  m_met_in n_Reader_needWord (plainFor_of_name (by decide)) (by decide) (Nat.le_of_ble_eq_true rfl) (ls := [some (mR (5, 0, 19)), some (mI v1)]) rfl (W_Reader_needWord sd I J v1 hR ht hqd hf ⟨rfl, rfl⟩)
noncomputable def F_Reader_number_55 (sd : Nat) (I : MI) (v1 : Int32) (v2 : Int32) (v3 : Int32) : Option ((Int32 × MI) ⊕ (MI)) :=
  if (I 19 8) ≤ v3 then (some (.inr I)) else ((F_Tape_byteAt I v3).bind fun r2 => some (.inl ((v3 + 1 : Int32), m_up I 19 10 ((((I 19 10) * (10 : Int32)) + r2) - (48 : Int32)))))
set_option maxRecDepth 100000 in
set_option maxHeartbeats 400000 in
theorem W_Reader_number_55 {G : MG} {Q : Option MV → MS → Prop} {L : List (Nat × Nat)} {R : Nat → Nat → Option MRef} (sd : Nat) (I : MI) (J : MJ) (v1 : Int32) (v2 : Int32) (v3 : Int32) (hR : RF R) (ht : R 19 4 = some (8, 0, sd)) (hqd : sd = 3 ∨ sd = 11) {r : (Int32 × MI) ⊕ (MI)} (hf : F_Reader_number_55 sd I v1 v2 v3 = some r) (hk : (Sum.elim (fun s : Int32 × MI => m_B G (m_rm 7 0 0) M_Reader_number Q 0 0 55 [some (mR (5, 0, 19)), some (mI v1), some (mI v2), some (mI s.1)] [] (L, s.2, J, R)) (fun s : MI => m_B G (m_rm 7 0 0) M_Reader_number Q 0 0 92 [some (mR (5, 0, 19)), some (mI v1), some (mI v2), none] [] (L, s, J, R))) r) : m_B G (m_rm 7 0 0) M_Reader_number Q 0 0 55 [some (mR (5, 0, 19)), some (mI v1), some (mI v2), some (mI v3)] [] (L, I, J, R) := by
  unfold F_Reader_number_55 at hf
  refine b_blk (pc' := 60) (ls' := [some (mR (5, 0, 19)), some (mI v1), some (mI v2), some (mI v3)]) (st' := [mI (I 19 8), mI v3]) (S' := (L, I, J, R)) (P := True) [(.iload_n 3, (0, 0, 0, 0, 0)), (.aload_n 0, (0, 0, 0, 0, 0)), (.getfield 106, (5, 8, 0, 0, 0))] [] (by decide +kernel) rfl trivial ?_
  refine b_icmp_ge (off := 32) (tgt := 92) (by decide +kernel) (by decide) (fun h1 => ?_) (fun h1 => ?_)
  · have hf := if_t h1 hf
    refine b_frg 3 ?_
    cases hf
    exact hk
  · have hf := if_f h1 hf
    refine b_blk (pc' := 76) (ls' := [some (mR (5, 0, 19)), some (mI v1), some (mI v2), some (mI v3)]) (st' := [mI v3, mR (9, 0, 1), mI ((I 19 10) * (10 : Int32)), mR (5, 0, 19)]) (S' := (L, I, J, R)) (P := (True ∧ R 19 0 = some (9, 0, 1))) [(.aload_n 0, (0, 0, 0, 0, 0)), (.aload_n 0, (0, 0, 0, 0, 0)), (.getfield 148, (5, 10, 0, 0, 0)), (.bipush 10, (0, 0, 0, 10, 0)), (.imul, (0, 0, 0, 0, 0)), (.aload_n 0, (0, 0, 0, 0, 0)), (.getfield 15, (5, 0, 3, 0, 0)), (.iload_n 3, (0, 0, 0, 0, 0))] [some (9, 0, 1)] (by decide +kernel) rfl ⟨trivial, (r_19_0 hR)⟩ ?_
    obtain ⟨r2, hc2, hf⟩ := bnd_o hf
    refine b_cV (as := [mI v3]) (st := [mI ((I 19 10) * (10 : Int32)), mR (5, 0, 19)]) (by decide +kernel) k_5_114 n_Tape_byteAt rfl (by decide) v_Tape_byteAt (C_Tape_byteAt I J v3 hR hc2) (Nat.le_of_ble_eq_true rfl) (by decide) rfl rfl (fun _ h => h) ?_
    show m_B G (m_rm 7 0 0) M_Reader_number Q 0 0 79 [some (mR (5, 0, 19)), some (mI v1), some (mI v2), some (mI v3)] [mI r2, mI ((I 19 10) * (10 : Int32)), mR (5, 0, 19)] (L, I, J, R)
    refine b_blk (pc' := 55) (ls' := [some (mR (5, 0, 19)), some (mI v1), some (mI v2), some (mI (v3 + 1))]) (st' := []) (S' := (L, m_up I 19 10 ((((I 19 10) * (10 : Int32)) + r2) - (48 : Int32)), J, R)) (P := True) [(.iadd, (0, 0, 0, 0, 0)), (.bipush 48, (0, 0, 0, 48, 0)), (.isub, (0, 0, 0, 0, 0)), (.putfield 148, (5, 10, 0, 0, 0)), (.iinc 3 1, (0, 0, 0, 1, 0)), (.goto (-34), (0, 55, 0, 0, 0))] [] (by decide +kernel) rfl trivial ?_
    cases hf
    exact hk
noncomputable def F_Reader_number (sd : Nat) (I : MI) (v1 : Int32) (v2 : Int32) : Option (Int32 × MI) :=
  if (I 19 6) = (257 : Int32) then (if ((I 19 8) - (I 19 7)) ≤ (4 : Int32) then ((wl (fun s : Int32 × MI => F_Reader_number_55 sd s.2 v1 v2 s.1) ((I 19 7 : Int32), m_up I 19 10 (0 : Int32))).bind fun t3 => if (t3 19 10) < v1 then ((F_Reader_wrong sd t3 (2 : Int32) (t3 19 7)).bind fun r5 => gq (r5.1 = 0 ∨ r5.1 = 1) <| some ((r5.1 : Int32), r5.2)) else (if (t3 19 10) ≤ v2 then ((F_Reader_advance sd t3).bind fun r8 => some ((1 : Int32), r8)) else ((F_Reader_wrong sd t3 (2 : Int32) (t3 19 7)).bind fun r9 => gq (r9.1 = 0 ∨ r9.1 = 1) <| some ((r9.1 : Int32), r9.2)))) else ((F_Reader_wrong sd I (1 : Int32) ((I 19 7) + (4 : Int32))).bind fun r11 => gq (r11.1 = 0 ∨ r11.1 = 1) <| some ((r11.1 : Int32), r11.2))) else ((F_Reader_wrong sd I (1 : Int32) (I 19 7)).bind fun r13 => gq (r13.1 = 0 ∨ r13.1 = 1) <| some ((r13.1 : Int32), r13.2))
set_option maxRecDepth 100000 in
set_option maxHeartbeats 400000 in
theorem W_Reader_number {G : MG} {Q : Option MV → MS → Prop} {L : List (Nat × Nat)} {R : Nat → Nat → Option MRef} (sd : Nat) (I : MI) (J : MJ) (v1 : Int32) (v2 : Int32) (hR : RF R) (ht : R 19 4 = some (8, 0, sd)) (hqd : sd = 3 ∨ sd = 11) {r : Int32 × MI} (hf : F_Reader_number sd I v1 v2 = some r) (hk : (fun r : Int32 × MI => Q (some (mI r.1)) (L, r.2, J, R)) r) : m_B G (m_rm 7 0 0) M_Reader_number Q 0 0 0 [some (mR (5, 0, 19)), some (mI v1), some (mI v2), none] [] (L, I, J, R) := by
  unfold F_Reader_number at hf
  refine b_blk (pc' := 7) (ls' := [some (mR (5, 0, 19)), some (mI v1), some (mI v2), none]) (st' := [mI 257, mI (I 19 6)]) (S' := (L, I, J, R)) (P := True) [(.aload_n 0, (0, 0, 0, 0, 0)), (.getfield 39, (5, 6, 0, 0, 0)), (.sipush 257, (0, 0, 0, 257, 0))] [] (by decide +kernel) rfl trivial ?_
  refine b_icmp_eq (off := 13) (tgt := 20) (by decide +kernel) (by decide) (fun h1 => ?_) (fun h1 => ?_)
  · have hf := if_t h1 hf
    refine b_blk (pc' := 30) (ls' := [some (mR (5, 0, 19)), some (mI v1), some (mI v2), none]) (st' := [mI 4, mI ((I 19 8) - (I 19 7))]) (S' := (L, I, J, R)) (P := True) [(.aload_n 0, (0, 0, 0, 0, 0)), (.getfield 106, (5, 8, 0, 0, 0)), (.aload_n 0, (0, 0, 0, 0, 0)), (.getfield 66, (5, 7, 0, 0, 0)), (.isub, (0, 0, 0, 0, 0)), (.iconst 4, (0, 0, 0, 4, 0))] [] (by decide +kernel) rfl trivial ?_
    refine b_icmp_le (off := 15) (tgt := 45) (by decide +kernel) (by decide) (fun h2 => ?_) (fun h2 => ?_)
    · have hf := if_t h2 hf
      refine b_blk (pc' := 55) (ls' := [some (mR (5, 0, 19)), some (mI v1), some (mI v2), some (mI (I 19 7))]) (st' := []) (S' := (L, m_up I 19 10 (0 : Int32), J, R)) (P := True) [(.aload_n 0, (0, 0, 0, 0, 0)), (.iconst 0, (0, 0, 0, 0, 0)), (.putfield 148, (5, 10, 0, 0, 0)), (.aload_n 0, (0, 0, 0, 0, 0)), (.getfield 66, (5, 7, 0, 0, 0)), (.istore_n 3, (0, 0, 0, 0, 0))] [] (by decide +kernel) rfl trivial ?_
      obtain ⟨t3, hw, hf⟩ := bnd_o hf
      refine wl_B (A := fun s : Int32 × MI => m_B G (m_rm 7 0 0) M_Reader_number Q 0 0 55 [some (mR (5, 0, 19)), some (mI v1), some (mI v2), some (mI s.1)] [] (L, s.2, J, R)) (B := (fun s : MI => m_B G (m_rm 7 0 0) M_Reader_number Q 0 0 92 [some (mR (5, 0, 19)), some (mI v1), some (mI v2), none] [] (L, s, J, R))) (fun s r hs hr => W_Reader_number_55 sd s.2 J v1 v2 s.1 hR ht hqd hs hr) hw ?_
      show m_B G (m_rm 7 0 0) M_Reader_number Q 0 0 92 [some (mR (5, 0, 19)), some (mI v1), some (mI v2), none] [] (L, t3, J, R)
      refine b_blk (pc' := 97) (ls' := [some (mR (5, 0, 19)), some (mI v1), some (mI v2), none]) (st' := [mI v1, mI (t3 19 10)]) (S' := (L, t3, J, R)) (P := True) [(.aload_n 0, (0, 0, 0, 0, 0)), (.getfield 148, (5, 10, 0, 0, 0)), (.iload_n 1, (0, 0, 0, 0, 0))] [] (by decide +kernel) rfl trivial ?_
      refine b_icmp_lt (off := 11) (tgt := 108) (by decide +kernel) (by decide) (fun h4 => ?_) (fun h4 => ?_)
      · have hf := if_t h4 hf
        refine b_blk (pc' := 114) (ls' := [some (mR (5, 0, 19)), some (mI v1), some (mI v2), none]) (st' := [mI (t3 19 7), mI 2, mR (5, 0, 19)]) (S' := (L, t3, J, R)) (P := True) [(.aload_n 0, (0, 0, 0, 0, 0)), (.iconst 2, (0, 0, 0, 2, 0)), (.aload_n 0, (0, 0, 0, 0, 0)), (.getfield 66, (5, 7, 0, 0, 0))] [] (by decide +kernel) rfl trivial ?_
        obtain ⟨r5, hc5, hf⟩ := bnd_o hf
        refine b_cV (as := [mI 2, mI (t3 19 7)]) (st := []) (by decide +kernel) k_5_69 n_Reader_wrong rfl (by decide) v_Reader_wrong (C_Reader_wrong sd t3 J (2 : Int32) (t3 19 7) hR ht hqd hc5) (Nat.le_of_ble_eq_true rfl) (by decide) rfl rfl (fun _ h => h) ?_
        show m_B G (m_rm 7 0 0) M_Reader_number Q 0 0 117 [some (mR (5, 0, 19)), some (mI v1), some (mI v2), none] [mI r5.1] (L, r5.2, J, R)
        obtain ⟨g6, hf⟩ := gq_s hf
        cases hf
        exact b_zret (by decide +kernel) rfl g6 hk
      · have hf := if_f h4 hf
        refine b_blk (pc' := 105) (ls' := [some (mR (5, 0, 19)), some (mI v1), some (mI v2), none]) (st' := [mI v2, mI (t3 19 10)]) (S' := (L, t3, J, R)) (P := True) [(.aload_n 0, (0, 0, 0, 0, 0)), (.getfield 148, (5, 10, 0, 0, 0)), (.iload_n 2, (0, 0, 0, 0, 0))] [] (by decide +kernel) rfl trivial ?_
        refine b_icmp_le (off := 13) (tgt := 118) (by decide +kernel) (by decide) (fun h7 => ?_) (fun h7 => ?_)
        · have hf := if_t h7 hf
          refine b_blk (pc' := 119) (ls' := [some (mR (5, 0, 19)), some (mI v1), some (mI v2), none]) (st' := [mR (5, 0, 19)]) (S' := (L, t3, J, R)) (P := True) [(.aload_n 0, (0, 0, 0, 0, 0))] [] (by decide +kernel) rfl trivial ?_
          obtain ⟨r8, hc8, hf⟩ := bnd_o hf
          refine b_cV (as := []) (st := []) (by decide +kernel) k_5_88 n_Reader_advance rfl (by decide) v_Reader_advance (C_Reader_advance sd t3 J hR ht hqd hc8) (Nat.le_of_ble_eq_true rfl) (by decide) rfl rfl (fun _ h => h) ?_
          show m_B G (m_rm 7 0 0) M_Reader_number Q 0 0 122 [some (mR (5, 0, 19)), some (mI v1), some (mI v2), none] [] (L, r8, J, R)
          refine b_blk (pc' := 123) (ls' := [some (mR (5, 0, 19)), some (mI v1), some (mI v2), none]) (st' := [mI 1]) (S' := (L, r8, J, R)) (P := True) [(.iconst 1, (0, 0, 0, 1, 0))] [] (by decide +kernel) rfl trivial ?_
          cases hf
          exact b_zret (by decide +kernel) rfl (by decide) hk
        · have hf := if_f h7 hf
          refine b_blk (pc' := 114) (ls' := [some (mR (5, 0, 19)), some (mI v1), some (mI v2), none]) (st' := [mI (t3 19 7), mI 2, mR (5, 0, 19)]) (S' := (L, t3, J, R)) (P := True) [(.aload_n 0, (0, 0, 0, 0, 0)), (.iconst 2, (0, 0, 0, 2, 0)), (.aload_n 0, (0, 0, 0, 0, 0)), (.getfield 66, (5, 7, 0, 0, 0))] [] (by decide +kernel) rfl trivial ?_
          obtain ⟨r9, hc9, hf⟩ := bnd_o hf
          refine b_cV (as := [mI 2, mI (t3 19 7)]) (st := []) (by decide +kernel) k_5_69 n_Reader_wrong rfl (by decide) v_Reader_wrong (C_Reader_wrong sd t3 J (2 : Int32) (t3 19 7) hR ht hqd hc9) (Nat.le_of_ble_eq_true rfl) (by decide) rfl rfl (fun _ h => h) ?_
          show m_B G (m_rm 7 0 0) M_Reader_number Q 0 0 117 [some (mR (5, 0, 19)), some (mI v1), some (mI v2), none] [mI r9.1] (L, r9.2, J, R)
          obtain ⟨g10, hf⟩ := gq_s hf
          cases hf
          exact b_zret (by decide +kernel) rfl g10 hk
    · have hf := if_f h2 hf
      refine b_blk (pc' := 41) (ls' := [some (mR (5, 0, 19)), some (mI v1), some (mI v2), none]) (st' := [mI ((I 19 7) + (4 : Int32)), mI 1, mR (5, 0, 19)]) (S' := (L, I, J, R)) (P := True) [(.aload_n 0, (0, 0, 0, 0, 0)), (.iconst 1, (0, 0, 0, 1, 0)), (.aload_n 0, (0, 0, 0, 0, 0)), (.getfield 66, (5, 7, 0, 0, 0)), (.iconst 4, (0, 0, 0, 4, 0)), (.iadd, (0, 0, 0, 0, 0))] [] (by decide +kernel) rfl trivial ?_
      obtain ⟨r11, hc11, hf⟩ := bnd_o hf
      refine b_cV (as := [mI 1, mI ((I 19 7) + (4 : Int32))]) (st := []) (by decide +kernel) k_5_69 n_Reader_wrong rfl (by decide) v_Reader_wrong (C_Reader_wrong sd I J (1 : Int32) ((I 19 7) + (4 : Int32)) hR ht hqd hc11) (Nat.le_of_ble_eq_true rfl) (by decide) rfl rfl (fun _ h => h) ?_
      show m_B G (m_rm 7 0 0) M_Reader_number Q 0 0 44 [some (mR (5, 0, 19)), some (mI v1), some (mI v2), none] [mI r11.1] (L, r11.2, J, R)
      obtain ⟨g12, hf⟩ := gq_s hf
      cases hf
      exact b_zret (by decide +kernel) rfl g12 hk
  · have hf := if_f h1 hf
    refine b_blk (pc' := 16) (ls' := [some (mR (5, 0, 19)), some (mI v1), some (mI v2), none]) (st' := [mI (I 19 7), mI 1, mR (5, 0, 19)]) (S' := (L, I, J, R)) (P := True) [(.aload_n 0, (0, 0, 0, 0, 0)), (.iconst 1, (0, 0, 0, 1, 0)), (.aload_n 0, (0, 0, 0, 0, 0)), (.getfield 66, (5, 7, 0, 0, 0))] [] (by decide +kernel) rfl trivial ?_
    obtain ⟨r13, hc13, hf⟩ := bnd_o hf
    refine b_cV (as := [mI 1, mI (I 19 7)]) (st := []) (by decide +kernel) k_5_69 n_Reader_wrong rfl (by decide) v_Reader_wrong (C_Reader_wrong sd I J (1 : Int32) (I 19 7) hR ht hqd hc13) (Nat.le_of_ble_eq_true rfl) (by decide) rfl rfl (fun _ h => h) ?_
    show m_B G (m_rm 7 0 0) M_Reader_number Q 0 0 19 [some (mR (5, 0, 19)), some (mI v1), some (mI v2), none] [mI r13.1] (L, r13.2, J, R)
    obtain ⟨g14, hf⟩ := gq_s hf
    cases hf
    exact b_zret (by decide +kernel) rfl g14 hk
theorem C_Reader_number {G : MG} {L : List (Nat × Nat)} {R : Nat → Nat → Option MRef} (sd : Nat) (I : MI) (J : MJ) (v1 : Int32) (v2 : Int32) (hR : RF R) (ht : R 19 4 = some (8, 0, sd)) (hqd : sd = 3 ∨ sd = 11) {r : Int32 × MI} (hf : F_Reader_number sd I v1 v2 = some r) : m_met G 7 0 0 y_Reader_number M_Reader_number [mR (5, 0, 19), mI v1, mI v2] (L, I, J, R) (m_is (some (mI r.1)) (L, r.2, J, R)) :=
  m_met_in n_Reader_number (plainFor_of_name (by decide)) (by decide) (Nat.le_of_ble_eq_true rfl) (ls := [some (mR (5, 0, 19)), some (mI v1), some (mI v2), none]) rfl (W_Reader_number sd I J v1 v2 hR ht hqd hf ⟨rfl, rfl⟩)
noncomputable def F_Reader_name_36 (sd : Nat) (I : MI) : Option (Int32 × MI) :=
  if ((I 19 8) - (I 19 7)) ≤ (6 : Int32) then (some ((1 : Int32), I)) else ((F_Reader_wrong sd I (1 : Int32) ((I 19 7) + (6 : Int32))).bind fun r2 => if r2.1 = (0 : Int32) then (some ((0 : Int32), r2.2)) else (some ((1 : Int32), r2.2)))
set_option maxRecDepth 100000 in
set_option maxHeartbeats 400000 in
theorem W_Reader_name_36 {G : MG} {Q : Option MV → MS → Prop} {L : List (Nat × Nat)} {R : Nat → Nat → Option MRef} (sd : Nat) (I : MI) (J : MJ) (hR : RF R) (ht : R 19 4 = some (8, 0, sd)) (hqd : sd = 3 ∨ sd = 11) {r : Int32 × MI} (hf : F_Reader_name_36 sd I = some r) (hk : (fun r : Int32 × MI => Q (some (mI r.1)) (L, r.2, J, R)) r) : m_B G (m_rm 2 0 0) M_Reader_name Q 0 0 36 [some (mR (5, 0, 19))] [] (L, I, J, R) := by
  unfold F_Reader_name_36 at hf
  refine b_blk (pc' := 47) (ls' := [some (mR (5, 0, 19))]) (st' := [mI 6, mI ((I 19 8) - (I 19 7))]) (S' := (L, I, J, R)) (P := True) [(.aload_n 0, (0, 0, 0, 0, 0)), (.getfield 106, (5, 8, 0, 0, 0)), (.aload_n 0, (0, 0, 0, 0, 0)), (.getfield 66, (5, 7, 0, 0, 0)), (.isub, (0, 0, 0, 0, 0)), (.bipush 6, (0, 0, 0, 6, 0))] [] (by decide +kernel) rfl trivial ?_
  refine b_icmp_le (off := 18) (tgt := 65) (by decide +kernel) (by decide) (fun h1 => ?_) (fun h1 => ?_)
  · have hf := if_t h1 hf
    refine b_blk (pc' := 70) (ls' := [some (mR (5, 0, 19))]) (st' := [mI 1]) (S' := (L, I, J, R)) (P := True) [(.iconst 1, (0, 0, 0, 1, 0)), (.goto 4, (0, 70, 0, 0, 0))] [] (by decide +kernel) rfl trivial ?_
    cases hf
    exact b_zret (by decide +kernel) rfl (by decide) hk
  · have hf := if_f h1 hf
    refine b_blk (pc' := 59) (ls' := [some (mR (5, 0, 19))]) (st' := [mI ((I 19 7) + (6 : Int32)), mI 1, mR (5, 0, 19)]) (S' := (L, I, J, R)) (P := True) [(.aload_n 0, (0, 0, 0, 0, 0)), (.iconst 1, (0, 0, 0, 1, 0)), (.aload_n 0, (0, 0, 0, 0, 0)), (.getfield 66, (5, 7, 0, 0, 0)), (.bipush 6, (0, 0, 0, 6, 0)), (.iadd, (0, 0, 0, 0, 0))] [] (by decide +kernel) rfl trivial ?_
    obtain ⟨r2, hc2, hf⟩ := bnd_o hf
    refine b_cV (as := [mI 1, mI ((I 19 7) + (6 : Int32))]) (st := []) (by decide +kernel) k_5_69 n_Reader_wrong rfl (by decide) v_Reader_wrong (C_Reader_wrong sd I J (1 : Int32) ((I 19 7) + (6 : Int32)) hR ht hqd hc2) (Nat.le_of_ble_eq_true rfl) (by decide) rfl rfl (fun _ h => h) ?_
    show m_B G (m_rm 2 0 0) M_Reader_name Q 0 0 62 [some (mR (5, 0, 19))] [mI r2.1] (L, r2.2, J, R)
    refine b_if_eq (off := 7) (tgt := 69) (by decide +kernel) (by decide) (fun h3 => ?_) (fun h3 => ?_)
    · have hf := if_t h3 hf
      refine b_blk (pc' := 70) (ls' := [some (mR (5, 0, 19))]) (st' := [mI 0]) (S' := (L, r2.2, J, R)) (P := True) [(.iconst 0, (0, 0, 0, 0, 0))] [] (by decide +kernel) rfl trivial ?_
      cases hf
      exact b_zret (by decide +kernel) rfl (by decide) hk
    · have hf := if_f h3 hf
      refine b_blk (pc' := 70) (ls' := [some (mR (5, 0, 19))]) (st' := [mI 1]) (S' := (L, r2.2, J, R)) (P := True) [(.iconst 1, (0, 0, 0, 1, 0)), (.goto 4, (0, 70, 0, 0, 0))] [] (by decide +kernel) rfl trivial ?_
      cases hf
      exact b_zret (by decide +kernel) rfl (by decide) hk
noncomputable def F_Reader_name (sd : Nat) (I : MI) : Option (Int32 × MI) :=
  if (I 19 6) = (256 : Int32) then (if (I 19 9) < (0 : Int32) then (F_Reader_name_36 sd I) else (if (24 : Int32) ≤ (I 19 9) then (F_Reader_name_36 sd I) else ((F_Reader_wrong sd I (1 : Int32) (I 19 7)).bind fun r6 => gq (r6.1 = 0 ∨ r6.1 = 1) <| some ((r6.1 : Int32), r6.2)))) else ((F_Reader_wrong sd I (1 : Int32) (I 19 7)).bind fun r2 => gq (r2.1 = 0 ∨ r2.1 = 1) <| some ((r2.1 : Int32), r2.2))
set_option maxRecDepth 100000 in
set_option maxHeartbeats 400000 in
theorem W_Reader_name {G : MG} {Q : Option MV → MS → Prop} {L : List (Nat × Nat)} {R : Nat → Nat → Option MRef} (sd : Nat) (I : MI) (J : MJ) (hR : RF R) (ht : R 19 4 = some (8, 0, sd)) (hqd : sd = 3 ∨ sd = 11) {r : Int32 × MI} (hf : F_Reader_name sd I = some r) (hk : (fun r : Int32 × MI => Q (some (mI r.1)) (L, r.2, J, R)) r) : m_B G (m_rm 2 0 0) M_Reader_name Q 0 0 0 [some (mR (5, 0, 19))] [] (L, I, J, R) := by
  unfold F_Reader_name at hf
  refine b_blk (pc' := 7) (ls' := [some (mR (5, 0, 19))]) (st' := [mI 256, mI (I 19 6)]) (S' := (L, I, J, R)) (P := True) [(.aload_n 0, (0, 0, 0, 0, 0)), (.getfield 39, (5, 6, 0, 0, 0)), (.sipush 256, (0, 0, 0, 256, 0))] [] (by decide +kernel) rfl trivial ?_
  refine b_icmp_ne (off := 19) (tgt := 26) (by decide +kernel) (by decide) (fun h1 => ?_) (fun h1 => ?_)
  · have hf := if_f h1 hf
    refine b_blk (pc' := 32) (ls' := [some (mR (5, 0, 19))]) (st' := [mI (I 19 7), mI 1, mR (5, 0, 19)]) (S' := (L, I, J, R)) (P := True) [(.aload_n 0, (0, 0, 0, 0, 0)), (.iconst 1, (0, 0, 0, 1, 0)), (.aload_n 0, (0, 0, 0, 0, 0)), (.getfield 66, (5, 7, 0, 0, 0))] [] (by decide +kernel) rfl trivial ?_
    obtain ⟨r2, hc2, hf⟩ := bnd_o hf
    refine b_cV (as := [mI 1, mI (I 19 7)]) (st := []) (by decide +kernel) k_5_69 n_Reader_wrong rfl (by decide) v_Reader_wrong (C_Reader_wrong sd I J (1 : Int32) (I 19 7) hR ht hqd hc2) (Nat.le_of_ble_eq_true rfl) (by decide) rfl rfl (fun _ h => h) ?_
    show m_B G (m_rm 2 0 0) M_Reader_name Q 0 0 35 [some (mR (5, 0, 19))] [mI r2.1] (L, r2.2, J, R)
    obtain ⟨g3, hf⟩ := gq_s hf
    cases hf
    exact b_zret (by decide +kernel) rfl g3 hk
  · have hf := if_t h1 hf
    refine b_blk (pc' := 14) (ls' := [some (mR (5, 0, 19))]) (st' := [mI (I 19 9)]) (S' := (L, I, J, R)) (P := True) [(.aload_n 0, (0, 0, 0, 0, 0)), (.getfield 42, (5, 9, 0, 0, 0))] [] (by decide +kernel) rfl trivial ?_
    refine b_if_lt (off := 22) (tgt := 36) (by decide +kernel) (by decide) (fun h4 => ?_) (fun h4 => ?_)
    · have hf := if_t h4 hf
      exact m_B_cg rfl rfl rfl (W_Reader_name_36 sd I J hR ht hqd hf hk)
    · have hf := if_f h4 hf
      refine b_blk (pc' := 23) (ls' := [some (mR (5, 0, 19))]) (st' := [mI 24, mI (I 19 9)]) (S' := (L, I, J, R)) (P := True) [(.aload_n 0, (0, 0, 0, 0, 0)), (.getfield 42, (5, 9, 0, 0, 0)), (.bipush 24, (0, 0, 0, 24, 0))] [] (by decide +kernel) rfl trivial ?_
      refine b_icmp_ge (off := 13) (tgt := 36) (by decide +kernel) (by decide) (fun h5 => ?_) (fun h5 => ?_)
      · have hf := if_t h5 hf
        exact m_B_cg rfl rfl rfl (W_Reader_name_36 sd I J hR ht hqd hf hk)
      · have hf := if_f h5 hf
        refine b_blk (pc' := 32) (ls' := [some (mR (5, 0, 19))]) (st' := [mI (I 19 7), mI 1, mR (5, 0, 19)]) (S' := (L, I, J, R)) (P := True) [(.aload_n 0, (0, 0, 0, 0, 0)), (.iconst 1, (0, 0, 0, 1, 0)), (.aload_n 0, (0, 0, 0, 0, 0)), (.getfield 66, (5, 7, 0, 0, 0))] [] (by decide +kernel) rfl trivial ?_
        obtain ⟨r6, hc6, hf⟩ := bnd_o hf
        refine b_cV (as := [mI 1, mI (I 19 7)]) (st := []) (by decide +kernel) k_5_69 n_Reader_wrong rfl (by decide) v_Reader_wrong (C_Reader_wrong sd I J (1 : Int32) (I 19 7) hR ht hqd hc6) (Nat.le_of_ble_eq_true rfl) (by decide) rfl rfl (fun _ h => h) ?_
        show m_B G (m_rm 2 0 0) M_Reader_name Q 0 0 35 [some (mR (5, 0, 19))] [mI r6.1] (L, r6.2, J, R)
        obtain ⟨g7, hf⟩ := gq_s hf
        cases hf
        exact b_zret (by decide +kernel) rfl g7 hk
theorem C_Reader_name {G : MG} {L : List (Nat × Nat)} {R : Nat → Nat → Option MRef} (sd : Nat) (I : MI) (J : MJ) (hR : RF R) (ht : R 19 4 = some (8, 0, sd)) (hqd : sd = 3 ∨ sd = 11) {r : Int32 × MI} (hf : F_Reader_name sd I = some r) : m_met G 2 0 0 y_Reader_name M_Reader_name [mR (5, 0, 19)] (L, I, J, R) (m_is (some (mI r.1)) (L, r.2, J, R)) :=
  m_met_in n_Reader_name (plainFor_of_name (by decide)) (by decide) (Nat.le_of_ble_eq_true rfl) (ls := [some (mR (5, 0, 19))]) rfl (W_Reader_name sd I J hR ht hqd hf ⟨rfl, rfl⟩)
noncomputable def F_Reader_letterAt (sd : Nat) (I : MI) (v1 : Int32) : Option (Int32) :=
  if (I 19 8) ≤ ((I 19 7) + v1) then (some (0 : Int32)) else ((F_Tape_byteAt I ((I 19 7) + v1)).bind fun r2 => some ((r2 - (97 : Int32)) + (1 : Int32) : Int32))
set_option maxRecDepth 100000 in
set_option maxHeartbeats 400000 in
theorem W_Reader_letterAt {G : MG} {Q : Option MV → MS → Prop} {L : List (Nat × Nat)} {R : Nat → Nat → Option MRef} (sd : Nat) (I : MI) (J : MJ) (v1 : Int32) (hR : RF R) (ht : R 19 4 = some (8, 0, sd)) (hqd : sd = 3 ∨ sd = 11) {r : Int32} (hf : F_Reader_letterAt sd I v1 = some r) (hk : (fun r : Int32 => Q (some (mI r)) (L, I, J, R)) r) : m_B G (m_rm 2 0 0) M_Reader_letterAt Q 0 0 0 [some (mR (5, 0, 19)), some (mI v1)] [] (L, I, J, R) := by
  unfold F_Reader_letterAt at hf
  refine b_blk (pc' := 10) (ls' := [some (mR (5, 0, 19)), some (mI v1)]) (st' := [mI (I 19 8), mI ((I 19 7) + v1)]) (S' := (L, I, J, R)) (P := True) [(.aload_n 0, (0, 0, 0, 0, 0)), (.getfield 66, (5, 7, 0, 0, 0)), (.iload_n 1, (0, 0, 0, 0, 0)), (.iadd, (0, 0, 0, 0, 0)), (.aload_n 0, (0, 0, 0, 0, 0)), (.getfield 106, (5, 8, 0, 0, 0))] [] (by decide +kernel) rfl trivial ?_
  refine b_icmp_ge (off := 24) (tgt := 34) (by decide +kernel) (by decide) (fun h1 => ?_) (fun h1 => ?_)
  · have hf := if_t h1 hf
    refine b_blk (pc' := 35) (ls' := [some (mR (5, 0, 19)), some (mI v1)]) (st' := [mI 0]) (S' := (L, I, J, R)) (P := True) [(.iconst 0, (0, 0, 0, 0, 0))] [] (by decide +kernel) rfl trivial ?_
    cases hf
    exact b_iret (by decide +kernel) rfl hk
  · have hf := if_f h1 hf
    refine b_blk (pc' := 23) (ls' := [some (mR (5, 0, 19)), some (mI v1)]) (st' := [mI ((I 19 7) + v1), mR (9, 0, 1)]) (S' := (L, I, J, R)) (P := (True ∧ R 19 0 = some (9, 0, 1))) [(.aload_n 0, (0, 0, 0, 0, 0)), (.getfield 15, (5, 0, 3, 0, 0)), (.aload_n 0, (0, 0, 0, 0, 0)), (.getfield 66, (5, 7, 0, 0, 0)), (.iload_n 1, (0, 0, 0, 0, 0)), (.iadd, (0, 0, 0, 0, 0))] [some (9, 0, 1)] (by decide +kernel) rfl ⟨trivial, (r_19_0 hR)⟩ ?_
    obtain ⟨r2, hc2, hf⟩ := bnd_o hf
    refine b_cV (as := [mI ((I 19 7) + v1)]) (st := []) (by decide +kernel) k_5_114 n_Tape_byteAt rfl (by decide) v_Tape_byteAt (C_Tape_byteAt I J ((I 19 7) + v1) hR hc2) (Nat.le_of_ble_eq_true rfl) (by decide) rfl rfl (fun _ h => h) ?_
    show m_B G (m_rm 2 0 0) M_Reader_letterAt Q 0 0 26 [some (mR (5, 0, 19)), some (mI v1)] [mI r2] (L, I, J, R)
    refine b_blk (pc' := 35) (ls' := [some (mR (5, 0, 19)), some (mI v1)]) (st' := [mI ((r2 - (97 : Int32)) + (1 : Int32))]) (S' := (L, I, J, R)) (P := True) [(.bipush 97, (0, 0, 0, 97, 0)), (.isub, (0, 0, 0, 0, 0)), (.iconst 1, (0, 0, 0, 1, 0)), (.iadd, (0, 0, 0, 0, 0)), (.goto 4, (0, 35, 0, 0, 0))] [] (by decide +kernel) rfl trivial ?_
    cases hf
    exact b_iret (by decide +kernel) rfl hk
theorem C_Reader_letterAt {G : MG} {L : List (Nat × Nat)} {R : Nat → Nat → Option MRef} (sd : Nat) (I : MI) (J : MJ) (v1 : Int32) (hR : RF R) (ht : R 19 4 = some (8, 0, sd)) (hqd : sd = 3 ∨ sd = 11) {r : Int32} (hf : F_Reader_letterAt sd I v1 = some r) : m_met G 2 0 0 y_Reader_letterAt M_Reader_letterAt [mR (5, 0, 19), mI v1] (L, I, J, R) (m_is (some (mI r)) (L, I, J, R)) :=
  m_met_in n_Reader_letterAt (plainFor_of_name (by decide)) (by decide) (Nat.le_of_ble_eq_true rfl) (ls := [some (mR (5, 0, 19)), some (mI v1)]) rfl (W_Reader_letterAt sd I J v1 hR ht hqd hf ⟨rfl, rfl⟩)
noncomputable def F_Reader_named_23 (sd : Nat) (I : MI) (v1 : Int32) (v2 : Int32) (v3 : Int32) : Option ((Int32 × Int32) ⊕ (Int32)) :=
  if (6 : Int32) ≤ v3 then (some (.inr (v2 : Int32))) else (if v2 = (0 : Int32) then (some (.inl ((0 : Int32), (v3 + 1 : Int32)))) else (gd ((v1 * (6 : Int32)) + v3) 36 <| (F_Reader_letterAt sd I v3).bind fun r4 => if (I (sd + 2) ((v1 * (6 : Int32)) + v3).toNatClampNeg) = r4 then (some (.inl ((1 : Int32), (v3 + 1 : Int32)))) else (some (.inl ((0 : Int32), (v3 + 1 : Int32))))))
set_option maxRecDepth 100000 in
set_option maxHeartbeats 400000 in
theorem W_Reader_named_23 {G : MG} {Q : Option MV → MS → Prop} {L : List (Nat × Nat)} {R : Nat → Nat → Option MRef} (sd : Nat) (I : MI) (J : MJ) (v1 : Int32) (v2 : Int32) (v3 : Int32) (hR : RF R) (ht : R 19 4 = some (8, 0, sd)) (hqd : sd = 3 ∨ sd = 11) {r : (Int32 × Int32) ⊕ (Int32)} (hf : F_Reader_named_23 sd I v1 v2 v3 = some r) (hk : (Sum.elim (fun s : Int32 × Int32 => m_B G (m_rm 3 0 0) M_Reader_named Q 0 0 23 [some (mR (5, 0, 19)), some (mI v1), some (mI s.1), some (mI s.2)] [] (L, I, J, R)) (fun s : Int32 => m_B G (m_rm 3 0 0) M_Reader_named Q 0 0 67 [some (mR (5, 0, 19)), some (mI v1), some (mI s), none] [] (L, I, J, R))) r) : m_B G (m_rm 3 0 0) M_Reader_named Q 0 0 23 [some (mR (5, 0, 19)), some (mI v1), some (mI v2), some (mI v3)] [] (L, I, J, R) := by
  unfold F_Reader_named_23 at hf
  refine b_blk (pc' := 26) (ls' := [some (mR (5, 0, 19)), some (mI v1), some (mI v2), some (mI v3)]) (st' := [mI 6, mI v3]) (S' := (L, I, J, R)) (P := True) [(.iload_n 3, (0, 0, 0, 0, 0)), (.bipush 6, (0, 0, 0, 6, 0))] [] (by decide +kernel) rfl trivial ?_
  refine b_icmp_ge (off := 41) (tgt := 67) (by decide +kernel) (by decide) (fun h1 => ?_) (fun h1 => ?_)
  · have hf := if_t h1 hf
    refine b_frg 3 ?_
    cases hf
    exact hk
  · have hf := if_f h1 hf
    refine b_blk (pc' := 30) (ls' := [some (mR (5, 0, 19)), some (mI v1), some (mI v2), some (mI v3)]) (st' := [mI v2]) (S' := (L, I, J, R)) (P := True) [(.iload_n 2, (0, 0, 0, 0, 0))] [] (by decide +kernel) rfl trivial ?_
    refine b_if_eq (off := 29) (tgt := 59) (by decide +kernel) (by decide) (fun h2 => ?_) (fun h2 => ?_)
    · have hf := if_t h2 hf
      refine b_blk (pc' := 23) (ls' := [some (mR (5, 0, 19)), some (mI v1), some (mI 0), some (mI (v3 + 1))]) (st' := []) (S' := (L, I, J, R)) (P := True) [(.iconst 0, (0, 0, 0, 0, 0)), (.istore_n 2, (0, 0, 0, 0, 0)), (.iinc 3 1, (0, 0, 0, 1, 0)), (.goto (-41), (0, 23, 0, 0, 0))] [] (by decide +kernel) rfl trivial ?_
      cases hf
      exact hk
    · have hf := if_f h2 hf
      obtain ⟨g3, hf⟩ := gd_s hf
      refine b_blk (pc' := 49) (ls' := [some (mR (5, 0, 19)), some (mI v1), some (mI v2), some (mI v3)]) (st' := [mI v3, mR (5, 0, 19), mI (I (sd + 2) ((v1 * (6 : Int32)) + v3).toNatClampNeg)]) (S' := (L, I, J, R)) (P := (((True ∧ R 19 4 = some (8, 0, sd)) ∧ R sd 6 = some (20, 36, sd + 2)) ∧ vp_in ((v1 * (6 : Int32)) + v3) 36)) [(.aload_n 0, (0, 0, 0, 0, 0)), (.getfield 19, (5, 4, 3, 0, 0)), (.getfield 154, (8, 6, 3, 0, 0)), (.iload_n 1, (0, 0, 0, 0, 0)), (.bipush 6, (0, 0, 0, 6, 0)), (.imul, (0, 0, 0, 0, 0)), (.iload_n 3, (0, 0, 0, 0, 0)), (.iadd, (0, 0, 0, 0, 0)), (.iaload, (0, 0, 0, 0, 0)), (.aload_n 0, (0, 0, 0, 0, 0)), (.iload_n 3, (0, 0, 0, 0, 0))] [some (8, 0, sd), some (20, 36, sd + 2)] (by decide +kernel) rfl ⟨⟨⟨trivial, ht⟩, (sl_of hR hqd).2.1⟩, (in_n (n := 36) (by decide) g3.1 g3.2)⟩ ?_
      obtain ⟨r4, hc4, hf⟩ := bnd_o hf
      refine b_cV (as := [mI v3]) (st := [mI (I (sd + 2) ((v1 * (6 : Int32)) + v3).toNatClampNeg)]) (by decide +kernel) k_5_158 n_Reader_letterAt rfl (by decide) v_Reader_letterAt (C_Reader_letterAt sd I J v3 hR ht hqd hc4) (Nat.le_of_ble_eq_true rfl) (by decide) rfl rfl (fun _ h => h) ?_
      show m_B G (m_rm 3 0 0) M_Reader_named Q 0 0 52 [some (mR (5, 0, 19)), some (mI v1), some (mI v2), some (mI v3)] [mI r4, mI (I (sd + 2) ((v1 * (6 : Int32)) + v3).toNatClampNeg)] (L, I, J, R)
      refine b_icmp_ne (off := 7) (tgt := 59) (by decide +kernel) (by decide) (fun h5 => ?_) (fun h5 => ?_)
      · have hf := if_f h5 hf
        refine b_blk (pc' := 23) (ls' := [some (mR (5, 0, 19)), some (mI v1), some (mI 0), some (mI (v3 + 1))]) (st' := []) (S' := (L, I, J, R)) (P := True) [(.iconst 0, (0, 0, 0, 0, 0)), (.istore_n 2, (0, 0, 0, 0, 0)), (.iinc 3 1, (0, 0, 0, 1, 0)), (.goto (-41), (0, 23, 0, 0, 0))] [] (by decide +kernel) rfl trivial ?_
        cases hf
        exact hk
      · have hf := if_t h5 hf
        refine b_blk (pc' := 60) (ls' := [some (mR (5, 0, 19)), some (mI v1), some (mI v2), some (mI v3)]) (st' := [mI 1]) (S' := (L, I, J, R)) (P := True) [(.iconst 1, (0, 0, 0, 1, 0)), (.goto 4, (0, 60, 0, 0, 0))] [] (by decide +kernel) rfl trivial ?_
        refine b_blk (pc' := 23) (ls' := [some (mR (5, 0, 19)), some (mI v1), some (mI 1), some (mI (v3 + 1))]) (st' := []) (S' := (L, I, J, R)) (P := True) [(.istore_n 2, (0, 0, 0, 0, 0)), (.iinc 3 1, (0, 0, 0, 1, 0)), (.goto (-41), (0, 23, 0, 0, 0))] [] (by decide +kernel) rfl trivial ?_
        cases hf
        exact hk
noncomputable def F_Reader_named_2 (sd : Nat) (I : MI) (v1 : Int32) : Option ((Int32) ⊕ ((Unit) ⊕ (Int32))) :=
  if (I sd 3) ≤ v1 then (some (.inr (.inl ()))) else (if (6 : Int32) ≤ v1 then (some (.inr (.inl ()))) else ((wl (fun s : Int32 × Int32 => F_Reader_named_23 sd I v1 s.1 s.2) ((1 : Int32), (0 : Int32))).bind fun t3 => if t3 = (0 : Int32) then (some (.inl (v1 + 1 : Int32))) else (some (.inr (.inr (v1 : Int32))))))
set_option maxRecDepth 100000 in
set_option maxHeartbeats 400000 in
theorem W_Reader_named_2 {G : MG} {Q : Option MV → MS → Prop} {L : List (Nat × Nat)} {R : Nat → Nat → Option MRef} (sd : Nat) (I : MI) (J : MJ) (v1 : Int32) (hR : RF R) (ht : R 19 4 = some (8, 0, sd)) (hqd : sd = 3 ∨ sd = 11) {r : (Int32) ⊕ ((Unit) ⊕ (Int32))} (hf : F_Reader_named_2 sd I v1 = some r) (hk : (Sum.elim (fun s : Int32 => m_B G (m_rm 3 0 0) M_Reader_named Q 0 0 2 [some (mR (5, 0, 19)), some (mI s), none, none] [] (L, I, J, R)) (Sum.elim (fun s : Unit => m_B G (m_rm 3 0 0) M_Reader_named Q 0 0 79 [none, none, none, none] [] (L, I, J, R)) (fun r : Int32 => Q (some (mI r)) (L, I, J, R)))) r) : m_B G (m_rm 3 0 0) M_Reader_named Q 0 0 2 [some (mR (5, 0, 19)), some (mI v1), none, none] [] (L, I, J, R) := by
  unfold F_Reader_named_2 at hf
  refine b_blk (pc' := 10) (ls' := [some (mR (5, 0, 19)), some (mI v1), none, none]) (st' := [mI (I sd 3), mI v1]) (S' := (L, I, J, R)) (P := (True ∧ R 19 4 = some (8, 0, sd))) [(.iload_n 1, (0, 0, 0, 0, 0)), (.aload_n 0, (0, 0, 0, 0, 0)), (.getfield 19, (5, 4, 3, 0, 0)), (.getfield 151, (8, 3, 0, 0, 0))] [some (8, 0, sd)] (by decide +kernel) rfl ⟨trivial, ht⟩ ?_
  refine b_icmp_ge (off := 69) (tgt := 79) (by decide +kernel) (by decide) (fun h1 => ?_) (fun h1 => ?_)
  · have hf := if_t h1 hf
    refine b_frg 0 ?_
    refine b_frg 1 ?_
    cases hf
    exact hk
  · have hf := if_f h1 hf
    refine b_blk (pc' := 16) (ls' := [some (mR (5, 0, 19)), some (mI v1), none, none]) (st' := [mI 6, mI v1]) (S' := (L, I, J, R)) (P := True) [(.iload_n 1, (0, 0, 0, 0, 0)), (.bipush 6, (0, 0, 0, 6, 0))] [] (by decide +kernel) rfl trivial ?_
    refine b_icmp_ge (off := 63) (tgt := 79) (by decide +kernel) (by decide) (fun h2 => ?_) (fun h2 => ?_)
    · have hf := if_t h2 hf
      refine b_frg 0 ?_
      refine b_frg 1 ?_
      cases hf
      exact hk
    · have hf := if_f h2 hf
      refine b_blk (pc' := 23) (ls' := [some (mR (5, 0, 19)), some (mI v1), some (mI 1), some (mI 0)]) (st' := []) (S' := (L, I, J, R)) (P := True) [(.iconst 1, (0, 0, 0, 1, 0)), (.istore_n 2, (0, 0, 0, 0, 0)), (.iconst 0, (0, 0, 0, 0, 0)), (.istore_n 3, (0, 0, 0, 0, 0))] [] (by decide +kernel) rfl trivial ?_
      obtain ⟨t3, hw, hf⟩ := bnd_o hf
      refine wl_B (A := fun s : Int32 × Int32 => m_B G (m_rm 3 0 0) M_Reader_named Q 0 0 23 [some (mR (5, 0, 19)), some (mI v1), some (mI s.1), some (mI s.2)] [] (L, I, J, R)) (B := (fun s : Int32 => m_B G (m_rm 3 0 0) M_Reader_named Q 0 0 67 [some (mR (5, 0, 19)), some (mI v1), some (mI s), none] [] (L, I, J, R))) (fun s r hs hr => W_Reader_named_23 sd I J v1 s.1 s.2 hR ht hqd hs hr) hw ?_
      show m_B G (m_rm 3 0 0) M_Reader_named Q 0 0 67 [some (mR (5, 0, 19)), some (mI v1), some (mI t3), none] [] (L, I, J, R)
      refine b_blk (pc' := 68) (ls' := [some (mR (5, 0, 19)), some (mI v1), some (mI t3), none]) (st' := [mI t3]) (S' := (L, I, J, R)) (P := True) [(.iload_n 2, (0, 0, 0, 0, 0))] [] (by decide +kernel) rfl trivial ?_
      refine b_if_eq (off := 5) (tgt := 73) (by decide +kernel) (by decide) (fun h4 => ?_) (fun h4 => ?_)
      · have hf := if_t h4 hf
        refine b_blk (pc' := 2) (ls' := [some (mR (5, 0, 19)), some (mI (v1 + 1)), some (mI t3), none]) (st' := []) (S' := (L, I, J, R)) (P := True) [(.iinc 1 1, (0, 0, 0, 1, 0)), (.goto (-74), (0, 2, 0, 0, 0))] [] (by decide +kernel) rfl trivial ?_
        refine b_frg 2 ?_
        cases hf
        exact hk
      · have hf := if_f h4 hf
        refine b_blk (pc' := 72) (ls' := [some (mR (5, 0, 19)), some (mI v1), some (mI t3), none]) (st' := [mI v1]) (S' := (L, I, J, R)) (P := True) [(.iload_n 1, (0, 0, 0, 0, 0))] [] (by decide +kernel) rfl trivial ?_
        cases hf
        exact b_iret (by decide +kernel) rfl hk
noncomputable def F_Reader_named (sd : Nat) (I : MI) : Option (Int32) :=
  (wl (fun s : Int32 => F_Reader_named_2 sd I s) (0 : Int32)).bind <| sel (fun q => some q) fun t1 => some ((-1) : Int32)
set_option maxRecDepth 100000 in
set_option maxHeartbeats 400000 in
theorem W_Reader_named {G : MG} {Q : Option MV → MS → Prop} {L : List (Nat × Nat)} {R : Nat → Nat → Option MRef} (sd : Nat) (I : MI) (J : MJ) (hR : RF R) (ht : R 19 4 = some (8, 0, sd)) (hqd : sd = 3 ∨ sd = 11) {r : Int32} (hf : F_Reader_named sd I = some r) (hk : (fun r : Int32 => Q (some (mI r)) (L, I, J, R)) r) : m_B G (m_rm 3 0 0) M_Reader_named Q 0 0 0 [some (mR (5, 0, 19)), none, none, none] [] (L, I, J, R) := by
  unfold F_Reader_named at hf
  refine b_blk (pc' := 2) (ls' := [some (mR (5, 0, 19)), some (mI 0), none, none]) (st' := []) (S' := (L, I, J, R)) (P := True) [(.iconst 0, (0, 0, 0, 0, 0)), (.istore_n 1, (0, 0, 0, 0, 0))] [] (by decide +kernel) rfl trivial ?_
  obtain ⟨t1, hw, hf⟩ := bnd_o hf
  refine wl_B (A := fun s : Int32 => m_B G (m_rm 3 0 0) M_Reader_named Q 0 0 2 [some (mR (5, 0, 19)), some (mI s), none, none] [] (L, I, J, R)) (B := (Sum.elim (fun s : Unit => m_B G (m_rm 3 0 0) M_Reader_named Q 0 0 79 [none, none, none, none] [] (L, I, J, R)) (fun r : Int32 => Q (some (mI r)) (L, I, J, R)))) (fun s r hs hr => W_Reader_named_2 sd I J s hR ht hqd hs hr) hw ?_
  rcases t1 with t1 | q
  rotate_left
  · cases se_r hf; exact hk
  replace hf := se_l hf
  show m_B G (m_rm 3 0 0) M_Reader_named Q 0 0 79 [none, none, none, none] [] (L, I, J, R)
  refine b_blk (pc' := 80) (ls' := [none, none, none, none]) (st' := [mI (-1)]) (S' := (L, I, J, R)) (P := True) [(.iconst (-1), (0, 0, 0, (-1), 0))] [] (by decide +kernel) rfl trivial ?_
  cases hf
  exact b_iret (by decide +kernel) rfl hk
theorem C_Reader_named {G : MG} {L : List (Nat × Nat)} {R : Nat → Nat → Option MRef} (sd : Nat) (I : MI) (J : MJ) (hR : RF R) (ht : R 19 4 = some (8, 0, sd)) (hqd : sd = 3 ∨ sd = 11) {r : Int32} (hf : F_Reader_named sd I = some r) : m_met G 3 0 0 y_Reader_named M_Reader_named [mR (5, 0, 19)] (L, I, J, R) (m_is (some (mI r)) (L, I, J, R)) :=
  m_met_in n_Reader_named (plainFor_of_name (by decide)) (by decide) (Nat.le_of_ble_eq_true rfl) (ls := [some (mR (5, 0, 19)), none, none, none]) rfl (W_Reader_named sd I J hR ht hqd hf ⟨rfl, rfl⟩)
noncomputable def F_Reader_emit (sd : Nat) (I : MI) (v1 : Int32) : Option (Int32 × MI) :=
  if (Int32.ofNat 1600) ≤ (I 19 5) then (some ((1 : Int32), I)) else (gd (I 19 5) 1600 <| bnd (m_up (m_up I (sd + 7) ((I 19 5).toNatClampNeg) v1) 19 5 (((m_up I (sd + 7) ((I 19 5).toNatClampNeg) v1) 19 5) + (1 : Int32)) : MI) fun x3 => some ((1 : Int32), x3))
set_option maxRecDepth 100000 in
set_option maxHeartbeats 400000 in
theorem W_Reader_emit {G : MG} {Q : Option MV → MS → Prop} {L : List (Nat × Nat)} {R : Nat → Nat → Option MRef} (sd : Nat) (I : MI) (J : MJ) (v1 : Int32) (hR : RF R) (ht : R 19 4 = some (8, 0, sd)) (hqd : sd = 3 ∨ sd = 11) {r : Int32 × MI} (hf : F_Reader_emit sd I v1 = some r) (hk : (fun r : Int32 × MI => Q (some (mI r.1)) (L, r.2, J, R)) r) : m_B G (m_rm 1 0 0) M_Reader_emit Q 0 0 0 [some (mR (5, 0, 19)), some (mI v1)] [] (L, I, J, R) := by
  unfold F_Reader_emit at hf
  refine b_blk (pc' := 12) (ls' := [some (mR (5, 0, 19)), some (mI v1)]) (st' := [mI (Int32.ofNat 1600), mI (I 19 5)]) (S' := (L, I, J, R)) (P := ((True ∧ R 19 4 = some (8, 0, sd)) ∧ R sd 8 = some (20, 1600, sd + 7))) [(.aload_n 0, (0, 0, 0, 0, 0)), (.getfield 97, (5, 5, 0, 0, 0)), (.aload_n 0, (0, 0, 0, 0, 0)), (.getfield 19, (5, 4, 3, 0, 0)), (.getfield 216, (8, 8, 3, 0, 0)), (.arraylength, (0, 0, 0, 0, 0))] [some (8, 0, sd), some (20, 1600, sd + 7)] (by decide +kernel) rfl ⟨⟨trivial, ht⟩, (sl_of hR hqd).2.2.2.1⟩ ?_
  refine b_icmp_ge (off := 26) (tgt := 38) (by decide +kernel) (by decide) (fun h1 => ?_) (fun h1 => ?_)
  · have hf := if_t h1 hf
    refine b_blk (pc' := 39) (ls' := [some (mR (5, 0, 19)), some (mI v1)]) (st' := [mI 1]) (S' := (L, I, J, R)) (P := True) [(.iconst 1, (0, 0, 0, 1, 0))] [] (by decide +kernel) rfl trivial ?_
    cases hf
    exact b_zret (by decide +kernel) rfl (by decide) hk
  · have hf := if_f h1 hf
    obtain ⟨g2, hf⟩ := gd_s hf
    refine b_blk (pc' := 39) (ls' := [some (mR (5, 0, 19)), some (mI v1)]) (st' := [mI 1]) (S' := (L, m_up (m_up I (sd + 7) ((I 19 5).toNatClampNeg) v1) 19 5 (((m_up I (sd + 7) ((I 19 5).toNatClampNeg) v1) 19 5) + (1 : Int32)), J, R)) (P := (((True ∧ R 19 4 = some (8, 0, sd)) ∧ R sd 8 = some (20, 1600, sd + 7)) ∧ vp_in (I 19 5) 1600)) [(.aload_n 0, (0, 0, 0, 0, 0)), (.getfield 19, (5, 4, 3, 0, 0)), (.getfield 216, (8, 8, 3, 0, 0)), (.aload_n 0, (0, 0, 0, 0, 0)), (.getfield 97, (5, 5, 0, 0, 0)), (.iload_n 1, (0, 0, 0, 0, 0)), (.iastore, (0, 0, 0, 0, 0)), (.aload_n 0, (0, 0, 0, 0, 0)), (.dup, (0, 0, 0, 0, 0)), (.getfield 97, (5, 5, 0, 0, 0)), (.iconst 1, (0, 0, 0, 1, 0)), (.iadd, (0, 0, 0, 0, 0)), (.putfield 97, (5, 5, 0, 0, 0)), (.iconst 1, (0, 0, 0, 1, 0))] [some (8, 0, sd), some (20, 1600, sd + 7)] (by decide +kernel) rfl ⟨⟨⟨trivial, ht⟩, (sl_of hR hqd).2.2.2.1⟩, (in_n (n := 1600) (by decide) g2.1 g2.2)⟩ ?_
    obtain ⟨x3, ex3, hf⟩ := bnd_s hf
    refine m_B_cg (ls' := [some (mR (5, 0, 19)), some (mI v1)]) (st' := [mI 1]) (S' := (L, x3, J, R)) (by first | with_reducible rfl | rw [ex3]) (by first | with_reducible rfl | rw [ex3]) (by first | with_reducible rfl | rw [ex3]) ?_
    cases hf
    exact b_zret (by decide +kernel) rfl (by decide) hk
theorem C_Reader_emit {G : MG} {L : List (Nat × Nat)} {R : Nat → Nat → Option MRef} (sd : Nat) (I : MI) (J : MJ) (v1 : Int32) (hR : RF R) (ht : R 19 4 = some (8, 0, sd)) (hqd : sd = 3 ∨ sd = 11) {r : Int32 × MI} (hf : F_Reader_emit sd I v1 = some r) : m_met G 1 0 0 y_Reader_emit M_Reader_emit [mR (5, 0, 19), mI v1] (L, I, J, R) (m_is (some (mI r.1)) (L, r.2, J, R)) :=
  m_met_in n_Reader_emit (plainFor_of_name (by decide)) (by decide) (Nat.le_of_ble_eq_true rfl) (ls := [some (mR (5, 0, 19)), some (mI v1)]) rfl (W_Reader_emit sd I J v1 hR ht hqd hf ⟨rfl, rfl⟩)
noncomputable def F_Reader_opens (sd : Nat) (I : MI) (v1 : Int32) : Option (Int32 × MI) :=
  if v1 < (6 : Int32) then ((F_Reader_advance sd I).bind fun r2 => some ((1 : Int32), r2)) else ((F_Reader_wrong sd I (4 : Int32) (I 19 7)).bind fun r3 => gq (r3.1 = 0 ∨ r3.1 = 1) <| some ((r3.1 : Int32), r3.2))
set_option maxRecDepth 100000 in
set_option maxHeartbeats 400000 in
theorem W_Reader_opens {G : MG} {Q : Option MV → MS → Prop} {L : List (Nat × Nat)} {R : Nat → Nat → Option MRef} (sd : Nat) (I : MI) (J : MJ) (v1 : Int32) (hR : RF R) (ht : R 19 4 = some (8, 0, sd)) (hqd : sd = 3 ∨ sd = 11) {r : Int32 × MI} (hf : F_Reader_opens sd I v1 = some r) (hk : (fun r : Int32 × MI => Q (some (mI r.1)) (L, r.2, J, R)) r) : m_B G (m_rm 7 0 0) M_Reader_opens Q 0 0 0 [some (mR (5, 0, 19)), some (mI v1)] [] (L, I, J, R) := by
  unfold F_Reader_opens at hf
  refine b_blk (pc' := 3) (ls' := [some (mR (5, 0, 19)), some (mI v1)]) (st' := [mI 6, mI v1]) (S' := (L, I, J, R)) (P := True) [(.iload_n 1, (0, 0, 0, 0, 0)), (.bipush 6, (0, 0, 0, 6, 0))] [] (by decide +kernel) rfl trivial ?_
  refine b_icmp_lt (off := 13) (tgt := 16) (by decide +kernel) (by decide) (fun h1 => ?_) (fun h1 => ?_)
  · have hf := if_t h1 hf
    refine b_blk (pc' := 17) (ls' := [some (mR (5, 0, 19)), some (mI v1)]) (st' := [mR (5, 0, 19)]) (S' := (L, I, J, R)) (P := True) [(.aload_n 0, (0, 0, 0, 0, 0))] [] (by decide +kernel) rfl trivial ?_
    obtain ⟨r2, hc2, hf⟩ := bnd_o hf
    refine b_cV (as := []) (st := []) (by decide +kernel) k_5_88 n_Reader_advance rfl (by decide) v_Reader_advance (C_Reader_advance sd I J hR ht hqd hc2) (Nat.le_of_ble_eq_true rfl) (by decide) rfl rfl (fun _ h => h) ?_
    show m_B G (m_rm 7 0 0) M_Reader_opens Q 0 0 20 [some (mR (5, 0, 19)), some (mI v1)] [] (L, r2, J, R)
    refine b_blk (pc' := 21) (ls' := [some (mR (5, 0, 19)), some (mI v1)]) (st' := [mI 1]) (S' := (L, r2, J, R)) (P := True) [(.iconst 1, (0, 0, 0, 1, 0))] [] (by decide +kernel) rfl trivial ?_
    cases hf
    exact b_zret (by decide +kernel) rfl (by decide) hk
  · have hf := if_f h1 hf
    refine b_blk (pc' := 12) (ls' := [some (mR (5, 0, 19)), some (mI v1)]) (st' := [mI (I 19 7), mI 4, mR (5, 0, 19)]) (S' := (L, I, J, R)) (P := True) [(.aload_n 0, (0, 0, 0, 0, 0)), (.iconst 4, (0, 0, 0, 4, 0)), (.aload_n 0, (0, 0, 0, 0, 0)), (.getfield 66, (5, 7, 0, 0, 0))] [] (by decide +kernel) rfl trivial ?_
    obtain ⟨r3, hc3, hf⟩ := bnd_o hf
    refine b_cV (as := [mI 4, mI (I 19 7)]) (st := []) (by decide +kernel) k_5_69 n_Reader_wrong rfl (by decide) v_Reader_wrong (C_Reader_wrong sd I J (4 : Int32) (I 19 7) hR ht hqd hc3) (Nat.le_of_ble_eq_true rfl) (by decide) rfl rfl (fun _ h => h) ?_
    show m_B G (m_rm 7 0 0) M_Reader_opens Q 0 0 15 [some (mR (5, 0, 19)), some (mI v1)] [mI r3.1] (L, r3.2, J, R)
    obtain ⟨g4, hf⟩ := gq_s hf
    cases hf
    exact b_zret (by decide +kernel) rfl g4 hk
theorem C_Reader_opens {G : MG} {L : List (Nat × Nat)} {R : Nat → Nat → Option MRef} (sd : Nat) (I : MI) (J : MJ) (v1 : Int32) (hR : RF R) (ht : R 19 4 = some (8, 0, sd)) (hqd : sd = 3 ∨ sd = 11) {r : Int32 × MI} (hf : F_Reader_opens sd I v1 = some r) : m_met G 7 0 0 y_Reader_opens M_Reader_opens [mR (5, 0, 19), mI v1] (L, I, J, R) (m_is (some (mI r.1)) (L, r.2, J, R)) :=
  m_met_in n_Reader_opens (plainFor_of_name (by decide)) (by decide) (Nat.le_of_ble_eq_true rfl) (ls := [some (mR (5, 0, 19)), some (mI v1)]) rfl (W_Reader_opens sd I J v1 hR ht hqd hf ⟨rfl, rfl⟩)
def RdOK (G : MG) (R : Nat → Nat → Option MRef) (rc : Nat → MI → Int32 → Option (Int32 × MI)) (d : Nat) : Prop :=
  (∀ (L : List (Nat × Nat)) (I : MI) (J : MJ) (v : Int32) (r : Int32 × MI), rc 0 I v = some r → m_met G d 0 0 y_Reader_test M_Reader_test [mR (5, 0, 19), mI v] (L, I, J, R) (m_is (some (mI r.1)) (L, r.2, J, R))) ∧
  (∀ (L : List (Nat × Nat)) (I : MI) (J : MJ) (v : Int32) (r : Int32 × MI), rc 1 I v = some r → m_met G d 0 0 y_Reader_both M_Reader_both [mR (5, 0, 19), mI v] (L, I, J, R) (m_is (some (mI r.1)) (L, r.2, J, R))) ∧
  (∀ (L : List (Nat × Nat)) (I : MI) (J : MJ) (v : Int32) (r : Int32 × MI), rc 2 I v = some r → m_met G d 0 0 y_Reader_fact M_Reader_fact [mR (5, 0, 19), mI v] (L, I, J, R) (m_is (some (mI r.1)) (L, r.2, J, R))) ∧
  (∀ (L : List (Nat × Nat)) (I : MI) (J : MJ) (v : Int32) (r : Int32 × MI), rc 3 I v = some r → m_met G d 0 0 y_Reader_sum M_Reader_sum [mR (5, 0, 19), mI v] (L, I, J, R) (m_is (some (mI r.1)) (L, r.2, J, R))) ∧
  (∀ (L : List (Nat × Nat)) (I : MI) (J : MJ) (v : Int32) (r : Int32 × MI), rc 4 I v = some r → m_met G d 0 0 y_Reader_product M_Reader_product [mR (5, 0, 19), mI v] (L, I, J, R) (m_is (some (mI r.1)) (L, r.2, J, R))) ∧
  (∀ (L : List (Nat × Nat)) (I : MI) (J : MJ) (v : Int32) (r : Int32 × MI), rc 5 I v = some r → m_met G d 0 0 y_Reader_part M_Reader_part [mR (5, 0, 19), mI v] (L, I, J, R) (m_is (some (mI r.1)) (L, r.2, J, R)))
noncomputable def F_Reader_test_12 (sd : Nat) (rc : Nat → MI → Int32 → Option (Int32 × MI)) (I : MI) (v1 : Int32) (v2 : Int32) : Option ((Int32 × MI) ⊕ ((MI) ⊕ (Int32 × MI))) :=
  if (1600 : Int32) ≤ v2 then (some (.inr (.inl I))) else ((F_Reader_isWord sd I (18 : Int32)).bind fun r2 => if r2 = (0 : Int32) then (some (.inr (.inl I))) else ((F_Reader_advance sd I).bind fun r4 => (rc 1 r4 v1).bind fun r5 => if r5.1 = (0 : Int32) then (some (.inr (.inr ((0 : Int32), r5.2)))) else ((F_Reader_emit sd r5.2 (20010 : Int32)).bind fun r7 => some (.inl ((v2 + 1 : Int32), r7.2)))))
set_option maxRecDepth 100000 in
set_option maxHeartbeats 400000 in
theorem W_Reader_test_12 {G : MG} {Q : Option MV → MS → Prop} {L : List (Nat × Nat)} {R : Nat → Nat → Option MRef} (sd : Nat) (rc : Nat → MI → Int32 → Option (Int32 × MI)) (I : MI) (J : MJ) (v1 : Int32) (v2 : Int32) {d : Nat} (hR : RF R) (ht : R 19 4 = some (8, 0, sd)) (hqd : sd = 3 ∨ sd = 11) (hrc : RdOK G R rc d) (hd8 : 8 ≤ d) {r : (Int32 × MI) ⊕ ((MI) ⊕ (Int32 × MI))} (hf : F_Reader_test_12 sd rc I v1 v2 = some r) (hk : (Sum.elim (fun s : Int32 × MI => m_B G (m_rm (d + 1) 0 0) M_Reader_test Q 0 0 12 [some (mR (5, 0, 19)), some (mI v1), some (mI s.1)] [] (L, s.2, J, R)) (Sum.elim (fun s : MI => m_B G (m_rm (d + 1) 0 0) M_Reader_test Q 0 0 56 [none, none, none] [] (L, s, J, R)) (fun r : Int32 × MI => Q (some (mI r.1)) (L, r.2, J, R)))) r) : m_B G (m_rm (d + 1) 0 0) M_Reader_test Q 0 0 12 [some (mR (5, 0, 19)), some (mI v1), some (mI v2)] [] (L, I, J, R) := by
  unfold F_Reader_test_12 at hf
  refine b_blk (pc' := 16) (ls' := [some (mR (5, 0, 19)), some (mI v1), some (mI v2)]) (st' := [mI 1600, mI v2]) (S' := (L, I, J, R)) (P := True) [(.iload_n 2, (0, 0, 0, 0, 0)), (.sipush 1600, (0, 0, 0, 1600, 0))] [] (by decide +kernel) rfl trivial ?_
  refine b_icmp_ge (off := 40) (tgt := 56) (by decide +kernel) (by decide) (fun h1 => ?_) (fun h1 => ?_)
  · have hf := if_t h1 hf
    refine b_frg 0 ?_
    refine b_frg 1 ?_
    refine b_frg 2 ?_
    cases hf
    exact hk
  · have hf := if_f h1 hf
    refine b_blk (pc' := 22) (ls' := [some (mR (5, 0, 19)), some (mI v1), some (mI v2)]) (st' := [mI 18, mR (5, 0, 19)]) (S' := (L, I, J, R)) (P := True) [(.aload_n 0, (0, 0, 0, 0, 0)), (.bipush 18, (0, 0, 0, 18, 0))] [] (by decide +kernel) rfl trivial ?_
    obtain ⟨r2, hc2, hf⟩ := bnd_o hf
    refine b_cV (as := [mI 18]) (st := []) (by decide +kernel) k_5_145 n_Reader_isWord rfl (by decide) v_Reader_isWord (C_Reader_isWord sd I J (18 : Int32) hR ht hqd hc2) (Nat.le_of_ble_eq_true rfl) (dp (Nat.le_trans (show 1 ≤ 8 from by decide) hd8) (by decide)) rfl rfl (fun _ h => h) ?_
    show m_B G (m_rm (d + 1) 0 0) M_Reader_test Q 0 0 25 [some (mR (5, 0, 19)), some (mI v1), some (mI v2)] [mI r2] (L, I, J, R)
    refine b_if_eq (off := 31) (tgt := 56) (by decide +kernel) (by decide) (fun h3 => ?_) (fun h3 => ?_)
    · have hf := if_t h3 hf
      refine b_frg 0 ?_
      refine b_frg 1 ?_
      refine b_frg 2 ?_
      cases hf
      exact hk
    · have hf := if_f h3 hf
      refine b_blk (pc' := 29) (ls' := [some (mR (5, 0, 19)), some (mI v1), some (mI v2)]) (st' := [mR (5, 0, 19)]) (S' := (L, I, J, R)) (P := True) [(.aload_n 0, (0, 0, 0, 0, 0))] [] (by decide +kernel) rfl trivial ?_
      obtain ⟨r4, hc4, hf⟩ := bnd_o hf
      refine b_cV (as := []) (st := []) (by decide +kernel) k_5_88 n_Reader_advance rfl (by decide) v_Reader_advance (C_Reader_advance sd I J hR ht hqd hc4) (Nat.le_of_ble_eq_true rfl) (dp (Nat.le_trans (show 6 ≤ 8 from by decide) hd8) (by decide)) rfl rfl (fun _ h => h) ?_
      show m_B G (m_rm (d + 1) 0 0) M_Reader_test Q 0 0 32 [some (mR (5, 0, 19)), some (mI v1), some (mI v2)] [] (L, r4, J, R)
      refine b_blk (pc' := 34) (ls' := [some (mR (5, 0, 19)), some (mI v1), some (mI v2)]) (st' := [mI v1, mR (5, 0, 19)]) (S' := (L, r4, J, R)) (P := True) [(.aload_n 0, (0, 0, 0, 0, 0)), (.iload_n 1, (0, 0, 0, 0, 0))] [] (by decide +kernel) rfl trivial ?_
      obtain ⟨r5, hc5, hf⟩ := bnd_o hf
      refine b_cV (as := [mI v1]) (st := []) (by decide +kernel) k_5_219 n_Reader_both rfl (by decide) v_Reader_both (hrc.2.1 L r4 J v1 _ hc5) (Nat.le_of_ble_eq_true rfl) (dp (Nat.le_refl _) (by decide)) rfl rfl (fun _ h => h) ?_
      show m_B G (m_rm (d + 1) 0 0) M_Reader_test Q 0 0 37 [some (mR (5, 0, 19)), some (mI v1), some (mI v2)] [mI r5.1] (L, r5.2, J, R)
      refine b_if_ne (off := 5) (tgt := 42) (by decide +kernel) (by decide) (fun h6 => ?_) (fun h6 => ?_)
      · have hf := if_f h6 hf
        refine b_blk (pc' := 46) (ls' := [some (mR (5, 0, 19)), some (mI v1), some (mI v2)]) (st' := [mI 20010, mR (5, 0, 19)]) (S' := (L, r5.2, J, R)) (P := True) [(.aload_n 0, (0, 0, 0, 0, 0)), (.sipush 20010, (0, 0, 0, 20010, 0))] [] (by decide +kernel) rfl trivial ?_
        obtain ⟨r7, hc7, hf⟩ := bnd_o hf
        refine b_cV (as := [mI 20010]) (st := []) (by decide +kernel) k_5_222 n_Reader_emit rfl (by decide) v_Reader_emit (C_Reader_emit sd r5.2 J (20010 : Int32) hR ht hqd hc7) (Nat.le_of_ble_eq_true rfl) (dp (Nat.le_trans (show 1 ≤ 8 from by decide) hd8) (by decide)) rfl rfl (fun _ h => h) ?_
        show m_B G (m_rm (d + 1) 0 0) M_Reader_test Q 0 0 49 [some (mR (5, 0, 19)), some (mI v1), some (mI v2)] [mI r7.1] (L, r7.2, J, R)
        refine b_blk (pc' := 12) (ls' := [some (mR (5, 0, 19)), some (mI v1), some (mI (v2 + 1))]) (st' := []) (S' := (L, r7.2, J, R)) (P := True) [(.pop, (0, 0, 0, 0, 0)), (.iinc 2 1, (0, 0, 0, 1, 0)), (.goto (-41), (0, 12, 0, 0, 0))] [] (by decide +kernel) rfl trivial ?_
        cases hf
        exact hk
      · have hf := if_t h6 hf
        refine b_blk (pc' := 41) (ls' := [some (mR (5, 0, 19)), some (mI v1), some (mI v2)]) (st' := [mI 0]) (S' := (L, r5.2, J, R)) (P := True) [(.iconst 0, (0, 0, 0, 0, 0))] [] (by decide +kernel) rfl trivial ?_
        cases hf
        exact b_zret (by decide +kernel) rfl (by decide) hk
noncomputable def F_Reader_test (sd : Nat) (rc : Nat → MI → Int32 → Option (Int32 × MI)) (I : MI) (v1 : Int32) : Option (Int32 × MI) :=
  (rc 1 I v1).bind fun r1 => if r1.1 = (0 : Int32) then (some ((0 : Int32), r1.2)) else ((wl (fun s : Int32 × MI => F_Reader_test_12 sd rc s.2 v1 s.1) ((0 : Int32), r1.2)).bind <| sel (fun q => some q) fun t3 => some ((1 : Int32), t3))
set_option maxRecDepth 100000 in
set_option maxHeartbeats 400000 in
theorem W_Reader_test {G : MG} {Q : Option MV → MS → Prop} {L : List (Nat × Nat)} {R : Nat → Nat → Option MRef} (sd : Nat) (rc : Nat → MI → Int32 → Option (Int32 × MI)) (I : MI) (J : MJ) (v1 : Int32) {d : Nat} (hR : RF R) (ht : R 19 4 = some (8, 0, sd)) (hqd : sd = 3 ∨ sd = 11) (hrc : RdOK G R rc d) (hd8 : 8 ≤ d) {r : Int32 × MI} (hf : F_Reader_test sd rc I v1 = some r) (hk : (fun r : Int32 × MI => Q (some (mI r.1)) (L, r.2, J, R)) r) : m_B G (m_rm (d + 1) 0 0) M_Reader_test Q 0 0 0 [some (mR (5, 0, 19)), some (mI v1), none] [] (L, I, J, R) := by
  unfold F_Reader_test at hf
  refine b_blk (pc' := 2) (ls' := [some (mR (5, 0, 19)), some (mI v1), none]) (st' := [mI v1, mR (5, 0, 19)]) (S' := (L, I, J, R)) (P := True) [(.aload_n 0, (0, 0, 0, 0, 0)), (.iload_n 1, (0, 0, 0, 0, 0))] [] (by decide +kernel) rfl trivial ?_
  obtain ⟨r1, hc1, hf⟩ := bnd_o hf
  refine b_cV (as := [mI v1]) (st := []) (by decide +kernel) k_5_219 n_Reader_both rfl (by decide) v_Reader_both (hrc.2.1 L I J v1 _ hc1) (Nat.le_of_ble_eq_true rfl) (dp (Nat.le_refl _) (by decide)) rfl rfl (fun _ h => h) ?_
  show m_B G (m_rm (d + 1) 0 0) M_Reader_test Q 0 0 5 [some (mR (5, 0, 19)), some (mI v1), none] [mI r1.1] (L, r1.2, J, R)
  refine b_if_ne (off := 5) (tgt := 10) (by decide +kernel) (by decide) (fun h2 => ?_) (fun h2 => ?_)
  · have hf := if_f h2 hf
    refine b_blk (pc' := 12) (ls' := [some (mR (5, 0, 19)), some (mI v1), some (mI 0)]) (st' := []) (S' := (L, r1.2, J, R)) (P := True) [(.iconst 0, (0, 0, 0, 0, 0)), (.istore_n 2, (0, 0, 0, 0, 0))] [] (by decide +kernel) rfl trivial ?_
    obtain ⟨t3, hw, hf⟩ := bnd_o hf
    refine wl_B (A := fun s : Int32 × MI => m_B G (m_rm (d + 1) 0 0) M_Reader_test Q 0 0 12 [some (mR (5, 0, 19)), some (mI v1), some (mI s.1)] [] (L, s.2, J, R)) (B := (Sum.elim (fun s : MI => m_B G (m_rm (d + 1) 0 0) M_Reader_test Q 0 0 56 [none, none, none] [] (L, s, J, R)) (fun r : Int32 × MI => Q (some (mI r.1)) (L, r.2, J, R)))) (fun s r hs hr => W_Reader_test_12 sd rc s.2 J v1 s.1 hR ht hqd hrc hd8 hs hr) hw ?_
    rcases t3 with t3 | q
    rotate_left
    · cases se_r hf; exact hk
    replace hf := se_l hf
    show m_B G (m_rm (d + 1) 0 0) M_Reader_test Q 0 0 56 [none, none, none] [] (L, t3, J, R)
    refine b_blk (pc' := 57) (ls' := [none, none, none]) (st' := [mI 1]) (S' := (L, t3, J, R)) (P := True) [(.iconst 1, (0, 0, 0, 1, 0))] [] (by decide +kernel) rfl trivial ?_
    cases hf
    exact b_zret (by decide +kernel) rfl (by decide) hk
  · have hf := if_t h2 hf
    refine b_blk (pc' := 9) (ls' := [some (mR (5, 0, 19)), some (mI v1), none]) (st' := [mI 0]) (S' := (L, r1.2, J, R)) (P := True) [(.iconst 0, (0, 0, 0, 0, 0))] [] (by decide +kernel) rfl trivial ?_
    cases hf
    exact b_zret (by decide +kernel) rfl (by decide) hk
theorem C_Reader_test {G : MG} {L : List (Nat × Nat)} {R : Nat → Nat → Option MRef} (sd : Nat) (rc : Nat → MI → Int32 → Option (Int32 × MI)) (I : MI) (J : MJ) (v1 : Int32) {d : Nat} (hR : RF R) (ht : R 19 4 = some (8, 0, sd)) (hqd : sd = 3 ∨ sd = 11) (hrc : RdOK G R rc d) (hd8 : 8 ≤ d) {r : Int32 × MI} (hf : F_Reader_test sd rc I v1 = some r) : m_met G (d + 1) 0 0 y_Reader_test M_Reader_test [mR (5, 0, 19), mI v1] (L, I, J, R) (m_is (some (mI r.1)) (L, r.2, J, R)) :=
  m_met_in n_Reader_test (plainFor_of_name (by decide)) (by decide) (Nat.le_of_ble_eq_true rfl) (ls := [some (mR (5, 0, 19)), some (mI v1), none]) rfl (W_Reader_test sd rc I J v1 hR ht hqd hrc hd8 hf ⟨rfl, rfl⟩)
noncomputable def F_Reader_both_12 (sd : Nat) (rc : Nat → MI → Int32 → Option (Int32 × MI)) (I : MI) (v1 : Int32) (v2 : Int32) : Option ((Int32 × MI) ⊕ ((MI) ⊕ (Int32 × MI))) :=
  if (1600 : Int32) ≤ v2 then (some (.inr (.inl I))) else ((F_Reader_isWord sd I (19 : Int32)).bind fun r2 => if r2 = (0 : Int32) then (some (.inr (.inl I))) else ((F_Reader_advance sd I).bind fun r4 => (rc 2 r4 v1).bind fun r5 => if r5.1 = (0 : Int32) then (some (.inr (.inr ((0 : Int32), r5.2)))) else ((F_Reader_emit sd r5.2 (20009 : Int32)).bind fun r7 => some (.inl ((v2 + 1 : Int32), r7.2)))))
set_option maxRecDepth 100000 in
set_option maxHeartbeats 400000 in
theorem W_Reader_both_12 {G : MG} {Q : Option MV → MS → Prop} {L : List (Nat × Nat)} {R : Nat → Nat → Option MRef} (sd : Nat) (rc : Nat → MI → Int32 → Option (Int32 × MI)) (I : MI) (J : MJ) (v1 : Int32) (v2 : Int32) {d : Nat} (hR : RF R) (ht : R 19 4 = some (8, 0, sd)) (hqd : sd = 3 ∨ sd = 11) (hrc : RdOK G R rc d) (hd8 : 8 ≤ d) {r : (Int32 × MI) ⊕ ((MI) ⊕ (Int32 × MI))} (hf : F_Reader_both_12 sd rc I v1 v2 = some r) (hk : (Sum.elim (fun s : Int32 × MI => m_B G (m_rm (d + 1) 0 0) M_Reader_both Q 0 0 12 [some (mR (5, 0, 19)), some (mI v1), some (mI s.1)] [] (L, s.2, J, R)) (Sum.elim (fun s : MI => m_B G (m_rm (d + 1) 0 0) M_Reader_both Q 0 0 56 [none, none, none] [] (L, s, J, R)) (fun r : Int32 × MI => Q (some (mI r.1)) (L, r.2, J, R)))) r) : m_B G (m_rm (d + 1) 0 0) M_Reader_both Q 0 0 12 [some (mR (5, 0, 19)), some (mI v1), some (mI v2)] [] (L, I, J, R) := by
  unfold F_Reader_both_12 at hf
  refine b_blk (pc' := 16) (ls' := [some (mR (5, 0, 19)), some (mI v1), some (mI v2)]) (st' := [mI 1600, mI v2]) (S' := (L, I, J, R)) (P := True) [(.iload_n 2, (0, 0, 0, 0, 0)), (.sipush 1600, (0, 0, 0, 1600, 0))] [] (by decide +kernel) rfl trivial ?_
  refine b_icmp_ge (off := 40) (tgt := 56) (by decide +kernel) (by decide) (fun h1 => ?_) (fun h1 => ?_)
  · have hf := if_t h1 hf
    refine b_frg 0 ?_
    refine b_frg 1 ?_
    refine b_frg 2 ?_
    cases hf
    exact hk
  · have hf := if_f h1 hf
    refine b_blk (pc' := 22) (ls' := [some (mR (5, 0, 19)), some (mI v1), some (mI v2)]) (st' := [mI 19, mR (5, 0, 19)]) (S' := (L, I, J, R)) (P := True) [(.aload_n 0, (0, 0, 0, 0, 0)), (.bipush 19, (0, 0, 0, 19, 0))] [] (by decide +kernel) rfl trivial ?_
    obtain ⟨r2, hc2, hf⟩ := bnd_o hf
    refine b_cV (as := [mI 19]) (st := []) (by decide +kernel) k_5_145 n_Reader_isWord rfl (by decide) v_Reader_isWord (C_Reader_isWord sd I J (19 : Int32) hR ht hqd hc2) (Nat.le_of_ble_eq_true rfl) (dp (Nat.le_trans (show 1 ≤ 8 from by decide) hd8) (by decide)) rfl rfl (fun _ h => h) ?_
    show m_B G (m_rm (d + 1) 0 0) M_Reader_both Q 0 0 25 [some (mR (5, 0, 19)), some (mI v1), some (mI v2)] [mI r2] (L, I, J, R)
    refine b_if_eq (off := 31) (tgt := 56) (by decide +kernel) (by decide) (fun h3 => ?_) (fun h3 => ?_)
    · have hf := if_t h3 hf
      refine b_frg 0 ?_
      refine b_frg 1 ?_
      refine b_frg 2 ?_
      cases hf
      exact hk
    · have hf := if_f h3 hf
      refine b_blk (pc' := 29) (ls' := [some (mR (5, 0, 19)), some (mI v1), some (mI v2)]) (st' := [mR (5, 0, 19)]) (S' := (L, I, J, R)) (P := True) [(.aload_n 0, (0, 0, 0, 0, 0))] [] (by decide +kernel) rfl trivial ?_
      obtain ⟨r4, hc4, hf⟩ := bnd_o hf
      refine b_cV (as := []) (st := []) (by decide +kernel) k_5_88 n_Reader_advance rfl (by decide) v_Reader_advance (C_Reader_advance sd I J hR ht hqd hc4) (Nat.le_of_ble_eq_true rfl) (dp (Nat.le_trans (show 6 ≤ 8 from by decide) hd8) (by decide)) rfl rfl (fun _ h => h) ?_
      show m_B G (m_rm (d + 1) 0 0) M_Reader_both Q 0 0 32 [some (mR (5, 0, 19)), some (mI v1), some (mI v2)] [] (L, r4, J, R)
      refine b_blk (pc' := 34) (ls' := [some (mR (5, 0, 19)), some (mI v1), some (mI v2)]) (st' := [mI v1, mR (5, 0, 19)]) (S' := (L, r4, J, R)) (P := True) [(.aload_n 0, (0, 0, 0, 0, 0)), (.iload_n 1, (0, 0, 0, 0, 0))] [] (by decide +kernel) rfl trivial ?_
      obtain ⟨r5, hc5, hf⟩ := bnd_o hf
      refine b_cV (as := [mI v1]) (st := []) (by decide +kernel) k_5_225 n_Reader_fact rfl (by decide) v_Reader_fact (hrc.2.2.1 L r4 J v1 _ hc5) (Nat.le_of_ble_eq_true rfl) (dp (Nat.le_refl _) (by decide)) rfl rfl (fun _ h => h) ?_
      show m_B G (m_rm (d + 1) 0 0) M_Reader_both Q 0 0 37 [some (mR (5, 0, 19)), some (mI v1), some (mI v2)] [mI r5.1] (L, r5.2, J, R)
      refine b_if_ne (off := 5) (tgt := 42) (by decide +kernel) (by decide) (fun h6 => ?_) (fun h6 => ?_)
      · have hf := if_f h6 hf
        refine b_blk (pc' := 46) (ls' := [some (mR (5, 0, 19)), some (mI v1), some (mI v2)]) (st' := [mI 20009, mR (5, 0, 19)]) (S' := (L, r5.2, J, R)) (P := True) [(.aload_n 0, (0, 0, 0, 0, 0)), (.sipush 20009, (0, 0, 0, 20009, 0))] [] (by decide +kernel) rfl trivial ?_
        obtain ⟨r7, hc7, hf⟩ := bnd_o hf
        refine b_cV (as := [mI 20009]) (st := []) (by decide +kernel) k_5_222 n_Reader_emit rfl (by decide) v_Reader_emit (C_Reader_emit sd r5.2 J (20009 : Int32) hR ht hqd hc7) (Nat.le_of_ble_eq_true rfl) (dp (Nat.le_trans (show 1 ≤ 8 from by decide) hd8) (by decide)) rfl rfl (fun _ h => h) ?_
        show m_B G (m_rm (d + 1) 0 0) M_Reader_both Q 0 0 49 [some (mR (5, 0, 19)), some (mI v1), some (mI v2)] [mI r7.1] (L, r7.2, J, R)
        refine b_blk (pc' := 12) (ls' := [some (mR (5, 0, 19)), some (mI v1), some (mI (v2 + 1))]) (st' := []) (S' := (L, r7.2, J, R)) (P := True) [(.pop, (0, 0, 0, 0, 0)), (.iinc 2 1, (0, 0, 0, 1, 0)), (.goto (-41), (0, 12, 0, 0, 0))] [] (by decide +kernel) rfl trivial ?_
        cases hf
        exact hk
      · have hf := if_t h6 hf
        refine b_blk (pc' := 41) (ls' := [some (mR (5, 0, 19)), some (mI v1), some (mI v2)]) (st' := [mI 0]) (S' := (L, r5.2, J, R)) (P := True) [(.iconst 0, (0, 0, 0, 0, 0))] [] (by decide +kernel) rfl trivial ?_
        cases hf
        exact b_zret (by decide +kernel) rfl (by decide) hk
noncomputable def F_Reader_both (sd : Nat) (rc : Nat → MI → Int32 → Option (Int32 × MI)) (I : MI) (v1 : Int32) : Option (Int32 × MI) :=
  (rc 2 I v1).bind fun r1 => if r1.1 = (0 : Int32) then (some ((0 : Int32), r1.2)) else ((wl (fun s : Int32 × MI => F_Reader_both_12 sd rc s.2 v1 s.1) ((0 : Int32), r1.2)).bind <| sel (fun q => some q) fun t3 => some ((1 : Int32), t3))
set_option maxRecDepth 100000 in
set_option maxHeartbeats 400000 in
theorem W_Reader_both {G : MG} {Q : Option MV → MS → Prop} {L : List (Nat × Nat)} {R : Nat → Nat → Option MRef} (sd : Nat) (rc : Nat → MI → Int32 → Option (Int32 × MI)) (I : MI) (J : MJ) (v1 : Int32) {d : Nat} (hR : RF R) (ht : R 19 4 = some (8, 0, sd)) (hqd : sd = 3 ∨ sd = 11) (hrc : RdOK G R rc d) (hd8 : 8 ≤ d) {r : Int32 × MI} (hf : F_Reader_both sd rc I v1 = some r) (hk : (fun r : Int32 × MI => Q (some (mI r.1)) (L, r.2, J, R)) r) : m_B G (m_rm (d + 1) 0 0) M_Reader_both Q 0 0 0 [some (mR (5, 0, 19)), some (mI v1), none] [] (L, I, J, R) := by
  unfold F_Reader_both at hf
  refine b_blk (pc' := 2) (ls' := [some (mR (5, 0, 19)), some (mI v1), none]) (st' := [mI v1, mR (5, 0, 19)]) (S' := (L, I, J, R)) (P := True) [(.aload_n 0, (0, 0, 0, 0, 0)), (.iload_n 1, (0, 0, 0, 0, 0))] [] (by decide +kernel) rfl trivial ?_
  obtain ⟨r1, hc1, hf⟩ := bnd_o hf
  refine b_cV (as := [mI v1]) (st := []) (by decide +kernel) k_5_225 n_Reader_fact rfl (by decide) v_Reader_fact (hrc.2.2.1 L I J v1 _ hc1) (Nat.le_of_ble_eq_true rfl) (dp (Nat.le_refl _) (by decide)) rfl rfl (fun _ h => h) ?_
  show m_B G (m_rm (d + 1) 0 0) M_Reader_both Q 0 0 5 [some (mR (5, 0, 19)), some (mI v1), none] [mI r1.1] (L, r1.2, J, R)
  refine b_if_ne (off := 5) (tgt := 10) (by decide +kernel) (by decide) (fun h2 => ?_) (fun h2 => ?_)
  · have hf := if_f h2 hf
    refine b_blk (pc' := 12) (ls' := [some (mR (5, 0, 19)), some (mI v1), some (mI 0)]) (st' := []) (S' := (L, r1.2, J, R)) (P := True) [(.iconst 0, (0, 0, 0, 0, 0)), (.istore_n 2, (0, 0, 0, 0, 0))] [] (by decide +kernel) rfl trivial ?_
    obtain ⟨t3, hw, hf⟩ := bnd_o hf
    refine wl_B (A := fun s : Int32 × MI => m_B G (m_rm (d + 1) 0 0) M_Reader_both Q 0 0 12 [some (mR (5, 0, 19)), some (mI v1), some (mI s.1)] [] (L, s.2, J, R)) (B := (Sum.elim (fun s : MI => m_B G (m_rm (d + 1) 0 0) M_Reader_both Q 0 0 56 [none, none, none] [] (L, s, J, R)) (fun r : Int32 × MI => Q (some (mI r.1)) (L, r.2, J, R)))) (fun s r hs hr => W_Reader_both_12 sd rc s.2 J v1 s.1 hR ht hqd hrc hd8 hs hr) hw ?_
    rcases t3 with t3 | q
    rotate_left
    · cases se_r hf; exact hk
    replace hf := se_l hf
    show m_B G (m_rm (d + 1) 0 0) M_Reader_both Q 0 0 56 [none, none, none] [] (L, t3, J, R)
    refine b_blk (pc' := 57) (ls' := [none, none, none]) (st' := [mI 1]) (S' := (L, t3, J, R)) (P := True) [(.iconst 1, (0, 0, 0, 1, 0))] [] (by decide +kernel) rfl trivial ?_
    cases hf
    exact b_zret (by decide +kernel) rfl (by decide) hk
  · have hf := if_t h2 hf
    refine b_blk (pc' := 9) (ls' := [some (mR (5, 0, 19)), some (mI v1), none]) (st' := [mI 0]) (S' := (L, r1.2, J, R)) (P := True) [(.iconst 0, (0, 0, 0, 0, 0))] [] (by decide +kernel) rfl trivial ?_
    cases hf
    exact b_zret (by decide +kernel) rfl (by decide) hk
theorem C_Reader_both {G : MG} {L : List (Nat × Nat)} {R : Nat → Nat → Option MRef} (sd : Nat) (rc : Nat → MI → Int32 → Option (Int32 × MI)) (I : MI) (J : MJ) (v1 : Int32) {d : Nat} (hR : RF R) (ht : R 19 4 = some (8, 0, sd)) (hqd : sd = 3 ∨ sd = 11) (hrc : RdOK G R rc d) (hd8 : 8 ≤ d) {r : Int32 × MI} (hf : F_Reader_both sd rc I v1 = some r) : m_met G (d + 1) 0 0 y_Reader_both M_Reader_both [mR (5, 0, 19), mI v1] (L, I, J, R) (m_is (some (mI r.1)) (L, r.2, J, R)) :=
  m_met_in n_Reader_both (plainFor_of_name (by decide)) (by decide) (Nat.le_of_ble_eq_true rfl) (ls := [some (mR (5, 0, 19)), some (mI v1), none]) rfl (W_Reader_both sd rc I J v1 hR ht hqd hrc hd8 hf ⟨rfl, rfl⟩)
noncomputable def F_Reader_fact_147 (sd : Nat) (rc : Nat → MI → Int32 → Option (Int32 × MI)) (I : MI) (v1 : Int32) (v2 : Int32) : Option (Int32 × MI) :=
  (F_Reader_advance sd I).bind fun r1 => (rc 3 r1 v1).bind fun r2 => if r2.1 = (0 : Int32) then (some ((0 : Int32), r2.2)) else (if v2 = (60 : Int32) then ((F_Reader_emit sd r2.2 (20004 : Int32)).bind fun r10 => if r10.1 = (0 : Int32) then (some ((0 : Int32), r10.2)) else (some ((1 : Int32), r10.2))) else (if v2 = (62 : Int32) then ((F_Reader_emit sd r2.2 (20005 : Int32)).bind fun r8 => if r8.1 = (0 : Int32) then (some ((0 : Int32), r8.2)) else (some ((1 : Int32), r8.2))) else ((F_Reader_emit sd r2.2 (20006 : Int32)).bind fun r6 => if r6.1 = (0 : Int32) then (some ((0 : Int32), r6.2)) else (some ((1 : Int32), r6.2)))))
set_option maxRecDepth 100000 in
set_option maxHeartbeats 400000 in
theorem W_Reader_fact_147 {G : MG} {Q : Option MV → MS → Prop} {L : List (Nat × Nat)} {R : Nat → Nat → Option MRef} (sd : Nat) (rc : Nat → MI → Int32 → Option (Int32 × MI)) (I : MI) (J : MJ) (v1 : Int32) (v2 : Int32) {d : Nat} (hR : RF R) (ht : R 19 4 = some (8, 0, sd)) (hqd : sd = 3 ∨ sd = 11) (hrc : RdOK G R rc d) (hd8 : 8 ≤ d) {r : Int32 × MI} (hf : F_Reader_fact_147 sd rc I v1 v2 = some r) (hk : (fun r : Int32 × MI => Q (some (mI r.1)) (L, r.2, J, R)) r) : m_B G (m_rm (d + 1) 0 0) M_Reader_fact Q 0 0 147 [some (mR (5, 0, 19)), some (mI v1), some (mI v2)] [] (L, I, J, R) := by
  unfold F_Reader_fact_147 at hf
  refine b_blk (pc' := 148) (ls' := [some (mR (5, 0, 19)), some (mI v1), some (mI v2)]) (st' := [mR (5, 0, 19)]) (S' := (L, I, J, R)) (P := True) [(.aload_n 0, (0, 0, 0, 0, 0))] [] (by decide +kernel) rfl trivial ?_
  obtain ⟨r1, hc1, hf⟩ := bnd_o hf
  refine b_cV (as := []) (st := []) (by decide +kernel) k_5_88 n_Reader_advance rfl (by decide) v_Reader_advance (C_Reader_advance sd I J hR ht hqd hc1) (Nat.le_of_ble_eq_true rfl) (dp (Nat.le_trans (show 6 ≤ 8 from by decide) hd8) (by decide)) rfl rfl (fun _ h => h) ?_
  show m_B G (m_rm (d + 1) 0 0) M_Reader_fact Q 0 0 151 [some (mR (5, 0, 19)), some (mI v1), some (mI v2)] [] (L, r1, J, R)
  refine b_blk (pc' := 153) (ls' := [some (mR (5, 0, 19)), some (mI v1), some (mI v2)]) (st' := [mI v1, mR (5, 0, 19)]) (S' := (L, r1, J, R)) (P := True) [(.aload_n 0, (0, 0, 0, 0, 0)), (.iload_n 1, (0, 0, 0, 0, 0))] [] (by decide +kernel) rfl trivial ?_
  obtain ⟨r2, hc2, hf⟩ := bnd_o hf
  refine b_cV (as := [mI v1]) (st := []) (by decide +kernel) k_5_94 n_Reader_sum rfl (by decide) v_Reader_sum (hrc.2.2.2.1 L r1 J v1 _ hc2) (Nat.le_of_ble_eq_true rfl) (dp (Nat.le_refl _) (by decide)) rfl rfl (fun _ h => h) ?_
  show m_B G (m_rm (d + 1) 0 0) M_Reader_fact Q 0 0 156 [some (mR (5, 0, 19)), some (mI v1), some (mI v2)] [mI r2.1] (L, r2.2, J, R)
  refine b_if_eq (off := 41) (tgt := 197) (by decide +kernel) (by decide) (fun h3 => ?_) (fun h3 => ?_)
  · have hf := if_t h3 hf
    refine b_blk (pc' := 198) (ls' := [some (mR (5, 0, 19)), some (mI v1), some (mI v2)]) (st' := [mI 0]) (S' := (L, r2.2, J, R)) (P := True) [(.iconst 0, (0, 0, 0, 0, 0))] [] (by decide +kernel) rfl trivial ?_
    cases hf
    exact b_zret (by decide +kernel) rfl (by decide) hk
  · have hf := if_f h3 hf
    refine b_blk (pc' := 163) (ls' := [some (mR (5, 0, 19)), some (mI v1), some (mI v2)]) (st' := [mI 60, mI v2, mR (5, 0, 19)]) (S' := (L, r2.2, J, R)) (P := True) [(.aload_n 0, (0, 0, 0, 0, 0)), (.iload_n 2, (0, 0, 0, 0, 0)), (.bipush 60, (0, 0, 0, 60, 0))] [] (by decide +kernel) rfl trivial ?_
    refine b_icmp_ne (off := 9) (tgt := 172) (by decide +kernel) (by decide) (fun h4 => ?_) (fun h4 => ?_)
    · have hf := if_f h4 hf
      refine b_blk (pc' := 175) (ls' := [some (mR (5, 0, 19)), some (mI v1), some (mI v2)]) (st' := [mI 62, mI v2, mR (5, 0, 19)]) (S' := (L, r2.2, J, R)) (P := True) [(.iload_n 2, (0, 0, 0, 0, 0)), (.bipush 62, (0, 0, 0, 62, 0))] [] (by decide +kernel) rfl trivial ?_
      refine b_icmp_ne (off := 9) (tgt := 184) (by decide +kernel) (by decide) (fun h5 => ?_) (fun h5 => ?_)
      · have hf := if_f h5 hf
        refine b_blk (pc' := 187) (ls' := [some (mR (5, 0, 19)), some (mI v1), some (mI v2)]) (st' := [mI 20006, mR (5, 0, 19)]) (S' := (L, r2.2, J, R)) (P := True) [(.sipush 20006, (0, 0, 0, 20006, 0))] [] (by decide +kernel) rfl trivial ?_
        obtain ⟨r6, hc6, hf⟩ := bnd_o hf
        refine b_cV (as := [mI 20006]) (st := []) (by decide +kernel) k_5_222 n_Reader_emit rfl (by decide) v_Reader_emit (C_Reader_emit sd r2.2 J (20006 : Int32) hR ht hqd hc6) (Nat.le_of_ble_eq_true rfl) (dp (Nat.le_trans (show 1 ≤ 8 from by decide) hd8) (by decide)) rfl rfl (fun _ h => h) ?_
        show m_B G (m_rm (d + 1) 0 0) M_Reader_fact Q 0 0 190 [some (mR (5, 0, 19)), some (mI v1), some (mI v2)] [mI r6.1] (L, r6.2, J, R)
        refine b_if_eq (off := 7) (tgt := 197) (by decide +kernel) (by decide) (fun h7 => ?_) (fun h7 => ?_)
        · have hf := if_t h7 hf
          refine b_blk (pc' := 198) (ls' := [some (mR (5, 0, 19)), some (mI v1), some (mI v2)]) (st' := [mI 0]) (S' := (L, r6.2, J, R)) (P := True) [(.iconst 0, (0, 0, 0, 0, 0))] [] (by decide +kernel) rfl trivial ?_
          cases hf
          exact b_zret (by decide +kernel) rfl (by decide) hk
        · have hf := if_f h7 hf
          refine b_blk (pc' := 198) (ls' := [some (mR (5, 0, 19)), some (mI v1), some (mI v2)]) (st' := [mI 1]) (S' := (L, r6.2, J, R)) (P := True) [(.iconst 1, (0, 0, 0, 1, 0)), (.goto 4, (0, 198, 0, 0, 0))] [] (by decide +kernel) rfl trivial ?_
          cases hf
          exact b_zret (by decide +kernel) rfl (by decide) hk
      · have hf := if_t h5 hf
        refine b_blk (pc' := 187) (ls' := [some (mR (5, 0, 19)), some (mI v1), some (mI v2)]) (st' := [mI 20005, mR (5, 0, 19)]) (S' := (L, r2.2, J, R)) (P := True) [(.sipush 20005, (0, 0, 0, 20005, 0)), (.goto 6, (0, 187, 0, 0, 0))] [] (by decide +kernel) rfl trivial ?_
        obtain ⟨r8, hc8, hf⟩ := bnd_o hf
        refine b_cV (as := [mI 20005]) (st := []) (by decide +kernel) k_5_222 n_Reader_emit rfl (by decide) v_Reader_emit (C_Reader_emit sd r2.2 J (20005 : Int32) hR ht hqd hc8) (Nat.le_of_ble_eq_true rfl) (dp (Nat.le_trans (show 1 ≤ 8 from by decide) hd8) (by decide)) rfl rfl (fun _ h => h) ?_
        show m_B G (m_rm (d + 1) 0 0) M_Reader_fact Q 0 0 190 [some (mR (5, 0, 19)), some (mI v1), some (mI v2)] [mI r8.1] (L, r8.2, J, R)
        refine b_if_eq (off := 7) (tgt := 197) (by decide +kernel) (by decide) (fun h9 => ?_) (fun h9 => ?_)
        · have hf := if_t h9 hf
          refine b_blk (pc' := 198) (ls' := [some (mR (5, 0, 19)), some (mI v1), some (mI v2)]) (st' := [mI 0]) (S' := (L, r8.2, J, R)) (P := True) [(.iconst 0, (0, 0, 0, 0, 0))] [] (by decide +kernel) rfl trivial ?_
          cases hf
          exact b_zret (by decide +kernel) rfl (by decide) hk
        · have hf := if_f h9 hf
          refine b_blk (pc' := 198) (ls' := [some (mR (5, 0, 19)), some (mI v1), some (mI v2)]) (st' := [mI 1]) (S' := (L, r8.2, J, R)) (P := True) [(.iconst 1, (0, 0, 0, 1, 0)), (.goto 4, (0, 198, 0, 0, 0))] [] (by decide +kernel) rfl trivial ?_
          cases hf
          exact b_zret (by decide +kernel) rfl (by decide) hk
    · have hf := if_t h4 hf
      refine b_blk (pc' := 187) (ls' := [some (mR (5, 0, 19)), some (mI v1), some (mI v2)]) (st' := [mI 20004, mR (5, 0, 19)]) (S' := (L, r2.2, J, R)) (P := True) [(.sipush 20004, (0, 0, 0, 20004, 0)), (.goto 18, (0, 187, 0, 0, 0))] [] (by decide +kernel) rfl trivial ?_
      obtain ⟨r10, hc10, hf⟩ := bnd_o hf
      refine b_cV (as := [mI 20004]) (st := []) (by decide +kernel) k_5_222 n_Reader_emit rfl (by decide) v_Reader_emit (C_Reader_emit sd r2.2 J (20004 : Int32) hR ht hqd hc10) (Nat.le_of_ble_eq_true rfl) (dp (Nat.le_trans (show 1 ≤ 8 from by decide) hd8) (by decide)) rfl rfl (fun _ h => h) ?_
      show m_B G (m_rm (d + 1) 0 0) M_Reader_fact Q 0 0 190 [some (mR (5, 0, 19)), some (mI v1), some (mI v2)] [mI r10.1] (L, r10.2, J, R)
      refine b_if_eq (off := 7) (tgt := 197) (by decide +kernel) (by decide) (fun h11 => ?_) (fun h11 => ?_)
      · have hf := if_t h11 hf
        refine b_blk (pc' := 198) (ls' := [some (mR (5, 0, 19)), some (mI v1), some (mI v2)]) (st' := [mI 0]) (S' := (L, r10.2, J, R)) (P := True) [(.iconst 0, (0, 0, 0, 0, 0))] [] (by decide +kernel) rfl trivial ?_
        cases hf
        exact b_zret (by decide +kernel) rfl (by decide) hk
      · have hf := if_f h11 hf
        refine b_blk (pc' := 198) (ls' := [some (mR (5, 0, 19)), some (mI v1), some (mI v2)]) (st' := [mI 1]) (S' := (L, r10.2, J, R)) (P := True) [(.iconst 1, (0, 0, 0, 1, 0)), (.goto 4, (0, 198, 0, 0, 0))] [] (by decide +kernel) rfl trivial ?_
        cases hf
        exact b_zret (by decide +kernel) rfl (by decide) hk
noncomputable def F_Reader_fact (sd : Nat) (rc : Nat → MI → Int32 → Option (Int32 × MI)) (I : MI) (v1 : Int32) : Option (Int32 × MI) :=
  (F_Reader_isWord sd I (20 : Int32)).bind fun r1 => if r1 = (0 : Int32) then (if (I 19 6) = (91 : Int32) then ((F_Reader_opens sd I v1).bind fun r16 => if r16.1 = (0 : Int32) then (some ((0 : Int32), r16.2)) else ((rc 0 r16.2 (v1 + (1 : Int32))).bind fun r18 => if r18.1 = (0 : Int32) then (some ((0 : Int32), r18.2)) else ((F_Reader_need sd r18.2 (93 : Int32)).bind fun r20 => if r20.1 = (0 : Int32) then (some ((0 : Int32), r20.2)) else (some ((1 : Int32), r20.2))))) else ((F_Reader_isWord sd I (21 : Int32)).bind fun r4 => if r4 = (0 : Int32) then ((rc 3 I v1).bind fun r6 => if r6.1 = (0 : Int32) then (some ((0 : Int32), r6.2)) else (if (r6.2 19 6) = (60 : Int32) then (F_Reader_fact_147 sd rc r6.2 v1 (r6.2 19 6)) else (if (r6.2 19 6) = (62 : Int32) then (F_Reader_fact_147 sd rc r6.2 v1 (r6.2 19 6)) else (if (r6.2 19 6) = (61 : Int32) then (F_Reader_fact_147 sd rc r6.2 v1 (r6.2 19 6)) else ((F_Reader_wrong sd r6.2 (1 : Int32) (r6.2 19 7)).bind fun r11 => gq (r11.1 = 0 ∨ r11.1 = 1) <| some ((r11.1 : Int32), r11.2)))))) else ((F_Reader_advance sd I).bind fun r13 => (F_Reader_emit sd r13 (1 : Int32)).bind fun r14 => gq (r14.1 = 0 ∨ r14.1 = 1) <| some ((r14.1 : Int32), r14.2)))) else ((F_Reader_opens sd I v1).bind fun r22 => if r22.1 = (0 : Int32) then (some ((0 : Int32), r22.2)) else ((rc 2 r22.2 (v1 + (1 : Int32))).bind fun r24 => if r24.1 = (0 : Int32) then (some ((0 : Int32), r24.2)) else ((F_Reader_emit sd r24.2 (30000 : Int32)).bind fun r26 => if r26.1 = (0 : Int32) then (some ((0 : Int32), r26.2)) else (some ((1 : Int32), r26.2)))))
set_option maxRecDepth 100000 in
set_option maxHeartbeats 400000 in
theorem W_Reader_fact {G : MG} {Q : Option MV → MS → Prop} {L : List (Nat × Nat)} {R : Nat → Nat → Option MRef} (sd : Nat) (rc : Nat → MI → Int32 → Option (Int32 × MI)) (I : MI) (J : MJ) (v1 : Int32) {d : Nat} (hR : RF R) (ht : R 19 4 = some (8, 0, sd)) (hqd : sd = 3 ∨ sd = 11) (hrc : RdOK G R rc d) (hd8 : 8 ≤ d) {r : Int32 × MI} (hf : F_Reader_fact sd rc I v1 = some r) (hk : (fun r : Int32 × MI => Q (some (mI r.1)) (L, r.2, J, R)) r) : m_B G (m_rm (d + 1) 0 0) M_Reader_fact Q 0 0 0 [some (mR (5, 0, 19)), some (mI v1), none] [] (L, I, J, R) := by
  unfold F_Reader_fact at hf
  refine b_blk (pc' := 3) (ls' := [some (mR (5, 0, 19)), some (mI v1), none]) (st' := [mI 20, mR (5, 0, 19)]) (S' := (L, I, J, R)) (P := True) [(.aload_n 0, (0, 0, 0, 0, 0)), (.bipush 20, (0, 0, 0, 20, 0))] [] (by decide +kernel) rfl trivial ?_
  obtain ⟨r1, hc1, hf⟩ := bnd_o hf
  refine b_cV (as := [mI 20]) (st := []) (by decide +kernel) k_5_145 n_Reader_isWord rfl (by decide) v_Reader_isWord (C_Reader_isWord sd I J (20 : Int32) hR ht hqd hc1) (Nat.le_of_ble_eq_true rfl) (dp (Nat.le_trans (show 1 ≤ 8 from by decide) hd8) (by decide)) rfl rfl (fun _ h => h) ?_
  show m_B G (m_rm (d + 1) 0 0) M_Reader_fact Q 0 0 6 [some (mR (5, 0, 19)), some (mI v1), none] [mI r1] (L, I, J, R)
  refine b_if_eq (off := 37) (tgt := 43) (by decide +kernel) (by decide) (fun h2 => ?_) (fun h2 => ?_)
  · have hf := if_t h2 hf
    refine b_blk (pc' := 49) (ls' := [some (mR (5, 0, 19)), some (mI v1), none]) (st' := [mI 91, mI (I 19 6)]) (S' := (L, I, J, R)) (P := True) [(.aload_n 0, (0, 0, 0, 0, 0)), (.getfield 39, (5, 6, 0, 0, 0)), (.bipush 91, (0, 0, 0, 91, 0))] [] (by decide +kernel) rfl trivial ?_
    refine b_icmp_ne (off := 36) (tgt := 85) (by decide +kernel) (by decide) (fun h3 => ?_) (fun h3 => ?_)
    · have hf := if_f h3 hf
      refine b_blk (pc' := 88) (ls' := [some (mR (5, 0, 19)), some (mI v1), none]) (st' := [mI 21, mR (5, 0, 19)]) (S' := (L, I, J, R)) (P := True) [(.aload_n 0, (0, 0, 0, 0, 0)), (.bipush 21, (0, 0, 0, 21, 0))] [] (by decide +kernel) rfl trivial ?_
      obtain ⟨r4, hc4, hf⟩ := bnd_o hf
      refine b_cV (as := [mI 21]) (st := []) (by decide +kernel) k_5_145 n_Reader_isWord rfl (by decide) v_Reader_isWord (C_Reader_isWord sd I J (21 : Int32) hR ht hqd hc4) (Nat.le_of_ble_eq_true rfl) (dp (Nat.le_trans (show 1 ≤ 8 from by decide) hd8) (by decide)) rfl rfl (fun _ h => h) ?_
      show m_B G (m_rm (d + 1) 0 0) M_Reader_fact Q 0 0 91 [some (mR (5, 0, 19)), some (mI v1), none] [mI r4] (L, I, J, R)
      refine b_if_eq (off := 13) (tgt := 104) (by decide +kernel) (by decide) (fun h5 => ?_) (fun h5 => ?_)
      · have hf := if_t h5 hf
        refine b_blk (pc' := 106) (ls' := [some (mR (5, 0, 19)), some (mI v1), none]) (st' := [mI v1, mR (5, 0, 19)]) (S' := (L, I, J, R)) (P := True) [(.aload_n 0, (0, 0, 0, 0, 0)), (.iload_n 1, (0, 0, 0, 0, 0))] [] (by decide +kernel) rfl trivial ?_
        obtain ⟨r6, hc6, hf⟩ := bnd_o hf
        refine b_cV (as := [mI v1]) (st := []) (by decide +kernel) k_5_94 n_Reader_sum rfl (by decide) v_Reader_sum (hrc.2.2.2.1 L I J v1 _ hc6) (Nat.le_of_ble_eq_true rfl) (dp (Nat.le_refl _) (by decide)) rfl rfl (fun _ h => h) ?_
        show m_B G (m_rm (d + 1) 0 0) M_Reader_fact Q 0 0 109 [some (mR (5, 0, 19)), some (mI v1), none] [mI r6.1] (L, r6.2, J, R)
        refine b_if_ne (off := 5) (tgt := 114) (by decide +kernel) (by decide) (fun h7 => ?_) (fun h7 => ?_)
        · have hf := if_f h7 hf
          refine b_blk (pc' := 122) (ls' := [some (mR (5, 0, 19)), some (mI v1), some (mI (r6.2 19 6))]) (st' := [mI 60, mI (r6.2 19 6)]) (S' := (L, r6.2, J, R)) (P := True) [(.aload_n 0, (0, 0, 0, 0, 0)), (.getfield 39, (5, 6, 0, 0, 0)), (.istore_n 2, (0, 0, 0, 0, 0)), (.iload_n 2, (0, 0, 0, 0, 0)), (.bipush 60, (0, 0, 0, 60, 0))] [] (by decide +kernel) rfl trivial ?_
          refine b_icmp_eq (off := 25) (tgt := 147) (by decide +kernel) (by decide) (fun h8 => ?_) (fun h8 => ?_)
          · have hf := if_t h8 hf
            exact m_B_cg rfl rfl rfl (W_Reader_fact_147 sd rc r6.2 J v1 (r6.2 19 6) hR ht hqd hrc hd8 hf hk)
          · have hf := if_f h8 hf
            refine b_blk (pc' := 128) (ls' := [some (mR (5, 0, 19)), some (mI v1), some (mI (r6.2 19 6))]) (st' := [mI 62, mI (r6.2 19 6)]) (S' := (L, r6.2, J, R)) (P := True) [(.iload_n 2, (0, 0, 0, 0, 0)), (.bipush 62, (0, 0, 0, 62, 0))] [] (by decide +kernel) rfl trivial ?_
            refine b_icmp_eq (off := 19) (tgt := 147) (by decide +kernel) (by decide) (fun h9 => ?_) (fun h9 => ?_)
            · have hf := if_t h9 hf
              exact m_B_cg rfl rfl rfl (W_Reader_fact_147 sd rc r6.2 J v1 (r6.2 19 6) hR ht hqd hrc hd8 hf hk)
            · have hf := if_f h9 hf
              refine b_blk (pc' := 134) (ls' := [some (mR (5, 0, 19)), some (mI v1), some (mI (r6.2 19 6))]) (st' := [mI 61, mI (r6.2 19 6)]) (S' := (L, r6.2, J, R)) (P := True) [(.iload_n 2, (0, 0, 0, 0, 0)), (.bipush 61, (0, 0, 0, 61, 0))] [] (by decide +kernel) rfl trivial ?_
              refine b_icmp_eq (off := 13) (tgt := 147) (by decide +kernel) (by decide) (fun h10 => ?_) (fun h10 => ?_)
              · have hf := if_t h10 hf
                exact m_B_cg rfl rfl rfl (W_Reader_fact_147 sd rc r6.2 J v1 (r6.2 19 6) hR ht hqd hrc hd8 hf hk)
              · have hf := if_f h10 hf
                refine b_blk (pc' := 143) (ls' := [some (mR (5, 0, 19)), some (mI v1), some (mI (r6.2 19 6))]) (st' := [mI (r6.2 19 7), mI 1, mR (5, 0, 19)]) (S' := (L, r6.2, J, R)) (P := True) [(.aload_n 0, (0, 0, 0, 0, 0)), (.iconst 1, (0, 0, 0, 1, 0)), (.aload_n 0, (0, 0, 0, 0, 0)), (.getfield 66, (5, 7, 0, 0, 0))] [] (by decide +kernel) rfl trivial ?_
                obtain ⟨r11, hc11, hf⟩ := bnd_o hf
                refine b_cV (as := [mI 1, mI (r6.2 19 7)]) (st := []) (by decide +kernel) k_5_69 n_Reader_wrong rfl (by decide) v_Reader_wrong (C_Reader_wrong sd r6.2 J (1 : Int32) (r6.2 19 7) hR ht hqd hc11) (Nat.le_of_ble_eq_true rfl) (dp (Nat.le_trans (show 1 ≤ 8 from by decide) hd8) (by decide)) rfl rfl (fun _ h => h) ?_
                show m_B G (m_rm (d + 1) 0 0) M_Reader_fact Q 0 0 146 [some (mR (5, 0, 19)), some (mI v1), some (mI (r6.2 19 6))] [mI r11.1] (L, r11.2, J, R)
                obtain ⟨g12, hf⟩ := gq_s hf
                cases hf
                exact b_zret (by decide +kernel) rfl g12 hk
        · have hf := if_t h7 hf
          refine b_blk (pc' := 113) (ls' := [some (mR (5, 0, 19)), some (mI v1), none]) (st' := [mI 0]) (S' := (L, r6.2, J, R)) (P := True) [(.iconst 0, (0, 0, 0, 0, 0))] [] (by decide +kernel) rfl trivial ?_
          cases hf
          exact b_zret (by decide +kernel) rfl (by decide) hk
      · have hf := if_f h5 hf
        refine b_blk (pc' := 95) (ls' := [some (mR (5, 0, 19)), some (mI v1), none]) (st' := [mR (5, 0, 19)]) (S' := (L, I, J, R)) (P := True) [(.aload_n 0, (0, 0, 0, 0, 0))] [] (by decide +kernel) rfl trivial ?_
        obtain ⟨r13, hc13, hf⟩ := bnd_o hf
        refine b_cV (as := []) (st := []) (by decide +kernel) k_5_88 n_Reader_advance rfl (by decide) v_Reader_advance (C_Reader_advance sd I J hR ht hqd hc13) (Nat.le_of_ble_eq_true rfl) (dp (Nat.le_trans (show 6 ≤ 8 from by decide) hd8) (by decide)) rfl rfl (fun _ h => h) ?_
        show m_B G (m_rm (d + 1) 0 0) M_Reader_fact Q 0 0 98 [some (mR (5, 0, 19)), some (mI v1), none] [] (L, r13, J, R)
        refine b_blk (pc' := 100) (ls' := [some (mR (5, 0, 19)), some (mI v1), none]) (st' := [mI 1, mR (5, 0, 19)]) (S' := (L, r13, J, R)) (P := True) [(.aload_n 0, (0, 0, 0, 0, 0)), (.iconst 1, (0, 0, 0, 1, 0))] [] (by decide +kernel) rfl trivial ?_
        obtain ⟨r14, hc14, hf⟩ := bnd_o hf
        refine b_cV (as := [mI 1]) (st := []) (by decide +kernel) k_5_222 n_Reader_emit rfl (by decide) v_Reader_emit (C_Reader_emit sd r13 J (1 : Int32) hR ht hqd hc14) (Nat.le_of_ble_eq_true rfl) (dp (Nat.le_trans (show 1 ≤ 8 from by decide) hd8) (by decide)) rfl rfl (fun _ h => h) ?_
        show m_B G (m_rm (d + 1) 0 0) M_Reader_fact Q 0 0 103 [some (mR (5, 0, 19)), some (mI v1), none] [mI r14.1] (L, r14.2, J, R)
        obtain ⟨g15, hf⟩ := gq_s hf
        cases hf
        exact b_zret (by decide +kernel) rfl g15 hk
    · have hf := if_t h3 hf
      refine b_blk (pc' := 54) (ls' := [some (mR (5, 0, 19)), some (mI v1), none]) (st' := [mI v1, mR (5, 0, 19)]) (S' := (L, I, J, R)) (P := True) [(.aload_n 0, (0, 0, 0, 0, 0)), (.iload_n 1, (0, 0, 0, 0, 0))] [] (by decide +kernel) rfl trivial ?_
      obtain ⟨r16, hc16, hf⟩ := bnd_o hf
      refine b_cV (as := [mI v1]) (st := []) (by decide +kernel) k_5_228 n_Reader_opens rfl (by decide) v_Reader_opens (C_Reader_opens sd I J v1 hR ht hqd hc16) (Nat.le_of_ble_eq_true rfl) (dp (Nat.le_trans (show 7 ≤ 8 from by decide) hd8) (by decide)) rfl rfl (fun _ h => h) ?_
      show m_B G (m_rm (d + 1) 0 0) M_Reader_fact Q 0 0 57 [some (mR (5, 0, 19)), some (mI v1), none] [mI r16.1] (L, r16.2, J, R)
      refine b_if_eq (off := 26) (tgt := 83) (by decide +kernel) (by decide) (fun h17 => ?_) (fun h17 => ?_)
      · have hf := if_t h17 hf
        refine b_blk (pc' := 84) (ls' := [some (mR (5, 0, 19)), some (mI v1), none]) (st' := [mI 0]) (S' := (L, r16.2, J, R)) (P := True) [(.iconst 0, (0, 0, 0, 0, 0))] [] (by decide +kernel) rfl trivial ?_
        cases hf
        exact b_zret (by decide +kernel) rfl (by decide) hk
      · have hf := if_f h17 hf
        refine b_blk (pc' := 64) (ls' := [some (mR (5, 0, 19)), some (mI v1), none]) (st' := [mI (v1 + (1 : Int32)), mR (5, 0, 19)]) (S' := (L, r16.2, J, R)) (P := True) [(.aload_n 0, (0, 0, 0, 0, 0)), (.iload_n 1, (0, 0, 0, 0, 0)), (.iconst 1, (0, 0, 0, 1, 0)), (.iadd, (0, 0, 0, 0, 0))] [] (by decide +kernel) rfl trivial ?_
        obtain ⟨r18, hc18, hf⟩ := bnd_o hf
        refine b_cV (as := [mI (v1 + (1 : Int32))]) (st := []) (by decide +kernel) k_5_91 n_Reader_test rfl (by decide) v_Reader_test (hrc.1 L r16.2 J (v1 + (1 : Int32)) _ hc18) (Nat.le_of_ble_eq_true rfl) (dp (Nat.le_refl _) (by decide)) rfl rfl (fun _ h => h) ?_
        show m_B G (m_rm (d + 1) 0 0) M_Reader_fact Q 0 0 67 [some (mR (5, 0, 19)), some (mI v1), none] [mI r18.1] (L, r18.2, J, R)
        refine b_if_eq (off := 16) (tgt := 83) (by decide +kernel) (by decide) (fun h19 => ?_) (fun h19 => ?_)
        · have hf := if_t h19 hf
          refine b_blk (pc' := 84) (ls' := [some (mR (5, 0, 19)), some (mI v1), none]) (st' := [mI 0]) (S' := (L, r18.2, J, R)) (P := True) [(.iconst 0, (0, 0, 0, 0, 0))] [] (by decide +kernel) rfl trivial ?_
          cases hf
          exact b_zret (by decide +kernel) rfl (by decide) hk
        · have hf := if_f h19 hf
          refine b_blk (pc' := 73) (ls' := [some (mR (5, 0, 19)), some (mI v1), none]) (st' := [mI 93, mR (5, 0, 19)]) (S' := (L, r18.2, J, R)) (P := True) [(.aload_n 0, (0, 0, 0, 0, 0)), (.bipush 93, (0, 0, 0, 93, 0))] [] (by decide +kernel) rfl trivial ?_
          obtain ⟨r20, hc20, hf⟩ := bnd_o hf
          refine b_cV (as := [mI 93]) (st := []) (by decide +kernel) k_5_73 n_Reader_need rfl (by decide) v_Reader_need (C_Reader_need sd r18.2 J (93 : Int32) hR ht hqd hc20) (Nat.le_of_ble_eq_true rfl) (dp (Nat.le_trans (show 7 ≤ 8 from by decide) hd8) (by decide)) rfl rfl (fun _ h => h) ?_
          show m_B G (m_rm (d + 1) 0 0) M_Reader_fact Q 0 0 76 [some (mR (5, 0, 19)), some (mI v1), none] [mI r20.1] (L, r20.2, J, R)
          refine b_if_eq (off := 7) (tgt := 83) (by decide +kernel) (by decide) (fun h21 => ?_) (fun h21 => ?_)
          · have hf := if_t h21 hf
            refine b_blk (pc' := 84) (ls' := [some (mR (5, 0, 19)), some (mI v1), none]) (st' := [mI 0]) (S' := (L, r20.2, J, R)) (P := True) [(.iconst 0, (0, 0, 0, 0, 0))] [] (by decide +kernel) rfl trivial ?_
            cases hf
            exact b_zret (by decide +kernel) rfl (by decide) hk
          · have hf := if_f h21 hf
            refine b_blk (pc' := 84) (ls' := [some (mR (5, 0, 19)), some (mI v1), none]) (st' := [mI 1]) (S' := (L, r20.2, J, R)) (P := True) [(.iconst 1, (0, 0, 0, 1, 0)), (.goto 4, (0, 84, 0, 0, 0))] [] (by decide +kernel) rfl trivial ?_
            cases hf
            exact b_zret (by decide +kernel) rfl (by decide) hk
  · have hf := if_f h2 hf
    refine b_blk (pc' := 11) (ls' := [some (mR (5, 0, 19)), some (mI v1), none]) (st' := [mI v1, mR (5, 0, 19)]) (S' := (L, I, J, R)) (P := True) [(.aload_n 0, (0, 0, 0, 0, 0)), (.iload_n 1, (0, 0, 0, 0, 0))] [] (by decide +kernel) rfl trivial ?_
    obtain ⟨r22, hc22, hf⟩ := bnd_o hf
    refine b_cV (as := [mI v1]) (st := []) (by decide +kernel) k_5_228 n_Reader_opens rfl (by decide) v_Reader_opens (C_Reader_opens sd I J v1 hR ht hqd hc22) (Nat.le_of_ble_eq_true rfl) (dp (Nat.le_trans (show 7 ≤ 8 from by decide) hd8) (by decide)) rfl rfl (fun _ h => h) ?_
    show m_B G (m_rm (d + 1) 0 0) M_Reader_fact Q 0 0 14 [some (mR (5, 0, 19)), some (mI v1), none] [mI r22.1] (L, r22.2, J, R)
    refine b_if_eq (off := 27) (tgt := 41) (by decide +kernel) (by decide) (fun h23 => ?_) (fun h23 => ?_)
    · have hf := if_t h23 hf
      refine b_blk (pc' := 42) (ls' := [some (mR (5, 0, 19)), some (mI v1), none]) (st' := [mI 0]) (S' := (L, r22.2, J, R)) (P := True) [(.iconst 0, (0, 0, 0, 0, 0))] [] (by decide +kernel) rfl trivial ?_
      cases hf
      exact b_zret (by decide +kernel) rfl (by decide) hk
    · have hf := if_f h23 hf
      refine b_blk (pc' := 21) (ls' := [some (mR (5, 0, 19)), some (mI v1), none]) (st' := [mI (v1 + (1 : Int32)), mR (5, 0, 19)]) (S' := (L, r22.2, J, R)) (P := True) [(.aload_n 0, (0, 0, 0, 0, 0)), (.iload_n 1, (0, 0, 0, 0, 0)), (.iconst 1, (0, 0, 0, 1, 0)), (.iadd, (0, 0, 0, 0, 0))] [] (by decide +kernel) rfl trivial ?_
      obtain ⟨r24, hc24, hf⟩ := bnd_o hf
      refine b_cV (as := [mI (v1 + (1 : Int32))]) (st := []) (by decide +kernel) k_5_225 n_Reader_fact rfl (by decide) v_Reader_fact (hrc.2.2.1 L r22.2 J (v1 + (1 : Int32)) _ hc24) (Nat.le_of_ble_eq_true rfl) (dp (Nat.le_refl _) (by decide)) rfl rfl (fun _ h => h) ?_
      show m_B G (m_rm (d + 1) 0 0) M_Reader_fact Q 0 0 24 [some (mR (5, 0, 19)), some (mI v1), none] [mI r24.1] (L, r24.2, J, R)
      refine b_if_eq (off := 17) (tgt := 41) (by decide +kernel) (by decide) (fun h25 => ?_) (fun h25 => ?_)
      · have hf := if_t h25 hf
        refine b_blk (pc' := 42) (ls' := [some (mR (5, 0, 19)), some (mI v1), none]) (st' := [mI 0]) (S' := (L, r24.2, J, R)) (P := True) [(.iconst 0, (0, 0, 0, 0, 0))] [] (by decide +kernel) rfl trivial ?_
        cases hf
        exact b_zret (by decide +kernel) rfl (by decide) hk
      · have hf := if_f h25 hf
        refine b_blk (pc' := 31) (ls' := [some (mR (5, 0, 19)), some (mI v1), none]) (st' := [mI 30000, mR (5, 0, 19)]) (S' := (L, r24.2, J, R)) (P := True) [(.aload_n 0, (0, 0, 0, 0, 0)), (.sipush 30000, (0, 0, 0, 30000, 0))] [] (by decide +kernel) rfl trivial ?_
        obtain ⟨r26, hc26, hf⟩ := bnd_o hf
        refine b_cV (as := [mI 30000]) (st := []) (by decide +kernel) k_5_222 n_Reader_emit rfl (by decide) v_Reader_emit (C_Reader_emit sd r24.2 J (30000 : Int32) hR ht hqd hc26) (Nat.le_of_ble_eq_true rfl) (dp (Nat.le_trans (show 1 ≤ 8 from by decide) hd8) (by decide)) rfl rfl (fun _ h => h) ?_
        show m_B G (m_rm (d + 1) 0 0) M_Reader_fact Q 0 0 34 [some (mR (5, 0, 19)), some (mI v1), none] [mI r26.1] (L, r26.2, J, R)
        refine b_if_eq (off := 7) (tgt := 41) (by decide +kernel) (by decide) (fun h27 => ?_) (fun h27 => ?_)
        · have hf := if_t h27 hf
          refine b_blk (pc' := 42) (ls' := [some (mR (5, 0, 19)), some (mI v1), none]) (st' := [mI 0]) (S' := (L, r26.2, J, R)) (P := True) [(.iconst 0, (0, 0, 0, 0, 0))] [] (by decide +kernel) rfl trivial ?_
          cases hf
          exact b_zret (by decide +kernel) rfl (by decide) hk
        · have hf := if_f h27 hf
          refine b_blk (pc' := 42) (ls' := [some (mR (5, 0, 19)), some (mI v1), none]) (st' := [mI 1]) (S' := (L, r26.2, J, R)) (P := True) [(.iconst 1, (0, 0, 0, 1, 0)), (.goto 4, (0, 42, 0, 0, 0))] [] (by decide +kernel) rfl trivial ?_
          cases hf
          exact b_zret (by decide +kernel) rfl (by decide) hk
theorem C_Reader_fact {G : MG} {L : List (Nat × Nat)} {R : Nat → Nat → Option MRef} (sd : Nat) (rc : Nat → MI → Int32 → Option (Int32 × MI)) (I : MI) (J : MJ) (v1 : Int32) {d : Nat} (hR : RF R) (ht : R 19 4 = some (8, 0, sd)) (hqd : sd = 3 ∨ sd = 11) (hrc : RdOK G R rc d) (hd8 : 8 ≤ d) {r : Int32 × MI} (hf : F_Reader_fact sd rc I v1 = some r) : m_met G (d + 1) 0 0 y_Reader_fact M_Reader_fact [mR (5, 0, 19), mI v1] (L, I, J, R) (m_is (some (mI r.1)) (L, r.2, J, R)) :=
  m_met_in n_Reader_fact (plainFor_of_name (by decide)) (by decide) (Nat.le_of_ble_eq_true rfl) (ls := [some (mR (5, 0, 19)), some (mI v1), none]) rfl (W_Reader_fact sd rc I J v1 hR ht hqd hrc hd8 hf ⟨rfl, rfl⟩)
noncomputable def F_Reader_sum_55 (sd : Nat) (rc : Nat → MI → Int32 → Option (Int32 × MI)) (I : MI) (v1 : Int32) (v2 : Int32) (y0 : Int32) : Option ((Int32 × MI) ⊕ ((MI) ⊕ (Int32 × MI))) :=
  (F_Reader_advance sd I).bind fun r1 => (rc 4 r1 v1).bind fun r2 => if r2.1 = (0 : Int32) then (some (.inr (.inr ((0 : Int32), r2.2)))) else ((F_Reader_emit sd r2.2 y0).bind fun r4 => some (.inl ((v2 + 1 : Int32), r4.2)))
set_option maxRecDepth 100000 in
set_option maxHeartbeats 400000 in
theorem W_Reader_sum_55 {G : MG} {Q : Option MV → MS → Prop} {L : List (Nat × Nat)} {R : Nat → Nat → Option MRef} (sd : Nat) (rc : Nat → MI → Int32 → Option (Int32 × MI)) (I : MI) (J : MJ) (v1 : Int32) (v2 : Int32) (y0 : Int32) {d : Nat} (hR : RF R) (ht : R 19 4 = some (8, 0, sd)) (hqd : sd = 3 ∨ sd = 11) (hrc : RdOK G R rc d) (hd8 : 8 ≤ d) {r : (Int32 × MI) ⊕ ((MI) ⊕ (Int32 × MI))} (hf : F_Reader_sum_55 sd rc I v1 v2 y0 = some r) (hk : (Sum.elim (fun s : Int32 × MI => m_B G (m_rm (d + 1) 0 0) M_Reader_sum Q 0 0 12 [some (mR (5, 0, 19)), some (mI v1), some (mI s.1), none] [] (L, s.2, J, R)) (Sum.elim (fun s : MI => m_B G (m_rm (d + 1) 0 0) M_Reader_sum Q 0 0 82 [none, none, none, none] [] (L, s, J, R)) (fun r : Int32 × MI => Q (some (mI r.1)) (L, r.2, J, R)))) r) : m_B G (m_rm (d + 1) 0 0) M_Reader_sum Q 0 0 55 [some (mR (5, 0, 19)), some (mI v1), some (mI v2), none] [mI y0] (L, I, J, R) := by
  unfold F_Reader_sum_55 at hf
  refine b_blk (pc' := 57) (ls' := [some (mR (5, 0, 19)), some (mI v1), some (mI v2), some (mI y0)]) (st' := [mR (5, 0, 19)]) (S' := (L, I, J, R)) (P := True) [(.istore_n 3, (0, 0, 0, 0, 0)), (.aload_n 0, (0, 0, 0, 0, 0))] [] (by decide +kernel) rfl trivial ?_
  obtain ⟨r1, hc1, hf⟩ := bnd_o hf
  refine b_cV (as := []) (st := []) (by decide +kernel) k_5_88 n_Reader_advance rfl (by decide) v_Reader_advance (C_Reader_advance sd I J hR ht hqd hc1) (Nat.le_of_ble_eq_true rfl) (dp (Nat.le_trans (show 6 ≤ 8 from by decide) hd8) (by decide)) rfl rfl (fun _ h => h) ?_
  show m_B G (m_rm (d + 1) 0 0) M_Reader_sum Q 0 0 60 [some (mR (5, 0, 19)), some (mI v1), some (mI v2), some (mI y0)] [] (L, r1, J, R)
  refine b_blk (pc' := 62) (ls' := [some (mR (5, 0, 19)), some (mI v1), some (mI v2), some (mI y0)]) (st' := [mI v1, mR (5, 0, 19)]) (S' := (L, r1, J, R)) (P := True) [(.aload_n 0, (0, 0, 0, 0, 0)), (.iload_n 1, (0, 0, 0, 0, 0))] [] (by decide +kernel) rfl trivial ?_
  obtain ⟨r2, hc2, hf⟩ := bnd_o hf
  refine b_cV (as := [mI v1]) (st := []) (by decide +kernel) k_5_231 n_Reader_product rfl (by decide) v_Reader_product (hrc.2.2.2.2.1 L r1 J v1 _ hc2) (Nat.le_of_ble_eq_true rfl) (dp (Nat.le_refl _) (by decide)) rfl rfl (fun _ h => h) ?_
  show m_B G (m_rm (d + 1) 0 0) M_Reader_sum Q 0 0 65 [some (mR (5, 0, 19)), some (mI v1), some (mI v2), some (mI y0)] [mI r2.1] (L, r2.2, J, R)
  refine b_if_ne (off := 5) (tgt := 70) (by decide +kernel) (by decide) (fun h3 => ?_) (fun h3 => ?_)
  · have hf := if_f h3 hf
    refine b_blk (pc' := 72) (ls' := [some (mR (5, 0, 19)), some (mI v1), some (mI v2), some (mI y0)]) (st' := [mI y0, mR (5, 0, 19)]) (S' := (L, r2.2, J, R)) (P := True) [(.aload_n 0, (0, 0, 0, 0, 0)), (.iload_n 3, (0, 0, 0, 0, 0))] [] (by decide +kernel) rfl trivial ?_
    obtain ⟨r4, hc4, hf⟩ := bnd_o hf
    refine b_cV (as := [mI y0]) (st := []) (by decide +kernel) k_5_222 n_Reader_emit rfl (by decide) v_Reader_emit (C_Reader_emit sd r2.2 J y0 hR ht hqd hc4) (Nat.le_of_ble_eq_true rfl) (dp (Nat.le_trans (show 1 ≤ 8 from by decide) hd8) (by decide)) rfl rfl (fun _ h => h) ?_
    show m_B G (m_rm (d + 1) 0 0) M_Reader_sum Q 0 0 75 [some (mR (5, 0, 19)), some (mI v1), some (mI v2), some (mI y0)] [mI r4.1] (L, r4.2, J, R)
    refine b_blk (pc' := 12) (ls' := [some (mR (5, 0, 19)), some (mI v1), some (mI (v2 + 1)), some (mI y0)]) (st' := []) (S' := (L, r4.2, J, R)) (P := True) [(.pop, (0, 0, 0, 0, 0)), (.iinc 2 1, (0, 0, 0, 1, 0)), (.goto (-67), (0, 12, 0, 0, 0))] [] (by decide +kernel) rfl trivial ?_
    refine b_frg 3 ?_
    cases hf
    exact hk
  · have hf := if_t h3 hf
    refine b_blk (pc' := 69) (ls' := [some (mR (5, 0, 19)), some (mI v1), some (mI v2), some (mI y0)]) (st' := [mI 0]) (S' := (L, r2.2, J, R)) (P := True) [(.iconst 0, (0, 0, 0, 0, 0))] [] (by decide +kernel) rfl trivial ?_
    cases hf
    exact b_zret (by decide +kernel) rfl (by decide) hk
noncomputable def F_Reader_sum_37 (sd : Nat) (rc : Nat → MI → Int32 → Option (Int32 × MI)) (I : MI) (v1 : Int32) (v2 : Int32) : Option ((Int32 × MI) ⊕ ((MI) ⊕ (Int32 × MI))) :=
  if (I 19 6) = (43 : Int32) then (F_Reader_sum_55 sd rc I v1 v2 (20000 : Int32)) else (F_Reader_sum_55 sd rc I v1 v2 (20001 : Int32))
set_option maxRecDepth 100000 in
set_option maxHeartbeats 400000 in
theorem W_Reader_sum_37 {G : MG} {Q : Option MV → MS → Prop} {L : List (Nat × Nat)} {R : Nat → Nat → Option MRef} (sd : Nat) (rc : Nat → MI → Int32 → Option (Int32 × MI)) (I : MI) (J : MJ) (v1 : Int32) (v2 : Int32) {d : Nat} (hR : RF R) (ht : R 19 4 = some (8, 0, sd)) (hqd : sd = 3 ∨ sd = 11) (hrc : RdOK G R rc d) (hd8 : 8 ≤ d) {r : (Int32 × MI) ⊕ ((MI) ⊕ (Int32 × MI))} (hf : F_Reader_sum_37 sd rc I v1 v2 = some r) (hk : (Sum.elim (fun s : Int32 × MI => m_B G (m_rm (d + 1) 0 0) M_Reader_sum Q 0 0 12 [some (mR (5, 0, 19)), some (mI v1), some (mI s.1), none] [] (L, s.2, J, R)) (Sum.elim (fun s : MI => m_B G (m_rm (d + 1) 0 0) M_Reader_sum Q 0 0 82 [none, none, none, none] [] (L, s, J, R)) (fun r : Int32 × MI => Q (some (mI r.1)) (L, r.2, J, R)))) r) : m_B G (m_rm (d + 1) 0 0) M_Reader_sum Q 0 0 37 [some (mR (5, 0, 19)), some (mI v1), some (mI v2), none] [] (L, I, J, R) := by
  unfold F_Reader_sum_37 at hf
  refine b_blk (pc' := 43) (ls' := [some (mR (5, 0, 19)), some (mI v1), some (mI v2), none]) (st' := [mI 43, mI (I 19 6)]) (S' := (L, I, J, R)) (P := True) [(.aload_n 0, (0, 0, 0, 0, 0)), (.getfield 39, (5, 6, 0, 0, 0)), (.bipush 43, (0, 0, 0, 43, 0))] [] (by decide +kernel) rfl trivial ?_
  refine b_icmp_ne (off := 9) (tgt := 52) (by decide +kernel) (by decide) (fun h1 => ?_) (fun h1 => ?_)
  · have hf := if_f h1 hf
    refine b_blk (pc' := 55) (ls' := [some (mR (5, 0, 19)), some (mI v1), some (mI v2), none]) (st' := [mI 20001]) (S' := (L, I, J, R)) (P := True) [(.sipush 20001, (0, 0, 0, 20001, 0))] [] (by decide +kernel) rfl trivial ?_
    exact m_B_cg rfl rfl rfl (W_Reader_sum_55 sd rc I J v1 v2 (20001 : Int32) hR ht hqd hrc hd8 hf hk)
  · have hf := if_t h1 hf
    refine b_blk (pc' := 55) (ls' := [some (mR (5, 0, 19)), some (mI v1), some (mI v2), none]) (st' := [mI 20000]) (S' := (L, I, J, R)) (P := True) [(.sipush 20000, (0, 0, 0, 20000, 0)), (.goto 6, (0, 55, 0, 0, 0))] [] (by decide +kernel) rfl trivial ?_
    exact m_B_cg rfl rfl rfl (W_Reader_sum_55 sd rc I J v1 v2 (20000 : Int32) hR ht hqd hrc hd8 hf hk)
noncomputable def F_Reader_sum_12 (sd : Nat) (rc : Nat → MI → Int32 → Option (Int32 × MI)) (I : MI) (v1 : Int32) (v2 : Int32) : Option ((Int32 × MI) ⊕ ((MI) ⊕ (Int32 × MI))) :=
  if (1600 : Int32) ≤ v2 then (some (.inr (.inl I))) else (if (I 19 6) = (43 : Int32) then (F_Reader_sum_37 sd rc I v1 v2) else (if (I 19 6) = (45 : Int32) then (F_Reader_sum_37 sd rc I v1 v2) else (some (.inr (.inl I)))))
set_option maxRecDepth 100000 in
set_option maxHeartbeats 400000 in
theorem W_Reader_sum_12 {G : MG} {Q : Option MV → MS → Prop} {L : List (Nat × Nat)} {R : Nat → Nat → Option MRef} (sd : Nat) (rc : Nat → MI → Int32 → Option (Int32 × MI)) (I : MI) (J : MJ) (v1 : Int32) (v2 : Int32) {d : Nat} (hR : RF R) (ht : R 19 4 = some (8, 0, sd)) (hqd : sd = 3 ∨ sd = 11) (hrc : RdOK G R rc d) (hd8 : 8 ≤ d) {r : (Int32 × MI) ⊕ ((MI) ⊕ (Int32 × MI))} (hf : F_Reader_sum_12 sd rc I v1 v2 = some r) (hk : (Sum.elim (fun s : Int32 × MI => m_B G (m_rm (d + 1) 0 0) M_Reader_sum Q 0 0 12 [some (mR (5, 0, 19)), some (mI v1), some (mI s.1), none] [] (L, s.2, J, R)) (Sum.elim (fun s : MI => m_B G (m_rm (d + 1) 0 0) M_Reader_sum Q 0 0 82 [none, none, none, none] [] (L, s, J, R)) (fun r : Int32 × MI => Q (some (mI r.1)) (L, r.2, J, R)))) r) : m_B G (m_rm (d + 1) 0 0) M_Reader_sum Q 0 0 12 [some (mR (5, 0, 19)), some (mI v1), some (mI v2), none] [] (L, I, J, R) := by
  unfold F_Reader_sum_12 at hf
  refine b_blk (pc' := 16) (ls' := [some (mR (5, 0, 19)), some (mI v1), some (mI v2), none]) (st' := [mI 1600, mI v2]) (S' := (L, I, J, R)) (P := True) [(.iload_n 2, (0, 0, 0, 0, 0)), (.sipush 1600, (0, 0, 0, 1600, 0))] [] (by decide +kernel) rfl trivial ?_
  refine b_icmp_ge (off := 66) (tgt := 82) (by decide +kernel) (by decide) (fun h1 => ?_) (fun h1 => ?_)
  · have hf := if_t h1 hf
    refine b_frg 0 ?_
    refine b_frg 1 ?_
    refine b_frg 2 ?_
    cases hf
    exact hk
  · have hf := if_f h1 hf
    refine b_blk (pc' := 25) (ls' := [some (mR (5, 0, 19)), some (mI v1), some (mI v2), none]) (st' := [mI 43, mI (I 19 6)]) (S' := (L, I, J, R)) (P := True) [(.aload_n 0, (0, 0, 0, 0, 0)), (.getfield 39, (5, 6, 0, 0, 0)), (.bipush 43, (0, 0, 0, 43, 0))] [] (by decide +kernel) rfl trivial ?_
    refine b_icmp_eq (off := 12) (tgt := 37) (by decide +kernel) (by decide) (fun h2 => ?_) (fun h2 => ?_)
    · have hf := if_t h2 hf
      exact m_B_cg rfl rfl rfl (W_Reader_sum_37 sd rc I J v1 v2 hR ht hqd hrc hd8 hf hk)
    · have hf := if_f h2 hf
      refine b_blk (pc' := 34) (ls' := [some (mR (5, 0, 19)), some (mI v1), some (mI v2), none]) (st' := [mI 45, mI (I 19 6)]) (S' := (L, I, J, R)) (P := True) [(.aload_n 0, (0, 0, 0, 0, 0)), (.getfield 39, (5, 6, 0, 0, 0)), (.bipush 45, (0, 0, 0, 45, 0))] [] (by decide +kernel) rfl trivial ?_
      refine b_icmp_ne (off := 48) (tgt := 82) (by decide +kernel) (by decide) (fun h3 => ?_) (fun h3 => ?_)
      · have hf := if_f h3 hf
        refine b_frg 0 ?_
        refine b_frg 1 ?_
        refine b_frg 2 ?_
        cases hf
        exact hk
      · have hf := if_t h3 hf
        exact m_B_cg rfl rfl rfl (W_Reader_sum_37 sd rc I J v1 v2 hR ht hqd hrc hd8 hf hk)
noncomputable def F_Reader_sum (sd : Nat) (rc : Nat → MI → Int32 → Option (Int32 × MI)) (I : MI) (v1 : Int32) : Option (Int32 × MI) :=
  (rc 4 I v1).bind fun r1 => if r1.1 = (0 : Int32) then (some ((0 : Int32), r1.2)) else ((wl (fun s : Int32 × MI => F_Reader_sum_12 sd rc s.2 v1 s.1) ((0 : Int32), r1.2)).bind <| sel (fun q => some q) fun t3 => some ((1 : Int32), t3))
set_option maxRecDepth 100000 in
set_option maxHeartbeats 400000 in
theorem W_Reader_sum {G : MG} {Q : Option MV → MS → Prop} {L : List (Nat × Nat)} {R : Nat → Nat → Option MRef} (sd : Nat) (rc : Nat → MI → Int32 → Option (Int32 × MI)) (I : MI) (J : MJ) (v1 : Int32) {d : Nat} (hR : RF R) (ht : R 19 4 = some (8, 0, sd)) (hqd : sd = 3 ∨ sd = 11) (hrc : RdOK G R rc d) (hd8 : 8 ≤ d) {r : Int32 × MI} (hf : F_Reader_sum sd rc I v1 = some r) (hk : (fun r : Int32 × MI => Q (some (mI r.1)) (L, r.2, J, R)) r) : m_B G (m_rm (d + 1) 0 0) M_Reader_sum Q 0 0 0 [some (mR (5, 0, 19)), some (mI v1), none, none] [] (L, I, J, R) := by
  unfold F_Reader_sum at hf
  refine b_blk (pc' := 2) (ls' := [some (mR (5, 0, 19)), some (mI v1), none, none]) (st' := [mI v1, mR (5, 0, 19)]) (S' := (L, I, J, R)) (P := True) [(.aload_n 0, (0, 0, 0, 0, 0)), (.iload_n 1, (0, 0, 0, 0, 0))] [] (by decide +kernel) rfl trivial ?_
  obtain ⟨r1, hc1, hf⟩ := bnd_o hf
  refine b_cV (as := [mI v1]) (st := []) (by decide +kernel) k_5_231 n_Reader_product rfl (by decide) v_Reader_product (hrc.2.2.2.2.1 L I J v1 _ hc1) (Nat.le_of_ble_eq_true rfl) (dp (Nat.le_refl _) (by decide)) rfl rfl (fun _ h => h) ?_
  show m_B G (m_rm (d + 1) 0 0) M_Reader_sum Q 0 0 5 [some (mR (5, 0, 19)), some (mI v1), none, none] [mI r1.1] (L, r1.2, J, R)
  refine b_if_ne (off := 5) (tgt := 10) (by decide +kernel) (by decide) (fun h2 => ?_) (fun h2 => ?_)
  · have hf := if_f h2 hf
    refine b_blk (pc' := 12) (ls' := [some (mR (5, 0, 19)), some (mI v1), some (mI 0), none]) (st' := []) (S' := (L, r1.2, J, R)) (P := True) [(.iconst 0, (0, 0, 0, 0, 0)), (.istore_n 2, (0, 0, 0, 0, 0))] [] (by decide +kernel) rfl trivial ?_
    obtain ⟨t3, hw, hf⟩ := bnd_o hf
    refine wl_B (A := fun s : Int32 × MI => m_B G (m_rm (d + 1) 0 0) M_Reader_sum Q 0 0 12 [some (mR (5, 0, 19)), some (mI v1), some (mI s.1), none] [] (L, s.2, J, R)) (B := (Sum.elim (fun s : MI => m_B G (m_rm (d + 1) 0 0) M_Reader_sum Q 0 0 82 [none, none, none, none] [] (L, s, J, R)) (fun r : Int32 × MI => Q (some (mI r.1)) (L, r.2, J, R)))) (fun s r hs hr => W_Reader_sum_12 sd rc s.2 J v1 s.1 hR ht hqd hrc hd8 hs hr) hw ?_
    rcases t3 with t3 | q
    rotate_left
    · cases se_r hf; exact hk
    replace hf := se_l hf
    show m_B G (m_rm (d + 1) 0 0) M_Reader_sum Q 0 0 82 [none, none, none, none] [] (L, t3, J, R)
    refine b_blk (pc' := 83) (ls' := [none, none, none, none]) (st' := [mI 1]) (S' := (L, t3, J, R)) (P := True) [(.iconst 1, (0, 0, 0, 1, 0))] [] (by decide +kernel) rfl trivial ?_
    cases hf
    exact b_zret (by decide +kernel) rfl (by decide) hk
  · have hf := if_t h2 hf
    refine b_blk (pc' := 9) (ls' := [some (mR (5, 0, 19)), some (mI v1), none, none]) (st' := [mI 0]) (S' := (L, r1.2, J, R)) (P := True) [(.iconst 0, (0, 0, 0, 0, 0))] [] (by decide +kernel) rfl trivial ?_
    cases hf
    exact b_zret (by decide +kernel) rfl (by decide) hk
theorem C_Reader_sum {G : MG} {L : List (Nat × Nat)} {R : Nat → Nat → Option MRef} (sd : Nat) (rc : Nat → MI → Int32 → Option (Int32 × MI)) (I : MI) (J : MJ) (v1 : Int32) {d : Nat} (hR : RF R) (ht : R 19 4 = some (8, 0, sd)) (hqd : sd = 3 ∨ sd = 11) (hrc : RdOK G R rc d) (hd8 : 8 ≤ d) {r : Int32 × MI} (hf : F_Reader_sum sd rc I v1 = some r) : m_met G (d + 1) 0 0 y_Reader_sum M_Reader_sum [mR (5, 0, 19), mI v1] (L, I, J, R) (m_is (some (mI r.1)) (L, r.2, J, R)) :=
  m_met_in n_Reader_sum (plainFor_of_name (by decide)) (by decide) (Nat.le_of_ble_eq_true rfl) (ls := [some (mR (5, 0, 19)), some (mI v1), none, none]) rfl (W_Reader_sum sd rc I J v1 hR ht hqd hrc hd8 hf ⟨rfl, rfl⟩)
noncomputable def F_Reader_product_55 (sd : Nat) (rc : Nat → MI → Int32 → Option (Int32 × MI)) (I : MI) (v1 : Int32) (v2 : Int32) (y0 : Int32) : Option ((Int32 × MI) ⊕ ((MI) ⊕ (Int32 × MI))) :=
  (F_Reader_advance sd I).bind fun r1 => (rc 5 r1 v1).bind fun r2 => if r2.1 = (0 : Int32) then (some (.inr (.inr ((0 : Int32), r2.2)))) else ((F_Reader_emit sd r2.2 y0).bind fun r4 => some (.inl ((v2 + 1 : Int32), r4.2)))
set_option maxRecDepth 100000 in
set_option maxHeartbeats 400000 in
theorem W_Reader_product_55 {G : MG} {Q : Option MV → MS → Prop} {L : List (Nat × Nat)} {R : Nat → Nat → Option MRef} (sd : Nat) (rc : Nat → MI → Int32 → Option (Int32 × MI)) (I : MI) (J : MJ) (v1 : Int32) (v2 : Int32) (y0 : Int32) {d : Nat} (hR : RF R) (ht : R 19 4 = some (8, 0, sd)) (hqd : sd = 3 ∨ sd = 11) (hrc : RdOK G R rc d) (hd8 : 8 ≤ d) {r : (Int32 × MI) ⊕ ((MI) ⊕ (Int32 × MI))} (hf : F_Reader_product_55 sd rc I v1 v2 y0 = some r) (hk : (Sum.elim (fun s : Int32 × MI => m_B G (m_rm (d + 1) 0 0) M_Reader_product Q 0 0 12 [some (mR (5, 0, 19)), some (mI v1), some (mI s.1), none] [] (L, s.2, J, R)) (Sum.elim (fun s : MI => m_B G (m_rm (d + 1) 0 0) M_Reader_product Q 0 0 82 [none, none, none, none] [] (L, s, J, R)) (fun r : Int32 × MI => Q (some (mI r.1)) (L, r.2, J, R)))) r) : m_B G (m_rm (d + 1) 0 0) M_Reader_product Q 0 0 55 [some (mR (5, 0, 19)), some (mI v1), some (mI v2), none] [mI y0] (L, I, J, R) := by
  unfold F_Reader_product_55 at hf
  refine b_blk (pc' := 57) (ls' := [some (mR (5, 0, 19)), some (mI v1), some (mI v2), some (mI y0)]) (st' := [mR (5, 0, 19)]) (S' := (L, I, J, R)) (P := True) [(.istore_n 3, (0, 0, 0, 0, 0)), (.aload_n 0, (0, 0, 0, 0, 0))] [] (by decide +kernel) rfl trivial ?_
  obtain ⟨r1, hc1, hf⟩ := bnd_o hf
  refine b_cV (as := []) (st := []) (by decide +kernel) k_5_88 n_Reader_advance rfl (by decide) v_Reader_advance (C_Reader_advance sd I J hR ht hqd hc1) (Nat.le_of_ble_eq_true rfl) (dp (Nat.le_trans (show 6 ≤ 8 from by decide) hd8) (by decide)) rfl rfl (fun _ h => h) ?_
  show m_B G (m_rm (d + 1) 0 0) M_Reader_product Q 0 0 60 [some (mR (5, 0, 19)), some (mI v1), some (mI v2), some (mI y0)] [] (L, r1, J, R)
  refine b_blk (pc' := 62) (ls' := [some (mR (5, 0, 19)), some (mI v1), some (mI v2), some (mI y0)]) (st' := [mI v1, mR (5, 0, 19)]) (S' := (L, r1, J, R)) (P := True) [(.aload_n 0, (0, 0, 0, 0, 0)), (.iload_n 1, (0, 0, 0, 0, 0))] [] (by decide +kernel) rfl trivial ?_
  obtain ⟨r2, hc2, hf⟩ := bnd_o hf
  refine b_cV (as := [mI v1]) (st := []) (by decide +kernel) k_5_234 n_Reader_part rfl (by decide) v_Reader_part (hrc.2.2.2.2.2 L r1 J v1 _ hc2) (Nat.le_of_ble_eq_true rfl) (dp (Nat.le_refl _) (by decide)) rfl rfl (fun _ h => h) ?_
  show m_B G (m_rm (d + 1) 0 0) M_Reader_product Q 0 0 65 [some (mR (5, 0, 19)), some (mI v1), some (mI v2), some (mI y0)] [mI r2.1] (L, r2.2, J, R)
  refine b_if_ne (off := 5) (tgt := 70) (by decide +kernel) (by decide) (fun h3 => ?_) (fun h3 => ?_)
  · have hf := if_f h3 hf
    refine b_blk (pc' := 72) (ls' := [some (mR (5, 0, 19)), some (mI v1), some (mI v2), some (mI y0)]) (st' := [mI y0, mR (5, 0, 19)]) (S' := (L, r2.2, J, R)) (P := True) [(.aload_n 0, (0, 0, 0, 0, 0)), (.iload_n 3, (0, 0, 0, 0, 0))] [] (by decide +kernel) rfl trivial ?_
    obtain ⟨r4, hc4, hf⟩ := bnd_o hf
    refine b_cV (as := [mI y0]) (st := []) (by decide +kernel) k_5_222 n_Reader_emit rfl (by decide) v_Reader_emit (C_Reader_emit sd r2.2 J y0 hR ht hqd hc4) (Nat.le_of_ble_eq_true rfl) (dp (Nat.le_trans (show 1 ≤ 8 from by decide) hd8) (by decide)) rfl rfl (fun _ h => h) ?_
    show m_B G (m_rm (d + 1) 0 0) M_Reader_product Q 0 0 75 [some (mR (5, 0, 19)), some (mI v1), some (mI v2), some (mI y0)] [mI r4.1] (L, r4.2, J, R)
    refine b_blk (pc' := 12) (ls' := [some (mR (5, 0, 19)), some (mI v1), some (mI (v2 + 1)), some (mI y0)]) (st' := []) (S' := (L, r4.2, J, R)) (P := True) [(.pop, (0, 0, 0, 0, 0)), (.iinc 2 1, (0, 0, 0, 1, 0)), (.goto (-67), (0, 12, 0, 0, 0))] [] (by decide +kernel) rfl trivial ?_
    refine b_frg 3 ?_
    cases hf
    exact hk
  · have hf := if_t h3 hf
    refine b_blk (pc' := 69) (ls' := [some (mR (5, 0, 19)), some (mI v1), some (mI v2), some (mI y0)]) (st' := [mI 0]) (S' := (L, r2.2, J, R)) (P := True) [(.iconst 0, (0, 0, 0, 0, 0))] [] (by decide +kernel) rfl trivial ?_
    cases hf
    exact b_zret (by decide +kernel) rfl (by decide) hk
noncomputable def F_Reader_product_37 (sd : Nat) (rc : Nat → MI → Int32 → Option (Int32 × MI)) (I : MI) (v1 : Int32) (v2 : Int32) : Option ((Int32 × MI) ⊕ ((MI) ⊕ (Int32 × MI))) :=
  if (I 19 6) = (42 : Int32) then (F_Reader_product_55 sd rc I v1 v2 (20002 : Int32)) else (F_Reader_product_55 sd rc I v1 v2 (20003 : Int32))
set_option maxRecDepth 100000 in
set_option maxHeartbeats 400000 in
theorem W_Reader_product_37 {G : MG} {Q : Option MV → MS → Prop} {L : List (Nat × Nat)} {R : Nat → Nat → Option MRef} (sd : Nat) (rc : Nat → MI → Int32 → Option (Int32 × MI)) (I : MI) (J : MJ) (v1 : Int32) (v2 : Int32) {d : Nat} (hR : RF R) (ht : R 19 4 = some (8, 0, sd)) (hqd : sd = 3 ∨ sd = 11) (hrc : RdOK G R rc d) (hd8 : 8 ≤ d) {r : (Int32 × MI) ⊕ ((MI) ⊕ (Int32 × MI))} (hf : F_Reader_product_37 sd rc I v1 v2 = some r) (hk : (Sum.elim (fun s : Int32 × MI => m_B G (m_rm (d + 1) 0 0) M_Reader_product Q 0 0 12 [some (mR (5, 0, 19)), some (mI v1), some (mI s.1), none] [] (L, s.2, J, R)) (Sum.elim (fun s : MI => m_B G (m_rm (d + 1) 0 0) M_Reader_product Q 0 0 82 [none, none, none, none] [] (L, s, J, R)) (fun r : Int32 × MI => Q (some (mI r.1)) (L, r.2, J, R)))) r) : m_B G (m_rm (d + 1) 0 0) M_Reader_product Q 0 0 37 [some (mR (5, 0, 19)), some (mI v1), some (mI v2), none] [] (L, I, J, R) := by
  unfold F_Reader_product_37 at hf
  refine b_blk (pc' := 43) (ls' := [some (mR (5, 0, 19)), some (mI v1), some (mI v2), none]) (st' := [mI 42, mI (I 19 6)]) (S' := (L, I, J, R)) (P := True) [(.aload_n 0, (0, 0, 0, 0, 0)), (.getfield 39, (5, 6, 0, 0, 0)), (.bipush 42, (0, 0, 0, 42, 0))] [] (by decide +kernel) rfl trivial ?_
  refine b_icmp_ne (off := 9) (tgt := 52) (by decide +kernel) (by decide) (fun h1 => ?_) (fun h1 => ?_)
  · have hf := if_f h1 hf
    refine b_blk (pc' := 55) (ls' := [some (mR (5, 0, 19)), some (mI v1), some (mI v2), none]) (st' := [mI 20003]) (S' := (L, I, J, R)) (P := True) [(.sipush 20003, (0, 0, 0, 20003, 0))] [] (by decide +kernel) rfl trivial ?_
    exact m_B_cg rfl rfl rfl (W_Reader_product_55 sd rc I J v1 v2 (20003 : Int32) hR ht hqd hrc hd8 hf hk)
  · have hf := if_t h1 hf
    refine b_blk (pc' := 55) (ls' := [some (mR (5, 0, 19)), some (mI v1), some (mI v2), none]) (st' := [mI 20002]) (S' := (L, I, J, R)) (P := True) [(.sipush 20002, (0, 0, 0, 20002, 0)), (.goto 6, (0, 55, 0, 0, 0))] [] (by decide +kernel) rfl trivial ?_
    exact m_B_cg rfl rfl rfl (W_Reader_product_55 sd rc I J v1 v2 (20002 : Int32) hR ht hqd hrc hd8 hf hk)
noncomputable def F_Reader_product_12 (sd : Nat) (rc : Nat → MI → Int32 → Option (Int32 × MI)) (I : MI) (v1 : Int32) (v2 : Int32) : Option ((Int32 × MI) ⊕ ((MI) ⊕ (Int32 × MI))) :=
  if (1600 : Int32) ≤ v2 then (some (.inr (.inl I))) else (if (I 19 6) = (42 : Int32) then (F_Reader_product_37 sd rc I v1 v2) else (if (I 19 6) = (47 : Int32) then (F_Reader_product_37 sd rc I v1 v2) else (some (.inr (.inl I)))))
set_option maxRecDepth 100000 in
set_option maxHeartbeats 400000 in
theorem W_Reader_product_12 {G : MG} {Q : Option MV → MS → Prop} {L : List (Nat × Nat)} {R : Nat → Nat → Option MRef} (sd : Nat) (rc : Nat → MI → Int32 → Option (Int32 × MI)) (I : MI) (J : MJ) (v1 : Int32) (v2 : Int32) {d : Nat} (hR : RF R) (ht : R 19 4 = some (8, 0, sd)) (hqd : sd = 3 ∨ sd = 11) (hrc : RdOK G R rc d) (hd8 : 8 ≤ d) {r : (Int32 × MI) ⊕ ((MI) ⊕ (Int32 × MI))} (hf : F_Reader_product_12 sd rc I v1 v2 = some r) (hk : (Sum.elim (fun s : Int32 × MI => m_B G (m_rm (d + 1) 0 0) M_Reader_product Q 0 0 12 [some (mR (5, 0, 19)), some (mI v1), some (mI s.1), none] [] (L, s.2, J, R)) (Sum.elim (fun s : MI => m_B G (m_rm (d + 1) 0 0) M_Reader_product Q 0 0 82 [none, none, none, none] [] (L, s, J, R)) (fun r : Int32 × MI => Q (some (mI r.1)) (L, r.2, J, R)))) r) : m_B G (m_rm (d + 1) 0 0) M_Reader_product Q 0 0 12 [some (mR (5, 0, 19)), some (mI v1), some (mI v2), none] [] (L, I, J, R) := by
  unfold F_Reader_product_12 at hf
  refine b_blk (pc' := 16) (ls' := [some (mR (5, 0, 19)), some (mI v1), some (mI v2), none]) (st' := [mI 1600, mI v2]) (S' := (L, I, J, R)) (P := True) [(.iload_n 2, (0, 0, 0, 0, 0)), (.sipush 1600, (0, 0, 0, 1600, 0))] [] (by decide +kernel) rfl trivial ?_
  refine b_icmp_ge (off := 66) (tgt := 82) (by decide +kernel) (by decide) (fun h1 => ?_) (fun h1 => ?_)
  · have hf := if_t h1 hf
    refine b_frg 0 ?_
    refine b_frg 1 ?_
    refine b_frg 2 ?_
    cases hf
    exact hk
  · have hf := if_f h1 hf
    refine b_blk (pc' := 25) (ls' := [some (mR (5, 0, 19)), some (mI v1), some (mI v2), none]) (st' := [mI 42, mI (I 19 6)]) (S' := (L, I, J, R)) (P := True) [(.aload_n 0, (0, 0, 0, 0, 0)), (.getfield 39, (5, 6, 0, 0, 0)), (.bipush 42, (0, 0, 0, 42, 0))] [] (by decide +kernel) rfl trivial ?_
    refine b_icmp_eq (off := 12) (tgt := 37) (by decide +kernel) (by decide) (fun h2 => ?_) (fun h2 => ?_)
    · have hf := if_t h2 hf
      exact m_B_cg rfl rfl rfl (W_Reader_product_37 sd rc I J v1 v2 hR ht hqd hrc hd8 hf hk)
    · have hf := if_f h2 hf
      refine b_blk (pc' := 34) (ls' := [some (mR (5, 0, 19)), some (mI v1), some (mI v2), none]) (st' := [mI 47, mI (I 19 6)]) (S' := (L, I, J, R)) (P := True) [(.aload_n 0, (0, 0, 0, 0, 0)), (.getfield 39, (5, 6, 0, 0, 0)), (.bipush 47, (0, 0, 0, 47, 0))] [] (by decide +kernel) rfl trivial ?_
      refine b_icmp_ne (off := 48) (tgt := 82) (by decide +kernel) (by decide) (fun h3 => ?_) (fun h3 => ?_)
      · have hf := if_f h3 hf
        refine b_frg 0 ?_
        refine b_frg 1 ?_
        refine b_frg 2 ?_
        cases hf
        exact hk
      · have hf := if_t h3 hf
        exact m_B_cg rfl rfl rfl (W_Reader_product_37 sd rc I J v1 v2 hR ht hqd hrc hd8 hf hk)
noncomputable def F_Reader_product (sd : Nat) (rc : Nat → MI → Int32 → Option (Int32 × MI)) (I : MI) (v1 : Int32) : Option (Int32 × MI) :=
  (rc 5 I v1).bind fun r1 => if r1.1 = (0 : Int32) then (some ((0 : Int32), r1.2)) else ((wl (fun s : Int32 × MI => F_Reader_product_12 sd rc s.2 v1 s.1) ((0 : Int32), r1.2)).bind <| sel (fun q => some q) fun t3 => some ((1 : Int32), t3))
set_option maxRecDepth 100000 in
set_option maxHeartbeats 400000 in
theorem W_Reader_product {G : MG} {Q : Option MV → MS → Prop} {L : List (Nat × Nat)} {R : Nat → Nat → Option MRef} (sd : Nat) (rc : Nat → MI → Int32 → Option (Int32 × MI)) (I : MI) (J : MJ) (v1 : Int32) {d : Nat} (hR : RF R) (ht : R 19 4 = some (8, 0, sd)) (hqd : sd = 3 ∨ sd = 11) (hrc : RdOK G R rc d) (hd8 : 8 ≤ d) {r : Int32 × MI} (hf : F_Reader_product sd rc I v1 = some r) (hk : (fun r : Int32 × MI => Q (some (mI r.1)) (L, r.2, J, R)) r) : m_B G (m_rm (d + 1) 0 0) M_Reader_product Q 0 0 0 [some (mR (5, 0, 19)), some (mI v1), none, none] [] (L, I, J, R) := by
  unfold F_Reader_product at hf
  refine b_blk (pc' := 2) (ls' := [some (mR (5, 0, 19)), some (mI v1), none, none]) (st' := [mI v1, mR (5, 0, 19)]) (S' := (L, I, J, R)) (P := True) [(.aload_n 0, (0, 0, 0, 0, 0)), (.iload_n 1, (0, 0, 0, 0, 0))] [] (by decide +kernel) rfl trivial ?_
  obtain ⟨r1, hc1, hf⟩ := bnd_o hf
  refine b_cV (as := [mI v1]) (st := []) (by decide +kernel) k_5_234 n_Reader_part rfl (by decide) v_Reader_part (hrc.2.2.2.2.2 L I J v1 _ hc1) (Nat.le_of_ble_eq_true rfl) (dp (Nat.le_refl _) (by decide)) rfl rfl (fun _ h => h) ?_
  show m_B G (m_rm (d + 1) 0 0) M_Reader_product Q 0 0 5 [some (mR (5, 0, 19)), some (mI v1), none, none] [mI r1.1] (L, r1.2, J, R)
  refine b_if_ne (off := 5) (tgt := 10) (by decide +kernel) (by decide) (fun h2 => ?_) (fun h2 => ?_)
  · have hf := if_f h2 hf
    refine b_blk (pc' := 12) (ls' := [some (mR (5, 0, 19)), some (mI v1), some (mI 0), none]) (st' := []) (S' := (L, r1.2, J, R)) (P := True) [(.iconst 0, (0, 0, 0, 0, 0)), (.istore_n 2, (0, 0, 0, 0, 0))] [] (by decide +kernel) rfl trivial ?_
    obtain ⟨t3, hw, hf⟩ := bnd_o hf
    refine wl_B (A := fun s : Int32 × MI => m_B G (m_rm (d + 1) 0 0) M_Reader_product Q 0 0 12 [some (mR (5, 0, 19)), some (mI v1), some (mI s.1), none] [] (L, s.2, J, R)) (B := (Sum.elim (fun s : MI => m_B G (m_rm (d + 1) 0 0) M_Reader_product Q 0 0 82 [none, none, none, none] [] (L, s, J, R)) (fun r : Int32 × MI => Q (some (mI r.1)) (L, r.2, J, R)))) (fun s r hs hr => W_Reader_product_12 sd rc s.2 J v1 s.1 hR ht hqd hrc hd8 hs hr) hw ?_
    rcases t3 with t3 | q
    rotate_left
    · cases se_r hf; exact hk
    replace hf := se_l hf
    show m_B G (m_rm (d + 1) 0 0) M_Reader_product Q 0 0 82 [none, none, none, none] [] (L, t3, J, R)
    refine b_blk (pc' := 83) (ls' := [none, none, none, none]) (st' := [mI 1]) (S' := (L, t3, J, R)) (P := True) [(.iconst 1, (0, 0, 0, 1, 0))] [] (by decide +kernel) rfl trivial ?_
    cases hf
    exact b_zret (by decide +kernel) rfl (by decide) hk
  · have hf := if_t h2 hf
    refine b_blk (pc' := 9) (ls' := [some (mR (5, 0, 19)), some (mI v1), none, none]) (st' := [mI 0]) (S' := (L, r1.2, J, R)) (P := True) [(.iconst 0, (0, 0, 0, 0, 0))] [] (by decide +kernel) rfl trivial ?_
    cases hf
    exact b_zret (by decide +kernel) rfl (by decide) hk
theorem C_Reader_product {G : MG} {L : List (Nat × Nat)} {R : Nat → Nat → Option MRef} (sd : Nat) (rc : Nat → MI → Int32 → Option (Int32 × MI)) (I : MI) (J : MJ) (v1 : Int32) {d : Nat} (hR : RF R) (ht : R 19 4 = some (8, 0, sd)) (hqd : sd = 3 ∨ sd = 11) (hrc : RdOK G R rc d) (hd8 : 8 ≤ d) {r : Int32 × MI} (hf : F_Reader_product sd rc I v1 = some r) : m_met G (d + 1) 0 0 y_Reader_product M_Reader_product [mR (5, 0, 19), mI v1] (L, I, J, R) (m_is (some (mI r.1)) (L, r.2, J, R)) :=
  m_met_in n_Reader_product (plainFor_of_name (by decide)) (by decide) (Nat.le_of_ble_eq_true rfl) (ls := [some (mR (5, 0, 19)), some (mI v1), none, none]) rfl (W_Reader_product sd rc I J v1 hR ht hqd hrc hd8 hf ⟨rfl, rfl⟩)
noncomputable def F_Reader_part_158 (sd : Nat) (rc : Nat → MI → Int32 → Option (Int32 × MI)) (I : MI) (v1 : Int32) (v2 : Int32) : Option (Int32 × MI) :=
  (F_Reader_opens sd I v1).bind fun r1 => if r1.1 = (0 : Int32) then (some ((0 : Int32), r1.2)) else ((rc 3 r1.2 (v1 + (1 : Int32))).bind fun r3 => if r3.1 = (0 : Int32) then (some ((0 : Int32), r3.2)) else ((F_Reader_need sd r3.2 (44 : Int32)).bind fun r5 => if r5.1 = (0 : Int32) then (some ((0 : Int32), r5.2)) else ((rc 3 r5.2 (v1 + (1 : Int32))).bind fun r7 => if r7.1 = (0 : Int32) then (some ((0 : Int32), r7.2)) else ((F_Reader_need sd r7.2 (41 : Int32)).bind fun r9 => if r9.1 = (0 : Int32) then (some ((0 : Int32), r9.2)) else (if v2 = (22 : Int32) then ((F_Reader_emit sd r9.2 (20007 : Int32)).bind fun r14 => if r14.1 = (0 : Int32) then (some ((0 : Int32), r14.2)) else (some ((1 : Int32), r14.2))) else ((F_Reader_emit sd r9.2 (20008 : Int32)).bind fun r12 => if r12.1 = (0 : Int32) then (some ((0 : Int32), r12.2)) else (some ((1 : Int32), r12.2))))))))
set_option maxRecDepth 100000 in
set_option maxHeartbeats 400000 in
theorem W_Reader_part_158 {G : MG} {Q : Option MV → MS → Prop} {L : List (Nat × Nat)} {R : Nat → Nat → Option MRef} (sd : Nat) (rc : Nat → MI → Int32 → Option (Int32 × MI)) (I : MI) (J : MJ) (v1 : Int32) (v2 : Int32) {d : Nat} (hR : RF R) (ht : R 19 4 = some (8, 0, sd)) (hqd : sd = 3 ∨ sd = 11) (hrc : RdOK G R rc d) (hd8 : 8 ≤ d) {r : Int32 × MI} (hf : F_Reader_part_158 sd rc I v1 v2 = some r) (hk : (fun r : Int32 × MI => Q (some (mI r.1)) (L, r.2, J, R)) r) : m_B G (m_rm (d + 1) 0 0) M_Reader_part Q 0 0 158 [some (mR (5, 0, 19)), some (mI v1), some (mI v2)] [] (L, I, J, R) := by
  unfold F_Reader_part_158 at hf
  refine b_blk (pc' := 160) (ls' := [some (mR (5, 0, 19)), some (mI v1), some (mI v2)]) (st' := [mI v1, mR (5, 0, 19)]) (S' := (L, I, J, R)) (P := True) [(.aload_n 0, (0, 0, 0, 0, 0)), (.iload_n 1, (0, 0, 0, 0, 0))] [] (by decide +kernel) rfl trivial ?_
  obtain ⟨r1, hc1, hf⟩ := bnd_o hf
  refine b_cV (as := [mI v1]) (st := []) (by decide +kernel) k_5_228 n_Reader_opens rfl (by decide) v_Reader_opens (C_Reader_opens sd I J v1 hR ht hqd hc1) (Nat.le_of_ble_eq_true rfl) (dp (Nat.le_trans (show 7 ≤ 8 from by decide) hd8) (by decide)) rfl rfl (fun _ h => h) ?_
  show m_B G (m_rm (d + 1) 0 0) M_Reader_part Q 0 0 163 [some (mR (5, 0, 19)), some (mI v1), some (mI v2)] [mI r1.1] (L, r1.2, J, R)
  refine b_if_eq (off := 67) (tgt := 230) (by decide +kernel) (by decide) (fun h2 => ?_) (fun h2 => ?_)
  · have hf := if_t h2 hf
    refine b_blk (pc' := 231) (ls' := [some (mR (5, 0, 19)), some (mI v1), some (mI v2)]) (st' := [mI 0]) (S' := (L, r1.2, J, R)) (P := True) [(.iconst 0, (0, 0, 0, 0, 0))] [] (by decide +kernel) rfl trivial ?_
    cases hf
    exact b_zret (by decide +kernel) rfl (by decide) hk
  · have hf := if_f h2 hf
    refine b_blk (pc' := 170) (ls' := [some (mR (5, 0, 19)), some (mI v1), some (mI v2)]) (st' := [mI (v1 + (1 : Int32)), mR (5, 0, 19)]) (S' := (L, r1.2, J, R)) (P := True) [(.aload_n 0, (0, 0, 0, 0, 0)), (.iload_n 1, (0, 0, 0, 0, 0)), (.iconst 1, (0, 0, 0, 1, 0)), (.iadd, (0, 0, 0, 0, 0))] [] (by decide +kernel) rfl trivial ?_
    obtain ⟨r3, hc3, hf⟩ := bnd_o hf
    refine b_cV (as := [mI (v1 + (1 : Int32))]) (st := []) (by decide +kernel) k_5_94 n_Reader_sum rfl (by decide) v_Reader_sum (hrc.2.2.2.1 L r1.2 J (v1 + (1 : Int32)) _ hc3) (Nat.le_of_ble_eq_true rfl) (dp (Nat.le_refl _) (by decide)) rfl rfl (fun _ h => h) ?_
    show m_B G (m_rm (d + 1) 0 0) M_Reader_part Q 0 0 173 [some (mR (5, 0, 19)), some (mI v1), some (mI v2)] [mI r3.1] (L, r3.2, J, R)
    refine b_if_eq (off := 57) (tgt := 230) (by decide +kernel) (by decide) (fun h4 => ?_) (fun h4 => ?_)
    · have hf := if_t h4 hf
      refine b_blk (pc' := 231) (ls' := [some (mR (5, 0, 19)), some (mI v1), some (mI v2)]) (st' := [mI 0]) (S' := (L, r3.2, J, R)) (P := True) [(.iconst 0, (0, 0, 0, 0, 0))] [] (by decide +kernel) rfl trivial ?_
      cases hf
      exact b_zret (by decide +kernel) rfl (by decide) hk
    · have hf := if_f h4 hf
      refine b_blk (pc' := 179) (ls' := [some (mR (5, 0, 19)), some (mI v1), some (mI v2)]) (st' := [mI 44, mR (5, 0, 19)]) (S' := (L, r3.2, J, R)) (P := True) [(.aload_n 0, (0, 0, 0, 0, 0)), (.bipush 44, (0, 0, 0, 44, 0))] [] (by decide +kernel) rfl trivial ?_
      obtain ⟨r5, hc5, hf⟩ := bnd_o hf
      refine b_cV (as := [mI 44]) (st := []) (by decide +kernel) k_5_73 n_Reader_need rfl (by decide) v_Reader_need (C_Reader_need sd r3.2 J (44 : Int32) hR ht hqd hc5) (Nat.le_of_ble_eq_true rfl) (dp (Nat.le_trans (show 7 ≤ 8 from by decide) hd8) (by decide)) rfl rfl (fun _ h => h) ?_
      show m_B G (m_rm (d + 1) 0 0) M_Reader_part Q 0 0 182 [some (mR (5, 0, 19)), some (mI v1), some (mI v2)] [mI r5.1] (L, r5.2, J, R)
      refine b_if_eq (off := 48) (tgt := 230) (by decide +kernel) (by decide) (fun h6 => ?_) (fun h6 => ?_)
      · have hf := if_t h6 hf
        refine b_blk (pc' := 231) (ls' := [some (mR (5, 0, 19)), some (mI v1), some (mI v2)]) (st' := [mI 0]) (S' := (L, r5.2, J, R)) (P := True) [(.iconst 0, (0, 0, 0, 0, 0))] [] (by decide +kernel) rfl trivial ?_
        cases hf
        exact b_zret (by decide +kernel) rfl (by decide) hk
      · have hf := if_f h6 hf
        refine b_blk (pc' := 189) (ls' := [some (mR (5, 0, 19)), some (mI v1), some (mI v2)]) (st' := [mI (v1 + (1 : Int32)), mR (5, 0, 19)]) (S' := (L, r5.2, J, R)) (P := True) [(.aload_n 0, (0, 0, 0, 0, 0)), (.iload_n 1, (0, 0, 0, 0, 0)), (.iconst 1, (0, 0, 0, 1, 0)), (.iadd, (0, 0, 0, 0, 0))] [] (by decide +kernel) rfl trivial ?_
        obtain ⟨r7, hc7, hf⟩ := bnd_o hf
        refine b_cV (as := [mI (v1 + (1 : Int32))]) (st := []) (by decide +kernel) k_5_94 n_Reader_sum rfl (by decide) v_Reader_sum (hrc.2.2.2.1 L r5.2 J (v1 + (1 : Int32)) _ hc7) (Nat.le_of_ble_eq_true rfl) (dp (Nat.le_refl _) (by decide)) rfl rfl (fun _ h => h) ?_
        show m_B G (m_rm (d + 1) 0 0) M_Reader_part Q 0 0 192 [some (mR (5, 0, 19)), some (mI v1), some (mI v2)] [mI r7.1] (L, r7.2, J, R)
        refine b_if_eq (off := 38) (tgt := 230) (by decide +kernel) (by decide) (fun h8 => ?_) (fun h8 => ?_)
        · have hf := if_t h8 hf
          refine b_blk (pc' := 231) (ls' := [some (mR (5, 0, 19)), some (mI v1), some (mI v2)]) (st' := [mI 0]) (S' := (L, r7.2, J, R)) (P := True) [(.iconst 0, (0, 0, 0, 0, 0))] [] (by decide +kernel) rfl trivial ?_
          cases hf
          exact b_zret (by decide +kernel) rfl (by decide) hk
        · have hf := if_f h8 hf
          refine b_blk (pc' := 198) (ls' := [some (mR (5, 0, 19)), some (mI v1), some (mI v2)]) (st' := [mI 41, mR (5, 0, 19)]) (S' := (L, r7.2, J, R)) (P := True) [(.aload_n 0, (0, 0, 0, 0, 0)), (.bipush 41, (0, 0, 0, 41, 0))] [] (by decide +kernel) rfl trivial ?_
          obtain ⟨r9, hc9, hf⟩ := bnd_o hf
          refine b_cV (as := [mI 41]) (st := []) (by decide +kernel) k_5_73 n_Reader_need rfl (by decide) v_Reader_need (C_Reader_need sd r7.2 J (41 : Int32) hR ht hqd hc9) (Nat.le_of_ble_eq_true rfl) (dp (Nat.le_trans (show 7 ≤ 8 from by decide) hd8) (by decide)) rfl rfl (fun _ h => h) ?_
          show m_B G (m_rm (d + 1) 0 0) M_Reader_part Q 0 0 201 [some (mR (5, 0, 19)), some (mI v1), some (mI v2)] [mI r9.1] (L, r9.2, J, R)
          refine b_if_eq (off := 29) (tgt := 230) (by decide +kernel) (by decide) (fun h10 => ?_) (fun h10 => ?_)
          · have hf := if_t h10 hf
            refine b_blk (pc' := 231) (ls' := [some (mR (5, 0, 19)), some (mI v1), some (mI v2)]) (st' := [mI 0]) (S' := (L, r9.2, J, R)) (P := True) [(.iconst 0, (0, 0, 0, 0, 0))] [] (by decide +kernel) rfl trivial ?_
            cases hf
            exact b_zret (by decide +kernel) rfl (by decide) hk
          · have hf := if_f h10 hf
            refine b_blk (pc' := 208) (ls' := [some (mR (5, 0, 19)), some (mI v1), some (mI v2)]) (st' := [mI 22, mI v2, mR (5, 0, 19)]) (S' := (L, r9.2, J, R)) (P := True) [(.aload_n 0, (0, 0, 0, 0, 0)), (.iload_n 2, (0, 0, 0, 0, 0)), (.bipush 22, (0, 0, 0, 22, 0))] [] (by decide +kernel) rfl trivial ?_
            refine b_icmp_ne (off := 9) (tgt := 217) (by decide +kernel) (by decide) (fun h11 => ?_) (fun h11 => ?_)
            · have hf := if_f h11 hf
              refine b_blk (pc' := 220) (ls' := [some (mR (5, 0, 19)), some (mI v1), some (mI v2)]) (st' := [mI 20008, mR (5, 0, 19)]) (S' := (L, r9.2, J, R)) (P := True) [(.sipush 20008, (0, 0, 0, 20008, 0))] [] (by decide +kernel) rfl trivial ?_
              obtain ⟨r12, hc12, hf⟩ := bnd_o hf
              refine b_cV (as := [mI 20008]) (st := []) (by decide +kernel) k_5_222 n_Reader_emit rfl (by decide) v_Reader_emit (C_Reader_emit sd r9.2 J (20008 : Int32) hR ht hqd hc12) (Nat.le_of_ble_eq_true rfl) (dp (Nat.le_trans (show 1 ≤ 8 from by decide) hd8) (by decide)) rfl rfl (fun _ h => h) ?_
              show m_B G (m_rm (d + 1) 0 0) M_Reader_part Q 0 0 223 [some (mR (5, 0, 19)), some (mI v1), some (mI v2)] [mI r12.1] (L, r12.2, J, R)
              refine b_if_eq (off := 7) (tgt := 230) (by decide +kernel) (by decide) (fun h13 => ?_) (fun h13 => ?_)
              · have hf := if_t h13 hf
                refine b_blk (pc' := 231) (ls' := [some (mR (5, 0, 19)), some (mI v1), some (mI v2)]) (st' := [mI 0]) (S' := (L, r12.2, J, R)) (P := True) [(.iconst 0, (0, 0, 0, 0, 0))] [] (by decide +kernel) rfl trivial ?_
                cases hf
                exact b_zret (by decide +kernel) rfl (by decide) hk
              · have hf := if_f h13 hf
                refine b_blk (pc' := 231) (ls' := [some (mR (5, 0, 19)), some (mI v1), some (mI v2)]) (st' := [mI 1]) (S' := (L, r12.2, J, R)) (P := True) [(.iconst 1, (0, 0, 0, 1, 0)), (.goto 4, (0, 231, 0, 0, 0))] [] (by decide +kernel) rfl trivial ?_
                cases hf
                exact b_zret (by decide +kernel) rfl (by decide) hk
            · have hf := if_t h11 hf
              refine b_blk (pc' := 220) (ls' := [some (mR (5, 0, 19)), some (mI v1), some (mI v2)]) (st' := [mI 20007, mR (5, 0, 19)]) (S' := (L, r9.2, J, R)) (P := True) [(.sipush 20007, (0, 0, 0, 20007, 0)), (.goto 6, (0, 220, 0, 0, 0))] [] (by decide +kernel) rfl trivial ?_
              obtain ⟨r14, hc14, hf⟩ := bnd_o hf
              refine b_cV (as := [mI 20007]) (st := []) (by decide +kernel) k_5_222 n_Reader_emit rfl (by decide) v_Reader_emit (C_Reader_emit sd r9.2 J (20007 : Int32) hR ht hqd hc14) (Nat.le_of_ble_eq_true rfl) (dp (Nat.le_trans (show 1 ≤ 8 from by decide) hd8) (by decide)) rfl rfl (fun _ h => h) ?_
              show m_B G (m_rm (d + 1) 0 0) M_Reader_part Q 0 0 223 [some (mR (5, 0, 19)), some (mI v1), some (mI v2)] [mI r14.1] (L, r14.2, J, R)
              refine b_if_eq (off := 7) (tgt := 230) (by decide +kernel) (by decide) (fun h15 => ?_) (fun h15 => ?_)
              · have hf := if_t h15 hf
                refine b_blk (pc' := 231) (ls' := [some (mR (5, 0, 19)), some (mI v1), some (mI v2)]) (st' := [mI 0]) (S' := (L, r14.2, J, R)) (P := True) [(.iconst 0, (0, 0, 0, 0, 0))] [] (by decide +kernel) rfl trivial ?_
                cases hf
                exact b_zret (by decide +kernel) rfl (by decide) hk
              · have hf := if_f h15 hf
                refine b_blk (pc' := 231) (ls' := [some (mR (5, 0, 19)), some (mI v1), some (mI v2)]) (st' := [mI 1]) (S' := (L, r14.2, J, R)) (P := True) [(.iconst 1, (0, 0, 0, 1, 0)), (.goto 4, (0, 231, 0, 0, 0))] [] (by decide +kernel) rfl trivial ?_
                cases hf
                exact b_zret (by decide +kernel) rfl (by decide) hk
noncomputable def F_Reader_part_133 (sd : Nat) (rc : Nat → MI → Int32 → Option (Int32 × MI)) (I : MI) (v1 : Int32) (v2 : Int32) : Option (Int32 × MI) :=
  (F_Reader_advance sd I).bind fun r1 => if (r1 19 6) = (40 : Int32) then (F_Reader_part_158 sd rc r1 v1 v2) else ((F_Reader_wrong sd r1 (1 : Int32) (r1 19 7)).bind fun r3 => if r3.1 = (0 : Int32) then (some ((0 : Int32), r3.2)) else (F_Reader_part_158 sd rc r3.2 v1 v2))
set_option maxRecDepth 100000 in
set_option maxHeartbeats 400000 in
theorem W_Reader_part_133 {G : MG} {Q : Option MV → MS → Prop} {L : List (Nat × Nat)} {R : Nat → Nat → Option MRef} (sd : Nat) (rc : Nat → MI → Int32 → Option (Int32 × MI)) (I : MI) (J : MJ) (v1 : Int32) (v2 : Int32) {d : Nat} (hR : RF R) (ht : R 19 4 = some (8, 0, sd)) (hqd : sd = 3 ∨ sd = 11) (hrc : RdOK G R rc d) (hd8 : 8 ≤ d) {r : Int32 × MI} (hf : F_Reader_part_133 sd rc I v1 v2 = some r) (hk : (fun r : Int32 × MI => Q (some (mI r.1)) (L, r.2, J, R)) r) : m_B G (m_rm (d + 1) 0 0) M_Reader_part Q 0 0 133 [some (mR (5, 0, 19)), some (mI v1), some (mI v2)] [] (L, I, J, R) := by
  unfold F_Reader_part_133 at hf
  refine b_blk (pc' := 134) (ls' := [some (mR (5, 0, 19)), some (mI v1), some (mI v2)]) (st' := [mR (5, 0, 19)]) (S' := (L, I, J, R)) (P := True) [(.aload_n 0, (0, 0, 0, 0, 0))] [] (by decide +kernel) rfl trivial ?_
  obtain ⟨r1, hc1, hf⟩ := bnd_o hf
  refine b_cV (as := []) (st := []) (by decide +kernel) k_5_88 n_Reader_advance rfl (by decide) v_Reader_advance (C_Reader_advance sd I J hR ht hqd hc1) (Nat.le_of_ble_eq_true rfl) (dp (Nat.le_trans (show 6 ≤ 8 from by decide) hd8) (by decide)) rfl rfl (fun _ h => h) ?_
  show m_B G (m_rm (d + 1) 0 0) M_Reader_part Q 0 0 137 [some (mR (5, 0, 19)), some (mI v1), some (mI v2)] [] (L, r1, J, R)
  refine b_blk (pc' := 143) (ls' := [some (mR (5, 0, 19)), some (mI v1), some (mI v2)]) (st' := [mI 40, mI (r1 19 6)]) (S' := (L, r1, J, R)) (P := True) [(.aload_n 0, (0, 0, 0, 0, 0)), (.getfield 39, (5, 6, 0, 0, 0)), (.bipush 40, (0, 0, 0, 40, 0))] [] (by decide +kernel) rfl trivial ?_
  refine b_icmp_eq (off := 15) (tgt := 158) (by decide +kernel) (by decide) (fun h2 => ?_) (fun h2 => ?_)
  · have hf := if_t h2 hf
    exact m_B_cg rfl rfl rfl (W_Reader_part_158 sd rc r1 J v1 v2 hR ht hqd hrc hd8 hf hk)
  · have hf := if_f h2 hf
    refine b_blk (pc' := 152) (ls' := [some (mR (5, 0, 19)), some (mI v1), some (mI v2)]) (st' := [mI (r1 19 7), mI 1, mR (5, 0, 19)]) (S' := (L, r1, J, R)) (P := True) [(.aload_n 0, (0, 0, 0, 0, 0)), (.iconst 1, (0, 0, 0, 1, 0)), (.aload_n 0, (0, 0, 0, 0, 0)), (.getfield 66, (5, 7, 0, 0, 0))] [] (by decide +kernel) rfl trivial ?_
    obtain ⟨r3, hc3, hf⟩ := bnd_o hf
    refine b_cV (as := [mI 1, mI (r1 19 7)]) (st := []) (by decide +kernel) k_5_69 n_Reader_wrong rfl (by decide) v_Reader_wrong (C_Reader_wrong sd r1 J (1 : Int32) (r1 19 7) hR ht hqd hc3) (Nat.le_of_ble_eq_true rfl) (dp (Nat.le_trans (show 1 ≤ 8 from by decide) hd8) (by decide)) rfl rfl (fun _ h => h) ?_
    show m_B G (m_rm (d + 1) 0 0) M_Reader_part Q 0 0 155 [some (mR (5, 0, 19)), some (mI v1), some (mI v2)] [mI r3.1] (L, r3.2, J, R)
    refine b_if_eq (off := 75) (tgt := 230) (by decide +kernel) (by decide) (fun h4 => ?_) (fun h4 => ?_)
    · have hf := if_t h4 hf
      refine b_blk (pc' := 231) (ls' := [some (mR (5, 0, 19)), some (mI v1), some (mI v2)]) (st' := [mI 0]) (S' := (L, r3.2, J, R)) (P := True) [(.iconst 0, (0, 0, 0, 0, 0))] [] (by decide +kernel) rfl trivial ?_
      cases hf
      exact b_zret (by decide +kernel) rfl (by decide) hk
    · have hf := if_f h4 hf
      exact m_B_cg rfl rfl rfl (W_Reader_part_158 sd rc r3.2 J v1 v2 hR ht hqd hrc hd8 hf hk)
noncomputable def F_Reader_part (sd : Nat) (rc : Nat → MI → Int32 → Option (Int32 × MI)) (I : MI) (v1 : Int32) : Option (Int32 × MI) :=
  if (I 19 6) = (257 : Int32) then ((F_Reader_number sd I (0 : Int32) (9999 : Int32)).bind fun r36 => if r36.1 = (0 : Int32) then (some ((0 : Int32), r36.2)) else ((F_Reader_emit sd r36.2 (r36.2 19 10)).bind fun r38 => if r38.1 = (0 : Int32) then (some ((0 : Int32), r38.2)) else (some ((1 : Int32), r38.2)))) else (if (I 19 6) = (40 : Int32) then ((F_Reader_opens sd I v1).bind fun r30 => if r30.1 = (0 : Int32) then (some ((0 : Int32), r30.2)) else ((rc 3 r30.2 (v1 + (1 : Int32))).bind fun r32 => if r32.1 = (0 : Int32) then (some ((0 : Int32), r32.2)) else ((F_Reader_need sd r32.2 (41 : Int32)).bind fun r34 => if r34.1 = (0 : Int32) then (some ((0 : Int32), r34.2)) else (some ((1 : Int32), r34.2))))) else (if (I 19 6) = (256 : Int32) then (if (I 19 9) < (0 : Int32) then ((F_Reader_wrong sd I (1 : Int32) (I 19 7)).bind fun r7 => gq (r7.1 = 0 ∨ r7.1 = 1) <| some ((r7.1 : Int32), r7.2)) else (if (I 19 9) < (24 : Int32) then (if (I 19 9) = (22 : Int32) then (F_Reader_part_133 sd rc I v1 (I 19 9)) else (if (I 19 9) = (23 : Int32) then (F_Reader_part_133 sd rc I v1 (I 19 9)) else (if (((I 19 12) >>> ((I 19 9) &&& 31)) &&& (1 : Int32)) = (0 : Int32) then (if (((I 19 11) >>> ((I 19 9) &&& 31)) &&& (1 : Int32)) = (0 : Int32) then ((F_Reader_wrong sd I (1 : Int32) (I 19 7)).bind fun r17 => gq (r17.1 = 0 ∨ r17.1 = 1) <| some ((r17.1 : Int32), r17.2)) else ((F_Reader_advance sd I).bind fun r14 => (F_Reader_emit sd r14 ((10000 : Int32) + (I 19 9))).bind fun r15 => gq (r15.1 = 0 ∨ r15.1 = 1) <| some ((r15.1 : Int32), r15.2))) else ((F_Reader_opens sd I v1).bind fun r19 => if r19.1 = (0 : Int32) then (some ((0 : Int32), r19.2)) else ((rc 5 r19.2 (v1 + (1 : Int32))).bind fun r21 => if r21.1 = (0 : Int32) then (some ((0 : Int32), r21.2)) else (if (I 19 9) = (5 : Int32) then ((F_Reader_emit sd r21.2 (30001 : Int32)).bind fun r26 => if r26.1 = (0 : Int32) then (some ((0 : Int32), r26.2)) else (some ((1 : Int32), r26.2))) else ((F_Reader_emit sd r21.2 (30002 : Int32)).bind fun r24 => if r24.1 = (0 : Int32) then (some ((0 : Int32), r24.2)) else (some ((1 : Int32), r24.2))))))))) else ((F_Reader_wrong sd I (1 : Int32) (I 19 7)).bind fun r28 => gq (r28.1 = 0 ∨ r28.1 = 1) <| some ((r28.1 : Int32), r28.2)))) else ((F_Reader_wrong sd I (1 : Int32) (I 19 7)).bind fun r4 => gq (r4.1 = 0 ∨ r4.1 = 1) <| some ((r4.1 : Int32), r4.2))))
set_option maxRecDepth 100000 in
set_option maxHeartbeats 400000 in
theorem W_Reader_part {G : MG} {Q : Option MV → MS → Prop} {L : List (Nat × Nat)} {R : Nat → Nat → Option MRef} (sd : Nat) (rc : Nat → MI → Int32 → Option (Int32 × MI)) (I : MI) (J : MJ) (v1 : Int32) {d : Nat} (hR : RF R) (ht : R 19 4 = some (8, 0, sd)) (hqd : sd = 3 ∨ sd = 11) (hrc : RdOK G R rc d) (hd8 : 8 ≤ d) {r : Int32 × MI} (hf : F_Reader_part sd rc I v1 = some r) (hk : (fun r : Int32 × MI => Q (some (mI r.1)) (L, r.2, J, R)) r) : m_B G (m_rm (d + 1) 0 0) M_Reader_part Q 0 0 0 [some (mR (5, 0, 19)), some (mI v1), none] [] (L, I, J, R) := by
  unfold F_Reader_part at hf
  refine b_blk (pc' := 7) (ls' := [some (mR (5, 0, 19)), some (mI v1), none]) (st' := [mI 257, mI (I 19 6)]) (S' := (L, I, J, R)) (P := True) [(.aload_n 0, (0, 0, 0, 0, 0)), (.getfield 39, (5, 6, 0, 0, 0)), (.sipush 257, (0, 0, 0, 257, 0))] [] (by decide +kernel) rfl trivial ?_
  refine b_icmp_ne (off := 31) (tgt := 38) (by decide +kernel) (by decide) (fun h1 => ?_) (fun h1 => ?_)
  · have hf := if_f h1 hf
    refine b_blk (pc' := 44) (ls' := [some (mR (5, 0, 19)), some (mI v1), none]) (st' := [mI 40, mI (I 19 6)]) (S' := (L, I, J, R)) (P := True) [(.aload_n 0, (0, 0, 0, 0, 0)), (.getfield 39, (5, 6, 0, 0, 0)), (.bipush 40, (0, 0, 0, 40, 0))] [] (by decide +kernel) rfl trivial ?_
    refine b_icmp_ne (off := 36) (tgt := 80) (by decide +kernel) (by decide) (fun h2 => ?_) (fun h2 => ?_)
    · have hf := if_f h2 hf
      refine b_blk (pc' := 87) (ls' := [some (mR (5, 0, 19)), some (mI v1), none]) (st' := [mI 256, mI (I 19 6)]) (S' := (L, I, J, R)) (P := True) [(.aload_n 0, (0, 0, 0, 0, 0)), (.getfield 39, (5, 6, 0, 0, 0)), (.sipush 256, (0, 0, 0, 256, 0))] [] (by decide +kernel) rfl trivial ?_
      refine b_icmp_ne (off := 19) (tgt := 106) (by decide +kernel) (by decide) (fun h3 => ?_) (fun h3 => ?_)
      · have hf := if_f h3 hf
        refine b_blk (pc' := 112) (ls' := [some (mR (5, 0, 19)), some (mI v1), none]) (st' := [mI (I 19 7), mI 1, mR (5, 0, 19)]) (S' := (L, I, J, R)) (P := True) [(.aload_n 0, (0, 0, 0, 0, 0)), (.iconst 1, (0, 0, 0, 1, 0)), (.aload_n 0, (0, 0, 0, 0, 0)), (.getfield 66, (5, 7, 0, 0, 0))] [] (by decide +kernel) rfl trivial ?_
        obtain ⟨r4, hc4, hf⟩ := bnd_o hf
        refine b_cV (as := [mI 1, mI (I 19 7)]) (st := []) (by decide +kernel) k_5_69 n_Reader_wrong rfl (by decide) v_Reader_wrong (C_Reader_wrong sd I J (1 : Int32) (I 19 7) hR ht hqd hc4) (Nat.le_of_ble_eq_true rfl) (dp (Nat.le_trans (show 1 ≤ 8 from by decide) hd8) (by decide)) rfl rfl (fun _ h => h) ?_
        show m_B G (m_rm (d + 1) 0 0) M_Reader_part Q 0 0 115 [some (mR (5, 0, 19)), some (mI v1), none] [mI r4.1] (L, r4.2, J, R)
        obtain ⟨g5, hf⟩ := gq_s hf
        cases hf
        exact b_zret (by decide +kernel) rfl g5 hk
      · have hf := if_t h3 hf
        refine b_blk (pc' := 94) (ls' := [some (mR (5, 0, 19)), some (mI v1), none]) (st' := [mI (I 19 9)]) (S' := (L, I, J, R)) (P := True) [(.aload_n 0, (0, 0, 0, 0, 0)), (.getfield 42, (5, 9, 0, 0, 0))] [] (by decide +kernel) rfl trivial ?_
        refine b_if_lt (off := 12) (tgt := 106) (by decide +kernel) (by decide) (fun h6 => ?_) (fun h6 => ?_)
        · have hf := if_t h6 hf
          refine b_blk (pc' := 112) (ls' := [some (mR (5, 0, 19)), some (mI v1), none]) (st' := [mI (I 19 7), mI 1, mR (5, 0, 19)]) (S' := (L, I, J, R)) (P := True) [(.aload_n 0, (0, 0, 0, 0, 0)), (.iconst 1, (0, 0, 0, 1, 0)), (.aload_n 0, (0, 0, 0, 0, 0)), (.getfield 66, (5, 7, 0, 0, 0))] [] (by decide +kernel) rfl trivial ?_
          obtain ⟨r7, hc7, hf⟩ := bnd_o hf
          refine b_cV (as := [mI 1, mI (I 19 7)]) (st := []) (by decide +kernel) k_5_69 n_Reader_wrong rfl (by decide) v_Reader_wrong (C_Reader_wrong sd I J (1 : Int32) (I 19 7) hR ht hqd hc7) (Nat.le_of_ble_eq_true rfl) (dp (Nat.le_trans (show 1 ≤ 8 from by decide) hd8) (by decide)) rfl rfl (fun _ h => h) ?_
          show m_B G (m_rm (d + 1) 0 0) M_Reader_part Q 0 0 115 [some (mR (5, 0, 19)), some (mI v1), none] [mI r7.1] (L, r7.2, J, R)
          obtain ⟨g8, hf⟩ := gq_s hf
          cases hf
          exact b_zret (by decide +kernel) rfl g8 hk
        · have hf := if_f h6 hf
          refine b_blk (pc' := 103) (ls' := [some (mR (5, 0, 19)), some (mI v1), none]) (st' := [mI 24, mI (I 19 9)]) (S' := (L, I, J, R)) (P := True) [(.aload_n 0, (0, 0, 0, 0, 0)), (.getfield 42, (5, 9, 0, 0, 0)), (.bipush 24, (0, 0, 0, 24, 0))] [] (by decide +kernel) rfl trivial ?_
          refine b_icmp_lt (off := 13) (tgt := 116) (by decide +kernel) (by decide) (fun h9 => ?_) (fun h9 => ?_)
          · have hf := if_t h9 hf
            refine b_blk (pc' := 124) (ls' := [some (mR (5, 0, 19)), some (mI v1), some (mI (I 19 9))]) (st' := [mI 22, mI (I 19 9)]) (S' := (L, I, J, R)) (P := True) [(.aload_n 0, (0, 0, 0, 0, 0)), (.getfield 42, (5, 9, 0, 0, 0)), (.istore_n 2, (0, 0, 0, 0, 0)), (.iload_n 2, (0, 0, 0, 0, 0)), (.bipush 22, (0, 0, 0, 22, 0))] [] (by decide +kernel) rfl trivial ?_
            refine b_icmp_eq (off := 9) (tgt := 133) (by decide +kernel) (by decide) (fun h10 => ?_) (fun h10 => ?_)
            · have hf := if_t h10 hf
              exact m_B_cg rfl rfl rfl (W_Reader_part_133 sd rc I J v1 (I 19 9) hR ht hqd hrc hd8 hf hk)
            · have hf := if_f h10 hf
              refine b_blk (pc' := 130) (ls' := [some (mR (5, 0, 19)), some (mI v1), some (mI (I 19 9))]) (st' := [mI 23, mI (I 19 9)]) (S' := (L, I, J, R)) (P := True) [(.iload_n 2, (0, 0, 0, 0, 0)), (.bipush 23, (0, 0, 0, 23, 0))] [] (by decide +kernel) rfl trivial ?_
              refine b_icmp_ne (off := 102) (tgt := 232) (by decide +kernel) (by decide) (fun h11 => ?_) (fun h11 => ?_)
              · have hf := if_f h11 hf
                refine b_blk (pc' := 240) (ls' := [some (mR (5, 0, 19)), some (mI v1), some (mI (I 19 9))]) (st' := [mI (((I 19 12) >>> ((I 19 9) &&& 31)) &&& (1 : Int32))]) (S' := (L, I, J, R)) (P := True) [(.aload_n 0, (0, 0, 0, 0, 0)), (.getfield 82, (5, 12, 0, 0, 0)), (.iload_n 2, (0, 0, 0, 0, 0)), (.ishr, (0, 0, 0, 0, 0)), (.iconst 1, (0, 0, 0, 1, 0)), (.iand, (0, 0, 0, 0, 0))] [] (by decide +kernel) rfl trivial ?_
                refine b_if_eq (off := 48) (tgt := 288) (by decide +kernel) (by decide) (fun h12 => ?_) (fun h12 => ?_)
                · have hf := if_t h12 hf
                  refine b_blk (pc' := 296) (ls' := [some (mR (5, 0, 19)), some (mI v1), some (mI (I 19 9))]) (st' := [mI (((I 19 11) >>> ((I 19 9) &&& 31)) &&& (1 : Int32))]) (S' := (L, I, J, R)) (P := True) [(.aload_n 0, (0, 0, 0, 0, 0)), (.getfield 78, (5, 11, 0, 0, 0)), (.iload_n 2, (0, 0, 0, 0, 0)), (.ishr, (0, 0, 0, 0, 0)), (.iconst 1, (0, 0, 0, 1, 0)), (.iand, (0, 0, 0, 0, 0))] [] (by decide +kernel) rfl trivial ?_
                  refine b_if_ne (off := 13) (tgt := 309) (by decide +kernel) (by decide) (fun h13 => ?_) (fun h13 => ?_)
                  · have hf := if_f h13 hf
                    refine b_blk (pc' := 310) (ls' := [some (mR (5, 0, 19)), some (mI v1), some (mI (I 19 9))]) (st' := [mR (5, 0, 19)]) (S' := (L, I, J, R)) (P := True) [(.aload_n 0, (0, 0, 0, 0, 0))] [] (by decide +kernel) rfl trivial ?_
                    obtain ⟨r14, hc14, hf⟩ := bnd_o hf
                    refine b_cV (as := []) (st := []) (by decide +kernel) k_5_88 n_Reader_advance rfl (by decide) v_Reader_advance (C_Reader_advance sd I J hR ht hqd hc14) (Nat.le_of_ble_eq_true rfl) (dp (Nat.le_trans (show 6 ≤ 8 from by decide) hd8) (by decide)) rfl rfl (fun _ h => h) ?_
                    show m_B G (m_rm (d + 1) 0 0) M_Reader_part Q 0 0 313 [some (mR (5, 0, 19)), some (mI v1), some (mI (I 19 9))] [] (L, r14, J, R)
                    refine b_blk (pc' := 319) (ls' := [some (mR (5, 0, 19)), some (mI v1), some (mI (I 19 9))]) (st' := [mI ((10000 : Int32) + (I 19 9)), mR (5, 0, 19)]) (S' := (L, r14, J, R)) (P := True) [(.aload_n 0, (0, 0, 0, 0, 0)), (.sipush 10000, (0, 0, 0, 10000, 0)), (.iload_n 2, (0, 0, 0, 0, 0)), (.iadd, (0, 0, 0, 0, 0))] [] (by decide +kernel) rfl trivial ?_
                    obtain ⟨r15, hc15, hf⟩ := bnd_o hf
                    refine b_cV (as := [mI ((10000 : Int32) + (I 19 9))]) (st := []) (by decide +kernel) k_5_222 n_Reader_emit rfl (by decide) v_Reader_emit (C_Reader_emit sd r14 J ((10000 : Int32) + (I 19 9)) hR ht hqd hc15) (Nat.le_of_ble_eq_true rfl) (dp (Nat.le_trans (show 1 ≤ 8 from by decide) hd8) (by decide)) rfl rfl (fun _ h => h) ?_
                    show m_B G (m_rm (d + 1) 0 0) M_Reader_part Q 0 0 322 [some (mR (5, 0, 19)), some (mI v1), some (mI (I 19 9))] [mI r15.1] (L, r15.2, J, R)
                    obtain ⟨g16, hf⟩ := gq_s hf
                    cases hf
                    exact b_zret (by decide +kernel) rfl g16 hk
                  · have hf := if_t h13 hf
                    refine b_blk (pc' := 305) (ls' := [some (mR (5, 0, 19)), some (mI v1), some (mI (I 19 9))]) (st' := [mI (I 19 7), mI 1, mR (5, 0, 19)]) (S' := (L, I, J, R)) (P := True) [(.aload_n 0, (0, 0, 0, 0, 0)), (.iconst 1, (0, 0, 0, 1, 0)), (.aload_n 0, (0, 0, 0, 0, 0)), (.getfield 66, (5, 7, 0, 0, 0))] [] (by decide +kernel) rfl trivial ?_
                    obtain ⟨r17, hc17, hf⟩ := bnd_o hf
                    refine b_cV (as := [mI 1, mI (I 19 7)]) (st := []) (by decide +kernel) k_5_69 n_Reader_wrong rfl (by decide) v_Reader_wrong (C_Reader_wrong sd I J (1 : Int32) (I 19 7) hR ht hqd hc17) (Nat.le_of_ble_eq_true rfl) (dp (Nat.le_trans (show 1 ≤ 8 from by decide) hd8) (by decide)) rfl rfl (fun _ h => h) ?_
                    show m_B G (m_rm (d + 1) 0 0) M_Reader_part Q 0 0 308 [some (mR (5, 0, 19)), some (mI v1), some (mI (I 19 9))] [mI r17.1] (L, r17.2, J, R)
                    obtain ⟨g18, hf⟩ := gq_s hf
                    cases hf
                    exact b_zret (by decide +kernel) rfl g18 hk
                · have hf := if_f h12 hf
                  refine b_blk (pc' := 245) (ls' := [some (mR (5, 0, 19)), some (mI v1), some (mI (I 19 9))]) (st' := [mI v1, mR (5, 0, 19)]) (S' := (L, I, J, R)) (P := True) [(.aload_n 0, (0, 0, 0, 0, 0)), (.iload_n 1, (0, 0, 0, 0, 0))] [] (by decide +kernel) rfl trivial ?_
                  obtain ⟨r19, hc19, hf⟩ := bnd_o hf
                  refine b_cV (as := [mI v1]) (st := []) (by decide +kernel) k_5_228 n_Reader_opens rfl (by decide) v_Reader_opens (C_Reader_opens sd I J v1 hR ht hqd hc19) (Nat.le_of_ble_eq_true rfl) (dp (Nat.le_trans (show 7 ≤ 8 from by decide) hd8) (by decide)) rfl rfl (fun _ h => h) ?_
                  show m_B G (m_rm (d + 1) 0 0) M_Reader_part Q 0 0 248 [some (mR (5, 0, 19)), some (mI v1), some (mI (I 19 9))] [mI r19.1] (L, r19.2, J, R)
                  refine b_if_eq (off := 38) (tgt := 286) (by decide +kernel) (by decide) (fun h20 => ?_) (fun h20 => ?_)
                  · have hf := if_t h20 hf
                    refine b_blk (pc' := 287) (ls' := [some (mR (5, 0, 19)), some (mI v1), some (mI (I 19 9))]) (st' := [mI 0]) (S' := (L, r19.2, J, R)) (P := True) [(.iconst 0, (0, 0, 0, 0, 0))] [] (by decide +kernel) rfl trivial ?_
                    cases hf
                    exact b_zret (by decide +kernel) rfl (by decide) hk
                  · have hf := if_f h20 hf
                    refine b_blk (pc' := 255) (ls' := [some (mR (5, 0, 19)), some (mI v1), some (mI (I 19 9))]) (st' := [mI (v1 + (1 : Int32)), mR (5, 0, 19)]) (S' := (L, r19.2, J, R)) (P := True) [(.aload_n 0, (0, 0, 0, 0, 0)), (.iload_n 1, (0, 0, 0, 0, 0)), (.iconst 1, (0, 0, 0, 1, 0)), (.iadd, (0, 0, 0, 0, 0))] [] (by decide +kernel) rfl trivial ?_
                    obtain ⟨r21, hc21, hf⟩ := bnd_o hf
                    refine b_cV (as := [mI (v1 + (1 : Int32))]) (st := []) (by decide +kernel) k_5_234 n_Reader_part rfl (by decide) v_Reader_part (hrc.2.2.2.2.2 L r19.2 J (v1 + (1 : Int32)) _ hc21) (Nat.le_of_ble_eq_true rfl) (dp (Nat.le_refl _) (by decide)) rfl rfl (fun _ h => h) ?_
                    show m_B G (m_rm (d + 1) 0 0) M_Reader_part Q 0 0 258 [some (mR (5, 0, 19)), some (mI v1), some (mI (I 19 9))] [mI r21.1] (L, r21.2, J, R)
                    refine b_if_eq (off := 28) (tgt := 286) (by decide +kernel) (by decide) (fun h22 => ?_) (fun h22 => ?_)
                    · have hf := if_t h22 hf
                      refine b_blk (pc' := 287) (ls' := [some (mR (5, 0, 19)), some (mI v1), some (mI (I 19 9))]) (st' := [mI 0]) (S' := (L, r21.2, J, R)) (P := True) [(.iconst 0, (0, 0, 0, 0, 0))] [] (by decide +kernel) rfl trivial ?_
                      cases hf
                      exact b_zret (by decide +kernel) rfl (by decide) hk
                    · have hf := if_f h22 hf
                      refine b_blk (pc' := 264) (ls' := [some (mR (5, 0, 19)), some (mI v1), some (mI (I 19 9))]) (st' := [mI 5, mI (I 19 9), mR (5, 0, 19)]) (S' := (L, r21.2, J, R)) (P := True) [(.aload_n 0, (0, 0, 0, 0, 0)), (.iload_n 2, (0, 0, 0, 0, 0)), (.iconst 5, (0, 0, 0, 5, 0))] [] (by decide +kernel) rfl trivial ?_
                      refine b_icmp_ne (off := 9) (tgt := 273) (by decide +kernel) (by decide) (fun h23 => ?_) (fun h23 => ?_)
                      · have hf := if_f h23 hf
                        refine b_blk (pc' := 276) (ls' := [some (mR (5, 0, 19)), some (mI v1), some (mI (I 19 9))]) (st' := [mI 30002, mR (5, 0, 19)]) (S' := (L, r21.2, J, R)) (P := True) [(.sipush 30002, (0, 0, 0, 30002, 0))] [] (by decide +kernel) rfl trivial ?_
                        obtain ⟨r24, hc24, hf⟩ := bnd_o hf
                        refine b_cV (as := [mI 30002]) (st := []) (by decide +kernel) k_5_222 n_Reader_emit rfl (by decide) v_Reader_emit (C_Reader_emit sd r21.2 J (30002 : Int32) hR ht hqd hc24) (Nat.le_of_ble_eq_true rfl) (dp (Nat.le_trans (show 1 ≤ 8 from by decide) hd8) (by decide)) rfl rfl (fun _ h => h) ?_
                        show m_B G (m_rm (d + 1) 0 0) M_Reader_part Q 0 0 279 [some (mR (5, 0, 19)), some (mI v1), some (mI (I 19 9))] [mI r24.1] (L, r24.2, J, R)
                        refine b_if_eq (off := 7) (tgt := 286) (by decide +kernel) (by decide) (fun h25 => ?_) (fun h25 => ?_)
                        · have hf := if_t h25 hf
                          refine b_blk (pc' := 287) (ls' := [some (mR (5, 0, 19)), some (mI v1), some (mI (I 19 9))]) (st' := [mI 0]) (S' := (L, r24.2, J, R)) (P := True) [(.iconst 0, (0, 0, 0, 0, 0))] [] (by decide +kernel) rfl trivial ?_
                          cases hf
                          exact b_zret (by decide +kernel) rfl (by decide) hk
                        · have hf := if_f h25 hf
                          refine b_blk (pc' := 287) (ls' := [some (mR (5, 0, 19)), some (mI v1), some (mI (I 19 9))]) (st' := [mI 1]) (S' := (L, r24.2, J, R)) (P := True) [(.iconst 1, (0, 0, 0, 1, 0)), (.goto 4, (0, 287, 0, 0, 0))] [] (by decide +kernel) rfl trivial ?_
                          cases hf
                          exact b_zret (by decide +kernel) rfl (by decide) hk
                      · have hf := if_t h23 hf
                        refine b_blk (pc' := 276) (ls' := [some (mR (5, 0, 19)), some (mI v1), some (mI (I 19 9))]) (st' := [mI 30001, mR (5, 0, 19)]) (S' := (L, r21.2, J, R)) (P := True) [(.sipush 30001, (0, 0, 0, 30001, 0)), (.goto 6, (0, 276, 0, 0, 0))] [] (by decide +kernel) rfl trivial ?_
                        obtain ⟨r26, hc26, hf⟩ := bnd_o hf
                        refine b_cV (as := [mI 30001]) (st := []) (by decide +kernel) k_5_222 n_Reader_emit rfl (by decide) v_Reader_emit (C_Reader_emit sd r21.2 J (30001 : Int32) hR ht hqd hc26) (Nat.le_of_ble_eq_true rfl) (dp (Nat.le_trans (show 1 ≤ 8 from by decide) hd8) (by decide)) rfl rfl (fun _ h => h) ?_
                        show m_B G (m_rm (d + 1) 0 0) M_Reader_part Q 0 0 279 [some (mR (5, 0, 19)), some (mI v1), some (mI (I 19 9))] [mI r26.1] (L, r26.2, J, R)
                        refine b_if_eq (off := 7) (tgt := 286) (by decide +kernel) (by decide) (fun h27 => ?_) (fun h27 => ?_)
                        · have hf := if_t h27 hf
                          refine b_blk (pc' := 287) (ls' := [some (mR (5, 0, 19)), some (mI v1), some (mI (I 19 9))]) (st' := [mI 0]) (S' := (L, r26.2, J, R)) (P := True) [(.iconst 0, (0, 0, 0, 0, 0))] [] (by decide +kernel) rfl trivial ?_
                          cases hf
                          exact b_zret (by decide +kernel) rfl (by decide) hk
                        · have hf := if_f h27 hf
                          refine b_blk (pc' := 287) (ls' := [some (mR (5, 0, 19)), some (mI v1), some (mI (I 19 9))]) (st' := [mI 1]) (S' := (L, r26.2, J, R)) (P := True) [(.iconst 1, (0, 0, 0, 1, 0)), (.goto 4, (0, 287, 0, 0, 0))] [] (by decide +kernel) rfl trivial ?_
                          cases hf
                          exact b_zret (by decide +kernel) rfl (by decide) hk
              · have hf := if_t h11 hf
                exact m_B_cg rfl rfl rfl (W_Reader_part_133 sd rc I J v1 (I 19 9) hR ht hqd hrc hd8 hf hk)
          · have hf := if_f h9 hf
            refine b_blk (pc' := 112) (ls' := [some (mR (5, 0, 19)), some (mI v1), none]) (st' := [mI (I 19 7), mI 1, mR (5, 0, 19)]) (S' := (L, I, J, R)) (P := True) [(.aload_n 0, (0, 0, 0, 0, 0)), (.iconst 1, (0, 0, 0, 1, 0)), (.aload_n 0, (0, 0, 0, 0, 0)), (.getfield 66, (5, 7, 0, 0, 0))] [] (by decide +kernel) rfl trivial ?_
            obtain ⟨r28, hc28, hf⟩ := bnd_o hf
            refine b_cV (as := [mI 1, mI (I 19 7)]) (st := []) (by decide +kernel) k_5_69 n_Reader_wrong rfl (by decide) v_Reader_wrong (C_Reader_wrong sd I J (1 : Int32) (I 19 7) hR ht hqd hc28) (Nat.le_of_ble_eq_true rfl) (dp (Nat.le_trans (show 1 ≤ 8 from by decide) hd8) (by decide)) rfl rfl (fun _ h => h) ?_
            show m_B G (m_rm (d + 1) 0 0) M_Reader_part Q 0 0 115 [some (mR (5, 0, 19)), some (mI v1), none] [mI r28.1] (L, r28.2, J, R)
            obtain ⟨g29, hf⟩ := gq_s hf
            cases hf
            exact b_zret (by decide +kernel) rfl g29 hk
    · have hf := if_t h2 hf
      refine b_blk (pc' := 49) (ls' := [some (mR (5, 0, 19)), some (mI v1), none]) (st' := [mI v1, mR (5, 0, 19)]) (S' := (L, I, J, R)) (P := True) [(.aload_n 0, (0, 0, 0, 0, 0)), (.iload_n 1, (0, 0, 0, 0, 0))] [] (by decide +kernel) rfl trivial ?_
      obtain ⟨r30, hc30, hf⟩ := bnd_o hf
      refine b_cV (as := [mI v1]) (st := []) (by decide +kernel) k_5_228 n_Reader_opens rfl (by decide) v_Reader_opens (C_Reader_opens sd I J v1 hR ht hqd hc30) (Nat.le_of_ble_eq_true rfl) (dp (Nat.le_trans (show 7 ≤ 8 from by decide) hd8) (by decide)) rfl rfl (fun _ h => h) ?_
      show m_B G (m_rm (d + 1) 0 0) M_Reader_part Q 0 0 52 [some (mR (5, 0, 19)), some (mI v1), none] [mI r30.1] (L, r30.2, J, R)
      refine b_if_eq (off := 26) (tgt := 78) (by decide +kernel) (by decide) (fun h31 => ?_) (fun h31 => ?_)
      · have hf := if_t h31 hf
        refine b_blk (pc' := 79) (ls' := [some (mR (5, 0, 19)), some (mI v1), none]) (st' := [mI 0]) (S' := (L, r30.2, J, R)) (P := True) [(.iconst 0, (0, 0, 0, 0, 0))] [] (by decide +kernel) rfl trivial ?_
        cases hf
        exact b_zret (by decide +kernel) rfl (by decide) hk
      · have hf := if_f h31 hf
        refine b_blk (pc' := 59) (ls' := [some (mR (5, 0, 19)), some (mI v1), none]) (st' := [mI (v1 + (1 : Int32)), mR (5, 0, 19)]) (S' := (L, r30.2, J, R)) (P := True) [(.aload_n 0, (0, 0, 0, 0, 0)), (.iload_n 1, (0, 0, 0, 0, 0)), (.iconst 1, (0, 0, 0, 1, 0)), (.iadd, (0, 0, 0, 0, 0))] [] (by decide +kernel) rfl trivial ?_
        obtain ⟨r32, hc32, hf⟩ := bnd_o hf
        refine b_cV (as := [mI (v1 + (1 : Int32))]) (st := []) (by decide +kernel) k_5_94 n_Reader_sum rfl (by decide) v_Reader_sum (hrc.2.2.2.1 L r30.2 J (v1 + (1 : Int32)) _ hc32) (Nat.le_of_ble_eq_true rfl) (dp (Nat.le_refl _) (by decide)) rfl rfl (fun _ h => h) ?_
        show m_B G (m_rm (d + 1) 0 0) M_Reader_part Q 0 0 62 [some (mR (5, 0, 19)), some (mI v1), none] [mI r32.1] (L, r32.2, J, R)
        refine b_if_eq (off := 16) (tgt := 78) (by decide +kernel) (by decide) (fun h33 => ?_) (fun h33 => ?_)
        · have hf := if_t h33 hf
          refine b_blk (pc' := 79) (ls' := [some (mR (5, 0, 19)), some (mI v1), none]) (st' := [mI 0]) (S' := (L, r32.2, J, R)) (P := True) [(.iconst 0, (0, 0, 0, 0, 0))] [] (by decide +kernel) rfl trivial ?_
          cases hf
          exact b_zret (by decide +kernel) rfl (by decide) hk
        · have hf := if_f h33 hf
          refine b_blk (pc' := 68) (ls' := [some (mR (5, 0, 19)), some (mI v1), none]) (st' := [mI 41, mR (5, 0, 19)]) (S' := (L, r32.2, J, R)) (P := True) [(.aload_n 0, (0, 0, 0, 0, 0)), (.bipush 41, (0, 0, 0, 41, 0))] [] (by decide +kernel) rfl trivial ?_
          obtain ⟨r34, hc34, hf⟩ := bnd_o hf
          refine b_cV (as := [mI 41]) (st := []) (by decide +kernel) k_5_73 n_Reader_need rfl (by decide) v_Reader_need (C_Reader_need sd r32.2 J (41 : Int32) hR ht hqd hc34) (Nat.le_of_ble_eq_true rfl) (dp (Nat.le_trans (show 7 ≤ 8 from by decide) hd8) (by decide)) rfl rfl (fun _ h => h) ?_
          show m_B G (m_rm (d + 1) 0 0) M_Reader_part Q 0 0 71 [some (mR (5, 0, 19)), some (mI v1), none] [mI r34.1] (L, r34.2, J, R)
          refine b_if_eq (off := 7) (tgt := 78) (by decide +kernel) (by decide) (fun h35 => ?_) (fun h35 => ?_)
          · have hf := if_t h35 hf
            refine b_blk (pc' := 79) (ls' := [some (mR (5, 0, 19)), some (mI v1), none]) (st' := [mI 0]) (S' := (L, r34.2, J, R)) (P := True) [(.iconst 0, (0, 0, 0, 0, 0))] [] (by decide +kernel) rfl trivial ?_
            cases hf
            exact b_zret (by decide +kernel) rfl (by decide) hk
          · have hf := if_f h35 hf
            refine b_blk (pc' := 79) (ls' := [some (mR (5, 0, 19)), some (mI v1), none]) (st' := [mI 1]) (S' := (L, r34.2, J, R)) (P := True) [(.iconst 1, (0, 0, 0, 1, 0)), (.goto 4, (0, 79, 0, 0, 0))] [] (by decide +kernel) rfl trivial ?_
            cases hf
            exact b_zret (by decide +kernel) rfl (by decide) hk
  · have hf := if_t h1 hf
    refine b_blk (pc' := 15) (ls' := [some (mR (5, 0, 19)), some (mI v1), none]) (st' := [mI 9999, mI 0, mR (5, 0, 19)]) (S' := (L, I, J, R)) (P := True) [(.aload_n 0, (0, 0, 0, 0, 0)), (.iconst 0, (0, 0, 0, 0, 0)), (.sipush 9999, (0, 0, 0, 9999, 0))] [] (by decide +kernel) rfl trivial ?_
    obtain ⟨r36, hc36, hf⟩ := bnd_o hf
    refine b_cV (as := [mI 0, mI 9999]) (st := []) (by decide +kernel) k_5_164 n_Reader_number rfl (by decide) v_Reader_number (C_Reader_number sd I J (0 : Int32) (9999 : Int32) hR ht hqd hc36) (Nat.le_of_ble_eq_true rfl) (dp (Nat.le_trans (show 7 ≤ 8 from by decide) hd8) (by decide)) rfl rfl (fun _ h => h) ?_
    show m_B G (m_rm (d + 1) 0 0) M_Reader_part Q 0 0 18 [some (mR (5, 0, 19)), some (mI v1), none] [mI r36.1] (L, r36.2, J, R)
    refine b_if_eq (off := 18) (tgt := 36) (by decide +kernel) (by decide) (fun h37 => ?_) (fun h37 => ?_)
    · have hf := if_t h37 hf
      refine b_blk (pc' := 37) (ls' := [some (mR (5, 0, 19)), some (mI v1), none]) (st' := [mI 0]) (S' := (L, r36.2, J, R)) (P := True) [(.iconst 0, (0, 0, 0, 0, 0))] [] (by decide +kernel) rfl trivial ?_
      cases hf
      exact b_zret (by decide +kernel) rfl (by decide) hk
    · have hf := if_f h37 hf
      refine b_blk (pc' := 26) (ls' := [some (mR (5, 0, 19)), some (mI v1), none]) (st' := [mI (r36.2 19 10), mR (5, 0, 19)]) (S' := (L, r36.2, J, R)) (P := True) [(.aload_n 0, (0, 0, 0, 0, 0)), (.aload_n 0, (0, 0, 0, 0, 0)), (.getfield 148, (5, 10, 0, 0, 0))] [] (by decide +kernel) rfl trivial ?_
      obtain ⟨r38, hc38, hf⟩ := bnd_o hf
      refine b_cV (as := [mI (r36.2 19 10)]) (st := []) (by decide +kernel) k_5_222 n_Reader_emit rfl (by decide) v_Reader_emit (C_Reader_emit sd r36.2 J (r36.2 19 10) hR ht hqd hc38) (Nat.le_of_ble_eq_true rfl) (dp (Nat.le_trans (show 1 ≤ 8 from by decide) hd8) (by decide)) rfl rfl (fun _ h => h) ?_
      show m_B G (m_rm (d + 1) 0 0) M_Reader_part Q 0 0 29 [some (mR (5, 0, 19)), some (mI v1), none] [mI r38.1] (L, r38.2, J, R)
      refine b_if_eq (off := 7) (tgt := 36) (by decide +kernel) (by decide) (fun h39 => ?_) (fun h39 => ?_)
      · have hf := if_t h39 hf
        refine b_blk (pc' := 37) (ls' := [some (mR (5, 0, 19)), some (mI v1), none]) (st' := [mI 0]) (S' := (L, r38.2, J, R)) (P := True) [(.iconst 0, (0, 0, 0, 0, 0))] [] (by decide +kernel) rfl trivial ?_
        cases hf
        exact b_zret (by decide +kernel) rfl (by decide) hk
      · have hf := if_f h39 hf
        refine b_blk (pc' := 37) (ls' := [some (mR (5, 0, 19)), some (mI v1), none]) (st' := [mI 1]) (S' := (L, r38.2, J, R)) (P := True) [(.iconst 1, (0, 0, 0, 1, 0)), (.goto 4, (0, 37, 0, 0, 0))] [] (by decide +kernel) rfl trivial ?_
        cases hf
        exact b_zret (by decide +kernel) rfl (by decide) hk
theorem C_Reader_part {G : MG} {L : List (Nat × Nat)} {R : Nat → Nat → Option MRef} (sd : Nat) (rc : Nat → MI → Int32 → Option (Int32 × MI)) (I : MI) (J : MJ) (v1 : Int32) {d : Nat} (hR : RF R) (ht : R 19 4 = some (8, 0, sd)) (hqd : sd = 3 ∨ sd = 11) (hrc : RdOK G R rc d) (hd8 : 8 ≤ d) {r : Int32 × MI} (hf : F_Reader_part sd rc I v1 = some r) : m_met G (d + 1) 0 0 y_Reader_part M_Reader_part [mR (5, 0, 19), mI v1] (L, I, J, R) (m_is (some (mI r.1)) (L, r.2, J, R)) :=
  m_met_in n_Reader_part (plainFor_of_name (by decide)) (by decide) (Nat.le_of_ble_eq_true rfl) (ls := [some (mR (5, 0, 19)), some (mI v1), none]) rfl (W_Reader_part sd rc I J v1 hR ht hqd hrc hd8 hf ⟨rfl, rfl⟩)
/-- the parts of a text, n calls deep at most -/
noncomputable def rdr (sd : Nat) : Nat → Nat → MI → Int32 → Option (Int32 × MI)
  | 0, _, _, _ => none
  | n + 1, t, I, v => if t = 0 then F_Reader_test sd (rdr sd n) I v else if t = 1 then F_Reader_both sd (rdr sd n) I v else if t = 2 then F_Reader_fact sd (rdr sd n) I v else if t = 3 then F_Reader_sum sd (rdr sd n) I v else if t = 4 then F_Reader_product sd (rdr sd n) I v else if t = 5 then F_Reader_part sd (rdr sd n) I v else none
theorem rdr_ok {G : MG} {R : Nat → Nat → Option MRef} {sd : Nat} (hR : RF R) (ht : R 19 4 = some (8, 0, sd)) (hqd : sd = 3 ∨ sd = 11) : ∀ n, RdOK G R (rdr sd n) (8 + n) := by
  intro n
  induction n with
  | zero => exact ⟨fun _ _ _ _ _ h => (by cases h), fun _ _ _ _ _ h => (by cases h), fun _ _ _ _ _ h => (by cases h), fun _ _ _ _ _ h => (by cases h), fun _ _ _ _ _ h => (by cases h), fun _ _ _ _ _ h => (by cases h)⟩
  | succ n ih => exact ⟨fun L I J v r h => C_Reader_test sd (rdr sd n) I J v hR ht hqd ih (by omega) h, fun L I J v r h => C_Reader_both sd (rdr sd n) I J v hR ht hqd ih (by omega) h, fun L I J v r h => C_Reader_fact sd (rdr sd n) I J v hR ht hqd ih (by omega) h, fun L I J v r h => C_Reader_sum sd (rdr sd n) I J v hR ht hqd ih (by omega) h, fun L I J v r h => C_Reader_product sd (rdr sd n) I J v hR ht hqd ih (by omega) h, fun L I J v r h => C_Reader_part sd (rdr sd n) I J v hR ht hqd ih (by omega) h⟩
noncomputable def F_Reader_test0 (sd : Nat) (I : MI) (v1 : Int32) : Option (Int32 × MI) := rdr sd 60 0 I v1
theorem C_Reader_test0 {G : MG} {L : List (Nat × Nat)} {R : Nat → Nat → Option MRef} (sd : Nat) (I : MI) (J : MJ) (v1 : Int32) (hR : RF R) (ht : R 19 4 = some (8, 0, sd)) (hqd : sd = 3 ∨ sd = 11) {r : Int32 × MI} (hf : F_Reader_test0 sd I v1 = some r) : m_met G 68 0 0 y_Reader_test M_Reader_test [mR (5, 0, 19), mI v1] (L, I, J, R) (m_is (some (mI r.1)) (L, r.2, J, R)) := (rdr_ok hR ht hqd 60).1 L I J v1 r hf
noncomputable def F_Reader_sum0 (sd : Nat) (I : MI) (v1 : Int32) : Option (Int32 × MI) := rdr sd 60 3 I v1
theorem C_Reader_sum0 {G : MG} {L : List (Nat × Nat)} {R : Nat → Nat → Option MRef} (sd : Nat) (I : MI) (J : MJ) (v1 : Int32) (hR : RF R) (ht : R 19 4 = some (8, 0, sd)) (hqd : sd = 3 ∨ sd = 11) {r : Int32 × MI} (hf : F_Reader_sum0 sd I v1 = some r) : m_met G 68 0 0 y_Reader_sum M_Reader_sum [mR (5, 0, 19), mI v1] (L, I, J, R) (m_is (some (mI r.1)) (L, r.2, J, R)) := (rdr_ok hR ht hqd 60).2.2.2.1 L I J v1 r hf
noncomputable def F_Reader_slopeLine (sd : Nat) (I : MI) : Option (Int32 × MI) :=
  (F_Reader_needWord sd I (0 : Int32)).bind fun r1 => if r1.1 = (0 : Int32) then (some ((0 : Int32), r1.2)) else ((F_Reader_number sd r1.2 (1 : Int32) (6 : Int32)).bind fun r3 => if r3.1 = (0 : Int32) then (some ((0 : Int32), r3.2)) else ((F_Reader_needWord sd r3.2 (1 : Int32)).bind fun r5 => if r5.1 = (0 : Int32) then (some ((0 : Int32), r5.2)) else ((F_Reader_number sd r5.2 (4 : Int32) (30 : Int32)).bind fun r7 => if r7.1 = (0 : Int32) then (some ((0 : Int32), r7.2)) else ((F_Reader_need sd (m_up (m_up r7.2 sd 1 (r3.2 19 10)) sd 2 ((m_up r7.2 sd 1 (r3.2 19 10)) 19 10)) (59 : Int32)).bind fun r9 => gq (r9.1 = 0 ∨ r9.1 = 1) <| some ((r9.1 : Int32), r9.2)))))
set_option maxRecDepth 100000 in
set_option maxHeartbeats 400000 in
theorem W_Reader_slopeLine {G : MG} {Q : Option MV → MS → Prop} {L : List (Nat × Nat)} {R : Nat → Nat → Option MRef} (sd : Nat) (I : MI) (J : MJ) (hR : RF R) (ht : R 19 4 = some (8, 0, sd)) (hqd : sd = 3 ∨ sd = 11) {r : Int32 × MI} (hf : F_Reader_slopeLine sd I = some r) (hk : (fun r : Int32 × MI => Q (some (mI r.1)) (L, r.2, J, R)) r) : m_B G (m_rm 8 0 0) M_Reader_slopeLine Q 0 0 0 [some (mR (5, 0, 19)), none] [] (L, I, J, R) := by
  unfold F_Reader_slopeLine at hf
  refine b_blk (pc' := 2) (ls' := [some (mR (5, 0, 19)), none]) (st' := [mI 0, mR (5, 0, 19)]) (S' := (L, I, J, R)) (P := True) [(.aload_n 0, (0, 0, 0, 0, 0)), (.iconst 0, (0, 0, 0, 0, 0))] [] (by decide +kernel) rfl trivial ?_
  obtain ⟨r1, hc1, hf⟩ := bnd_o hf
  refine b_cV (as := [mI 0]) (st := []) (by decide +kernel) k_5_161 n_Reader_needWord rfl (by decide) v_Reader_needWord (C_Reader_needWord sd I J (0 : Int32) hR ht hqd hc1) (Nat.le_of_ble_eq_true rfl) (by decide) rfl rfl (fun _ h => h) ?_
  show m_B G (m_rm 8 0 0) M_Reader_slopeLine Q 0 0 5 [some (mR (5, 0, 19)), none] [mI r1.1] (L, r1.2, J, R)
  refine b_if_eq (off := 13) (tgt := 18) (by decide +kernel) (by decide) (fun h2 => ?_) (fun h2 => ?_)
  · have hf := if_t h2 hf
    refine b_blk (pc' := 19) (ls' := [some (mR (5, 0, 19)), none]) (st' := [mI 0]) (S' := (L, r1.2, J, R)) (P := True) [(.iconst 0, (0, 0, 0, 0, 0))] [] (by decide +kernel) rfl trivial ?_
    cases hf
    exact b_zret (by decide +kernel) rfl (by decide) hk
  · have hf := if_f h2 hf
    refine b_blk (pc' := 12) (ls' := [some (mR (5, 0, 19)), none]) (st' := [mI 6, mI 1, mR (5, 0, 19)]) (S' := (L, r1.2, J, R)) (P := True) [(.aload_n 0, (0, 0, 0, 0, 0)), (.iconst 1, (0, 0, 0, 1, 0)), (.bipush 6, (0, 0, 0, 6, 0))] [] (by decide +kernel) rfl trivial ?_
    obtain ⟨r3, hc3, hf⟩ := bnd_o hf
    refine b_cV (as := [mI 1, mI 6]) (st := []) (by decide +kernel) k_5_164 n_Reader_number rfl (by decide) v_Reader_number (C_Reader_number sd r1.2 J (1 : Int32) (6 : Int32) hR ht hqd hc3) (Nat.le_of_ble_eq_true rfl) (by decide) rfl rfl (fun _ h => h) ?_
    show m_B G (m_rm 8 0 0) M_Reader_slopeLine Q 0 0 15 [some (mR (5, 0, 19)), none] [mI r3.1] (L, r3.2, J, R)
    refine b_if_ne (off := 5) (tgt := 20) (by decide +kernel) (by decide) (fun h4 => ?_) (fun h4 => ?_)
    · have hf := if_f h4 hf
      refine b_blk (pc' := 27) (ls' := [some (mR (5, 0, 19)), some (mI (r3.2 19 10))]) (st' := [mI 1, mR (5, 0, 19)]) (S' := (L, r3.2, J, R)) (P := True) [(.aload_n 0, (0, 0, 0, 0, 0)), (.getfield 148, (5, 10, 0, 0, 0)), (.istore_n 1, (0, 0, 0, 0, 0)), (.aload_n 0, (0, 0, 0, 0, 0)), (.iconst 1, (0, 0, 0, 1, 0))] [] (by decide +kernel) rfl trivial ?_
      obtain ⟨r5, hc5, hf⟩ := bnd_o hf
      refine b_cV (as := [mI 1]) (st := []) (by decide +kernel) k_5_161 n_Reader_needWord rfl (by decide) v_Reader_needWord (C_Reader_needWord sd r3.2 J (1 : Int32) hR ht hqd hc5) (Nat.le_of_ble_eq_true rfl) (by decide) rfl rfl (fun _ h => h) ?_
      show m_B G (m_rm 8 0 0) M_Reader_slopeLine Q 0 0 30 [some (mR (5, 0, 19)), some (mI (r3.2 19 10))] [mI r5.1] (L, r5.2, J, R)
      refine b_if_eq (off := 13) (tgt := 43) (by decide +kernel) (by decide) (fun h6 => ?_) (fun h6 => ?_)
      · have hf := if_t h6 hf
        refine b_blk (pc' := 44) (ls' := [some (mR (5, 0, 19)), some (mI (r3.2 19 10))]) (st' := [mI 0]) (S' := (L, r5.2, J, R)) (P := True) [(.iconst 0, (0, 0, 0, 0, 0))] [] (by decide +kernel) rfl trivial ?_
        cases hf
        exact b_zret (by decide +kernel) rfl (by decide) hk
      · have hf := if_f h6 hf
        refine b_blk (pc' := 37) (ls' := [some (mR (5, 0, 19)), some (mI (r3.2 19 10))]) (st' := [mI 30, mI 4, mR (5, 0, 19)]) (S' := (L, r5.2, J, R)) (P := True) [(.aload_n 0, (0, 0, 0, 0, 0)), (.iconst 4, (0, 0, 0, 4, 0)), (.bipush 30, (0, 0, 0, 30, 0))] [] (by decide +kernel) rfl trivial ?_
        obtain ⟨r7, hc7, hf⟩ := bnd_o hf
        refine b_cV (as := [mI 4, mI 30]) (st := []) (by decide +kernel) k_5_164 n_Reader_number rfl (by decide) v_Reader_number (C_Reader_number sd r5.2 J (4 : Int32) (30 : Int32) hR ht hqd hc7) (Nat.le_of_ble_eq_true rfl) (by decide) rfl rfl (fun _ h => h) ?_
        show m_B G (m_rm 8 0 0) M_Reader_slopeLine Q 0 0 40 [some (mR (5, 0, 19)), some (mI (r3.2 19 10))] [mI r7.1] (L, r7.2, J, R)
        refine b_if_ne (off := 5) (tgt := 45) (by decide +kernel) (by decide) (fun h8 => ?_) (fun h8 => ?_)
        · have hf := if_f h8 hf
          refine b_blk (pc' := 67) (ls' := [some (mR (5, 0, 19)), some (mI (r3.2 19 10))]) (st' := [mI 59, mR (5, 0, 19)]) (S' := (L, m_up (m_up r7.2 sd 1 (r3.2 19 10)) sd 2 ((m_up r7.2 sd 1 (r3.2 19 10)) 19 10), J, R)) (P := ((True ∧ R 19 4 = some (8, 0, sd)) ∧ R 19 4 = some (8, 0, sd))) [(.aload_n 0, (0, 0, 0, 0, 0)), (.getfield 19, (5, 4, 3, 0, 0)), (.iload_n 1, (0, 0, 0, 0, 0)), (.putfield 167, (8, 1, 0, 0, 0)), (.aload_n 0, (0, 0, 0, 0, 0)), (.getfield 19, (5, 4, 3, 0, 0)), (.aload_n 0, (0, 0, 0, 0, 0)), (.getfield 148, (5, 10, 0, 0, 0)), (.putfield 170, (8, 2, 0, 0, 0)), (.aload_n 0, (0, 0, 0, 0, 0)), (.bipush 59, (0, 0, 0, 59, 0))] [some (8, 0, sd), some (8, 0, sd)] (by decide +kernel) rfl ⟨⟨trivial, ht⟩, ht⟩ ?_
          obtain ⟨r9, hc9, hf⟩ := bnd_o hf
          refine b_cV (as := [mI 59]) (st := []) (by decide +kernel) k_5_73 n_Reader_need rfl (by decide) v_Reader_need (C_Reader_need sd (m_up (m_up r7.2 sd 1 (r3.2 19 10)) sd 2 ((m_up r7.2 sd 1 (r3.2 19 10)) 19 10)) J (59 : Int32) hR ht hqd hc9) (Nat.le_of_ble_eq_true rfl) (by decide) rfl rfl (fun _ h => h) ?_
          show m_B G (m_rm 8 0 0) M_Reader_slopeLine Q 0 0 70 [some (mR (5, 0, 19)), some (mI (r3.2 19 10))] [mI r9.1] (L, r9.2, J, R)
          obtain ⟨g10, hf⟩ := gq_s hf
          cases hf
          exact b_zret (by decide +kernel) rfl g10 hk
        · have hf := if_t h8 hf
          refine b_blk (pc' := 44) (ls' := [some (mR (5, 0, 19)), some (mI (r3.2 19 10))]) (st' := [mI 0]) (S' := (L, r7.2, J, R)) (P := True) [(.iconst 0, (0, 0, 0, 0, 0))] [] (by decide +kernel) rfl trivial ?_
          cases hf
          exact b_zret (by decide +kernel) rfl (by decide) hk
    · have hf := if_t h4 hf
      refine b_blk (pc' := 19) (ls' := [some (mR (5, 0, 19)), none]) (st' := [mI 0]) (S' := (L, r3.2, J, R)) (P := True) [(.iconst 0, (0, 0, 0, 0, 0))] [] (by decide +kernel) rfl trivial ?_
      cases hf
      exact b_zret (by decide +kernel) rfl (by decide) hk
theorem C_Reader_slopeLine {G : MG} {L : List (Nat × Nat)} {R : Nat → Nat → Option MRef} (sd : Nat) (I : MI) (J : MJ) (hR : RF R) (ht : R 19 4 = some (8, 0, sd)) (hqd : sd = 3 ∨ sd = 11) {r : Int32 × MI} (hf : F_Reader_slopeLine sd I = some r) : m_met G 8 0 0 y_Reader_slopeLine M_Reader_slopeLine [mR (5, 0, 19)] (L, I, J, R) (m_is (some (mI r.1)) (L, r.2, J, R)) :=
  m_met_in n_Reader_slopeLine (plainFor_of_name (by decide)) (by decide) (Nat.le_of_ble_eq_true rfl) (ls := [some (mR (5, 0, 19)), none]) rfl (W_Reader_slopeLine sd I J hR ht hqd hf ⟨rfl, rfl⟩)
noncomputable def F_Reader_steepLine (sd : Nat) (I : MI) : Option (Int32 × MI) :=
  (F_Reader_advance sd I).bind fun r1 => (F_Reader_number sd r1 (0 : Int32) ((r1 sd 1) - (1 : Int32))).bind fun r2 => if r2.1 = (0 : Int32) then (some ((0 : Int32), r2.2)) else ((F_Reader_number sd r2.2 (0 : Int32) (9 : Int32)).bind fun r4 => if r4.1 = (0 : Int32) then (some ((0 : Int32), r4.2)) else (if (r2.2 19 10) < (0 : Int32) then (some ((1 : Int32), r4.2)) else (if (6 : Int32) ≤ (r2.2 19 10) then (some ((1 : Int32), r4.2)) else (gd (r2.2 19 10) 6 <| some ((1 : Int32), m_up r4.2 (sd + 1) ((r2.2 19 10).toNatClampNeg) (r4.2 19 10))))))
set_option maxRecDepth 100000 in
set_option maxHeartbeats 400000 in
theorem W_Reader_steepLine {G : MG} {Q : Option MV → MS → Prop} {L : List (Nat × Nat)} {R : Nat → Nat → Option MRef} (sd : Nat) (I : MI) (J : MJ) (hR : RF R) (ht : R 19 4 = some (8, 0, sd)) (hqd : sd = 3 ∨ sd = 11) {r : Int32 × MI} (hf : F_Reader_steepLine sd I = some r) (hk : (fun r : Int32 × MI => Q (some (mI r.1)) (L, r.2, J, R)) r) : m_B G (m_rm 8 0 0) M_Reader_steepLine Q 0 0 0 [some (mR (5, 0, 19)), none] [] (L, I, J, R) := by
  unfold F_Reader_steepLine at hf
  refine b_blk (pc' := 1) (ls' := [some (mR (5, 0, 19)), none]) (st' := [mR (5, 0, 19)]) (S' := (L, I, J, R)) (P := True) [(.aload_n 0, (0, 0, 0, 0, 0))] [] (by decide +kernel) rfl trivial ?_
  obtain ⟨r1, hc1, hf⟩ := bnd_o hf
  refine b_cV (as := []) (st := []) (by decide +kernel) k_5_88 n_Reader_advance rfl (by decide) v_Reader_advance (C_Reader_advance sd I J hR ht hqd hc1) (Nat.le_of_ble_eq_true rfl) (by decide) rfl rfl (fun _ h => h) ?_
  show m_B G (m_rm 8 0 0) M_Reader_steepLine Q 0 0 4 [some (mR (5, 0, 19)), none] [] (L, r1, J, R)
  refine b_blk (pc' := 15) (ls' := [some (mR (5, 0, 19)), none]) (st' := [mI ((r1 sd 1) - (1 : Int32)), mI 0, mR (5, 0, 19)]) (S' := (L, r1, J, R)) (P := (True ∧ R 19 4 = some (8, 0, sd))) [(.aload_n 0, (0, 0, 0, 0, 0)), (.iconst 0, (0, 0, 0, 0, 0)), (.aload_n 0, (0, 0, 0, 0, 0)), (.getfield 19, (5, 4, 3, 0, 0)), (.getfield 167, (8, 1, 0, 0, 0)), (.iconst 1, (0, 0, 0, 1, 0)), (.isub, (0, 0, 0, 0, 0))] [some (8, 0, sd)] (by decide +kernel) rfl ⟨trivial, ht⟩ ?_
  obtain ⟨r2, hc2, hf⟩ := bnd_o hf
  refine b_cV (as := [mI 0, mI ((r1 sd 1) - (1 : Int32))]) (st := []) (by decide +kernel) k_5_164 n_Reader_number rfl (by decide) v_Reader_number (C_Reader_number sd r1 J (0 : Int32) ((r1 sd 1) - (1 : Int32)) hR ht hqd hc2) (Nat.le_of_ble_eq_true rfl) (by decide) rfl rfl (fun _ h => h) ?_
  show m_B G (m_rm 8 0 0) M_Reader_steepLine Q 0 0 18 [some (mR (5, 0, 19)), none] [mI r2.1] (L, r2.2, J, R)
  refine b_if_ne (off := 5) (tgt := 23) (by decide +kernel) (by decide) (fun h3 => ?_) (fun h3 => ?_)
  · have hf := if_f h3 hf
    refine b_blk (pc' := 32) (ls' := [some (mR (5, 0, 19)), some (mI (r2.2 19 10))]) (st' := [mI 9, mI 0, mR (5, 0, 19)]) (S' := (L, r2.2, J, R)) (P := True) [(.aload_n 0, (0, 0, 0, 0, 0)), (.getfield 148, (5, 10, 0, 0, 0)), (.istore_n 1, (0, 0, 0, 0, 0)), (.aload_n 0, (0, 0, 0, 0, 0)), (.iconst 0, (0, 0, 0, 0, 0)), (.bipush 9, (0, 0, 0, 9, 0))] [] (by decide +kernel) rfl trivial ?_
    obtain ⟨r4, hc4, hf⟩ := bnd_o hf
    refine b_cV (as := [mI 0, mI 9]) (st := []) (by decide +kernel) k_5_164 n_Reader_number rfl (by decide) v_Reader_number (C_Reader_number sd r2.2 J (0 : Int32) (9 : Int32) hR ht hqd hc4) (Nat.le_of_ble_eq_true rfl) (by decide) rfl rfl (fun _ h => h) ?_
    show m_B G (m_rm 8 0 0) M_Reader_steepLine Q 0 0 35 [some (mR (5, 0, 19)), some (mI (r2.2 19 10))] [mI r4.1] (L, r4.2, J, R)
    refine b_if_ne (off := 5) (tgt := 40) (by decide +kernel) (by decide) (fun h5 => ?_) (fun h5 => ?_)
    · have hf := if_f h5 hf
      refine b_blk (pc' := 41) (ls' := [some (mR (5, 0, 19)), some (mI (r2.2 19 10))]) (st' := [mI (r2.2 19 10)]) (S' := (L, r4.2, J, R)) (P := True) [(.iload_n 1, (0, 0, 0, 0, 0))] [] (by decide +kernel) rfl trivial ?_
      refine b_if_lt (off := 22) (tgt := 63) (by decide +kernel) (by decide) (fun h6 => ?_) (fun h6 => ?_)
      · have hf := if_t h6 hf
        refine b_blk (pc' := 64) (ls' := [some (mR (5, 0, 19)), some (mI (r2.2 19 10))]) (st' := [mI 1]) (S' := (L, r4.2, J, R)) (P := True) [(.iconst 1, (0, 0, 0, 1, 0))] [] (by decide +kernel) rfl trivial ?_
        cases hf
        exact b_zret (by decide +kernel) rfl (by decide) hk
      · have hf := if_f h6 hf
        refine b_blk (pc' := 47) (ls' := [some (mR (5, 0, 19)), some (mI (r2.2 19 10))]) (st' := [mI 6, mI (r2.2 19 10)]) (S' := (L, r4.2, J, R)) (P := True) [(.iload_n 1, (0, 0, 0, 0, 0)), (.bipush 6, (0, 0, 0, 6, 0))] [] (by decide +kernel) rfl trivial ?_
        refine b_icmp_ge (off := 16) (tgt := 63) (by decide +kernel) (by decide) (fun h7 => ?_) (fun h7 => ?_)
        · have hf := if_t h7 hf
          refine b_blk (pc' := 64) (ls' := [some (mR (5, 0, 19)), some (mI (r2.2 19 10))]) (st' := [mI 1]) (S' := (L, r4.2, J, R)) (P := True) [(.iconst 1, (0, 0, 0, 1, 0))] [] (by decide +kernel) rfl trivial ?_
          cases hf
          exact b_zret (by decide +kernel) rfl (by decide) hk
        · have hf := if_f h7 hf
          obtain ⟨g8, hf⟩ := gd_s hf
          refine b_blk (pc' := 64) (ls' := [some (mR (5, 0, 19)), some (mI (r2.2 19 10))]) (st' := [mI 1]) (S' := (L, m_up r4.2 (sd + 1) ((r2.2 19 10).toNatClampNeg) (r4.2 19 10), J, R)) (P := (((True ∧ R 19 4 = some (8, 0, sd)) ∧ R sd 5 = some (20, 6, sd + 1)) ∧ vp_in (r2.2 19 10) 6)) [(.aload_n 0, (0, 0, 0, 0, 0)), (.getfield 19, (5, 4, 3, 0, 0)), (.getfield 173, (8, 5, 3, 0, 0)), (.iload_n 1, (0, 0, 0, 0, 0)), (.aload_n 0, (0, 0, 0, 0, 0)), (.getfield 148, (5, 10, 0, 0, 0)), (.iastore, (0, 0, 0, 0, 0)), (.iconst 1, (0, 0, 0, 1, 0))] [some (8, 0, sd), some (20, 6, sd + 1)] (by decide +kernel) rfl ⟨⟨⟨trivial, ht⟩, (sl_of hR hqd).1⟩, (in_n (n := 6) (by decide) g8.1 g8.2)⟩ ?_
          cases hf
          exact b_zret (by decide +kernel) rfl (by decide) hk
    · have hf := if_t h5 hf
      refine b_blk (pc' := 39) (ls' := [some (mR (5, 0, 19)), some (mI (r2.2 19 10))]) (st' := [mI 0]) (S' := (L, r4.2, J, R)) (P := True) [(.iconst 0, (0, 0, 0, 0, 0))] [] (by decide +kernel) rfl trivial ?_
      cases hf
      exact b_zret (by decide +kernel) rfl (by decide) hk
  · have hf := if_t h3 hf
    refine b_blk (pc' := 22) (ls' := [some (mR (5, 0, 19)), none]) (st' := [mI 0]) (S' := (L, r2.2, J, R)) (P := True) [(.iconst 0, (0, 0, 0, 0, 0))] [] (by decide +kernel) rfl trivial ?_
    cases hf
    exact b_zret (by decide +kernel) rfl (by decide) hk
theorem C_Reader_steepLine {G : MG} {L : List (Nat × Nat)} {R : Nat → Nat → Option MRef} (sd : Nat) (I : MI) (J : MJ) (hR : RF R) (ht : R 19 4 = some (8, 0, sd)) (hqd : sd = 3 ∨ sd = 11) {r : Int32 × MI} (hf : F_Reader_steepLine sd I = some r) : m_met G 8 0 0 y_Reader_steepLine M_Reader_steepLine [mR (5, 0, 19)] (L, I, J, R) (m_is (some (mI r.1)) (L, r.2, J, R)) :=
  m_met_in n_Reader_steepLine (plainFor_of_name (by decide)) (by decide) (Nat.le_of_ble_eq_true rfl) (ls := [some (mR (5, 0, 19)), none]) rfl (W_Reader_steepLine sd I J hR ht hqd hf ⟨rfl, rfl⟩)
noncomputable def F_Reader_ironLine (sd : Nat) (I : MI) : Option (Int32 × MI) :=
  if (l_posts I (sd + 3) 6) < (12 : Int32) then ((F_Reader_advance sd I).bind fun r2 => (F_Reader_number sd r2 (0 : Int32) ((r2 sd 1) - (1 : Int32))).bind fun r3 => if r3.1 = (0 : Int32) then (some ((0 : Int32), r3.2)) else ((F_Reader_number sd r3.2 (0 : Int32) ((r3.2 sd 2) - (1 : Int32))).bind fun r5 => if r5.1 = (0 : Int32) then (some ((0 : Int32), r5.2)) else (if (f_Lay_hasPost r5.2 (sd + 3) (r3.2 19 10) (r5.2 19 10)) = (0 : Int32) then (some ((1 : Int32), gI_Lay_drive r5.2 (sd + 3) (r3.2 19 10) (r5.2 19 10))) else ((F_Reader_wrong sd r5.2 (2 : Int32) (r3.2 19 7)).bind fun r8 => gq (r8.1 = 0 ∨ r8.1 = 1) <| some ((r8.1 : Int32), r8.2))))) else ((F_Reader_wrong sd I (5 : Int32) (I 19 7)).bind fun r10 => gq (r10.1 = 0 ∨ r10.1 = 1) <| some ((r10.1 : Int32), r10.2))
set_option maxRecDepth 100000 in
set_option maxHeartbeats 400000 in
theorem W_Reader_ironLine {G : MG} {Q : Option MV → MS → Prop} {L : List (Nat × Nat)} {R : Nat → Nat → Option MRef} (sd : Nat) (I : MI) (J : MJ) (hR : RF R) (ht : R 19 4 = some (8, 0, sd)) (hqd : sd = 3 ∨ sd = 11) {r : Int32 × MI} (hf : F_Reader_ironLine sd I = some r) (hk : (fun r : Int32 × MI => Q (some (mI r.1)) (L, r.2, J, R)) r) : m_B G (m_rm 8 0 0) M_Reader_ironLine Q 0 0 0 [some (mR (5, 0, 19)), none, none] [] (L, I, J, R) := by
  unfold F_Reader_ironLine at hf
  refine b_blk (pc' := 7) (ls' := [some (mR (5, 0, 19)), none, none]) (st' := [mR (3, 0, sd + 3)]) (S' := (L, I, J, R)) (P := ((True ∧ R 19 4 = some (8, 0, sd)) ∧ R sd 7 = some (3, 0, sd + 3))) [(.aload_n 0, (0, 0, 0, 0, 0)), (.getfield 19, (5, 4, 3, 0, 0)), (.getfield 176, (8, 7, 3, 0, 0))] [some (8, 0, sd), some (3, 0, sd + 3)] (by decide +kernel) rfl ⟨⟨trivial, ht⟩, (sl_of hR hqd).2.2.1⟩ ?_
  refine b_cV (as := []) (st := []) (by decide +kernel) k_5_179 n_Lay_countPosts rfl (by decide) v_Lay_countPosts (c_Lay_countPosts (sd + 3) (sl_of hR hqd).2.2.2.2) (Nat.le_of_ble_eq_true rfl) (by decide) rfl rfl (fun _ h => h) ?_
  show m_B _ _ _ _ _ _ 10 [some (mR (5, 0, 19)), none, none] [mI (l_posts I (sd + 3) 6)] (L, I, J, R)
  refine b_blk (pc' := 12) (ls' := [some (mR (5, 0, 19)), none, none]) (st' := [mI 12, mI (l_posts I (sd + 3) 6)]) (S' := (L, I, J, R)) (P := True) [(.bipush 12, (0, 0, 0, 12, 0))] [] (by decide +kernel) rfl trivial ?_
  refine b_icmp_lt (off := 13) (tgt := 25) (by decide +kernel) (by decide) (fun h1 => ?_) (fun h1 => ?_)
  · have hf := if_t h1 hf
    refine b_blk (pc' := 26) (ls' := [some (mR (5, 0, 19)), none, none]) (st' := [mR (5, 0, 19)]) (S' := (L, I, J, R)) (P := True) [(.aload_n 0, (0, 0, 0, 0, 0))] [] (by decide +kernel) rfl trivial ?_
    obtain ⟨r2, hc2, hf⟩ := bnd_o hf
    refine b_cV (as := []) (st := []) (by decide +kernel) k_5_88 n_Reader_advance rfl (by decide) v_Reader_advance (C_Reader_advance sd I J hR ht hqd hc2) (Nat.le_of_ble_eq_true rfl) (by decide) rfl rfl (fun _ h => h) ?_
    show m_B G (m_rm 8 0 0) M_Reader_ironLine Q 0 0 29 [some (mR (5, 0, 19)), none, none] [] (L, r2, J, R)
    refine b_blk (pc' := 40) (ls' := [some (mR (5, 0, 19)), none, none]) (st' := [mI ((r2 sd 1) - (1 : Int32)), mI 0, mR (5, 0, 19)]) (S' := (L, r2, J, R)) (P := (True ∧ R 19 4 = some (8, 0, sd))) [(.aload_n 0, (0, 0, 0, 0, 0)), (.iconst 0, (0, 0, 0, 0, 0)), (.aload_n 0, (0, 0, 0, 0, 0)), (.getfield 19, (5, 4, 3, 0, 0)), (.getfield 167, (8, 1, 0, 0, 0)), (.iconst 1, (0, 0, 0, 1, 0)), (.isub, (0, 0, 0, 0, 0))] [some (8, 0, sd)] (by decide +kernel) rfl ⟨trivial, ht⟩ ?_
    obtain ⟨r3, hc3, hf⟩ := bnd_o hf
    refine b_cV (as := [mI 0, mI ((r2 sd 1) - (1 : Int32))]) (st := []) (by decide +kernel) k_5_164 n_Reader_number rfl (by decide) v_Reader_number (C_Reader_number sd r2 J (0 : Int32) ((r2 sd 1) - (1 : Int32)) hR ht hqd hc3) (Nat.le_of_ble_eq_true rfl) (by decide) rfl rfl (fun _ h => h) ?_
    show m_B G (m_rm 8 0 0) M_Reader_ironLine Q 0 0 43 [some (mR (5, 0, 19)), none, none] [mI r3.1] (L, r3.2, J, R)
    refine b_if_ne (off := 5) (tgt := 48) (by decide +kernel) (by decide) (fun h4 => ?_) (fun h4 => ?_)
    · have hf := if_f h4 hf
      refine b_blk (pc' := 69) (ls' := [some (mR (5, 0, 19)), some (mI (r3.2 19 10)), some (mI (r3.2 19 7))]) (st' := [mI ((r3.2 sd 2) - (1 : Int32)), mI 0, mR (5, 0, 19)]) (S' := (L, r3.2, J, R)) (P := (True ∧ R 19 4 = some (8, 0, sd))) [(.aload_n 0, (0, 0, 0, 0, 0)), (.getfield 148, (5, 10, 0, 0, 0)), (.istore_n 1, (0, 0, 0, 0, 0)), (.aload_n 0, (0, 0, 0, 0, 0)), (.getfield 66, (5, 7, 0, 0, 0)), (.istore_n 2, (0, 0, 0, 0, 0)), (.aload_n 0, (0, 0, 0, 0, 0)), (.iconst 0, (0, 0, 0, 0, 0)), (.aload_n 0, (0, 0, 0, 0, 0)), (.getfield 19, (5, 4, 3, 0, 0)), (.getfield 170, (8, 2, 0, 0, 0)), (.iconst 1, (0, 0, 0, 1, 0)), (.isub, (0, 0, 0, 0, 0))] [some (8, 0, sd)] (by decide +kernel) rfl ⟨trivial, ht⟩ ?_
      obtain ⟨r5, hc5, hf⟩ := bnd_o hf
      refine b_cV (as := [mI 0, mI ((r3.2 sd 2) - (1 : Int32))]) (st := []) (by decide +kernel) k_5_164 n_Reader_number rfl (by decide) v_Reader_number (C_Reader_number sd r3.2 J (0 : Int32) ((r3.2 sd 2) - (1 : Int32)) hR ht hqd hc5) (Nat.le_of_ble_eq_true rfl) (by decide) rfl rfl (fun _ h => h) ?_
      show m_B G (m_rm 8 0 0) M_Reader_ironLine Q 0 0 72 [some (mR (5, 0, 19)), some (mI (r3.2 19 10)), some (mI (r3.2 19 7))] [mI r5.1] (L, r5.2, J, R)
      refine b_if_ne (off := 5) (tgt := 77) (by decide +kernel) (by decide) (fun h6 => ?_) (fun h6 => ?_)
      · have hf := if_f h6 hf
        refine b_blk (pc' := 89) (ls' := [some (mR (5, 0, 19)), some (mI (r3.2 19 10)), some (mI (r3.2 19 7))]) (st' := [mI (r5.2 19 10), mI (r3.2 19 10), mR (3, 0, sd + 3)]) (S' := (L, r5.2, J, R)) (P := ((True ∧ R 19 4 = some (8, 0, sd)) ∧ R sd 7 = some (3, 0, sd + 3))) [(.aload_n 0, (0, 0, 0, 0, 0)), (.getfield 19, (5, 4, 3, 0, 0)), (.getfield 176, (8, 7, 3, 0, 0)), (.iload_n 1, (0, 0, 0, 0, 0)), (.aload_n 0, (0, 0, 0, 0, 0)), (.getfield 148, (5, 10, 0, 0, 0))] [some (8, 0, sd), some (3, 0, sd + 3)] (by decide +kernel) rfl ⟨⟨trivial, ht⟩, (sl_of hR hqd).2.2.1⟩ ?_
        refine b_cV (as := [mI (r3.2 19 10), mI (r5.2 19 10)]) (st := []) (by decide +kernel) k_5_184 n_Lay_hasPost rfl (by decide) v_Lay_hasPost (c_Lay_hasPost (sd + 3) (r3.2 19 10) (r5.2 19 10) (sl_of hR hqd).2.2.2.2) (Nat.le_of_ble_eq_true rfl) (by decide) rfl rfl (fun _ h => h) ?_
        show m_B _ _ _ _ _ _ 92 [some (mR (5, 0, 19)), some (mI (r3.2 19 10)), some (mI (r3.2 19 7))] [mI (f_Lay_hasPost r5.2 (sd + 3) (r3.2 19 10) (r5.2 19 10))] (L, r5.2, J, R)
        refine b_if_eq (off := 10) (tgt := 102) (by decide +kernel) (by decide) (fun h7 => ?_) (fun h7 => ?_)
        · have hf := if_t h7 hf
          refine b_blk (pc' := 114) (ls' := [some (mR (5, 0, 19)), some (mI (r3.2 19 10)), some (mI (r3.2 19 7))]) (st' := [mI (r5.2 19 10), mI (r3.2 19 10), mR (3, 0, sd + 3)]) (S' := (L, r5.2, J, R)) (P := ((True ∧ R 19 4 = some (8, 0, sd)) ∧ R sd 7 = some (3, 0, sd + 3))) [(.aload_n 0, (0, 0, 0, 0, 0)), (.getfield 19, (5, 4, 3, 0, 0)), (.getfield 176, (8, 7, 3, 0, 0)), (.iload_n 1, (0, 0, 0, 0, 0)), (.aload_n 0, (0, 0, 0, 0, 0)), (.getfield 148, (5, 10, 0, 0, 0))] [some (8, 0, sd), some (3, 0, sd + 3)] (by decide +kernel) rfl ⟨⟨trivial, ht⟩, (sl_of hR hqd).2.2.1⟩ ?_
          refine b_cV (as := [mI (r3.2 19 10), mI (r5.2 19 10)]) (st := []) (by decide +kernel) k_5_187 n_Lay_drive rfl (by decide) v_Lay_drive (c_Lay_drive (sd + 3) (r3.2 19 10) (r5.2 19 10) (sl_of hR hqd).2.2.2.2) (Nat.le_of_ble_eq_true rfl) (by decide) rfl rfl (fun _ h => h) ?_
          show m_B _ _ _ _ _ _ 117 [some (mR (5, 0, 19)), some (mI (r3.2 19 10)), some (mI (r3.2 19 7))] [] (L, gI_Lay_drive r5.2 (sd + 3) (r3.2 19 10) (r5.2 19 10), J, R)
          refine b_blk (pc' := 118) (ls' := [some (mR (5, 0, 19)), some (mI (r3.2 19 10)), some (mI (r3.2 19 7))]) (st' := [mI 1]) (S' := (L, gI_Lay_drive r5.2 (sd + 3) (r3.2 19 10) (r5.2 19 10), J, R)) (P := True) [(.iconst 1, (0, 0, 0, 1, 0))] [] (by decide +kernel) rfl trivial ?_
          cases hf
          exact b_zret (by decide +kernel) rfl (by decide) hk
        · have hf := if_f h7 hf
          refine b_blk (pc' := 98) (ls' := [some (mR (5, 0, 19)), some (mI (r3.2 19 10)), some (mI (r3.2 19 7))]) (st' := [mI (r3.2 19 7), mI 2, mR (5, 0, 19)]) (S' := (L, r5.2, J, R)) (P := True) [(.aload_n 0, (0, 0, 0, 0, 0)), (.iconst 2, (0, 0, 0, 2, 0)), (.iload_n 2, (0, 0, 0, 0, 0))] [] (by decide +kernel) rfl trivial ?_
          obtain ⟨r8, hc8, hf⟩ := bnd_o hf
          refine b_cV (as := [mI 2, mI (r3.2 19 7)]) (st := []) (by decide +kernel) k_5_69 n_Reader_wrong rfl (by decide) v_Reader_wrong (C_Reader_wrong sd r5.2 J (2 : Int32) (r3.2 19 7) hR ht hqd hc8) (Nat.le_of_ble_eq_true rfl) (by decide) rfl rfl (fun _ h => h) ?_
          show m_B G (m_rm 8 0 0) M_Reader_ironLine Q 0 0 101 [some (mR (5, 0, 19)), some (mI (r3.2 19 10)), some (mI (r3.2 19 7))] [mI r8.1] (L, r8.2, J, R)
          obtain ⟨g9, hf⟩ := gq_s hf
          cases hf
          exact b_zret (by decide +kernel) rfl g9 hk
      · have hf := if_t h6 hf
        refine b_blk (pc' := 76) (ls' := [some (mR (5, 0, 19)), some (mI (r3.2 19 10)), some (mI (r3.2 19 7))]) (st' := [mI 0]) (S' := (L, r5.2, J, R)) (P := True) [(.iconst 0, (0, 0, 0, 0, 0))] [] (by decide +kernel) rfl trivial ?_
        cases hf
        exact b_zret (by decide +kernel) rfl (by decide) hk
    · have hf := if_t h4 hf
      refine b_blk (pc' := 47) (ls' := [some (mR (5, 0, 19)), none, none]) (st' := [mI 0]) (S' := (L, r3.2, J, R)) (P := True) [(.iconst 0, (0, 0, 0, 0, 0))] [] (by decide +kernel) rfl trivial ?_
      cases hf
      exact b_zret (by decide +kernel) rfl (by decide) hk
  · have hf := if_f h1 hf
    refine b_blk (pc' := 21) (ls' := [some (mR (5, 0, 19)), none, none]) (st' := [mI (I 19 7), mI 5, mR (5, 0, 19)]) (S' := (L, I, J, R)) (P := True) [(.aload_n 0, (0, 0, 0, 0, 0)), (.iconst 5, (0, 0, 0, 5, 0)), (.aload_n 0, (0, 0, 0, 0, 0)), (.getfield 66, (5, 7, 0, 0, 0))] [] (by decide +kernel) rfl trivial ?_
    obtain ⟨r10, hc10, hf⟩ := bnd_o hf
    refine b_cV (as := [mI 5, mI (I 19 7)]) (st := []) (by decide +kernel) k_5_69 n_Reader_wrong rfl (by decide) v_Reader_wrong (C_Reader_wrong sd I J (5 : Int32) (I 19 7) hR ht hqd hc10) (Nat.le_of_ble_eq_true rfl) (by decide) rfl rfl (fun _ h => h) ?_
    show m_B G (m_rm 8 0 0) M_Reader_ironLine Q 0 0 24 [some (mR (5, 0, 19)), none, none] [mI r10.1] (L, r10.2, J, R)
    obtain ⟨g11, hf⟩ := gq_s hf
    cases hf
    exact b_zret (by decide +kernel) rfl g11 hk
theorem C_Reader_ironLine {G : MG} {L : List (Nat × Nat)} {R : Nat → Nat → Option MRef} (sd : Nat) (I : MI) (J : MJ) (hR : RF R) (ht : R 19 4 = some (8, 0, sd)) (hqd : sd = 3 ∨ sd = 11) {r : Int32 × MI} (hf : F_Reader_ironLine sd I = some r) : m_met G 8 0 0 y_Reader_ironLine M_Reader_ironLine [mR (5, 0, 19)] (L, I, J, R) (m_is (some (mI r.1)) (L, r.2, J, R)) :=
  m_met_in n_Reader_ironLine (plainFor_of_name (by decide)) (by decide) (Nat.le_of_ble_eq_true rfl) (ls := [some (mR (5, 0, 19)), none, none]) rfl (W_Reader_ironLine sd I J hR ht hqd hf ⟨rfl, rfl⟩)
noncomputable def F_Reader_fenceLine_61 (sd : Nat) (I : MI) (v1 : Int32) (v2 : Int32) : Option ((Int32 × MI) ⊕ (MI)) :=
  if (6 : Int32) ≤ v2 then (some (.inr I)) else ((F_Reader_letterAt sd I v2).bind fun r2 => gd ((v1 * (6 : Int32)) + v2) 36 <| some (.inl ((v2 + 1 : Int32), m_up I (sd + 2) (((v1 * (6 : Int32)) + v2).toNatClampNeg) r2)))
set_option maxRecDepth 100000 in
set_option maxHeartbeats 400000 in
theorem W_Reader_fenceLine_61 {G : MG} {Q : Option MV → MS → Prop} {L : List (Nat × Nat)} {R : Nat → Nat → Option MRef} (sd : Nat) (I : MI) (J : MJ) (v1 : Int32) (v2 : Int32) (hR : RF R) (ht : R 19 4 = some (8, 0, sd)) (hqd : sd = 3 ∨ sd = 11) {r : (Int32 × MI) ⊕ (MI)} (hf : F_Reader_fenceLine_61 sd I v1 v2 = some r) (hk : (Sum.elim (fun s : Int32 × MI => m_B G (m_rm 8 0 0) M_Reader_fenceLine Q 0 0 61 [some (mR (5, 0, 19)), some (mI v1), some (mI s.1)] [] (L, s.2, J, R)) (fun s : MI => m_B G (m_rm 8 0 0) M_Reader_fenceLine Q 0 0 92 [some (mR (5, 0, 19)), some (mI v1), none] [] (L, s, J, R))) r) : m_B G (m_rm 8 0 0) M_Reader_fenceLine Q 0 0 61 [some (mR (5, 0, 19)), some (mI v1), some (mI v2)] [] (L, I, J, R) := by
  unfold F_Reader_fenceLine_61 at hf
  refine b_blk (pc' := 64) (ls' := [some (mR (5, 0, 19)), some (mI v1), some (mI v2)]) (st' := [mI 6, mI v2]) (S' := (L, I, J, R)) (P := True) [(.iload_n 2, (0, 0, 0, 0, 0)), (.bipush 6, (0, 0, 0, 6, 0))] [] (by decide +kernel) rfl trivial ?_
  refine b_icmp_ge (off := 28) (tgt := 92) (by decide +kernel) (by decide) (fun h1 => ?_) (fun h1 => ?_)
  · have hf := if_t h1 hf
    refine b_frg 2 ?_
    cases hf
    exact hk
  · have hf := if_f h1 hf
    refine b_blk (pc' := 82) (ls' := [some (mR (5, 0, 19)), some (mI v1), some (mI v2)]) (st' := [mI v2, mR (5, 0, 19), mI ((v1 * (6 : Int32)) + v2), mR (20, 36, sd + 2)]) (S' := (L, I, J, R)) (P := ((True ∧ R 19 4 = some (8, 0, sd)) ∧ R sd 6 = some (20, 36, sd + 2))) [(.aload_n 0, (0, 0, 0, 0, 0)), (.getfield 19, (5, 4, 3, 0, 0)), (.getfield 154, (8, 6, 3, 0, 0)), (.iload_n 1, (0, 0, 0, 0, 0)), (.bipush 6, (0, 0, 0, 6, 0)), (.imul, (0, 0, 0, 0, 0)), (.iload_n 2, (0, 0, 0, 0, 0)), (.iadd, (0, 0, 0, 0, 0)), (.aload_n 0, (0, 0, 0, 0, 0)), (.iload_n 2, (0, 0, 0, 0, 0))] [some (8, 0, sd), some (20, 36, sd + 2)] (by decide +kernel) rfl ⟨⟨trivial, ht⟩, (sl_of hR hqd).2.1⟩ ?_
    obtain ⟨r2, hc2, hf⟩ := bnd_o hf
    refine b_cV (as := [mI v2]) (st := [mI ((v1 * (6 : Int32)) + v2), mR (20, 36, sd + 2)]) (by decide +kernel) k_5_158 n_Reader_letterAt rfl (by decide) v_Reader_letterAt (C_Reader_letterAt sd I J v2 hR ht hqd hc2) (Nat.le_of_ble_eq_true rfl) (by decide) rfl rfl (fun _ h => h) ?_
    show m_B G (m_rm 8 0 0) M_Reader_fenceLine Q 0 0 85 [some (mR (5, 0, 19)), some (mI v1), some (mI v2)] [mI r2, mI ((v1 * (6 : Int32)) + v2), mR (20, 36, sd + 2)] (L, I, J, R)
    obtain ⟨g3, hf⟩ := gd_s hf
    refine b_blk (pc' := 61) (ls' := [some (mR (5, 0, 19)), some (mI v1), some (mI (v2 + 1))]) (st' := []) (S' := (L, m_up I (sd + 2) (((v1 * (6 : Int32)) + v2).toNatClampNeg) r2, J, R)) (P := (True ∧ vp_in ((v1 * (6 : Int32)) + v2) 36)) [(.iastore, (0, 0, 0, 0, 0)), (.iinc 2 1, (0, 0, 0, 1, 0)), (.goto (-28), (0, 61, 0, 0, 0))] [] (by decide +kernel) rfl ⟨trivial, (in_n (n := 36) (by decide) g3.1 g3.2)⟩ ?_
    cases hf
    exact hk
noncomputable def F_Reader_fenceLine_125 (sd : Nat) (I : MI) (v1 : Int32) (v2 : Int32) : Option ((Int32 × MI) ⊕ (MI)) :=
  if (I sd 1) ≤ v2 then (some (.inr I)) else (some (.inl ((v2 + 1 : Int32), w_putStake I (sd + 3) v1 v2 (I 19 10))))
set_option maxRecDepth 100000 in
set_option maxHeartbeats 400000 in
theorem W_Reader_fenceLine_125 {G : MG} {Q : Option MV → MS → Prop} {L : List (Nat × Nat)} {R : Nat → Nat → Option MRef} (sd : Nat) (I : MI) (J : MJ) (v1 : Int32) (v2 : Int32) (hR : RF R) (ht : R 19 4 = some (8, 0, sd)) (hqd : sd = 3 ∨ sd = 11) {r : (Int32 × MI) ⊕ (MI)} (hf : F_Reader_fenceLine_125 sd I v1 v2 = some r) (hk : (Sum.elim (fun s : Int32 × MI => m_B G (m_rm 8 0 0) M_Reader_fenceLine Q 0 0 125 [some (mR (5, 0, 19)), some (mI v1), some (mI s.1)] [] (L, s.2, J, R)) (fun s : MI => m_B G (m_rm 8 0 0) M_Reader_fenceLine Q 0 0 158 [some (mR (5, 0, 19)), some (mI v1), none] [] (L, s, J, R))) r) : m_B G (m_rm 8 0 0) M_Reader_fenceLine Q 0 0 125 [some (mR (5, 0, 19)), some (mI v1), some (mI v2)] [] (L, I, J, R) := by
  unfold F_Reader_fenceLine_125 at hf
  refine b_blk (pc' := 133) (ls' := [some (mR (5, 0, 19)), some (mI v1), some (mI v2)]) (st' := [mI (I sd 1), mI v2]) (S' := (L, I, J, R)) (P := (True ∧ R 19 4 = some (8, 0, sd))) [(.iload_n 2, (0, 0, 0, 0, 0)), (.aload_n 0, (0, 0, 0, 0, 0)), (.getfield 19, (5, 4, 3, 0, 0)), (.getfield 167, (8, 1, 0, 0, 0))] [some (8, 0, sd)] (by decide +kernel) rfl ⟨trivial, ht⟩ ?_
  refine b_icmp_ge (off := 25) (tgt := 158) (by decide +kernel) (by decide) (fun h1 => ?_) (fun h1 => ?_)
  · have hf := if_t h1 hf
    refine b_frg 2 ?_
    cases hf
    exact hk
  · have hf := if_f h1 hf
    refine b_blk (pc' := 149) (ls' := [some (mR (5, 0, 19)), some (mI v1), some (mI v2)]) (st' := [mI (I 19 10), mI v2, mI v1, mR (3, 0, sd + 3)]) (S' := (L, I, J, R)) (P := ((True ∧ R 19 4 = some (8, 0, sd)) ∧ R sd 7 = some (3, 0, sd + 3))) [(.aload_n 0, (0, 0, 0, 0, 0)), (.getfield 19, (5, 4, 3, 0, 0)), (.getfield 176, (8, 7, 3, 0, 0)), (.iload_n 1, (0, 0, 0, 0, 0)), (.iload_n 2, (0, 0, 0, 0, 0)), (.aload_n 0, (0, 0, 0, 0, 0)), (.getfield 148, (5, 10, 0, 0, 0))] [some (8, 0, sd), some (3, 0, sd + 3)] (by decide +kernel) rfl ⟨⟨trivial, ht⟩, (sl_of hR hqd).2.2.1⟩ ?_
    refine b_cV (as := [mI v1, mI v2, mI (I 19 10)]) (st := []) (by decide +kernel) k_5_197 n_Lay_putStake rfl (by decide) v_Lay_putStake (c_Lay_putStake (sd + 3) v1 v2 (I 19 10) (sl_of hR hqd).2.2.2.2) (Nat.le_of_ble_eq_true rfl) (by decide) rfl rfl (fun _ h => h) ?_
    show m_B _ _ _ _ _ _ 152 [some (mR (5, 0, 19)), some (mI v1), some (mI v2)] [] (L, w_putStake I (sd + 3) v1 v2 (I 19 10), J, R)
    refine b_blk (pc' := 125) (ls' := [some (mR (5, 0, 19)), some (mI v1), some (mI (v2 + 1))]) (st' := []) (S' := (L, w_putStake I (sd + 3) v1 v2 (I 19 10), J, R)) (P := True) [(.iinc 2 1, (0, 0, 0, 1, 0)), (.goto (-30), (0, 125, 0, 0, 0))] [] (by decide +kernel) rfl trivial ?_
    cases hf
    exact hk
noncomputable def F_Reader_fenceLine (sd : Nat) (I : MI) : Option (Int32 × MI) :=
  if (I sd 3) < (0 : Int32) then ((F_Reader_wrong sd I (5 : Int32) (I 19 7)).bind fun r2 => gq (r2.1 = 0 ∨ r2.1 = 1) <| some ((r2.1 : Int32), r2.2)) else (if (I sd 3) < (6 : Int32) then ((F_Reader_advance sd I).bind fun r5 => (F_Reader_name sd r5).bind fun r6 => if r6.1 = (0 : Int32) then (some ((0 : Int32), r6.2)) else ((F_Reader_named sd r6.2).bind fun r8 => if r8 = (-1 : Int32) then ((wl (fun s : Int32 × MI => F_Reader_fenceLine_61 sd s.2 (I sd 3) s.1) ((0 : Int32), r6.2)).bind fun t10 => (F_Reader_advance sd t10).bind fun r11 => (F_Reader_needWord sd r11 (5 : Int32)).bind fun r12 => if r12.1 = (0 : Int32) then (some ((0 : Int32), r12.2)) else ((F_Reader_number sd r12.2 (0 : Int32) ((r12.2 sd 2) - (1 : Int32))).bind fun r14 => if r14.1 = (0 : Int32) then (some ((0 : Int32), r14.2)) else ((wl (fun s : Int32 × MI => F_Reader_fenceLine_125 sd s.2 (I sd 3) s.1) ((0 : Int32), r14.2)).bind fun t16 => (F_Reader_needWord sd t16 (6 : Int32)).bind fun r17 => if r17.1 = (0 : Int32) then (some ((0 : Int32), r17.2)) else ((F_Reader_number sd r17.2 (0 : Int32) (99 : Int32)).bind fun r19 => if r19.1 = (0 : Int32) then (some ((0 : Int32), r19.2)) else (bnd (m_up (gI_Lay_putAge r19.2 (sd + 3) (I sd 3) (r19.2 19 10)) sd 3 (((gI_Lay_putAge r19.2 (sd + 3) (I sd 3) (r19.2 19 10)) sd 3) + (1 : Int32)) : MI) fun x21 => some ((1 : Int32), x21)))))) else ((F_Reader_wrong sd r6.2 (3 : Int32) (r6.2 19 7)).bind fun r22 => gq (r22.1 = 0 ∨ r22.1 = 1) <| some ((r22.1 : Int32), r22.2)))) else ((F_Reader_wrong sd I (5 : Int32) (I 19 7)).bind fun r24 => gq (r24.1 = 0 ∨ r24.1 = 1) <| some ((r24.1 : Int32), r24.2)))
set_option maxRecDepth 100000 in
set_option maxHeartbeats 400000 in
theorem W_Reader_fenceLine {G : MG} {Q : Option MV → MS → Prop} {L : List (Nat × Nat)} {R : Nat → Nat → Option MRef} (sd : Nat) (I : MI) (J : MJ) (hR : RF R) (ht : R 19 4 = some (8, 0, sd)) (hqd : sd = 3 ∨ sd = 11) {r : Int32 × MI} (hf : F_Reader_fenceLine sd I = some r) (hk : (fun r : Int32 × MI => Q (some (mI r.1)) (L, r.2, J, R)) r) : m_B G (m_rm 8 0 0) M_Reader_fenceLine Q 0 0 0 [some (mR (5, 0, 19)), none, none] [] (L, I, J, R) := by
  unfold F_Reader_fenceLine at hf
  refine b_blk (pc' := 9) (ls' := [some (mR (5, 0, 19)), some (mI (I sd 3)), none]) (st' := [mI (I sd 3)]) (S' := (L, I, J, R)) (P := (True ∧ R 19 4 = some (8, 0, sd))) [(.aload_n 0, (0, 0, 0, 0, 0)), (.getfield 19, (5, 4, 3, 0, 0)), (.getfield 151, (8, 3, 0, 0, 0)), (.istore_n 1, (0, 0, 0, 0, 0)), (.iload_n 1, (0, 0, 0, 0, 0))] [some (8, 0, sd)] (by decide +kernel) rfl ⟨trivial, ht⟩ ?_
  refine b_if_lt (off := 9) (tgt := 18) (by decide +kernel) (by decide) (fun h1 => ?_) (fun h1 => ?_)
  · have hf := if_t h1 hf
    refine b_blk (pc' := 24) (ls' := [some (mR (5, 0, 19)), some (mI (I sd 3)), none]) (st' := [mI (I 19 7), mI 5, mR (5, 0, 19)]) (S' := (L, I, J, R)) (P := True) [(.aload_n 0, (0, 0, 0, 0, 0)), (.iconst 5, (0, 0, 0, 5, 0)), (.aload_n 0, (0, 0, 0, 0, 0)), (.getfield 66, (5, 7, 0, 0, 0))] [] (by decide +kernel) rfl trivial ?_
    obtain ⟨r2, hc2, hf⟩ := bnd_o hf
    refine b_cV (as := [mI 5, mI (I 19 7)]) (st := []) (by decide +kernel) k_5_69 n_Reader_wrong rfl (by decide) v_Reader_wrong (C_Reader_wrong sd I J (5 : Int32) (I 19 7) hR ht hqd hc2) (Nat.le_of_ble_eq_true rfl) (by decide) rfl rfl (fun _ h => h) ?_
    show m_B G (m_rm 8 0 0) M_Reader_fenceLine Q 0 0 27 [some (mR (5, 0, 19)), some (mI (I sd 3)), none] [mI r2.1] (L, r2.2, J, R)
    obtain ⟨g3, hf⟩ := gq_s hf
    cases hf
    exact b_zret (by decide +kernel) rfl g3 hk
  · have hf := if_f h1 hf
    refine b_blk (pc' := 15) (ls' := [some (mR (5, 0, 19)), some (mI (I sd 3)), none]) (st' := [mI 6, mI (I sd 3)]) (S' := (L, I, J, R)) (P := True) [(.iload_n 1, (0, 0, 0, 0, 0)), (.bipush 6, (0, 0, 0, 6, 0))] [] (by decide +kernel) rfl trivial ?_
    refine b_icmp_lt (off := 13) (tgt := 28) (by decide +kernel) (by decide) (fun h4 => ?_) (fun h4 => ?_)
    · have hf := if_t h4 hf
      refine b_blk (pc' := 29) (ls' := [some (mR (5, 0, 19)), some (mI (I sd 3)), none]) (st' := [mR (5, 0, 19)]) (S' := (L, I, J, R)) (P := True) [(.aload_n 0, (0, 0, 0, 0, 0))] [] (by decide +kernel) rfl trivial ?_
      obtain ⟨r5, hc5, hf⟩ := bnd_o hf
      refine b_cV (as := []) (st := []) (by decide +kernel) k_5_88 n_Reader_advance rfl (by decide) v_Reader_advance (C_Reader_advance sd I J hR ht hqd hc5) (Nat.le_of_ble_eq_true rfl) (by decide) rfl rfl (fun _ h => h) ?_
      show m_B G (m_rm 8 0 0) M_Reader_fenceLine Q 0 0 32 [some (mR (5, 0, 19)), some (mI (I sd 3)), none] [] (L, r5, J, R)
      refine b_blk (pc' := 33) (ls' := [some (mR (5, 0, 19)), some (mI (I sd 3)), none]) (st' := [mR (5, 0, 19)]) (S' := (L, r5, J, R)) (P := True) [(.aload_n 0, (0, 0, 0, 0, 0))] [] (by decide +kernel) rfl trivial ?_
      obtain ⟨r6, hc6, hf⟩ := bnd_o hf
      refine b_cV (as := []) (st := []) (by decide +kernel) k_5_191 n_Reader_name rfl (by decide) v_Reader_name (C_Reader_name sd r5 J hR ht hqd hc6) (Nat.le_of_ble_eq_true rfl) (by decide) rfl rfl (fun _ h => h) ?_
      show m_B G (m_rm 8 0 0) M_Reader_fenceLine Q 0 0 36 [some (mR (5, 0, 19)), some (mI (I sd 3)), none] [mI r6.1] (L, r6.2, J, R)
      refine b_if_ne (off := 5) (tgt := 41) (by decide +kernel) (by decide) (fun h7 => ?_) (fun h7 => ?_)
      · have hf := if_f h7 hf
        refine b_blk (pc' := 42) (ls' := [some (mR (5, 0, 19)), some (mI (I sd 3)), none]) (st' := [mR (5, 0, 19)]) (S' := (L, r6.2, J, R)) (P := True) [(.aload_n 0, (0, 0, 0, 0, 0))] [] (by decide +kernel) rfl trivial ?_
        obtain ⟨r8, hc8, hf⟩ := bnd_o hf
        refine b_cV (as := []) (st := []) (by decide +kernel) k_5_194 n_Reader_named rfl (by decide) v_Reader_named (C_Reader_named sd r6.2 J hR ht hqd hc8) (Nat.le_of_ble_eq_true rfl) (by decide) rfl rfl (fun _ h => h) ?_
        show m_B G (m_rm 8 0 0) M_Reader_fenceLine Q 0 0 45 [some (mR (5, 0, 19)), some (mI (I sd 3)), none] [mI r8] (L, r6.2, J, R)
        refine b_blk (pc' := 46) (ls' := [some (mR (5, 0, 19)), some (mI (I sd 3)), none]) (st' := [mI (-1), mI r8]) (S' := (L, r6.2, J, R)) (P := True) [(.iconst (-1), (0, 0, 0, (-1), 0))] [] (by decide +kernel) rfl trivial ?_
        refine b_icmp_eq (off := 13) (tgt := 59) (by decide +kernel) (by decide) (fun h9 => ?_) (fun h9 => ?_)
        · have hf := if_t h9 hf
          refine b_blk (pc' := 61) (ls' := [some (mR (5, 0, 19)), some (mI (I sd 3)), some (mI 0)]) (st' := []) (S' := (L, r6.2, J, R)) (P := True) [(.iconst 0, (0, 0, 0, 0, 0)), (.istore_n 2, (0, 0, 0, 0, 0))] [] (by decide +kernel) rfl trivial ?_
          obtain ⟨t10, hw, hf⟩ := bnd_o hf
          refine wl_B (A := fun s : Int32 × MI => m_B G (m_rm 8 0 0) M_Reader_fenceLine Q 0 0 61 [some (mR (5, 0, 19)), some (mI (I sd 3)), some (mI s.1)] [] (L, s.2, J, R)) (B := (fun s : MI => m_B G (m_rm 8 0 0) M_Reader_fenceLine Q 0 0 92 [some (mR (5, 0, 19)), some (mI (I sd 3)), none] [] (L, s, J, R))) (fun s r hs hr => W_Reader_fenceLine_61 sd s.2 J (I sd 3) s.1 hR ht hqd hs hr) hw ?_
          show m_B G (m_rm 8 0 0) M_Reader_fenceLine Q 0 0 92 [some (mR (5, 0, 19)), some (mI (I sd 3)), none] [] (L, t10, J, R)
          refine b_blk (pc' := 93) (ls' := [some (mR (5, 0, 19)), some (mI (I sd 3)), none]) (st' := [mR (5, 0, 19)]) (S' := (L, t10, J, R)) (P := True) [(.aload_n 0, (0, 0, 0, 0, 0))] [] (by decide +kernel) rfl trivial ?_
          obtain ⟨r11, hc11, hf⟩ := bnd_o hf
          refine b_cV (as := []) (st := []) (by decide +kernel) k_5_88 n_Reader_advance rfl (by decide) v_Reader_advance (C_Reader_advance sd t10 J hR ht hqd hc11) (Nat.le_of_ble_eq_true rfl) (by decide) rfl rfl (fun _ h => h) ?_
          show m_B G (m_rm 8 0 0) M_Reader_fenceLine Q 0 0 96 [some (mR (5, 0, 19)), some (mI (I sd 3)), none] [] (L, r11, J, R)
          refine b_blk (pc' := 98) (ls' := [some (mR (5, 0, 19)), some (mI (I sd 3)), none]) (st' := [mI 5, mR (5, 0, 19)]) (S' := (L, r11, J, R)) (P := True) [(.aload_n 0, (0, 0, 0, 0, 0)), (.iconst 5, (0, 0, 0, 5, 0))] [] (by decide +kernel) rfl trivial ?_
          obtain ⟨r12, hc12, hf⟩ := bnd_o hf
          refine b_cV (as := [mI 5]) (st := []) (by decide +kernel) k_5_161 n_Reader_needWord rfl (by decide) v_Reader_needWord (C_Reader_needWord sd r11 J (5 : Int32) hR ht hqd hc12) (Nat.le_of_ble_eq_true rfl) (by decide) rfl rfl (fun _ h => h) ?_
          show m_B G (m_rm 8 0 0) M_Reader_fenceLine Q 0 0 101 [some (mR (5, 0, 19)), some (mI (I sd 3)), none] [mI r12.1] (L, r12.2, J, R)
          refine b_if_eq (off := 20) (tgt := 121) (by decide +kernel) (by decide) (fun h13 => ?_) (fun h13 => ?_)
          · have hf := if_t h13 hf
            refine b_blk (pc' := 122) (ls' := [some (mR (5, 0, 19)), some (mI (I sd 3)), none]) (st' := [mI 0]) (S' := (L, r12.2, J, R)) (P := True) [(.iconst 0, (0, 0, 0, 0, 0))] [] (by decide +kernel) rfl trivial ?_
            cases hf
            exact b_zret (by decide +kernel) rfl (by decide) hk
          · have hf := if_f h13 hf
            refine b_blk (pc' := 115) (ls' := [some (mR (5, 0, 19)), some (mI (I sd 3)), none]) (st' := [mI ((r12.2 sd 2) - (1 : Int32)), mI 0, mR (5, 0, 19)]) (S' := (L, r12.2, J, R)) (P := (True ∧ R 19 4 = some (8, 0, sd))) [(.aload_n 0, (0, 0, 0, 0, 0)), (.iconst 0, (0, 0, 0, 0, 0)), (.aload_n 0, (0, 0, 0, 0, 0)), (.getfield 19, (5, 4, 3, 0, 0)), (.getfield 170, (8, 2, 0, 0, 0)), (.iconst 1, (0, 0, 0, 1, 0)), (.isub, (0, 0, 0, 0, 0))] [some (8, 0, sd)] (by decide +kernel) rfl ⟨trivial, ht⟩ ?_
            obtain ⟨r14, hc14, hf⟩ := bnd_o hf
            refine b_cV (as := [mI 0, mI ((r12.2 sd 2) - (1 : Int32))]) (st := []) (by decide +kernel) k_5_164 n_Reader_number rfl (by decide) v_Reader_number (C_Reader_number sd r12.2 J (0 : Int32) ((r12.2 sd 2) - (1 : Int32)) hR ht hqd hc14) (Nat.le_of_ble_eq_true rfl) (by decide) rfl rfl (fun _ h => h) ?_
            show m_B G (m_rm 8 0 0) M_Reader_fenceLine Q 0 0 118 [some (mR (5, 0, 19)), some (mI (I sd 3)), none] [mI r14.1] (L, r14.2, J, R)
            refine b_if_ne (off := 5) (tgt := 123) (by decide +kernel) (by decide) (fun h15 => ?_) (fun h15 => ?_)
            · have hf := if_f h15 hf
              refine b_blk (pc' := 125) (ls' := [some (mR (5, 0, 19)), some (mI (I sd 3)), some (mI 0)]) (st' := []) (S' := (L, r14.2, J, R)) (P := True) [(.iconst 0, (0, 0, 0, 0, 0)), (.istore_n 2, (0, 0, 0, 0, 0))] [] (by decide +kernel) rfl trivial ?_
              obtain ⟨t16, hw, hf⟩ := bnd_o hf
              refine wl_B (A := fun s : Int32 × MI => m_B G (m_rm 8 0 0) M_Reader_fenceLine Q 0 0 125 [some (mR (5, 0, 19)), some (mI (I sd 3)), some (mI s.1)] [] (L, s.2, J, R)) (B := (fun s : MI => m_B G (m_rm 8 0 0) M_Reader_fenceLine Q 0 0 158 [some (mR (5, 0, 19)), some (mI (I sd 3)), none] [] (L, s, J, R))) (fun s r hs hr => W_Reader_fenceLine_125 sd s.2 J (I sd 3) s.1 hR ht hqd hs hr) hw ?_
              show m_B G (m_rm 8 0 0) M_Reader_fenceLine Q 0 0 158 [some (mR (5, 0, 19)), some (mI (I sd 3)), none] [] (L, t16, J, R)
              refine b_blk (pc' := 161) (ls' := [some (mR (5, 0, 19)), some (mI (I sd 3)), none]) (st' := [mI 6, mR (5, 0, 19)]) (S' := (L, t16, J, R)) (P := True) [(.aload_n 0, (0, 0, 0, 0, 0)), (.bipush 6, (0, 0, 0, 6, 0))] [] (by decide +kernel) rfl trivial ?_
              obtain ⟨r17, hc17, hf⟩ := bnd_o hf
              refine b_cV (as := [mI 6]) (st := []) (by decide +kernel) k_5_161 n_Reader_needWord rfl (by decide) v_Reader_needWord (C_Reader_needWord sd t16 J (6 : Int32) hR ht hqd hc17) (Nat.le_of_ble_eq_true rfl) (by decide) rfl rfl (fun _ h => h) ?_
              show m_B G (m_rm 8 0 0) M_Reader_fenceLine Q 0 0 164 [some (mR (5, 0, 19)), some (mI (I sd 3)), none] [mI r17.1] (L, r17.2, J, R)
              refine b_if_eq (off := 13) (tgt := 177) (by decide +kernel) (by decide) (fun h18 => ?_) (fun h18 => ?_)
              · have hf := if_t h18 hf
                refine b_blk (pc' := 178) (ls' := [some (mR (5, 0, 19)), some (mI (I sd 3)), none]) (st' := [mI 0]) (S' := (L, r17.2, J, R)) (P := True) [(.iconst 0, (0, 0, 0, 0, 0))] [] (by decide +kernel) rfl trivial ?_
                cases hf
                exact b_zret (by decide +kernel) rfl (by decide) hk
              · have hf := if_f h18 hf
                refine b_blk (pc' := 171) (ls' := [some (mR (5, 0, 19)), some (mI (I sd 3)), none]) (st' := [mI 99, mI 0, mR (5, 0, 19)]) (S' := (L, r17.2, J, R)) (P := True) [(.aload_n 0, (0, 0, 0, 0, 0)), (.iconst 0, (0, 0, 0, 0, 0)), (.bipush 99, (0, 0, 0, 99, 0))] [] (by decide +kernel) rfl trivial ?_
                obtain ⟨r19, hc19, hf⟩ := bnd_o hf
                refine b_cV (as := [mI 0, mI 99]) (st := []) (by decide +kernel) k_5_164 n_Reader_number rfl (by decide) v_Reader_number (C_Reader_number sd r17.2 J (0 : Int32) (99 : Int32) hR ht hqd hc19) (Nat.le_of_ble_eq_true rfl) (by decide) rfl rfl (fun _ h => h) ?_
                show m_B G (m_rm 8 0 0) M_Reader_fenceLine Q 0 0 174 [some (mR (5, 0, 19)), some (mI (I sd 3)), none] [mI r19.1] (L, r19.2, J, R)
                refine b_if_ne (off := 5) (tgt := 179) (by decide +kernel) (by decide) (fun h20 => ?_) (fun h20 => ?_)
                · have hf := if_f h20 hf
                  refine b_blk (pc' := 191) (ls' := [some (mR (5, 0, 19)), some (mI (I sd 3)), none]) (st' := [mI (r19.2 19 10), mI (I sd 3), mR (3, 0, sd + 3)]) (S' := (L, r19.2, J, R)) (P := ((True ∧ R 19 4 = some (8, 0, sd)) ∧ R sd 7 = some (3, 0, sd + 3))) [(.aload_n 0, (0, 0, 0, 0, 0)), (.getfield 19, (5, 4, 3, 0, 0)), (.getfield 176, (8, 7, 3, 0, 0)), (.iload_n 1, (0, 0, 0, 0, 0)), (.aload_n 0, (0, 0, 0, 0, 0)), (.getfield 148, (5, 10, 0, 0, 0))] [some (8, 0, sd), some (3, 0, sd + 3)] (by decide +kernel) rfl ⟨⟨trivial, ht⟩, (sl_of hR hqd).2.2.1⟩ ?_
                  refine b_cV (as := [mI (I sd 3), mI (r19.2 19 10)]) (st := []) (by decide +kernel) k_5_201 n_Lay_putAge rfl (by decide) v_Lay_putAge (c_Lay_putAge (sd + 3) (I sd 3) (r19.2 19 10) (sl_of hR hqd).2.2.2.2) (Nat.le_of_ble_eq_true rfl) (by decide) rfl rfl (fun _ h => h) ?_
                  show m_B _ _ _ _ _ _ 194 [some (mR (5, 0, 19)), some (mI (I sd 3)), none] [] (L, gI_Lay_putAge r19.2 (sd + 3) (I sd 3) (r19.2 19 10), J, R)
                  refine b_blk (pc' := 208) (ls' := [some (mR (5, 0, 19)), some (mI (I sd 3)), none]) (st' := [mI 1]) (S' := (L, m_up (gI_Lay_putAge r19.2 (sd + 3) (I sd 3) (r19.2 19 10)) sd 3 (((gI_Lay_putAge r19.2 (sd + 3) (I sd 3) (r19.2 19 10)) sd 3) + (1 : Int32)), J, R)) (P := (True ∧ R 19 4 = some (8, 0, sd))) [(.aload_n 0, (0, 0, 0, 0, 0)), (.getfield 19, (5, 4, 3, 0, 0)), (.dup, (0, 0, 0, 0, 0)), (.getfield 151, (8, 3, 0, 0, 0)), (.iconst 1, (0, 0, 0, 1, 0)), (.iadd, (0, 0, 0, 0, 0)), (.putfield 151, (8, 3, 0, 0, 0)), (.iconst 1, (0, 0, 0, 1, 0))] [some (8, 0, sd)] (by decide +kernel) rfl ⟨trivial, ht⟩ ?_
                  obtain ⟨x21, ex21, hf⟩ := bnd_s hf
                  refine m_B_cg (ls' := [some (mR (5, 0, 19)), some (mI (I sd 3)), none]) (st' := [mI 1]) (S' := (L, x21, J, R)) (by first | with_reducible rfl | rw [ex21]) (by first | with_reducible rfl | rw [ex21]) (by first | with_reducible rfl | rw [ex21]) ?_
                  cases hf
                  exact b_zret (by decide +kernel) rfl (by decide) hk
                · have hf := if_t h20 hf
                  refine b_blk (pc' := 178) (ls' := [some (mR (5, 0, 19)), some (mI (I sd 3)), none]) (st' := [mI 0]) (S' := (L, r19.2, J, R)) (P := True) [(.iconst 0, (0, 0, 0, 0, 0))] [] (by decide +kernel) rfl trivial ?_
                  cases hf
                  exact b_zret (by decide +kernel) rfl (by decide) hk
            · have hf := if_t h15 hf
              refine b_blk (pc' := 122) (ls' := [some (mR (5, 0, 19)), some (mI (I sd 3)), none]) (st' := [mI 0]) (S' := (L, r14.2, J, R)) (P := True) [(.iconst 0, (0, 0, 0, 0, 0))] [] (by decide +kernel) rfl trivial ?_
              cases hf
              exact b_zret (by decide +kernel) rfl (by decide) hk
        · have hf := if_f h9 hf
          refine b_blk (pc' := 55) (ls' := [some (mR (5, 0, 19)), some (mI (I sd 3)), none]) (st' := [mI (r6.2 19 7), mI 3, mR (5, 0, 19)]) (S' := (L, r6.2, J, R)) (P := True) [(.aload_n 0, (0, 0, 0, 0, 0)), (.iconst 3, (0, 0, 0, 3, 0)), (.aload_n 0, (0, 0, 0, 0, 0)), (.getfield 66, (5, 7, 0, 0, 0))] [] (by decide +kernel) rfl trivial ?_
          obtain ⟨r22, hc22, hf⟩ := bnd_o hf
          refine b_cV (as := [mI 3, mI (r6.2 19 7)]) (st := []) (by decide +kernel) k_5_69 n_Reader_wrong rfl (by decide) v_Reader_wrong (C_Reader_wrong sd r6.2 J (3 : Int32) (r6.2 19 7) hR ht hqd hc22) (Nat.le_of_ble_eq_true rfl) (by decide) rfl rfl (fun _ h => h) ?_
          show m_B G (m_rm 8 0 0) M_Reader_fenceLine Q 0 0 58 [some (mR (5, 0, 19)), some (mI (I sd 3)), none] [mI r22.1] (L, r22.2, J, R)
          obtain ⟨g23, hf⟩ := gq_s hf
          cases hf
          exact b_zret (by decide +kernel) rfl g23 hk
      · have hf := if_t h7 hf
        refine b_blk (pc' := 40) (ls' := [some (mR (5, 0, 19)), some (mI (I sd 3)), none]) (st' := [mI 0]) (S' := (L, r6.2, J, R)) (P := True) [(.iconst 0, (0, 0, 0, 0, 0))] [] (by decide +kernel) rfl trivial ?_
        cases hf
        exact b_zret (by decide +kernel) rfl (by decide) hk
    · have hf := if_f h4 hf
      refine b_blk (pc' := 24) (ls' := [some (mR (5, 0, 19)), some (mI (I sd 3)), none]) (st' := [mI (I 19 7), mI 5, mR (5, 0, 19)]) (S' := (L, I, J, R)) (P := True) [(.aload_n 0, (0, 0, 0, 0, 0)), (.iconst 5, (0, 0, 0, 5, 0)), (.aload_n 0, (0, 0, 0, 0, 0)), (.getfield 66, (5, 7, 0, 0, 0))] [] (by decide +kernel) rfl trivial ?_
      obtain ⟨r24, hc24, hf⟩ := bnd_o hf
      refine b_cV (as := [mI 5, mI (I 19 7)]) (st := []) (by decide +kernel) k_5_69 n_Reader_wrong rfl (by decide) v_Reader_wrong (C_Reader_wrong sd I J (5 : Int32) (I 19 7) hR ht hqd hc24) (Nat.le_of_ble_eq_true rfl) (by decide) rfl rfl (fun _ h => h) ?_
      show m_B G (m_rm 8 0 0) M_Reader_fenceLine Q 0 0 27 [some (mR (5, 0, 19)), some (mI (I sd 3)), none] [mI r24.1] (L, r24.2, J, R)
      obtain ⟨g25, hf⟩ := gq_s hf
      cases hf
      exact b_zret (by decide +kernel) rfl g25 hk
theorem C_Reader_fenceLine {G : MG} {L : List (Nat × Nat)} {R : Nat → Nat → Option MRef} (sd : Nat) (I : MI) (J : MJ) (hR : RF R) (ht : R 19 4 = some (8, 0, sd)) (hqd : sd = 3 ∨ sd = 11) {r : Int32 × MI} (hf : F_Reader_fenceLine sd I = some r) : m_met G 8 0 0 y_Reader_fenceLine M_Reader_fenceLine [mR (5, 0, 19)] (L, I, J, R) (m_is (some (mI r.1)) (L, r.2, J, R)) :=
  m_met_in n_Reader_fenceLine (plainFor_of_name (by decide)) (by decide) (Nat.le_of_ble_eq_true rfl) (ls := [some (mR (5, 0, 19)), none, none]) rfl (W_Reader_fenceLine sd I J hR ht hqd hf ⟨rfl, rfl⟩)
noncomputable def F_Reader_stakeLine (sd : Nat) (I : MI) : Option (Int32 × MI) :=
  (F_Reader_advance sd I).bind fun r1 => (F_Reader_name sd r1).bind fun r2 => if r2.1 = (0 : Int32) then (some ((0 : Int32), r2.2)) else ((F_Reader_named sd r2.2).bind fun r4 => if r4 = (-1 : Int32) then ((F_Reader_wrong sd r2.2 (3 : Int32) (r2.2 19 7)).bind fun r13 => gq (r13.1 = 0 ∨ r13.1 = 1) <| some ((r13.1 : Int32), r13.2)) else ((F_Reader_advance sd r2.2).bind fun r6 => (F_Reader_number sd r6 (0 : Int32) ((r6 sd 1) - (1 : Int32))).bind fun r7 => if r7.1 = (0 : Int32) then (some ((0 : Int32), r7.2)) else ((F_Reader_needWord sd r7.2 (5 : Int32)).bind fun r9 => if r9.1 = (0 : Int32) then (some ((0 : Int32), r9.2)) else ((F_Reader_number sd r9.2 (0 : Int32) ((r9.2 sd 2) - (1 : Int32))).bind fun r11 => if r11.1 = (0 : Int32) then (some ((0 : Int32), r11.2)) else (some ((1 : Int32), w_putStake r11.2 (sd + 3) r4 (r7.2 19 10) (r11.2 19 10)))))))
set_option maxRecDepth 100000 in
set_option maxHeartbeats 400000 in
theorem W_Reader_stakeLine {G : MG} {Q : Option MV → MS → Prop} {L : List (Nat × Nat)} {R : Nat → Nat → Option MRef} (sd : Nat) (I : MI) (J : MJ) (hR : RF R) (ht : R 19 4 = some (8, 0, sd)) (hqd : sd = 3 ∨ sd = 11) {r : Int32 × MI} (hf : F_Reader_stakeLine sd I = some r) (hk : (fun r : Int32 × MI => Q (some (mI r.1)) (L, r.2, J, R)) r) : m_B G (m_rm 8 0 0) M_Reader_stakeLine Q 0 0 0 [some (mR (5, 0, 19)), none, none] [] (L, I, J, R) := by
  unfold F_Reader_stakeLine at hf
  refine b_blk (pc' := 1) (ls' := [some (mR (5, 0, 19)), none, none]) (st' := [mR (5, 0, 19)]) (S' := (L, I, J, R)) (P := True) [(.aload_n 0, (0, 0, 0, 0, 0))] [] (by decide +kernel) rfl trivial ?_
  obtain ⟨r1, hc1, hf⟩ := bnd_o hf
  refine b_cV (as := []) (st := []) (by decide +kernel) k_5_88 n_Reader_advance rfl (by decide) v_Reader_advance (C_Reader_advance sd I J hR ht hqd hc1) (Nat.le_of_ble_eq_true rfl) (by decide) rfl rfl (fun _ h => h) ?_
  show m_B G (m_rm 8 0 0) M_Reader_stakeLine Q 0 0 4 [some (mR (5, 0, 19)), none, none] [] (L, r1, J, R)
  refine b_blk (pc' := 5) (ls' := [some (mR (5, 0, 19)), none, none]) (st' := [mR (5, 0, 19)]) (S' := (L, r1, J, R)) (P := True) [(.aload_n 0, (0, 0, 0, 0, 0))] [] (by decide +kernel) rfl trivial ?_
  obtain ⟨r2, hc2, hf⟩ := bnd_o hf
  refine b_cV (as := []) (st := []) (by decide +kernel) k_5_191 n_Reader_name rfl (by decide) v_Reader_name (C_Reader_name sd r1 J hR ht hqd hc2) (Nat.le_of_ble_eq_true rfl) (by decide) rfl rfl (fun _ h => h) ?_
  show m_B G (m_rm 8 0 0) M_Reader_stakeLine Q 0 0 8 [some (mR (5, 0, 19)), none, none] [mI r2.1] (L, r2.2, J, R)
  refine b_if_ne (off := 5) (tgt := 13) (by decide +kernel) (by decide) (fun h3 => ?_) (fun h3 => ?_)
  · have hf := if_f h3 hf
    refine b_blk (pc' := 14) (ls' := [some (mR (5, 0, 19)), none, none]) (st' := [mR (5, 0, 19)]) (S' := (L, r2.2, J, R)) (P := True) [(.aload_n 0, (0, 0, 0, 0, 0))] [] (by decide +kernel) rfl trivial ?_
    obtain ⟨r4, hc4, hf⟩ := bnd_o hf
    refine b_cV (as := []) (st := []) (by decide +kernel) k_5_194 n_Reader_named rfl (by decide) v_Reader_named (C_Reader_named sd r2.2 J hR ht hqd hc4) (Nat.le_of_ble_eq_true rfl) (by decide) rfl rfl (fun _ h => h) ?_
    show m_B G (m_rm 8 0 0) M_Reader_stakeLine Q 0 0 17 [some (mR (5, 0, 19)), none, none] [mI r4] (L, r2.2, J, R)
    refine b_blk (pc' := 20) (ls' := [some (mR (5, 0, 19)), some (mI r4), none]) (st' := [mI (-1), mI r4]) (S' := (L, r2.2, J, R)) (P := True) [(.istore_n 1, (0, 0, 0, 0, 0)), (.iload_n 1, (0, 0, 0, 0, 0)), (.iconst (-1), (0, 0, 0, (-1), 0))] [] (by decide +kernel) rfl trivial ?_
    refine b_icmp_ne (off := 13) (tgt := 33) (by decide +kernel) (by decide) (fun h5 => ?_) (fun h5 => ?_)
    · have hf := if_f h5 hf
      refine b_blk (pc' := 34) (ls' := [some (mR (5, 0, 19)), some (mI r4), none]) (st' := [mR (5, 0, 19)]) (S' := (L, r2.2, J, R)) (P := True) [(.aload_n 0, (0, 0, 0, 0, 0))] [] (by decide +kernel) rfl trivial ?_
      obtain ⟨r6, hc6, hf⟩ := bnd_o hf
      refine b_cV (as := []) (st := []) (by decide +kernel) k_5_88 n_Reader_advance rfl (by decide) v_Reader_advance (C_Reader_advance sd r2.2 J hR ht hqd hc6) (Nat.le_of_ble_eq_true rfl) (by decide) rfl rfl (fun _ h => h) ?_
      show m_B G (m_rm 8 0 0) M_Reader_stakeLine Q 0 0 37 [some (mR (5, 0, 19)), some (mI r4), none] [] (L, r6, J, R)
      refine b_blk (pc' := 48) (ls' := [some (mR (5, 0, 19)), some (mI r4), none]) (st' := [mI ((r6 sd 1) - (1 : Int32)), mI 0, mR (5, 0, 19)]) (S' := (L, r6, J, R)) (P := (True ∧ R 19 4 = some (8, 0, sd))) [(.aload_n 0, (0, 0, 0, 0, 0)), (.iconst 0, (0, 0, 0, 0, 0)), (.aload_n 0, (0, 0, 0, 0, 0)), (.getfield 19, (5, 4, 3, 0, 0)), (.getfield 167, (8, 1, 0, 0, 0)), (.iconst 1, (0, 0, 0, 1, 0)), (.isub, (0, 0, 0, 0, 0))] [some (8, 0, sd)] (by decide +kernel) rfl ⟨trivial, ht⟩ ?_
      obtain ⟨r7, hc7, hf⟩ := bnd_o hf
      refine b_cV (as := [mI 0, mI ((r6 sd 1) - (1 : Int32))]) (st := []) (by decide +kernel) k_5_164 n_Reader_number rfl (by decide) v_Reader_number (C_Reader_number sd r6 J (0 : Int32) ((r6 sd 1) - (1 : Int32)) hR ht hqd hc7) (Nat.le_of_ble_eq_true rfl) (by decide) rfl rfl (fun _ h => h) ?_
      show m_B G (m_rm 8 0 0) M_Reader_stakeLine Q 0 0 51 [some (mR (5, 0, 19)), some (mI r4), none] [mI r7.1] (L, r7.2, J, R)
      refine b_if_ne (off := 5) (tgt := 56) (by decide +kernel) (by decide) (fun h8 => ?_) (fun h8 => ?_)
      · have hf := if_f h8 hf
        refine b_blk (pc' := 63) (ls' := [some (mR (5, 0, 19)), some (mI r4), some (mI (r7.2 19 10))]) (st' := [mI 5, mR (5, 0, 19)]) (S' := (L, r7.2, J, R)) (P := True) [(.aload_n 0, (0, 0, 0, 0, 0)), (.getfield 148, (5, 10, 0, 0, 0)), (.istore_n 2, (0, 0, 0, 0, 0)), (.aload_n 0, (0, 0, 0, 0, 0)), (.iconst 5, (0, 0, 0, 5, 0))] [] (by decide +kernel) rfl trivial ?_
        obtain ⟨r9, hc9, hf⟩ := bnd_o hf
        refine b_cV (as := [mI 5]) (st := []) (by decide +kernel) k_5_161 n_Reader_needWord rfl (by decide) v_Reader_needWord (C_Reader_needWord sd r7.2 J (5 : Int32) hR ht hqd hc9) (Nat.le_of_ble_eq_true rfl) (by decide) rfl rfl (fun _ h => h) ?_
        show m_B G (m_rm 8 0 0) M_Reader_stakeLine Q 0 0 66 [some (mR (5, 0, 19)), some (mI r4), some (mI (r7.2 19 10))] [mI r9.1] (L, r9.2, J, R)
        refine b_if_eq (off := 20) (tgt := 86) (by decide +kernel) (by decide) (fun h10 => ?_) (fun h10 => ?_)
        · have hf := if_t h10 hf
          refine b_blk (pc' := 87) (ls' := [some (mR (5, 0, 19)), some (mI r4), some (mI (r7.2 19 10))]) (st' := [mI 0]) (S' := (L, r9.2, J, R)) (P := True) [(.iconst 0, (0, 0, 0, 0, 0))] [] (by decide +kernel) rfl trivial ?_
          cases hf
          exact b_zret (by decide +kernel) rfl (by decide) hk
        · have hf := if_f h10 hf
          refine b_blk (pc' := 80) (ls' := [some (mR (5, 0, 19)), some (mI r4), some (mI (r7.2 19 10))]) (st' := [mI ((r9.2 sd 2) - (1 : Int32)), mI 0, mR (5, 0, 19)]) (S' := (L, r9.2, J, R)) (P := (True ∧ R 19 4 = some (8, 0, sd))) [(.aload_n 0, (0, 0, 0, 0, 0)), (.iconst 0, (0, 0, 0, 0, 0)), (.aload_n 0, (0, 0, 0, 0, 0)), (.getfield 19, (5, 4, 3, 0, 0)), (.getfield 170, (8, 2, 0, 0, 0)), (.iconst 1, (0, 0, 0, 1, 0)), (.isub, (0, 0, 0, 0, 0))] [some (8, 0, sd)] (by decide +kernel) rfl ⟨trivial, ht⟩ ?_
          obtain ⟨r11, hc11, hf⟩ := bnd_o hf
          refine b_cV (as := [mI 0, mI ((r9.2 sd 2) - (1 : Int32))]) (st := []) (by decide +kernel) k_5_164 n_Reader_number rfl (by decide) v_Reader_number (C_Reader_number sd r9.2 J (0 : Int32) ((r9.2 sd 2) - (1 : Int32)) hR ht hqd hc11) (Nat.le_of_ble_eq_true rfl) (by decide) rfl rfl (fun _ h => h) ?_
          show m_B G (m_rm 8 0 0) M_Reader_stakeLine Q 0 0 83 [some (mR (5, 0, 19)), some (mI r4), some (mI (r7.2 19 10))] [mI r11.1] (L, r11.2, J, R)
          refine b_if_ne (off := 5) (tgt := 88) (by decide +kernel) (by decide) (fun h12 => ?_) (fun h12 => ?_)
          · have hf := if_f h12 hf
            refine b_blk (pc' := 101) (ls' := [some (mR (5, 0, 19)), some (mI r4), some (mI (r7.2 19 10))]) (st' := [mI (r11.2 19 10), mI (r7.2 19 10), mI r4, mR (3, 0, sd + 3)]) (S' := (L, r11.2, J, R)) (P := ((True ∧ R 19 4 = some (8, 0, sd)) ∧ R sd 7 = some (3, 0, sd + 3))) [(.aload_n 0, (0, 0, 0, 0, 0)), (.getfield 19, (5, 4, 3, 0, 0)), (.getfield 176, (8, 7, 3, 0, 0)), (.iload_n 1, (0, 0, 0, 0, 0)), (.iload_n 2, (0, 0, 0, 0, 0)), (.aload_n 0, (0, 0, 0, 0, 0)), (.getfield 148, (5, 10, 0, 0, 0))] [some (8, 0, sd), some (3, 0, sd + 3)] (by decide +kernel) rfl ⟨⟨trivial, ht⟩, (sl_of hR hqd).2.2.1⟩ ?_
            refine b_cV (as := [mI r4, mI (r7.2 19 10), mI (r11.2 19 10)]) (st := []) (by decide +kernel) k_5_197 n_Lay_putStake rfl (by decide) v_Lay_putStake (c_Lay_putStake (sd + 3) r4 (r7.2 19 10) (r11.2 19 10) (sl_of hR hqd).2.2.2.2) (Nat.le_of_ble_eq_true rfl) (by decide) rfl rfl (fun _ h => h) ?_
            show m_B _ _ _ _ _ _ 104 [some (mR (5, 0, 19)), some (mI r4), some (mI (r7.2 19 10))] [] (L, w_putStake r11.2 (sd + 3) r4 (r7.2 19 10) (r11.2 19 10), J, R)
            refine b_blk (pc' := 105) (ls' := [some (mR (5, 0, 19)), some (mI r4), some (mI (r7.2 19 10))]) (st' := [mI 1]) (S' := (L, w_putStake r11.2 (sd + 3) r4 (r7.2 19 10) (r11.2 19 10), J, R)) (P := True) [(.iconst 1, (0, 0, 0, 1, 0))] [] (by decide +kernel) rfl trivial ?_
            cases hf
            exact b_zret (by decide +kernel) rfl (by decide) hk
          · have hf := if_t h12 hf
            refine b_blk (pc' := 87) (ls' := [some (mR (5, 0, 19)), some (mI r4), some (mI (r7.2 19 10))]) (st' := [mI 0]) (S' := (L, r11.2, J, R)) (P := True) [(.iconst 0, (0, 0, 0, 0, 0))] [] (by decide +kernel) rfl trivial ?_
            cases hf
            exact b_zret (by decide +kernel) rfl (by decide) hk
      · have hf := if_t h8 hf
        refine b_blk (pc' := 55) (ls' := [some (mR (5, 0, 19)), some (mI r4), none]) (st' := [mI 0]) (S' := (L, r7.2, J, R)) (P := True) [(.iconst 0, (0, 0, 0, 0, 0))] [] (by decide +kernel) rfl trivial ?_
        cases hf
        exact b_zret (by decide +kernel) rfl (by decide) hk
    · have hf := if_t h5 hf
      refine b_blk (pc' := 29) (ls' := [some (mR (5, 0, 19)), some (mI r4), none]) (st' := [mI (r2.2 19 7), mI 3, mR (5, 0, 19)]) (S' := (L, r2.2, J, R)) (P := True) [(.aload_n 0, (0, 0, 0, 0, 0)), (.iconst 3, (0, 0, 0, 3, 0)), (.aload_n 0, (0, 0, 0, 0, 0)), (.getfield 66, (5, 7, 0, 0, 0))] [] (by decide +kernel) rfl trivial ?_
      obtain ⟨r13, hc13, hf⟩ := bnd_o hf
      refine b_cV (as := [mI 3, mI (r2.2 19 7)]) (st := []) (by decide +kernel) k_5_69 n_Reader_wrong rfl (by decide) v_Reader_wrong (C_Reader_wrong sd r2.2 J (3 : Int32) (r2.2 19 7) hR ht hqd hc13) (Nat.le_of_ble_eq_true rfl) (by decide) rfl rfl (fun _ h => h) ?_
      show m_B G (m_rm 8 0 0) M_Reader_stakeLine Q 0 0 32 [some (mR (5, 0, 19)), some (mI r4), none] [mI r13.1] (L, r13.2, J, R)
      obtain ⟨g14, hf⟩ := gq_s hf
      cases hf
      exact b_zret (by decide +kernel) rfl g14 hk
  · have hf := if_t h3 hf
    refine b_blk (pc' := 12) (ls' := [some (mR (5, 0, 19)), none, none]) (st' := [mI 0]) (S' := (L, r2.2, J, R)) (P := True) [(.iconst 0, (0, 0, 0, 0, 0))] [] (by decide +kernel) rfl trivial ?_
    cases hf
    exact b_zret (by decide +kernel) rfl (by decide) hk
theorem C_Reader_stakeLine {G : MG} {L : List (Nat × Nat)} {R : Nat → Nat → Option MRef} (sd : Nat) (I : MI) (J : MJ) (hR : RF R) (ht : R 19 4 = some (8, 0, sd)) (hqd : sd = 3 ∨ sd = 11) {r : Int32 × MI} (hf : F_Reader_stakeLine sd I = some r) : m_met G 8 0 0 y_Reader_stakeLine M_Reader_stakeLine [mR (5, 0, 19)] (L, I, J, R) (m_is (some (mI r.1)) (L, r.2, J, R)) :=
  m_met_in n_Reader_stakeLine (plainFor_of_name (by decide)) (by decide) (Nat.le_of_ble_eq_true rfl) (ls := [some (mR (5, 0, 19)), none, none]) rfl (W_Reader_stakeLine sd I J hR ht hqd hf ⟨rfl, rfl⟩)
noncomputable def F_Reader_walksLine (sd : Nat) (I : MI) : Option (Int32 × MI) :=
  if (I sd 10) ≤ (I sd 9) then ((F_Reader_advance sd I).bind fun r2 => (F_Reader_sum0 sd (m_up (m_up (m_up r2 19 11 (2148 : Int32)) 19 12 (0 : Int32)) sd 9 (r2 19 5)) (0 : Int32)).bind fun r3 => gq (r3.1 = 0 ∨ r3.1 = 1) <| some ((r3.1 : Int32), m_up r3.2 sd 10 (r3.2 19 5))) else ((F_Reader_wrong sd I (5 : Int32) (I 19 7)).bind fun r5 => gq (r5.1 = 0 ∨ r5.1 = 1) <| some ((r5.1 : Int32), r5.2))
set_option maxRecDepth 100000 in
set_option maxHeartbeats 400000 in
theorem W_Reader_walksLine {G : MG} {Q : Option MV → MS → Prop} {L : List (Nat × Nat)} {R : Nat → Nat → Option MRef} (sd : Nat) (I : MI) (J : MJ) (hR : RF R) (ht : R 19 4 = some (8, 0, sd)) (hqd : sd = 3 ∨ sd = 11) {r : Int32 × MI} (hf : F_Reader_walksLine sd I = some r) (hk : (fun r : Int32 × MI => Q (some (mI r.1)) (L, r.2, J, R)) r) : m_B G (m_rm 69 0 0) M_Reader_walksLine Q 0 0 0 [some (mR (5, 0, 19)), none] [] (L, I, J, R) := by
  unfold F_Reader_walksLine at hf
  refine b_blk (pc' := 14) (ls' := [some (mR (5, 0, 19)), none]) (st' := [mI (I sd 9), mI (I sd 10)]) (S' := (L, I, J, R)) (P := ((True ∧ R 19 4 = some (8, 0, sd)) ∧ R 19 4 = some (8, 0, sd))) [(.aload_n 0, (0, 0, 0, 0, 0)), (.getfield 19, (5, 4, 3, 0, 0)), (.getfield 100, (8, 10, 0, 0, 0)), (.aload_n 0, (0, 0, 0, 0, 0)), (.getfield 19, (5, 4, 3, 0, 0)), (.getfield 204, (8, 9, 0, 0, 0))] [some (8, 0, sd), some (8, 0, sd)] (by decide +kernel) rfl ⟨⟨trivial, ht⟩, ht⟩ ?_
  refine b_icmp_le (off := 13) (tgt := 27) (by decide +kernel) (by decide) (fun h1 => ?_) (fun h1 => ?_)
  · have hf := if_t h1 hf
    refine b_blk (pc' := 28) (ls' := [some (mR (5, 0, 19)), none]) (st' := [mR (5, 0, 19)]) (S' := (L, I, J, R)) (P := True) [(.aload_n 0, (0, 0, 0, 0, 0))] [] (by decide +kernel) rfl trivial ?_
    obtain ⟨r2, hc2, hf⟩ := bnd_o hf
    refine b_cV (as := []) (st := []) (by decide +kernel) k_5_88 n_Reader_advance rfl (by decide) v_Reader_advance (C_Reader_advance sd I J hR ht hqd hc2) (Nat.le_of_ble_eq_true rfl) (by decide) rfl rfl (fun _ h => h) ?_
    show m_B G (m_rm 69 0 0) M_Reader_walksLine Q 0 0 31 [some (mR (5, 0, 19)), none] [] (L, r2, J, R)
    refine b_blk (pc' := 56) (ls' := [some (mR (5, 0, 19)), none]) (st' := [mI 0, mR (5, 0, 19)]) (S' := (L, m_up (m_up (m_up r2 19 11 (2148 : Int32)) 19 12 (0 : Int32)) sd 9 (r2 19 5), J, R)) (P := (True ∧ R 19 4 = some (8, 0, sd))) [(.aload_n 0, (0, 0, 0, 0, 0)), (.sipush 2148, (0, 0, 0, 2148, 0)), (.putfield 78, (5, 11, 0, 0, 0)), (.aload_n 0, (0, 0, 0, 0, 0)), (.iconst 0, (0, 0, 0, 0, 0)), (.putfield 82, (5, 12, 0, 0, 0)), (.aload_n 0, (0, 0, 0, 0, 0)), (.getfield 19, (5, 4, 3, 0, 0)), (.aload_n 0, (0, 0, 0, 0, 0)), (.getfield 97, (5, 5, 0, 0, 0)), (.putfield 204, (8, 9, 0, 0, 0)), (.aload_n 0, (0, 0, 0, 0, 0)), (.iconst 0, (0, 0, 0, 0, 0))] [some (8, 0, sd)] (by decide +kernel) rfl ⟨trivial, ht⟩ ?_
    obtain ⟨r3, hc3, hf⟩ := bnd_o hf
    refine b_cV (as := [mI 0]) (st := []) (by decide +kernel) k_5_94 n_Reader_sum rfl (by decide) v_Reader_sum (C_Reader_sum0 sd (m_up (m_up (m_up r2 19 11 (2148 : Int32)) 19 12 (0 : Int32)) sd 9 (r2 19 5)) J (0 : Int32) hR ht hqd hc3) (Nat.le_of_ble_eq_true rfl) (by decide) rfl rfl (fun _ h => h) ?_
    show m_B G (m_rm 69 0 0) M_Reader_walksLine Q 0 0 59 [some (mR (5, 0, 19)), none] [mI r3.1] (L, r3.2, J, R)
    refine b_blk (pc' := 72) (ls' := [some (mR (5, 0, 19)), some (mI r3.1)]) (st' := [mI r3.1]) (S' := (L, m_up r3.2 sd 10 (r3.2 19 5), J, R)) (P := (True ∧ R 19 4 = some (8, 0, sd))) [(.istore_n 1, (0, 0, 0, 0, 0)), (.aload_n 0, (0, 0, 0, 0, 0)), (.getfield 19, (5, 4, 3, 0, 0)), (.aload_n 0, (0, 0, 0, 0, 0)), (.getfield 97, (5, 5, 0, 0, 0)), (.putfield 100, (8, 10, 0, 0, 0)), (.iload_n 1, (0, 0, 0, 0, 0))] [some (8, 0, sd)] (by decide +kernel) rfl ⟨trivial, ht⟩ ?_
    obtain ⟨g4, hf⟩ := gq_s hf
    cases hf
    exact b_zret (by decide +kernel) rfl g4 hk
  · have hf := if_f h1 hf
    refine b_blk (pc' := 23) (ls' := [some (mR (5, 0, 19)), none]) (st' := [mI (I 19 7), mI 5, mR (5, 0, 19)]) (S' := (L, I, J, R)) (P := True) [(.aload_n 0, (0, 0, 0, 0, 0)), (.iconst 5, (0, 0, 0, 5, 0)), (.aload_n 0, (0, 0, 0, 0, 0)), (.getfield 66, (5, 7, 0, 0, 0))] [] (by decide +kernel) rfl trivial ?_
    obtain ⟨r5, hc5, hf⟩ := bnd_o hf
    refine b_cV (as := [mI 5, mI (I 19 7)]) (st := []) (by decide +kernel) k_5_69 n_Reader_wrong rfl (by decide) v_Reader_wrong (C_Reader_wrong sd I J (5 : Int32) (I 19 7) hR ht hqd hc5) (Nat.le_of_ble_eq_true rfl) (by decide) rfl rfl (fun _ h => h) ?_
    show m_B G (m_rm 69 0 0) M_Reader_walksLine Q 0 0 26 [some (mR (5, 0, 19)), none] [mI r5.1] (L, r5.2, J, R)
    obtain ⟨g6, hf⟩ := gq_s hf
    cases hf
    exact b_zret (by decide +kernel) rfl g6 hk
theorem C_Reader_walksLine {G : MG} {L : List (Nat × Nat)} {R : Nat → Nat → Option MRef} (sd : Nat) (I : MI) (J : MJ) (hR : RF R) (ht : R 19 4 = some (8, 0, sd)) (hqd : sd = 3 ∨ sd = 11) {r : Int32 × MI} (hf : F_Reader_walksLine sd I = some r) : m_met G 69 0 0 y_Reader_walksLine M_Reader_walksLine [mR (5, 0, 19)] (L, I, J, R) (m_is (some (mI r.1)) (L, r.2, J, R)) :=
  m_met_in n_Reader_walksLine (plainFor_of_name (by decide)) (by decide) (Nat.le_of_ble_eq_true rfl) (ls := [some (mR (5, 0, 19)), none]) rfl (W_Reader_walksLine sd I J hR ht hqd hf ⟨rfl, rfl⟩)
noncomputable def F_Reader_rootsLine (sd : Nat) (I : MI) : Option (Int32 × MI) :=
  if (I sd 12) ≤ (I sd 11) then ((F_Reader_advance sd I).bind fun r2 => (F_Reader_test0 sd (m_up (m_up (m_up r2 19 11 (6212 : Int32)) 19 12 (0 : Int32)) sd 11 (r2 19 5)) (0 : Int32)).bind fun r3 => gq (r3.1 = 0 ∨ r3.1 = 1) <| some ((r3.1 : Int32), m_up r3.2 sd 12 (r3.2 19 5))) else ((F_Reader_wrong sd I (5 : Int32) (I 19 7)).bind fun r5 => gq (r5.1 = 0 ∨ r5.1 = 1) <| some ((r5.1 : Int32), r5.2))
set_option maxRecDepth 100000 in
set_option maxHeartbeats 400000 in
theorem W_Reader_rootsLine {G : MG} {Q : Option MV → MS → Prop} {L : List (Nat × Nat)} {R : Nat → Nat → Option MRef} (sd : Nat) (I : MI) (J : MJ) (hR : RF R) (ht : R 19 4 = some (8, 0, sd)) (hqd : sd = 3 ∨ sd = 11) {r : Int32 × MI} (hf : F_Reader_rootsLine sd I = some r) (hk : (fun r : Int32 × MI => Q (some (mI r.1)) (L, r.2, J, R)) r) : m_B G (m_rm 69 0 0) M_Reader_rootsLine Q 0 0 0 [some (mR (5, 0, 19)), none] [] (L, I, J, R) := by
  unfold F_Reader_rootsLine at hf
  refine b_blk (pc' := 14) (ls' := [some (mR (5, 0, 19)), none]) (st' := [mI (I sd 11), mI (I sd 12)]) (S' := (L, I, J, R)) (P := ((True ∧ R 19 4 = some (8, 0, sd)) ∧ R 19 4 = some (8, 0, sd))) [(.aload_n 0, (0, 0, 0, 0, 0)), (.getfield 19, (5, 4, 3, 0, 0)), (.getfield 207, (8, 12, 0, 0, 0)), (.aload_n 0, (0, 0, 0, 0, 0)), (.getfield 19, (5, 4, 3, 0, 0)), (.getfield 210, (8, 11, 0, 0, 0))] [some (8, 0, sd), some (8, 0, sd)] (by decide +kernel) rfl ⟨⟨trivial, ht⟩, ht⟩ ?_
  refine b_icmp_le (off := 13) (tgt := 27) (by decide +kernel) (by decide) (fun h1 => ?_) (fun h1 => ?_)
  · have hf := if_t h1 hf
    refine b_blk (pc' := 28) (ls' := [some (mR (5, 0, 19)), none]) (st' := [mR (5, 0, 19)]) (S' := (L, I, J, R)) (P := True) [(.aload_n 0, (0, 0, 0, 0, 0))] [] (by decide +kernel) rfl trivial ?_
    obtain ⟨r2, hc2, hf⟩ := bnd_o hf
    refine b_cV (as := []) (st := []) (by decide +kernel) k_5_88 n_Reader_advance rfl (by decide) v_Reader_advance (C_Reader_advance sd I J hR ht hqd hc2) (Nat.le_of_ble_eq_true rfl) (by decide) rfl rfl (fun _ h => h) ?_
    show m_B G (m_rm 69 0 0) M_Reader_rootsLine Q 0 0 31 [some (mR (5, 0, 19)), none] [] (L, r2, J, R)
    refine b_blk (pc' := 56) (ls' := [some (mR (5, 0, 19)), none]) (st' := [mI 0, mR (5, 0, 19)]) (S' := (L, m_up (m_up (m_up r2 19 11 (6212 : Int32)) 19 12 (0 : Int32)) sd 11 (r2 19 5), J, R)) (P := (True ∧ R 19 4 = some (8, 0, sd))) [(.aload_n 0, (0, 0, 0, 0, 0)), (.sipush 6212, (0, 0, 0, 6212, 0)), (.putfield 78, (5, 11, 0, 0, 0)), (.aload_n 0, (0, 0, 0, 0, 0)), (.iconst 0, (0, 0, 0, 0, 0)), (.putfield 82, (5, 12, 0, 0, 0)), (.aload_n 0, (0, 0, 0, 0, 0)), (.getfield 19, (5, 4, 3, 0, 0)), (.aload_n 0, (0, 0, 0, 0, 0)), (.getfield 97, (5, 5, 0, 0, 0)), (.putfield 210, (8, 11, 0, 0, 0)), (.aload_n 0, (0, 0, 0, 0, 0)), (.iconst 0, (0, 0, 0, 0, 0))] [some (8, 0, sd)] (by decide +kernel) rfl ⟨trivial, ht⟩ ?_
    obtain ⟨r3, hc3, hf⟩ := bnd_o hf
    refine b_cV (as := [mI 0]) (st := []) (by decide +kernel) k_5_91 n_Reader_test rfl (by decide) v_Reader_test (C_Reader_test0 sd (m_up (m_up (m_up r2 19 11 (6212 : Int32)) 19 12 (0 : Int32)) sd 11 (r2 19 5)) J (0 : Int32) hR ht hqd hc3) (Nat.le_of_ble_eq_true rfl) (by decide) rfl rfl (fun _ h => h) ?_
    show m_B G (m_rm 69 0 0) M_Reader_rootsLine Q 0 0 59 [some (mR (5, 0, 19)), none] [mI r3.1] (L, r3.2, J, R)
    refine b_blk (pc' := 72) (ls' := [some (mR (5, 0, 19)), some (mI r3.1)]) (st' := [mI r3.1]) (S' := (L, m_up r3.2 sd 12 (r3.2 19 5), J, R)) (P := (True ∧ R 19 4 = some (8, 0, sd))) [(.istore_n 1, (0, 0, 0, 0, 0)), (.aload_n 0, (0, 0, 0, 0, 0)), (.getfield 19, (5, 4, 3, 0, 0)), (.aload_n 0, (0, 0, 0, 0, 0)), (.getfield 97, (5, 5, 0, 0, 0)), (.putfield 207, (8, 12, 0, 0, 0)), (.iload_n 1, (0, 0, 0, 0, 0))] [some (8, 0, sd)] (by decide +kernel) rfl ⟨trivial, ht⟩ ?_
    obtain ⟨g4, hf⟩ := gq_s hf
    cases hf
    exact b_zret (by decide +kernel) rfl g4 hk
  · have hf := if_f h1 hf
    refine b_blk (pc' := 23) (ls' := [some (mR (5, 0, 19)), none]) (st' := [mI (I 19 7), mI 5, mR (5, 0, 19)]) (S' := (L, I, J, R)) (P := True) [(.aload_n 0, (0, 0, 0, 0, 0)), (.iconst 5, (0, 0, 0, 5, 0)), (.aload_n 0, (0, 0, 0, 0, 0)), (.getfield 66, (5, 7, 0, 0, 0))] [] (by decide +kernel) rfl trivial ?_
    obtain ⟨r5, hc5, hf⟩ := bnd_o hf
    refine b_cV (as := [mI 5, mI (I 19 7)]) (st := []) (by decide +kernel) k_5_69 n_Reader_wrong rfl (by decide) v_Reader_wrong (C_Reader_wrong sd I J (5 : Int32) (I 19 7) hR ht hqd hc5) (Nat.le_of_ble_eq_true rfl) (by decide) rfl rfl (fun _ h => h) ?_
    show m_B G (m_rm 69 0 0) M_Reader_rootsLine Q 0 0 26 [some (mR (5, 0, 19)), none] [mI r5.1] (L, r5.2, J, R)
    obtain ⟨g6, hf⟩ := gq_s hf
    cases hf
    exact b_zret (by decide +kernel) rfl g6 hk
theorem C_Reader_rootsLine {G : MG} {L : List (Nat × Nat)} {R : Nat → Nat → Option MRef} (sd : Nat) (I : MI) (J : MJ) (hR : RF R) (ht : R 19 4 = some (8, 0, sd)) (hqd : sd = 3 ∨ sd = 11) {r : Int32 × MI} (hf : F_Reader_rootsLine sd I = some r) : m_met G 69 0 0 y_Reader_rootsLine M_Reader_rootsLine [mR (5, 0, 19)] (L, I, J, R) (m_is (some (mI r.1)) (L, r.2, J, R)) :=
  m_met_in n_Reader_rootsLine (plainFor_of_name (by decide)) (by decide) (Nat.le_of_ble_eq_true rfl) (ls := [some (mR (5, 0, 19)), none]) rfl (W_Reader_rootsLine sd I J hR ht hqd hf ⟨rfl, rfl⟩)
noncomputable def F_Reader_tideLine (sd : Nat) (I : MI) : Option (Int32 × MI) :=
  (F_Reader_advance sd I).bind fun r1 => (F_Reader_number sd r1 (0 : Int32) (100 : Int32)).bind fun r2 => if r2.1 = (0 : Int32) then (some ((0 : Int32), r2.2)) else (some ((1 : Int32), m_up r2.2 sd 4 (r2.2 19 10)))
set_option maxRecDepth 100000 in
set_option maxHeartbeats 400000 in
theorem W_Reader_tideLine {G : MG} {Q : Option MV → MS → Prop} {L : List (Nat × Nat)} {R : Nat → Nat → Option MRef} (sd : Nat) (I : MI) (J : MJ) (hR : RF R) (ht : R 19 4 = some (8, 0, sd)) (hqd : sd = 3 ∨ sd = 11) {r : Int32 × MI} (hf : F_Reader_tideLine sd I = some r) (hk : (fun r : Int32 × MI => Q (some (mI r.1)) (L, r.2, J, R)) r) : m_B G (m_rm 8 0 0) M_Reader_tideLine Q 0 0 0 [some (mR (5, 0, 19))] [] (L, I, J, R) := by
  unfold F_Reader_tideLine at hf
  refine b_blk (pc' := 1) (ls' := [some (mR (5, 0, 19))]) (st' := [mR (5, 0, 19)]) (S' := (L, I, J, R)) (P := True) [(.aload_n 0, (0, 0, 0, 0, 0))] [] (by decide +kernel) rfl trivial ?_
  obtain ⟨r1, hc1, hf⟩ := bnd_o hf
  refine b_cV (as := []) (st := []) (by decide +kernel) k_5_88 n_Reader_advance rfl (by decide) v_Reader_advance (C_Reader_advance sd I J hR ht hqd hc1) (Nat.le_of_ble_eq_true rfl) (by decide) rfl rfl (fun _ h => h) ?_
  show m_B G (m_rm 8 0 0) M_Reader_tideLine Q 0 0 4 [some (mR (5, 0, 19))] [] (L, r1, J, R)
  refine b_blk (pc' := 8) (ls' := [some (mR (5, 0, 19))]) (st' := [mI 100, mI 0, mR (5, 0, 19)]) (S' := (L, r1, J, R)) (P := True) [(.aload_n 0, (0, 0, 0, 0, 0)), (.iconst 0, (0, 0, 0, 0, 0)), (.bipush 100, (0, 0, 0, 100, 0))] [] (by decide +kernel) rfl trivial ?_
  obtain ⟨r2, hc2, hf⟩ := bnd_o hf
  refine b_cV (as := [mI 0, mI 100]) (st := []) (by decide +kernel) k_5_164 n_Reader_number rfl (by decide) v_Reader_number (C_Reader_number sd r1 J (0 : Int32) (100 : Int32) hR ht hqd hc2) (Nat.le_of_ble_eq_true rfl) (by decide) rfl rfl (fun _ h => h) ?_
  show m_B G (m_rm 8 0 0) M_Reader_tideLine Q 0 0 11 [some (mR (5, 0, 19))] [mI r2.1] (L, r2.2, J, R)
  refine b_if_ne (off := 5) (tgt := 16) (by decide +kernel) (by decide) (fun h3 => ?_) (fun h3 => ?_)
  · have hf := if_f h3 hf
    refine b_blk (pc' := 28) (ls' := [some (mR (5, 0, 19))]) (st' := [mI 1]) (S' := (L, m_up r2.2 sd 4 (r2.2 19 10), J, R)) (P := (True ∧ R 19 4 = some (8, 0, sd))) [(.aload_n 0, (0, 0, 0, 0, 0)), (.getfield 19, (5, 4, 3, 0, 0)), (.aload_n 0, (0, 0, 0, 0, 0)), (.getfield 148, (5, 10, 0, 0, 0)), (.putfield 213, (8, 4, 0, 0, 0)), (.iconst 1, (0, 0, 0, 1, 0))] [some (8, 0, sd)] (by decide +kernel) rfl ⟨trivial, ht⟩ ?_
    cases hf
    exact b_zret (by decide +kernel) rfl (by decide) hk
  · have hf := if_t h3 hf
    refine b_blk (pc' := 15) (ls' := [some (mR (5, 0, 19))]) (st' := [mI 0]) (S' := (L, r2.2, J, R)) (P := True) [(.iconst 0, (0, 0, 0, 0, 0))] [] (by decide +kernel) rfl trivial ?_
    cases hf
    exact b_zret (by decide +kernel) rfl (by decide) hk
theorem C_Reader_tideLine {G : MG} {L : List (Nat × Nat)} {R : Nat → Nat → Option MRef} (sd : Nat) (I : MI) (J : MJ) (hR : RF R) (ht : R 19 4 = some (8, 0, sd)) (hqd : sd = 3 ∨ sd = 11) {r : Int32 × MI} (hf : F_Reader_tideLine sd I = some r) : m_met G 8 0 0 y_Reader_tideLine M_Reader_tideLine [mR (5, 0, 19)] (L, I, J, R) (m_is (some (mI r.1)) (L, r.2, J, R)) :=
  m_met_in n_Reader_tideLine (plainFor_of_name (by decide)) (by decide) (Nat.le_of_ble_eq_true rfl) (ls := [some (mR (5, 0, 19))]) rfl (W_Reader_tideLine sd I J hR ht hqd hf ⟨rfl, rfl⟩)
noncomputable def F_Reader_begin (sd : Nat) (I : MI) : Option (MI) :=
  bnd (m_up (m_up (m_up (m_up (m_up I 19 5 (0 : Int32)) 19 1 (0 : Int32)) 19 2 (-1 : Int32)) 19 8 (0 : Int32)) 19 6 (258 : Int32) : MI) fun x1 => (F_Reader_advance sd x1).bind fun r2 => some r2
set_option maxRecDepth 100000 in
set_option maxHeartbeats 400000 in
theorem W_Reader_begin {G : MG} {Q : Option MV → MS → Prop} {L : List (Nat × Nat)} {R : Nat → Nat → Option MRef} (sd : Nat) (I : MI) (J : MJ) (hR : RF R) (hqd : sd = 3 ∨ sd = 11) {r : MI} (hf : F_Reader_begin sd I = some r) (hk : (fun r : MI => Q (none) (L, r, J, m_up R 19 4 (some (8, 0, sd)))) r) : m_B G (m_rm 7 0 0) M_Reader_begin Q 0 0 0 [some (mR (5, 0, 19)), some (mR (8, 0, sd))] [] (L, I, J, R) := by
  unfold F_Reader_begin at hf
  refine b_blk (pc' := 33) (ls' := [some (mR (5, 0, 19)), some (mR (8, 0, sd))]) (st' := [mR (5, 0, 19)]) (S' := (L, m_up (m_up (m_up (m_up (m_up I 19 5 (0 : Int32)) 19 1 (0 : Int32)) 19 2 (-1 : Int32)) 19 8 (0 : Int32)) 19 6 (258 : Int32), J, m_up R 19 4 (some (8, 0, sd)))) (P := True) [(.aload_n 0, (0, 0, 0, 0, 0)), (.aload_n 1, (0, 0, 0, 0, 0)), (.putfield 19, (5, 4, 3, 0, 0)), (.aload_n 0, (0, 0, 0, 0, 0)), (.iconst 0, (0, 0, 0, 0, 0)), (.putfield 97, (5, 5, 0, 0, 0)), (.aload_n 0, (0, 0, 0, 0, 0)), (.iconst 0, (0, 0, 0, 0, 0)), (.putfield 103, (5, 1, 0, 0, 0)), (.aload_n 0, (0, 0, 0, 0, 0)), (.iconst (-1), (0, 0, 0, (-1), 0)), (.putfield 9, (5, 2, 0, 0, 0)), (.aload_n 0, (0, 0, 0, 0, 0)), (.iconst 0, (0, 0, 0, 0, 0)), (.putfield 106, (5, 8, 0, 0, 0)), (.aload_n 0, (0, 0, 0, 0, 0)), (.sipush 258, (0, 0, 0, 258, 0)), (.putfield 39, (5, 6, 0, 0, 0)), (.aload_n 0, (0, 0, 0, 0, 0))] [] (by decide +kernel) rfl trivial ?_
  obtain ⟨x1, ex1, hf⟩ := bnd_s hf
  refine m_B_cg (ls' := [some (mR (5, 0, 19)), some (mR (8, 0, sd))]) (st' := [mR (5, 0, 19)]) (S' := (L, x1, J, m_up R 19 4 (some (8, 0, sd)))) (by first | with_reducible rfl | rw [ex1]) (by first | with_reducible rfl | rw [ex1]) (by first | with_reducible rfl | rw [ex1]) ?_
  obtain ⟨r2, hc2, hf⟩ := bnd_o hf
  refine b_cV (as := []) (st := []) (by decide +kernel) k_5_88 n_Reader_advance rfl (by decide) v_Reader_advance (C_Reader_advance sd x1 J (rf_t hR) rfl hqd hc2) (Nat.le_of_ble_eq_true rfl) (by decide) rfl rfl (fun _ h => h) ?_
  show m_B G (m_rm 7 0 0) M_Reader_begin Q 0 0 36 [some (mR (5, 0, 19)), some (mR (8, 0, sd))] [] (L, r2, J, m_up R 19 4 (some (8, 0, sd)))
  cases hf
  exact b_vret (by decide +kernel) rfl hk
theorem C_Reader_begin {G : MG} {L : List (Nat × Nat)} {R : Nat → Nat → Option MRef} (sd : Nat) (I : MI) (J : MJ) (hR : RF R) (hqd : sd = 3 ∨ sd = 11) {r : MI} (hf : F_Reader_begin sd I = some r) : m_met G 7 0 0 y_Reader_begin M_Reader_begin [mR (5, 0, 19), mR (8, 0, sd)] (L, I, J, R) (m_is (none) (L, r, J, m_up R 19 4 (some (8, 0, sd)))) :=
  m_met_in n_Reader_begin (plainFor_of_name (by decide)) (by decide) (Nat.le_of_ble_eq_true rfl) (ls := [some (mR (5, 0, 19)), some (mR (8, 0, sd))]) rfl (W_Reader_begin sd I J hR hqd hf ⟨rfl, rfl⟩)
noncomputable def F_Reader_readSlope_174 (sd : Nat) (I : MI) (v2 : Int32) (v3 : Int32) : Option ((Int32 × MI) ⊕ ((MI) ⊕ (Int32 × MI))) :=
  if v3 = (0 : Int32) then (some (.inr (.inr ((0 : Int32), I)))) else ((F_Reader_need sd I (59 : Int32)).bind fun r2 => if r2.1 = (0 : Int32) then (some (.inr (.inr ((0 : Int32), r2.2)))) else (some (.inl ((v2 + 1 : Int32), m_up r2.2 sd 0 ((r2.2 sd 0) + (1 : Int32))))))
set_option maxRecDepth 100000 in
set_option maxHeartbeats 400000 in
theorem W_Reader_readSlope_174 {G : MG} {Q : Option MV → MS → Prop} {L : List (Nat × Nat)} {R : Nat → Nat → Option MRef} (sd : Nat) (I : MI) (J : MJ) (v2 : Int32) (v3 : Int32) (hR : RF R) (hqd : sd = 3 ∨ sd = 11) {r : (Int32 × MI) ⊕ ((MI) ⊕ (Int32 × MI))} (hf : F_Reader_readSlope_174 sd I v2 v3 = some r) (hk : (Sum.elim (fun s : Int32 × MI => m_B G (m_rm 70 0 0) M_Reader_readSlope Q 0 0 25 [some (mR (5, 0, 19)), some (mR (8, 0, sd)), some (mI s.1), none] [] (L, s.2, J, (m_up R 19 4 (some (8, 0, sd))))) (Sum.elim (fun s : MI => m_B G (m_rm 70 0 0) M_Reader_readSlope Q 0 0 205 [some (mR (5, 0, 19)), none, none, none] [] (L, s, J, (m_up R 19 4 (some (8, 0, sd))))) (fun r : Int32 × MI => Q (some (mI r.1)) (L, r.2, J, m_up R 19 4 (some (8, 0, sd)))))) r) : m_B G (m_rm 70 0 0) M_Reader_readSlope Q 0 0 174 [some (mR (5, 0, 19)), some (mR (8, 0, sd)), some (mI v2), some (mI v3)] [] (L, I, J, (m_up R 19 4 (some (8, 0, sd)))) := by
  unfold F_Reader_readSlope_174 at hf
  refine b_blk (pc' := 175) (ls' := [some (mR (5, 0, 19)), some (mR (8, 0, sd)), some (mI v2), some (mI v3)]) (st' := [mI v3]) (S' := (L, I, J, (m_up R 19 4 (some (8, 0, sd))))) (P := True) [(.iload_n 3, (0, 0, 0, 0, 0))] [] (by decide +kernel) rfl trivial ?_
  refine b_if_eq (off := 12) (tgt := 187) (by decide +kernel) (by decide) (fun h1 => ?_) (fun h1 => ?_)
  · have hf := if_t h1 hf
    refine b_blk (pc' := 188) (ls' := [some (mR (5, 0, 19)), some (mR (8, 0, sd)), some (mI v2), some (mI v3)]) (st' := [mI 0]) (S' := (L, I, J, (m_up R 19 4 (some (8, 0, sd))))) (P := True) [(.iconst 0, (0, 0, 0, 0, 0))] [] (by decide +kernel) rfl trivial ?_
    cases hf
    exact b_zret (by decide +kernel) rfl (by decide) hk
  · have hf := if_f h1 hf
    refine b_blk (pc' := 181) (ls' := [some (mR (5, 0, 19)), some (mR (8, 0, sd)), some (mI v2), some (mI v3)]) (st' := [mI 59, mR (5, 0, 19)]) (S' := (L, I, J, (m_up R 19 4 (some (8, 0, sd))))) (P := True) [(.aload_n 0, (0, 0, 0, 0, 0)), (.bipush 59, (0, 0, 0, 59, 0))] [] (by decide +kernel) rfl trivial ?_
    obtain ⟨r2, hc2, hf⟩ := bnd_o hf
    refine b_cV (as := [mI 59]) (st := []) (by decide +kernel) k_5_73 n_Reader_need rfl (by decide) v_Reader_need (C_Reader_need sd I J (59 : Int32) (rf_t hR) rfl hqd hc2) (Nat.le_of_ble_eq_true rfl) (by decide) rfl rfl (fun _ h => h) ?_
    show m_B G (m_rm 70 0 0) M_Reader_readSlope Q 0 0 184 [some (mR (5, 0, 19)), some (mR (8, 0, sd)), some (mI v2), some (mI v3)] [mI r2.1] (L, r2.2, J, (m_up R 19 4 (some (8, 0, sd))))
    refine b_if_ne (off := 5) (tgt := 189) (by decide +kernel) (by decide) (fun h3 => ?_) (fun h3 => ?_)
    · have hf := if_f h3 hf
      refine b_blk (pc' := 25) (ls' := [some (mR (5, 0, 19)), some (mR (8, 0, sd)), some (mI (v2 + 1)), some (mI v3)]) (st' := []) (S' := (L, m_up r2.2 sd 0 ((r2.2 sd 0) + (1 : Int32)), J, (m_up R 19 4 (some (8, 0, sd))))) (P := True) [(.aload_n 1, (0, 0, 0, 0, 0)), (.dup, (0, 0, 0, 0, 0)), (.getfield 36, (8, 0, 0, 0, 0)), (.iconst 1, (0, 0, 0, 1, 0)), (.iadd, (0, 0, 0, 0, 0)), (.putfield 36, (8, 0, 0, 0, 0)), (.iinc 2 1, (0, 0, 0, 1, 0)), (.goto (-177), (0, 25, 0, 0, 0))] [] (by decide +kernel) rfl trivial ?_
      refine b_frg 3 ?_
      cases hf
      exact hk
    · have hf := if_t h3 hf
      refine b_blk (pc' := 188) (ls' := [some (mR (5, 0, 19)), some (mR (8, 0, sd)), some (mI v2), some (mI v3)]) (st' := [mI 0]) (S' := (L, r2.2, J, (m_up R 19 4 (some (8, 0, sd))))) (P := True) [(.iconst 0, (0, 0, 0, 0, 0))] [] (by decide +kernel) rfl trivial ?_
      cases hf
      exact b_zret (by decide +kernel) rfl (by decide) hk
noncomputable def F_Reader_readSlope_59 (sd : Nat) (I : MI) (v2 : Int32) (y0 : Int32) : Option ((Int32 × MI) ⊕ ((MI) ⊕ (Int32 × MI))) :=
  if y0 = 2 then ((F_Reader_steepLine sd I).bind fun r2 => F_Reader_readSlope_174 sd r2.2 v2 r2.1) else (if y0 = 3 then ((F_Reader_ironLine sd I).bind fun r4 => F_Reader_readSlope_174 sd r4.2 v2 r4.1) else (if y0 = 4 then ((F_Reader_fenceLine sd I).bind fun r6 => F_Reader_readSlope_174 sd r6.2 v2 r6.1) else (if y0 = 5 then ((F_Reader_wrong sd I (1 : Int32) (I 19 7)).bind fun r8 => F_Reader_readSlope_174 sd r8.2 v2 r8.1) else (if y0 = 6 then ((F_Reader_wrong sd I (1 : Int32) (I 19 7)).bind fun r10 => F_Reader_readSlope_174 sd r10.2 v2 r10.1) else (if y0 = 7 then ((F_Reader_stakeLine sd I).bind fun r12 => F_Reader_readSlope_174 sd r12.2 v2 r12.1) else (if y0 = 8 then ((F_Reader_walksLine sd I).bind fun r14 => F_Reader_readSlope_174 sd r14.2 v2 r14.1) else (if y0 = 9 then ((F_Reader_rootsLine sd I).bind fun r16 => F_Reader_readSlope_174 sd r16.2 v2 r16.1) else (if y0 = 10 then ((F_Reader_tideLine sd I).bind fun r18 => F_Reader_readSlope_174 sd r18.2 v2 r18.1) else ((F_Reader_wrong sd I (1 : Int32) (I 19 7)).bind fun r19 => F_Reader_readSlope_174 sd r19.2 v2 r19.1)))))))))
set_option maxRecDepth 100000 in
set_option maxHeartbeats 400000 in
theorem W_Reader_readSlope_59 {G : MG} {Q : Option MV → MS → Prop} {L : List (Nat × Nat)} {R : Nat → Nat → Option MRef} (sd : Nat) (I : MI) (J : MJ) (v2 : Int32) (y0 : Int32) (hR : RF R) (hqd : sd = 3 ∨ sd = 11) {r : (Int32 × MI) ⊕ ((MI) ⊕ (Int32 × MI))} (hf : F_Reader_readSlope_59 sd I v2 y0 = some r) (hk : (Sum.elim (fun s : Int32 × MI => m_B G (m_rm 70 0 0) M_Reader_readSlope Q 0 0 25 [some (mR (5, 0, 19)), some (mR (8, 0, sd)), some (mI s.1), none] [] (L, s.2, J, (m_up R 19 4 (some (8, 0, sd))))) (Sum.elim (fun s : MI => m_B G (m_rm 70 0 0) M_Reader_readSlope Q 0 0 205 [some (mR (5, 0, 19)), none, none, none] [] (L, s, J, (m_up R 19 4 (some (8, 0, sd))))) (fun r : Int32 × MI => Q (some (mI r.1)) (L, r.2, J, m_up R 19 4 (some (8, 0, sd)))))) r) : m_B G (m_rm 70 0 0) M_Reader_readSlope Q 0 0 59 [some (mR (5, 0, 19)), some (mR (8, 0, sd)), some (mI v2), none] [mI y0] (L, I, J, (m_up R 19 4 (some (8, 0, sd)))) := by
  unfold F_Reader_readSlope_59 at hf
  by_cases h1 : y0 = 2
  · refine b_tswV (tgt := 108) (off := 49) (lo := 2) (hi := 10) (dflt := 105) (offs := #[49, 57, 65, 105, 105, 73, 81, 89, 97]) (len := 49) h1 (by decide +kernel) (by decide) (by decide) (by decide) (by decide) ?_
    have hf := if_t h1 hf
    refine b_blk (pc' := 109) (ls' := [some (mR (5, 0, 19)), some (mR (8, 0, sd)), some (mI v2), none]) (st' := [mR (5, 0, 19)]) (S' := (L, I, J, (m_up R 19 4 (some (8, 0, sd))))) (P := True) [(.aload_n 0, (0, 0, 0, 0, 0))] [] (by decide +kernel) rfl trivial ?_
    obtain ⟨r2, hc2, hf⟩ := bnd_o hf
    refine b_cV (as := []) (st := []) (by decide +kernel) k_5_45 n_Reader_steepLine rfl (by decide) v_Reader_steepLine (C_Reader_steepLine sd I J (rf_t hR) rfl hqd hc2) (Nat.le_of_ble_eq_true rfl) (by decide) rfl rfl (fun _ h => h) ?_
    show m_B G (m_rm 70 0 0) M_Reader_readSlope Q 0 0 112 [some (mR (5, 0, 19)), some (mR (8, 0, sd)), some (mI v2), none] [mI r2.1] (L, r2.2, J, (m_up R 19 4 (some (8, 0, sd))))
    refine b_blk (pc' := 174) (ls' := [some (mR (5, 0, 19)), some (mR (8, 0, sd)), some (mI v2), some (mI r2.1)]) (st' := []) (S' := (L, r2.2, J, (m_up R 19 4 (some (8, 0, sd))))) (P := True) [(.istore_n 3, (0, 0, 0, 0, 0)), (.goto 61, (0, 174, 0, 0, 0))] [] (by decide +kernel) rfl trivial ?_
    exact m_B_cg rfl rfl rfl (W_Reader_readSlope_174 sd r2.2 J v2 r2.1 hR hqd hf hk)
  have hf := if_f h1 hf
  by_cases h3 : y0 = 3
  · refine b_tswV (tgt := 116) (off := 57) (lo := 2) (hi := 10) (dflt := 105) (offs := #[49, 57, 65, 105, 105, 73, 81, 89, 97]) (len := 49) h3 (by decide +kernel) (by decide) (by decide) (by decide) (by decide) ?_
    have hf := if_t h3 hf
    refine b_blk (pc' := 117) (ls' := [some (mR (5, 0, 19)), some (mR (8, 0, sd)), some (mI v2), none]) (st' := [mR (5, 0, 19)]) (S' := (L, I, J, (m_up R 19 4 (some (8, 0, sd))))) (P := True) [(.aload_n 0, (0, 0, 0, 0, 0))] [] (by decide +kernel) rfl trivial ?_
    obtain ⟨r4, hc4, hf⟩ := bnd_o hf
    refine b_cV (as := []) (st := []) (by decide +kernel) k_5_48 n_Reader_ironLine rfl (by decide) v_Reader_ironLine (C_Reader_ironLine sd I J (rf_t hR) rfl hqd hc4) (Nat.le_of_ble_eq_true rfl) (by decide) rfl rfl (fun _ h => h) ?_
    show m_B G (m_rm 70 0 0) M_Reader_readSlope Q 0 0 120 [some (mR (5, 0, 19)), some (mR (8, 0, sd)), some (mI v2), none] [mI r4.1] (L, r4.2, J, (m_up R 19 4 (some (8, 0, sd))))
    refine b_blk (pc' := 174) (ls' := [some (mR (5, 0, 19)), some (mR (8, 0, sd)), some (mI v2), some (mI r4.1)]) (st' := []) (S' := (L, r4.2, J, (m_up R 19 4 (some (8, 0, sd))))) (P := True) [(.istore_n 3, (0, 0, 0, 0, 0)), (.goto 53, (0, 174, 0, 0, 0))] [] (by decide +kernel) rfl trivial ?_
    exact m_B_cg rfl rfl rfl (W_Reader_readSlope_174 sd r4.2 J v2 r4.1 hR hqd hf hk)
  have hf := if_f h3 hf
  by_cases h5 : y0 = 4
  · refine b_tswV (tgt := 124) (off := 65) (lo := 2) (hi := 10) (dflt := 105) (offs := #[49, 57, 65, 105, 105, 73, 81, 89, 97]) (len := 49) h5 (by decide +kernel) (by decide) (by decide) (by decide) (by decide) ?_
    have hf := if_t h5 hf
    refine b_blk (pc' := 125) (ls' := [some (mR (5, 0, 19)), some (mR (8, 0, sd)), some (mI v2), none]) (st' := [mR (5, 0, 19)]) (S' := (L, I, J, (m_up R 19 4 (some (8, 0, sd))))) (P := True) [(.aload_n 0, (0, 0, 0, 0, 0))] [] (by decide +kernel) rfl trivial ?_
    obtain ⟨r6, hc6, hf⟩ := bnd_o hf
    refine b_cV (as := []) (st := []) (by decide +kernel) k_5_51 n_Reader_fenceLine rfl (by decide) v_Reader_fenceLine (C_Reader_fenceLine sd I J (rf_t hR) rfl hqd hc6) (Nat.le_of_ble_eq_true rfl) (by decide) rfl rfl (fun _ h => h) ?_
    show m_B G (m_rm 70 0 0) M_Reader_readSlope Q 0 0 128 [some (mR (5, 0, 19)), some (mR (8, 0, sd)), some (mI v2), none] [mI r6.1] (L, r6.2, J, (m_up R 19 4 (some (8, 0, sd))))
    refine b_blk (pc' := 174) (ls' := [some (mR (5, 0, 19)), some (mR (8, 0, sd)), some (mI v2), some (mI r6.1)]) (st' := []) (S' := (L, r6.2, J, (m_up R 19 4 (some (8, 0, sd))))) (P := True) [(.istore_n 3, (0, 0, 0, 0, 0)), (.goto 45, (0, 174, 0, 0, 0))] [] (by decide +kernel) rfl trivial ?_
    exact m_B_cg rfl rfl rfl (W_Reader_readSlope_174 sd r6.2 J v2 r6.1 hR hqd hf hk)
  have hf := if_f h5 hf
  by_cases h7 : y0 = 5
  · refine b_tswV (tgt := 164) (off := 105) (lo := 2) (hi := 10) (dflt := 105) (offs := #[49, 57, 65, 105, 105, 73, 81, 89, 97]) (len := 49) h7 (by decide +kernel) (by decide) (by decide) (by decide) (by decide) ?_
    have hf := if_t h7 hf
    refine b_blk (pc' := 170) (ls' := [some (mR (5, 0, 19)), some (mR (8, 0, sd)), some (mI v2), none]) (st' := [mI (I 19 7), mI 1, mR (5, 0, 19)]) (S' := (L, I, J, (m_up R 19 4 (some (8, 0, sd))))) (P := True) [(.aload_n 0, (0, 0, 0, 0, 0)), (.iconst 1, (0, 0, 0, 1, 0)), (.aload_n 0, (0, 0, 0, 0, 0)), (.getfield 66, (5, 7, 0, 0, 0))] [] (by decide +kernel) rfl trivial ?_
    obtain ⟨r8, hc8, hf⟩ := bnd_o hf
    refine b_cV (as := [mI 1, mI (I 19 7)]) (st := []) (by decide +kernel) k_5_69 n_Reader_wrong rfl (by decide) v_Reader_wrong (C_Reader_wrong sd I J (1 : Int32) (I 19 7) (rf_t hR) rfl hqd hc8) (Nat.le_of_ble_eq_true rfl) (by decide) rfl rfl (fun _ h => h) ?_
    show m_B G (m_rm 70 0 0) M_Reader_readSlope Q 0 0 173 [some (mR (5, 0, 19)), some (mR (8, 0, sd)), some (mI v2), none] [mI r8.1] (L, r8.2, J, (m_up R 19 4 (some (8, 0, sd))))
    refine b_blk (pc' := 174) (ls' := [some (mR (5, 0, 19)), some (mR (8, 0, sd)), some (mI v2), some (mI r8.1)]) (st' := []) (S' := (L, r8.2, J, (m_up R 19 4 (some (8, 0, sd))))) (P := True) [(.istore_n 3, (0, 0, 0, 0, 0))] [] (by decide +kernel) rfl trivial ?_
    exact m_B_cg rfl rfl rfl (W_Reader_readSlope_174 sd r8.2 J v2 r8.1 hR hqd hf hk)
  have hf := if_f h7 hf
  by_cases h9 : y0 = 6
  · refine b_tswV (tgt := 164) (off := 105) (lo := 2) (hi := 10) (dflt := 105) (offs := #[49, 57, 65, 105, 105, 73, 81, 89, 97]) (len := 49) h9 (by decide +kernel) (by decide) (by decide) (by decide) (by decide) ?_
    have hf := if_t h9 hf
    refine b_blk (pc' := 170) (ls' := [some (mR (5, 0, 19)), some (mR (8, 0, sd)), some (mI v2), none]) (st' := [mI (I 19 7), mI 1, mR (5, 0, 19)]) (S' := (L, I, J, (m_up R 19 4 (some (8, 0, sd))))) (P := True) [(.aload_n 0, (0, 0, 0, 0, 0)), (.iconst 1, (0, 0, 0, 1, 0)), (.aload_n 0, (0, 0, 0, 0, 0)), (.getfield 66, (5, 7, 0, 0, 0))] [] (by decide +kernel) rfl trivial ?_
    obtain ⟨r10, hc10, hf⟩ := bnd_o hf
    refine b_cV (as := [mI 1, mI (I 19 7)]) (st := []) (by decide +kernel) k_5_69 n_Reader_wrong rfl (by decide) v_Reader_wrong (C_Reader_wrong sd I J (1 : Int32) (I 19 7) (rf_t hR) rfl hqd hc10) (Nat.le_of_ble_eq_true rfl) (by decide) rfl rfl (fun _ h => h) ?_
    show m_B G (m_rm 70 0 0) M_Reader_readSlope Q 0 0 173 [some (mR (5, 0, 19)), some (mR (8, 0, sd)), some (mI v2), none] [mI r10.1] (L, r10.2, J, (m_up R 19 4 (some (8, 0, sd))))
    refine b_blk (pc' := 174) (ls' := [some (mR (5, 0, 19)), some (mR (8, 0, sd)), some (mI v2), some (mI r10.1)]) (st' := []) (S' := (L, r10.2, J, (m_up R 19 4 (some (8, 0, sd))))) (P := True) [(.istore_n 3, (0, 0, 0, 0, 0))] [] (by decide +kernel) rfl trivial ?_
    exact m_B_cg rfl rfl rfl (W_Reader_readSlope_174 sd r10.2 J v2 r10.1 hR hqd hf hk)
  have hf := if_f h9 hf
  by_cases h11 : y0 = 7
  · refine b_tswV (tgt := 132) (off := 73) (lo := 2) (hi := 10) (dflt := 105) (offs := #[49, 57, 65, 105, 105, 73, 81, 89, 97]) (len := 49) h11 (by decide +kernel) (by decide) (by decide) (by decide) (by decide) ?_
    have hf := if_t h11 hf
    refine b_blk (pc' := 133) (ls' := [some (mR (5, 0, 19)), some (mR (8, 0, sd)), some (mI v2), none]) (st' := [mR (5, 0, 19)]) (S' := (L, I, J, (m_up R 19 4 (some (8, 0, sd))))) (P := True) [(.aload_n 0, (0, 0, 0, 0, 0))] [] (by decide +kernel) rfl trivial ?_
    obtain ⟨r12, hc12, hf⟩ := bnd_o hf
    refine b_cV (as := []) (st := []) (by decide +kernel) k_5_54 n_Reader_stakeLine rfl (by decide) v_Reader_stakeLine (C_Reader_stakeLine sd I J (rf_t hR) rfl hqd hc12) (Nat.le_of_ble_eq_true rfl) (by decide) rfl rfl (fun _ h => h) ?_
    show m_B G (m_rm 70 0 0) M_Reader_readSlope Q 0 0 136 [some (mR (5, 0, 19)), some (mR (8, 0, sd)), some (mI v2), none] [mI r12.1] (L, r12.2, J, (m_up R 19 4 (some (8, 0, sd))))
    refine b_blk (pc' := 174) (ls' := [some (mR (5, 0, 19)), some (mR (8, 0, sd)), some (mI v2), some (mI r12.1)]) (st' := []) (S' := (L, r12.2, J, (m_up R 19 4 (some (8, 0, sd))))) (P := True) [(.istore_n 3, (0, 0, 0, 0, 0)), (.goto 37, (0, 174, 0, 0, 0))] [] (by decide +kernel) rfl trivial ?_
    exact m_B_cg rfl rfl rfl (W_Reader_readSlope_174 sd r12.2 J v2 r12.1 hR hqd hf hk)
  have hf := if_f h11 hf
  by_cases h13 : y0 = 8
  · refine b_tswV (tgt := 140) (off := 81) (lo := 2) (hi := 10) (dflt := 105) (offs := #[49, 57, 65, 105, 105, 73, 81, 89, 97]) (len := 49) h13 (by decide +kernel) (by decide) (by decide) (by decide) (by decide) ?_
    have hf := if_t h13 hf
    refine b_blk (pc' := 141) (ls' := [some (mR (5, 0, 19)), some (mR (8, 0, sd)), some (mI v2), none]) (st' := [mR (5, 0, 19)]) (S' := (L, I, J, (m_up R 19 4 (some (8, 0, sd))))) (P := True) [(.aload_n 0, (0, 0, 0, 0, 0))] [] (by decide +kernel) rfl trivial ?_
    obtain ⟨r14, hc14, hf⟩ := bnd_o hf
    refine b_cV (as := []) (st := []) (by decide +kernel) k_5_57 n_Reader_walksLine rfl (by decide) v_Reader_walksLine (C_Reader_walksLine sd I J (rf_t hR) rfl hqd hc14) (Nat.le_of_ble_eq_true rfl) (by decide) rfl rfl (fun _ h => h) ?_
    show m_B G (m_rm 70 0 0) M_Reader_readSlope Q 0 0 144 [some (mR (5, 0, 19)), some (mR (8, 0, sd)), some (mI v2), none] [mI r14.1] (L, r14.2, J, (m_up R 19 4 (some (8, 0, sd))))
    refine b_blk (pc' := 174) (ls' := [some (mR (5, 0, 19)), some (mR (8, 0, sd)), some (mI v2), some (mI r14.1)]) (st' := []) (S' := (L, r14.2, J, (m_up R 19 4 (some (8, 0, sd))))) (P := True) [(.istore_n 3, (0, 0, 0, 0, 0)), (.goto 29, (0, 174, 0, 0, 0))] [] (by decide +kernel) rfl trivial ?_
    exact m_B_cg rfl rfl rfl (W_Reader_readSlope_174 sd r14.2 J v2 r14.1 hR hqd hf hk)
  have hf := if_f h13 hf
  by_cases h15 : y0 = 9
  · refine b_tswV (tgt := 148) (off := 89) (lo := 2) (hi := 10) (dflt := 105) (offs := #[49, 57, 65, 105, 105, 73, 81, 89, 97]) (len := 49) h15 (by decide +kernel) (by decide) (by decide) (by decide) (by decide) ?_
    have hf := if_t h15 hf
    refine b_blk (pc' := 149) (ls' := [some (mR (5, 0, 19)), some (mR (8, 0, sd)), some (mI v2), none]) (st' := [mR (5, 0, 19)]) (S' := (L, I, J, (m_up R 19 4 (some (8, 0, sd))))) (P := True) [(.aload_n 0, (0, 0, 0, 0, 0))] [] (by decide +kernel) rfl trivial ?_
    obtain ⟨r16, hc16, hf⟩ := bnd_o hf
    refine b_cV (as := []) (st := []) (by decide +kernel) k_5_60 n_Reader_rootsLine rfl (by decide) v_Reader_rootsLine (C_Reader_rootsLine sd I J (rf_t hR) rfl hqd hc16) (Nat.le_of_ble_eq_true rfl) (by decide) rfl rfl (fun _ h => h) ?_
    show m_B G (m_rm 70 0 0) M_Reader_readSlope Q 0 0 152 [some (mR (5, 0, 19)), some (mR (8, 0, sd)), some (mI v2), none] [mI r16.1] (L, r16.2, J, (m_up R 19 4 (some (8, 0, sd))))
    refine b_blk (pc' := 174) (ls' := [some (mR (5, 0, 19)), some (mR (8, 0, sd)), some (mI v2), some (mI r16.1)]) (st' := []) (S' := (L, r16.2, J, (m_up R 19 4 (some (8, 0, sd))))) (P := True) [(.istore_n 3, (0, 0, 0, 0, 0)), (.goto 21, (0, 174, 0, 0, 0))] [] (by decide +kernel) rfl trivial ?_
    exact m_B_cg rfl rfl rfl (W_Reader_readSlope_174 sd r16.2 J v2 r16.1 hR hqd hf hk)
  have hf := if_f h15 hf
  by_cases h17 : y0 = 10
  · refine b_tswV (tgt := 156) (off := 97) (lo := 2) (hi := 10) (dflt := 105) (offs := #[49, 57, 65, 105, 105, 73, 81, 89, 97]) (len := 49) h17 (by decide +kernel) (by decide) (by decide) (by decide) (by decide) ?_
    have hf := if_t h17 hf
    refine b_blk (pc' := 157) (ls' := [some (mR (5, 0, 19)), some (mR (8, 0, sd)), some (mI v2), none]) (st' := [mR (5, 0, 19)]) (S' := (L, I, J, (m_up R 19 4 (some (8, 0, sd))))) (P := True) [(.aload_n 0, (0, 0, 0, 0, 0))] [] (by decide +kernel) rfl trivial ?_
    obtain ⟨r18, hc18, hf⟩ := bnd_o hf
    refine b_cV (as := []) (st := []) (by decide +kernel) k_5_63 n_Reader_tideLine rfl (by decide) v_Reader_tideLine (C_Reader_tideLine sd I J (rf_t hR) rfl hqd hc18) (Nat.le_of_ble_eq_true rfl) (by decide) rfl rfl (fun _ h => h) ?_
    show m_B G (m_rm 70 0 0) M_Reader_readSlope Q 0 0 160 [some (mR (5, 0, 19)), some (mR (8, 0, sd)), some (mI v2), none] [mI r18.1] (L, r18.2, J, (m_up R 19 4 (some (8, 0, sd))))
    refine b_blk (pc' := 174) (ls' := [some (mR (5, 0, 19)), some (mR (8, 0, sd)), some (mI v2), some (mI r18.1)]) (st' := []) (S' := (L, r18.2, J, (m_up R 19 4 (some (8, 0, sd))))) (P := True) [(.istore_n 3, (0, 0, 0, 0, 0)), (.goto 13, (0, 174, 0, 0, 0))] [] (by decide +kernel) rfl trivial ?_
    exact m_B_cg rfl rfl rfl (W_Reader_readSlope_174 sd r18.2 J v2 r18.1 hR hqd hf hk)
  have hf := if_f h17 hf
  refine b_tswD (tgt := 164) (lo := 2) (hi := 10) (dflt := 105) (offs := #[49, 57, 65, 105, 105, 73, 81, 89, 97]) (len := 49) (by decide +kernel) (by have q0 := lv_neT h1 (a := 2) (by decide); have q1 := lv_neT h3 (a := 3) (by decide); have q2 := lv_neT h5 (a := 4) (by decide); have q3 := lv_neT h7 (a := 5) (by decide); have q4 := lv_neT h9 (a := 6) (by decide); have q5 := lv_neT h11 (a := 7) (by decide); have q6 := lv_neT h13 (a := 8) (by decide); have q7 := lv_neT h15 (a := 9) (by decide); have q8 := lv_neT h17 (a := 10) (by decide); omega) (by decide) ?_
  refine b_blk (pc' := 170) (ls' := [some (mR (5, 0, 19)), some (mR (8, 0, sd)), some (mI v2), none]) (st' := [mI (I 19 7), mI 1, mR (5, 0, 19)]) (S' := (L, I, J, (m_up R 19 4 (some (8, 0, sd))))) (P := True) [(.aload_n 0, (0, 0, 0, 0, 0)), (.iconst 1, (0, 0, 0, 1, 0)), (.aload_n 0, (0, 0, 0, 0, 0)), (.getfield 66, (5, 7, 0, 0, 0))] [] (by decide +kernel) rfl trivial ?_
  obtain ⟨r19, hc19, hf⟩ := bnd_o hf
  refine b_cV (as := [mI 1, mI (I 19 7)]) (st := []) (by decide +kernel) k_5_69 n_Reader_wrong rfl (by decide) v_Reader_wrong (C_Reader_wrong sd I J (1 : Int32) (I 19 7) (rf_t hR) rfl hqd hc19) (Nat.le_of_ble_eq_true rfl) (by decide) rfl rfl (fun _ h => h) ?_
  show m_B G (m_rm 70 0 0) M_Reader_readSlope Q 0 0 173 [some (mR (5, 0, 19)), some (mR (8, 0, sd)), some (mI v2), none] [mI r19.1] (L, r19.2, J, (m_up R 19 4 (some (8, 0, sd))))
  refine b_blk (pc' := 174) (ls' := [some (mR (5, 0, 19)), some (mR (8, 0, sd)), some (mI v2), some (mI r19.1)]) (st' := []) (S' := (L, r19.2, J, (m_up R 19 4 (some (8, 0, sd))))) (P := True) [(.istore_n 3, (0, 0, 0, 0, 0))] [] (by decide +kernel) rfl trivial ?_
  exact m_B_cg rfl rfl rfl (W_Reader_readSlope_174 sd r19.2 J v2 r19.1 hR hqd hf hk)
noncomputable def F_Reader_readSlope_25 (sd : Nat) (I : MI) (v2 : Int32) : Option ((Int32 × MI) ⊕ ((MI) ⊕ (Int32 × MI))) :=
  if (80 : Int32) ≤ v2 then (some (.inr (.inl I))) else (if (I 19 6) = (258 : Int32) then (some (.inr (.inl I))) else (if (I 19 6) = (256 : Int32) then (F_Reader_readSlope_59 sd I v2 (I 19 9)) else (F_Reader_readSlope_59 sd I v2 (-1 : Int32))))
set_option maxRecDepth 100000 in
set_option maxHeartbeats 400000 in
theorem W_Reader_readSlope_25 {G : MG} {Q : Option MV → MS → Prop} {L : List (Nat × Nat)} {R : Nat → Nat → Option MRef} (sd : Nat) (I : MI) (J : MJ) (v2 : Int32) (hR : RF R) (hqd : sd = 3 ∨ sd = 11) {r : (Int32 × MI) ⊕ ((MI) ⊕ (Int32 × MI))} (hf : F_Reader_readSlope_25 sd I v2 = some r) (hk : (Sum.elim (fun s : Int32 × MI => m_B G (m_rm 70 0 0) M_Reader_readSlope Q 0 0 25 [some (mR (5, 0, 19)), some (mR (8, 0, sd)), some (mI s.1), none] [] (L, s.2, J, (m_up R 19 4 (some (8, 0, sd))))) (Sum.elim (fun s : MI => m_B G (m_rm 70 0 0) M_Reader_readSlope Q 0 0 205 [some (mR (5, 0, 19)), none, none, none] [] (L, s, J, (m_up R 19 4 (some (8, 0, sd))))) (fun r : Int32 × MI => Q (some (mI r.1)) (L, r.2, J, m_up R 19 4 (some (8, 0, sd)))))) r) : m_B G (m_rm 70 0 0) M_Reader_readSlope Q 0 0 25 [some (mR (5, 0, 19)), some (mR (8, 0, sd)), some (mI v2), none] [] (L, I, J, (m_up R 19 4 (some (8, 0, sd)))) := by
  unfold F_Reader_readSlope_25 at hf
  refine b_blk (pc' := 28) (ls' := [some (mR (5, 0, 19)), some (mR (8, 0, sd)), some (mI v2), none]) (st' := [mI 80, mI v2]) (S' := (L, I, J, (m_up R 19 4 (some (8, 0, sd))))) (P := True) [(.iload_n 2, (0, 0, 0, 0, 0)), (.bipush 80, (0, 0, 0, 80, 0))] [] (by decide +kernel) rfl trivial ?_
  refine b_icmp_ge (off := 177) (tgt := 205) (by decide +kernel) (by decide) (fun h1 => ?_) (fun h1 => ?_)
  · have hf := if_t h1 hf
    refine b_frg 1 ?_
    refine b_frg 2 ?_
    cases hf
    exact hk
  · have hf := if_f h1 hf
    refine b_blk (pc' := 38) (ls' := [some (mR (5, 0, 19)), some (mR (8, 0, sd)), some (mI v2), none]) (st' := [mI 258, mI (I 19 6)]) (S' := (L, I, J, (m_up R 19 4 (some (8, 0, sd))))) (P := True) [(.aload_n 0, (0, 0, 0, 0, 0)), (.getfield 39, (5, 6, 0, 0, 0)), (.sipush 258, (0, 0, 0, 258, 0))] [] (by decide +kernel) rfl trivial ?_
    refine b_icmp_eq (off := 167) (tgt := 205) (by decide +kernel) (by decide) (fun h2 => ?_) (fun h2 => ?_)
    · have hf := if_t h2 hf
      refine b_frg 1 ?_
      refine b_frg 2 ?_
      cases hf
      exact hk
    · have hf := if_f h2 hf
      refine b_blk (pc' := 48) (ls' := [some (mR (5, 0, 19)), some (mR (8, 0, sd)), some (mI v2), none]) (st' := [mI 256, mI (I 19 6)]) (S' := (L, I, J, (m_up R 19 4 (some (8, 0, sd))))) (P := True) [(.aload_n 0, (0, 0, 0, 0, 0)), (.getfield 39, (5, 6, 0, 0, 0)), (.sipush 256, (0, 0, 0, 256, 0))] [] (by decide +kernel) rfl trivial ?_
      refine b_icmp_ne (off := 10) (tgt := 58) (by decide +kernel) (by decide) (fun h3 => ?_) (fun h3 => ?_)
      · have hf := if_f h3 hf
        refine b_blk (pc' := 59) (ls' := [some (mR (5, 0, 19)), some (mR (8, 0, sd)), some (mI v2), none]) (st' := [mI (-1)]) (S' := (L, I, J, (m_up R 19 4 (some (8, 0, sd))))) (P := True) [(.iconst (-1), (0, 0, 0, (-1), 0))] [] (by decide +kernel) rfl trivial ?_
        exact m_B_cg rfl rfl rfl (W_Reader_readSlope_59 sd I J v2 (-1 : Int32) hR hqd hf hk)
      · have hf := if_t h3 hf
        refine b_blk (pc' := 59) (ls' := [some (mR (5, 0, 19)), some (mR (8, 0, sd)), some (mI v2), none]) (st' := [mI (I 19 9)]) (S' := (L, I, J, (m_up R 19 4 (some (8, 0, sd))))) (P := True) [(.aload_n 0, (0, 0, 0, 0, 0)), (.getfield 42, (5, 9, 0, 0, 0)), (.goto 4, (0, 59, 0, 0, 0))] [] (by decide +kernel) rfl trivial ?_
        exact m_B_cg rfl rfl rfl (W_Reader_readSlope_59 sd I J v2 (I 19 9) hR hqd hf hk)
noncomputable def F_Reader_readSlope_205 (sd : Nat) (I : MI) : Option (Int32 × MI) :=
  if (I 19 6) = (258 : Int32) then (some ((1 : Int32), I)) else ((F_Reader_wrong sd I (5 : Int32) (I 19 7)).bind fun r2 => if r2.1 = (0 : Int32) then (some ((0 : Int32), r2.2)) else (some ((1 : Int32), r2.2)))
set_option maxRecDepth 100000 in
set_option maxHeartbeats 400000 in
theorem W_Reader_readSlope_205 {G : MG} {Q : Option MV → MS → Prop} {L : List (Nat × Nat)} {R : Nat → Nat → Option MRef} (sd : Nat) (I : MI) (J : MJ) (hR : RF R) (hqd : sd = 3 ∨ sd = 11) {r : Int32 × MI} (hf : F_Reader_readSlope_205 sd I = some r) (hk : (fun r : Int32 × MI => Q (some (mI r.1)) (L, r.2, J, m_up R 19 4 (some (8, 0, sd)))) r) : m_B G (m_rm 70 0 0) M_Reader_readSlope Q 0 0 205 [some (mR (5, 0, 19)), none, none, none] [] (L, I, J, (m_up R 19 4 (some (8, 0, sd)))) := by
  unfold F_Reader_readSlope_205 at hf
  refine b_blk (pc' := 212) (ls' := [some (mR (5, 0, 19)), none, none, none]) (st' := [mI 258, mI (I 19 6)]) (S' := (L, I, J, (m_up R 19 4 (some (8, 0, sd))))) (P := True) [(.aload_n 0, (0, 0, 0, 0, 0)), (.getfield 39, (5, 6, 0, 0, 0)), (.sipush 258, (0, 0, 0, 258, 0))] [] (by decide +kernel) rfl trivial ?_
  refine b_icmp_eq (off := 15) (tgt := 227) (by decide +kernel) (by decide) (fun h1 => ?_) (fun h1 => ?_)
  · have hf := if_t h1 hf
    refine b_blk (pc' := 232) (ls' := [some (mR (5, 0, 19)), none, none, none]) (st' := [mI 1]) (S' := (L, I, J, (m_up R 19 4 (some (8, 0, sd))))) (P := True) [(.iconst 1, (0, 0, 0, 1, 0)), (.goto 4, (0, 232, 0, 0, 0))] [] (by decide +kernel) rfl trivial ?_
    cases hf
    exact b_zret (by decide +kernel) rfl (by decide) hk
  · have hf := if_f h1 hf
    refine b_blk (pc' := 221) (ls' := [some (mR (5, 0, 19)), none, none, none]) (st' := [mI (I 19 7), mI 5, mR (5, 0, 19)]) (S' := (L, I, J, (m_up R 19 4 (some (8, 0, sd))))) (P := True) [(.aload_n 0, (0, 0, 0, 0, 0)), (.iconst 5, (0, 0, 0, 5, 0)), (.aload_n 0, (0, 0, 0, 0, 0)), (.getfield 66, (5, 7, 0, 0, 0))] [] (by decide +kernel) rfl trivial ?_
    obtain ⟨r2, hc2, hf⟩ := bnd_o hf
    refine b_cV (as := [mI 5, mI (I 19 7)]) (st := []) (by decide +kernel) k_5_69 n_Reader_wrong rfl (by decide) v_Reader_wrong (C_Reader_wrong sd I J (5 : Int32) (I 19 7) (rf_t hR) rfl hqd hc2) (Nat.le_of_ble_eq_true rfl) (by decide) rfl rfl (fun _ h => h) ?_
    show m_B G (m_rm 70 0 0) M_Reader_readSlope Q 0 0 224 [some (mR (5, 0, 19)), none, none, none] [mI r2.1] (L, r2.2, J, (m_up R 19 4 (some (8, 0, sd))))
    refine b_if_eq (off := 7) (tgt := 231) (by decide +kernel) (by decide) (fun h3 => ?_) (fun h3 => ?_)
    · have hf := if_t h3 hf
      refine b_blk (pc' := 232) (ls' := [some (mR (5, 0, 19)), none, none, none]) (st' := [mI 0]) (S' := (L, r2.2, J, (m_up R 19 4 (some (8, 0, sd))))) (P := True) [(.iconst 0, (0, 0, 0, 0, 0))] [] (by decide +kernel) rfl trivial ?_
      cases hf
      exact b_zret (by decide +kernel) rfl (by decide) hk
    · have hf := if_f h3 hf
      refine b_blk (pc' := 232) (ls' := [some (mR (5, 0, 19)), none, none, none]) (st' := [mI 1]) (S' := (L, r2.2, J, (m_up R 19 4 (some (8, 0, sd))))) (P := True) [(.iconst 1, (0, 0, 0, 1, 0)), (.goto 4, (0, 232, 0, 0, 0))] [] (by decide +kernel) rfl trivial ?_
      cases hf
      exact b_zret (by decide +kernel) rfl (by decide) hk
noncomputable def F_Reader_readSlope (sd : Nat) (I : MI) : Option (Int32 × MI) :=
  (F_Reader_begin sd I).bind fun r1 => (F_Reader_slopeLine sd (m_fil (m_fil (uI_Slope_clear_1 r1 sd) (sd + 1) (1 : Int32) 6) (sd + 2) (0 : Int32) 36)).bind fun r2 => if r2.1 = (0 : Int32) then (some ((0 : Int32), r2.2)) else ((wl (fun s : Int32 × MI => F_Reader_readSlope_25 sd s.2 s.1) ((1 : Int32), m_up r2.2 sd 0 (1 : Int32))).bind <| sel (fun q => some q) fun t4 => F_Reader_readSlope_205 sd t4)
set_option maxRecDepth 100000 in
set_option maxHeartbeats 400000 in
theorem W_Reader_readSlope {G : MG} {Q : Option MV → MS → Prop} {L : List (Nat × Nat)} {R : Nat → Nat → Option MRef} (sd : Nat) (I : MI) (J : MJ) (hR : RF R) (hqd : sd = 3 ∨ sd = 11) {r : Int32 × MI} (hf : F_Reader_readSlope sd I = some r) (hk : (fun r : Int32 × MI => Q (some (mI r.1)) (L, r.2, J, m_up R 19 4 (some (8, 0, sd)))) r) : m_B G (m_rm 70 0 0) M_Reader_readSlope Q 0 0 0 [some (mR (5, 0, 19)), some (mR (8, 0, sd)), none, none] [] (L, I, J, R) := by
  unfold F_Reader_readSlope at hf
  refine b_blk (pc' := 2) (ls' := [some (mR (5, 0, 19)), some (mR (8, 0, sd)), none, none]) (st' := [mR (8, 0, sd), mR (5, 0, 19)]) (S' := (L, I, J, R)) (P := True) [(.aload_n 0, (0, 0, 0, 0, 0)), (.aload_n 1, (0, 0, 0, 0, 0))] [] (by decide +kernel) rfl trivial ?_
  obtain ⟨r1, hc1, hf⟩ := bnd_o hf
  refine b_cV (as := [mR (8, 0, sd)]) (st := []) (by decide +kernel) k_5_23 n_Reader_begin rfl (by decide) v_Reader_begin (C_Reader_begin sd I J hR hqd hc1) (Nat.le_of_ble_eq_true rfl) (by decide) rfl rfl (fun _ h => h) ?_
  show m_B G (m_rm 70 0 0) M_Reader_readSlope Q 0 0 5 [some (mR (5, 0, 19)), some (mR (8, 0, sd)), none, none] [] (L, r1, J, m_up R 19 4 (some (8, 0, sd)))
  refine b_blk (pc' := 6) (ls' := [some (mR (5, 0, 19)), some (mR (8, 0, sd)), none, none]) (st' := [mR (8, 0, sd)]) (S' := (L, r1, J, m_up R 19 4 (some (8, 0, sd)))) (P := True) [(.aload_n 1, (0, 0, 0, 0, 0))] [] (by decide +kernel) rfl trivial ?_
  refine b_cV (as := []) (st := []) (by decide +kernel) k_5_27 n_Slope_clear rfl (by decide) v_Slope_clear (c_Slope_clear sd (sl_of (rf_t hR) hqd)) (Nat.le_of_ble_eq_true rfl) (by decide) rfl rfl (fun _ h => h) ?_
  show m_B _ _ _ _ _ _ 9 [some (mR (5, 0, 19)), some (mR (8, 0, sd)), none, none] [] (L, m_fil (m_fil (uI_Slope_clear_1 r1 sd) (sd + 1) (1 : Int32) 6) (sd + 2) (0 : Int32) 36, J, (m_up R 19 4 (some (8, 0, sd))))
  refine b_blk (pc' := 10) (ls' := [some (mR (5, 0, 19)), some (mR (8, 0, sd)), none, none]) (st' := [mR (5, 0, 19)]) (S' := (L, m_fil (m_fil (uI_Slope_clear_1 r1 sd) (sd + 1) (1 : Int32) 6) (sd + 2) (0 : Int32) 36, J, (m_up R 19 4 (some (8, 0, sd))))) (P := True) [(.aload_n 0, (0, 0, 0, 0, 0))] [] (by decide +kernel) rfl trivial ?_
  obtain ⟨r2, hc2, hf⟩ := bnd_o hf
  refine b_cV (as := []) (st := []) (by decide +kernel) k_5_32 n_Reader_slopeLine rfl (by decide) v_Reader_slopeLine (C_Reader_slopeLine sd (m_fil (m_fil (uI_Slope_clear_1 r1 sd) (sd + 1) (1 : Int32) 6) (sd + 2) (0 : Int32) 36) J (rf_t hR) rfl hqd hc2) (Nat.le_of_ble_eq_true rfl) (by decide) rfl rfl (fun _ h => h) ?_
  show m_B G (m_rm 70 0 0) M_Reader_readSlope Q 0 0 13 [some (mR (5, 0, 19)), some (mR (8, 0, sd)), none, none] [mI r2.1] (L, r2.2, J, (m_up R 19 4 (some (8, 0, sd))))
  refine b_if_ne (off := 5) (tgt := 18) (by decide +kernel) (by decide) (fun h3 => ?_) (fun h3 => ?_)
  · have hf := if_f h3 hf
    refine b_blk (pc' := 25) (ls' := [some (mR (5, 0, 19)), some (mR (8, 0, sd)), some (mI 1), none]) (st' := []) (S' := (L, m_up r2.2 sd 0 (1 : Int32), J, (m_up R 19 4 (some (8, 0, sd))))) (P := True) [(.aload_n 1, (0, 0, 0, 0, 0)), (.iconst 1, (0, 0, 0, 1, 0)), (.putfield 36, (8, 0, 0, 0, 0)), (.iconst 1, (0, 0, 0, 1, 0)), (.istore_n 2, (0, 0, 0, 0, 0))] [] (by decide +kernel) rfl trivial ?_
    obtain ⟨t4, hw, hf⟩ := bnd_o hf
    refine wl_B (A := fun s : Int32 × MI => m_B G (m_rm 70 0 0) M_Reader_readSlope Q 0 0 25 [some (mR (5, 0, 19)), some (mR (8, 0, sd)), some (mI s.1), none] [] (L, s.2, J, (m_up R 19 4 (some (8, 0, sd))))) (B := (Sum.elim (fun s : MI => m_B G (m_rm 70 0 0) M_Reader_readSlope Q 0 0 205 [some (mR (5, 0, 19)), none, none, none] [] (L, s, J, (m_up R 19 4 (some (8, 0, sd))))) (fun r : Int32 × MI => Q (some (mI r.1)) (L, r.2, J, m_up R 19 4 (some (8, 0, sd)))))) (fun s r hs hr => W_Reader_readSlope_25 sd s.2 J s.1 hR hqd hs hr) hw ?_
    rcases t4 with t4 | q
    rotate_left
    · cases se_r hf; exact hk
    replace hf := se_l hf
    show m_B G (m_rm 70 0 0) M_Reader_readSlope Q 0 0 205 [some (mR (5, 0, 19)), none, none, none] [] (L, t4, J, (m_up R 19 4 (some (8, 0, sd))))
    exact m_B_cg rfl rfl rfl (W_Reader_readSlope_205 sd t4 J hR hqd hf hk)
  · have hf := if_t h3 hf
    refine b_blk (pc' := 17) (ls' := [some (mR (5, 0, 19)), some (mR (8, 0, sd)), none, none]) (st' := [mI 0]) (S' := (L, r2.2, J, (m_up R 19 4 (some (8, 0, sd))))) (P := True) [(.iconst 0, (0, 0, 0, 0, 0))] [] (by decide +kernel) rfl trivial ?_
    cases hf
    exact b_zret (by decide +kernel) rfl (by decide) hk
theorem C_Reader_readSlope {G : MG} {L : List (Nat × Nat)} {R : Nat → Nat → Option MRef} (sd : Nat) (I : MI) (J : MJ) (hR : RF R) (hqd : sd = 3 ∨ sd = 11) {r : Int32 × MI} (hf : F_Reader_readSlope sd I = some r) : m_met G 70 0 0 y_Reader_readSlope M_Reader_readSlope [mR (5, 0, 19), mR (8, 0, sd)] (L, I, J, R) (m_is (some (mI r.1)) (L, r.2, J, m_up R 19 4 (some (8, 0, sd)))) :=
  m_met_in n_Reader_readSlope (plainFor_of_name (by decide)) (by decide) (Nat.le_of_ble_eq_true rfl) (ls := [some (mR (5, 0, 19)), some (mR (8, 0, sd)), none, none]) rfl (W_Reader_readSlope sd I J hR hqd hf ⟨rfl, rfl⟩)
noncomputable def F_Reader_readQuestion_148 (sd : Nat) (I : MI) (v2 : Int32) : Option (Int32 × MI) :=
  if v2 = (0 : Int32) then (some ((0 : Int32), m_up I sd 10 (I 19 5))) else (if ((m_up I sd 10 (I 19 5)) 19 6) = (258 : Int32) then (some ((1 : Int32), m_up I sd 10 (I 19 5))) else ((F_Reader_wrong sd (m_up I sd 10 (I 19 5)) (1 : Int32) ((m_up I sd 10 (I 19 5)) 19 7)).bind fun r3 => if r3.1 = (0 : Int32) then (some ((0 : Int32), r3.2)) else (some ((1 : Int32), r3.2))))
set_option maxRecDepth 100000 in
set_option maxHeartbeats 400000 in
theorem W_Reader_readQuestion_148 {G : MG} {Q : Option MV → MS → Prop} {L : List (Nat × Nat)} {R : Nat → Nat → Option MRef} (sd : Nat) (I : MI) (J : MJ) (v2 : Int32) (hR : RF R) (hqd : sd = 3 ∨ sd = 11) {r : Int32 × MI} (hf : F_Reader_readQuestion_148 sd I v2 = some r) (hk : (fun r : Int32 × MI => Q (some (mI r.1)) (L, r.2, J, m_up R 19 4 (some (8, 0, sd)))) r) : m_B G (m_rm 69 0 0) M_Reader_readQuestion Q 0 0 148 [some (mR (5, 0, 19)), some (mR (8, 0, sd)), some (mI v2)] [] (L, I, J, (m_up R 19 4 (some (8, 0, sd)))) := by
  unfold F_Reader_readQuestion_148 at hf
  refine b_blk (pc' := 157) (ls' := [some (mR (5, 0, 19)), some (mR (8, 0, sd)), some (mI v2)]) (st' := [mI v2]) (S' := (L, m_up I sd 10 (I 19 5), J, (m_up R 19 4 (some (8, 0, sd))))) (P := True) [(.aload_n 1, (0, 0, 0, 0, 0)), (.aload_n 0, (0, 0, 0, 0, 0)), (.getfield 97, (5, 5, 0, 0, 0)), (.putfield 100, (8, 10, 0, 0, 0)), (.iload_n 2, (0, 0, 0, 0, 0))] [] (by decide +kernel) rfl trivial ?_
  refine b_if_eq (off := 29) (tgt := 186) (by decide +kernel) (by decide) (fun h1 => ?_) (fun h1 => ?_)
  · have hf := if_t h1 hf
    refine b_blk (pc' := 187) (ls' := [some (mR (5, 0, 19)), some (mR (8, 0, sd)), some (mI v2)]) (st' := [mI 0]) (S' := (L, m_up I sd 10 (I 19 5), J, (m_up R 19 4 (some (8, 0, sd))))) (P := True) [(.iconst 0, (0, 0, 0, 0, 0))] [] (by decide +kernel) rfl trivial ?_
    cases hf
    exact b_zret (by decide +kernel) rfl (by decide) hk
  · have hf := if_f h1 hf
    refine b_blk (pc' := 167) (ls' := [some (mR (5, 0, 19)), some (mR (8, 0, sd)), some (mI v2)]) (st' := [mI 258, mI ((m_up I sd 10 (I 19 5)) 19 6)]) (S' := (L, m_up I sd 10 (I 19 5), J, (m_up R 19 4 (some (8, 0, sd))))) (P := True) [(.aload_n 0, (0, 0, 0, 0, 0)), (.getfield 39, (5, 6, 0, 0, 0)), (.sipush 258, (0, 0, 0, 258, 0))] [] (by decide +kernel) rfl trivial ?_
    refine b_icmp_eq (off := 15) (tgt := 182) (by decide +kernel) (by decide) (fun h2 => ?_) (fun h2 => ?_)
    · have hf := if_t h2 hf
      refine b_blk (pc' := 187) (ls' := [some (mR (5, 0, 19)), some (mR (8, 0, sd)), some (mI v2)]) (st' := [mI 1]) (S' := (L, m_up I sd 10 (I 19 5), J, (m_up R 19 4 (some (8, 0, sd))))) (P := True) [(.iconst 1, (0, 0, 0, 1, 0)), (.goto 4, (0, 187, 0, 0, 0))] [] (by decide +kernel) rfl trivial ?_
      cases hf
      exact b_zret (by decide +kernel) rfl (by decide) hk
    · have hf := if_f h2 hf
      refine b_blk (pc' := 176) (ls' := [some (mR (5, 0, 19)), some (mR (8, 0, sd)), some (mI v2)]) (st' := [mI ((m_up I sd 10 (I 19 5)) 19 7), mI 1, mR (5, 0, 19)]) (S' := (L, m_up I sd 10 (I 19 5), J, (m_up R 19 4 (some (8, 0, sd))))) (P := True) [(.aload_n 0, (0, 0, 0, 0, 0)), (.iconst 1, (0, 0, 0, 1, 0)), (.aload_n 0, (0, 0, 0, 0, 0)), (.getfield 66, (5, 7, 0, 0, 0))] [] (by decide +kernel) rfl trivial ?_
      obtain ⟨r3, hc3, hf⟩ := bnd_o hf
      refine b_cV (as := [mI 1, mI ((m_up I sd 10 (I 19 5)) 19 7)]) (st := []) (by decide +kernel) k_5_69 n_Reader_wrong rfl (by decide) v_Reader_wrong (C_Reader_wrong sd (m_up I sd 10 (I 19 5)) J (1 : Int32) ((m_up I sd 10 (I 19 5)) 19 7) (rf_t hR) rfl hqd hc3) (Nat.le_of_ble_eq_true rfl) (by decide) rfl rfl (fun _ h => h) ?_
      show m_B G (m_rm 69 0 0) M_Reader_readQuestion Q 0 0 179 [some (mR (5, 0, 19)), some (mR (8, 0, sd)), some (mI v2)] [mI r3.1] (L, r3.2, J, (m_up R 19 4 (some (8, 0, sd))))
      refine b_if_eq (off := 7) (tgt := 186) (by decide +kernel) (by decide) (fun h4 => ?_) (fun h4 => ?_)
      · have hf := if_t h4 hf
        refine b_blk (pc' := 187) (ls' := [some (mR (5, 0, 19)), some (mR (8, 0, sd)), some (mI v2)]) (st' := [mI 0]) (S' := (L, r3.2, J, (m_up R 19 4 (some (8, 0, sd))))) (P := True) [(.iconst 0, (0, 0, 0, 0, 0))] [] (by decide +kernel) rfl trivial ?_
        cases hf
        exact b_zret (by decide +kernel) rfl (by decide) hk
      · have hf := if_f h4 hf
        refine b_blk (pc' := 187) (ls' := [some (mR (5, 0, 19)), some (mR (8, 0, sd)), some (mI v2)]) (st' := [mI 1]) (S' := (L, r3.2, J, (m_up R 19 4 (some (8, 0, sd))))) (P := True) [(.iconst 1, (0, 0, 0, 1, 0)), (.goto 4, (0, 187, 0, 0, 0))] [] (by decide +kernel) rfl trivial ?_
        cases hf
        exact b_zret (by decide +kernel) rfl (by decide) hk
noncomputable def F_Reader_readQuestion_40 (sd : Nat) (I : MI) (y0 : Int32) : Option (Int32 × MI) :=
  if y0 = 16 then ((F_Reader_advance sd (m_up I 19 3 y0)).bind fun r2 => (F_Reader_test0 sd r2 (0 : Int32)).bind fun r3 => F_Reader_readQuestion_148 sd r3.2 r3.1) else (if y0 = 17 then ((F_Reader_wrong sd (m_up I 19 3 y0) (1 : Int32) (I 19 7)).bind fun r5 => F_Reader_readQuestion_148 sd r5.2 r5.1) else (if y0 = 18 then ((F_Reader_wrong sd (m_up I 19 3 y0) (1 : Int32) (I 19 7)).bind fun r7 => F_Reader_readQuestion_148 sd r7.2 r7.1) else (if y0 = 19 then ((F_Reader_wrong sd (m_up I 19 3 y0) (1 : Int32) (I 19 7)).bind fun r9 => F_Reader_readQuestion_148 sd r9.2 r9.1) else (if y0 = 20 then ((F_Reader_wrong sd (m_up I 19 3 y0) (1 : Int32) (I 19 7)).bind fun r11 => F_Reader_readQuestion_148 sd r11.2 r11.1) else (if y0 = 21 then ((F_Reader_wrong sd (m_up I 19 3 y0) (1 : Int32) (I 19 7)).bind fun r13 => F_Reader_readQuestion_148 sd r13.2 r13.1) else (if y0 = 22 then ((F_Reader_wrong sd (m_up I 19 3 y0) (1 : Int32) (I 19 7)).bind fun r15 => F_Reader_readQuestion_148 sd r15.2 r15.1) else (if y0 = 23 then ((F_Reader_wrong sd (m_up I 19 3 y0) (1 : Int32) (I 19 7)).bind fun r17 => F_Reader_readQuestion_148 sd r17.2 r17.1) else (if y0 = 24 then ((F_Reader_advance sd (m_up I 19 3 y0)).bind fun r19 => (F_Reader_test0 sd r19 (0 : Int32)).bind fun r20 => F_Reader_readQuestion_148 sd r20.2 r20.1) else (if y0 = 25 then ((F_Reader_advance sd (m_up I 19 3 y0)).bind fun r22 => (F_Reader_test0 sd r22 (0 : Int32)).bind fun r23 => F_Reader_readQuestion_148 sd r23.2 r23.1) else (if y0 = 26 then ((F_Reader_advance sd (m_up I 19 3 y0)).bind fun r25 => (F_Reader_sum0 sd r25 (0 : Int32)).bind fun r26 => F_Reader_readQuestion_148 sd r26.2 r26.1) else (if y0 = 27 then ((F_Reader_advance sd (m_up I 19 3 y0)).bind fun r28 => (F_Reader_sum0 sd r28 (0 : Int32)).bind fun r29 => F_Reader_readQuestion_148 sd r29.2 r29.1) else (if y0 = 28 then ((F_Reader_advance sd (m_up I 19 3 y0)).bind fun r31 => (F_Reader_sum0 sd r31 (0 : Int32)).bind fun r32 => F_Reader_readQuestion_148 sd r32.2 r32.1) else ((F_Reader_wrong sd (m_up I 19 3 y0) (1 : Int32) (I 19 7)).bind fun r33 => F_Reader_readQuestion_148 sd r33.2 r33.1)))))))))))))
set_option maxRecDepth 100000 in
set_option maxHeartbeats 400000 in
theorem W_Reader_readQuestion_40 {G : MG} {Q : Option MV → MS → Prop} {L : List (Nat × Nat)} {R : Nat → Nat → Option MRef} (sd : Nat) (I : MI) (J : MJ) (y0 : Int32) (hR : RF R) (hqd : sd = 3 ∨ sd = 11) {r : Int32 × MI} (hf : F_Reader_readQuestion_40 sd I y0 = some r) (hk : (fun r : Int32 × MI => Q (some (mI r.1)) (L, r.2, J, m_up R 19 4 (some (8, 0, sd)))) r) : m_B G (m_rm 69 0 0) M_Reader_readQuestion Q 0 0 40 [some (mR (5, 0, 19)), some (mR (8, 0, sd)), none] [mI y0, mR (5, 0, 19)] (L, I, J, (m_up R 19 4 (some (8, 0, sd)))) := by
  unfold F_Reader_readQuestion_40 at hf
  refine b_blk (pc' := 47) (ls' := [some (mR (5, 0, 19)), some (mR (8, 0, sd)), none]) (st' := [mI y0]) (S' := (L, m_up I 19 3 y0, J, (m_up R 19 4 (some (8, 0, sd))))) (P := True) [(.putfield 85, (5, 3, 0, 0, 0)), (.aload_n 0, (0, 0, 0, 0, 0)), (.getfield 85, (5, 3, 0, 0, 0))] [] (by decide +kernel) rfl trivial ?_
  by_cases h1 : y0 = 16
  · refine b_tswV (tgt := 112) (off := 65) (lo := 16) (hi := 28) (dflt := 91) (offs := #[65, 91, 91, 91, 91, 91, 91, 91, 65, 65, 78, 78, 78]) (len := 65) h1 (by decide +kernel) (by decide) (by decide) (by decide) (by decide) ?_
    have hf := if_t h1 hf
    refine b_blk (pc' := 113) (ls' := [some (mR (5, 0, 19)), some (mR (8, 0, sd)), none]) (st' := [mR (5, 0, 19)]) (S' := (L, m_up I 19 3 y0, J, (m_up R 19 4 (some (8, 0, sd))))) (P := True) [(.aload_n 0, (0, 0, 0, 0, 0))] [] (by decide +kernel) rfl trivial ?_
    obtain ⟨r2, hc2, hf⟩ := bnd_o hf
    refine b_cV (as := []) (st := []) (by decide +kernel) k_5_88 n_Reader_advance rfl (by decide) v_Reader_advance (C_Reader_advance sd (m_up I 19 3 y0) J (rf_t hR) rfl hqd hc2) (Nat.le_of_ble_eq_true rfl) (by decide) rfl rfl (fun _ h => h) ?_
    show m_B G (m_rm 69 0 0) M_Reader_readQuestion Q 0 0 116 [some (mR (5, 0, 19)), some (mR (8, 0, sd)), none] [] (L, r2, J, (m_up R 19 4 (some (8, 0, sd))))
    refine b_blk (pc' := 118) (ls' := [some (mR (5, 0, 19)), some (mR (8, 0, sd)), none]) (st' := [mI 0, mR (5, 0, 19)]) (S' := (L, r2, J, (m_up R 19 4 (some (8, 0, sd))))) (P := True) [(.aload_n 0, (0, 0, 0, 0, 0)), (.iconst 0, (0, 0, 0, 0, 0))] [] (by decide +kernel) rfl trivial ?_
    obtain ⟨r3, hc3, hf⟩ := bnd_o hf
    refine b_cV (as := [mI 0]) (st := []) (by decide +kernel) k_5_91 n_Reader_test rfl (by decide) v_Reader_test (C_Reader_test0 sd r2 J (0 : Int32) (rf_t hR) rfl hqd hc3) (Nat.le_of_ble_eq_true rfl) (by decide) rfl rfl (fun _ h => h) ?_
    show m_B G (m_rm 69 0 0) M_Reader_readQuestion Q 0 0 121 [some (mR (5, 0, 19)), some (mR (8, 0, sd)), none] [mI r3.1] (L, r3.2, J, (m_up R 19 4 (some (8, 0, sd))))
    refine b_blk (pc' := 148) (ls' := [some (mR (5, 0, 19)), some (mR (8, 0, sd)), some (mI r3.1)]) (st' := []) (S' := (L, r3.2, J, (m_up R 19 4 (some (8, 0, sd))))) (P := True) [(.istore_n 2, (0, 0, 0, 0, 0)), (.goto 26, (0, 148, 0, 0, 0))] [] (by decide +kernel) rfl trivial ?_
    exact m_B_cg rfl rfl rfl (W_Reader_readQuestion_148 sd r3.2 J r3.1 hR hqd hf hk)
  have hf := if_f h1 hf
  by_cases h4 : y0 = 17
  · refine b_tswV (tgt := 138) (off := 91) (lo := 16) (hi := 28) (dflt := 91) (offs := #[65, 91, 91, 91, 91, 91, 91, 91, 65, 65, 78, 78, 78]) (len := 65) h4 (by decide +kernel) (by decide) (by decide) (by decide) (by decide) ?_
    have hf := if_t h4 hf
    refine b_blk (pc' := 144) (ls' := [some (mR (5, 0, 19)), some (mR (8, 0, sd)), none]) (st' := [mI (I 19 7), mI 1, mR (5, 0, 19)]) (S' := (L, m_up I 19 3 y0, J, (m_up R 19 4 (some (8, 0, sd))))) (P := True) [(.aload_n 0, (0, 0, 0, 0, 0)), (.iconst 1, (0, 0, 0, 1, 0)), (.aload_n 0, (0, 0, 0, 0, 0)), (.getfield 66, (5, 7, 0, 0, 0))] [] (by decide +kernel) rfl trivial ?_
    obtain ⟨r5, hc5, hf⟩ := bnd_o hf
    refine b_cV (as := [mI 1, mI (I 19 7)]) (st := []) (by decide +kernel) k_5_69 n_Reader_wrong rfl (by decide) v_Reader_wrong (C_Reader_wrong sd (m_up I 19 3 y0) J (1 : Int32) (I 19 7) (rf_t hR) rfl hqd hc5) (Nat.le_of_ble_eq_true rfl) (by decide) rfl rfl (fun _ h => h) ?_
    show m_B G (m_rm 69 0 0) M_Reader_readQuestion Q 0 0 147 [some (mR (5, 0, 19)), some (mR (8, 0, sd)), none] [mI r5.1] (L, r5.2, J, (m_up R 19 4 (some (8, 0, sd))))
    refine b_blk (pc' := 148) (ls' := [some (mR (5, 0, 19)), some (mR (8, 0, sd)), some (mI r5.1)]) (st' := []) (S' := (L, r5.2, J, (m_up R 19 4 (some (8, 0, sd))))) (P := True) [(.istore_n 2, (0, 0, 0, 0, 0))] [] (by decide +kernel) rfl trivial ?_
    exact m_B_cg rfl rfl rfl (W_Reader_readQuestion_148 sd r5.2 J r5.1 hR hqd hf hk)
  have hf := if_f h4 hf
  by_cases h6 : y0 = 18
  · refine b_tswV (tgt := 138) (off := 91) (lo := 16) (hi := 28) (dflt := 91) (offs := #[65, 91, 91, 91, 91, 91, 91, 91, 65, 65, 78, 78, 78]) (len := 65) h6 (by decide +kernel) (by decide) (by decide) (by decide) (by decide) ?_
    have hf := if_t h6 hf
    refine b_blk (pc' := 144) (ls' := [some (mR (5, 0, 19)), some (mR (8, 0, sd)), none]) (st' := [mI (I 19 7), mI 1, mR (5, 0, 19)]) (S' := (L, m_up I 19 3 y0, J, (m_up R 19 4 (some (8, 0, sd))))) (P := True) [(.aload_n 0, (0, 0, 0, 0, 0)), (.iconst 1, (0, 0, 0, 1, 0)), (.aload_n 0, (0, 0, 0, 0, 0)), (.getfield 66, (5, 7, 0, 0, 0))] [] (by decide +kernel) rfl trivial ?_
    obtain ⟨r7, hc7, hf⟩ := bnd_o hf
    refine b_cV (as := [mI 1, mI (I 19 7)]) (st := []) (by decide +kernel) k_5_69 n_Reader_wrong rfl (by decide) v_Reader_wrong (C_Reader_wrong sd (m_up I 19 3 y0) J (1 : Int32) (I 19 7) (rf_t hR) rfl hqd hc7) (Nat.le_of_ble_eq_true rfl) (by decide) rfl rfl (fun _ h => h) ?_
    show m_B G (m_rm 69 0 0) M_Reader_readQuestion Q 0 0 147 [some (mR (5, 0, 19)), some (mR (8, 0, sd)), none] [mI r7.1] (L, r7.2, J, (m_up R 19 4 (some (8, 0, sd))))
    refine b_blk (pc' := 148) (ls' := [some (mR (5, 0, 19)), some (mR (8, 0, sd)), some (mI r7.1)]) (st' := []) (S' := (L, r7.2, J, (m_up R 19 4 (some (8, 0, sd))))) (P := True) [(.istore_n 2, (0, 0, 0, 0, 0))] [] (by decide +kernel) rfl trivial ?_
    exact m_B_cg rfl rfl rfl (W_Reader_readQuestion_148 sd r7.2 J r7.1 hR hqd hf hk)
  have hf := if_f h6 hf
  by_cases h8 : y0 = 19
  · refine b_tswV (tgt := 138) (off := 91) (lo := 16) (hi := 28) (dflt := 91) (offs := #[65, 91, 91, 91, 91, 91, 91, 91, 65, 65, 78, 78, 78]) (len := 65) h8 (by decide +kernel) (by decide) (by decide) (by decide) (by decide) ?_
    have hf := if_t h8 hf
    refine b_blk (pc' := 144) (ls' := [some (mR (5, 0, 19)), some (mR (8, 0, sd)), none]) (st' := [mI (I 19 7), mI 1, mR (5, 0, 19)]) (S' := (L, m_up I 19 3 y0, J, (m_up R 19 4 (some (8, 0, sd))))) (P := True) [(.aload_n 0, (0, 0, 0, 0, 0)), (.iconst 1, (0, 0, 0, 1, 0)), (.aload_n 0, (0, 0, 0, 0, 0)), (.getfield 66, (5, 7, 0, 0, 0))] [] (by decide +kernel) rfl trivial ?_
    obtain ⟨r9, hc9, hf⟩ := bnd_o hf
    refine b_cV (as := [mI 1, mI (I 19 7)]) (st := []) (by decide +kernel) k_5_69 n_Reader_wrong rfl (by decide) v_Reader_wrong (C_Reader_wrong sd (m_up I 19 3 y0) J (1 : Int32) (I 19 7) (rf_t hR) rfl hqd hc9) (Nat.le_of_ble_eq_true rfl) (by decide) rfl rfl (fun _ h => h) ?_
    show m_B G (m_rm 69 0 0) M_Reader_readQuestion Q 0 0 147 [some (mR (5, 0, 19)), some (mR (8, 0, sd)), none] [mI r9.1] (L, r9.2, J, (m_up R 19 4 (some (8, 0, sd))))
    refine b_blk (pc' := 148) (ls' := [some (mR (5, 0, 19)), some (mR (8, 0, sd)), some (mI r9.1)]) (st' := []) (S' := (L, r9.2, J, (m_up R 19 4 (some (8, 0, sd))))) (P := True) [(.istore_n 2, (0, 0, 0, 0, 0))] [] (by decide +kernel) rfl trivial ?_
    exact m_B_cg rfl rfl rfl (W_Reader_readQuestion_148 sd r9.2 J r9.1 hR hqd hf hk)
  have hf := if_f h8 hf
  by_cases h10 : y0 = 20
  · refine b_tswV (tgt := 138) (off := 91) (lo := 16) (hi := 28) (dflt := 91) (offs := #[65, 91, 91, 91, 91, 91, 91, 91, 65, 65, 78, 78, 78]) (len := 65) h10 (by decide +kernel) (by decide) (by decide) (by decide) (by decide) ?_
    have hf := if_t h10 hf
    refine b_blk (pc' := 144) (ls' := [some (mR (5, 0, 19)), some (mR (8, 0, sd)), none]) (st' := [mI (I 19 7), mI 1, mR (5, 0, 19)]) (S' := (L, m_up I 19 3 y0, J, (m_up R 19 4 (some (8, 0, sd))))) (P := True) [(.aload_n 0, (0, 0, 0, 0, 0)), (.iconst 1, (0, 0, 0, 1, 0)), (.aload_n 0, (0, 0, 0, 0, 0)), (.getfield 66, (5, 7, 0, 0, 0))] [] (by decide +kernel) rfl trivial ?_
    obtain ⟨r11, hc11, hf⟩ := bnd_o hf
    refine b_cV (as := [mI 1, mI (I 19 7)]) (st := []) (by decide +kernel) k_5_69 n_Reader_wrong rfl (by decide) v_Reader_wrong (C_Reader_wrong sd (m_up I 19 3 y0) J (1 : Int32) (I 19 7) (rf_t hR) rfl hqd hc11) (Nat.le_of_ble_eq_true rfl) (by decide) rfl rfl (fun _ h => h) ?_
    show m_B G (m_rm 69 0 0) M_Reader_readQuestion Q 0 0 147 [some (mR (5, 0, 19)), some (mR (8, 0, sd)), none] [mI r11.1] (L, r11.2, J, (m_up R 19 4 (some (8, 0, sd))))
    refine b_blk (pc' := 148) (ls' := [some (mR (5, 0, 19)), some (mR (8, 0, sd)), some (mI r11.1)]) (st' := []) (S' := (L, r11.2, J, (m_up R 19 4 (some (8, 0, sd))))) (P := True) [(.istore_n 2, (0, 0, 0, 0, 0))] [] (by decide +kernel) rfl trivial ?_
    exact m_B_cg rfl rfl rfl (W_Reader_readQuestion_148 sd r11.2 J r11.1 hR hqd hf hk)
  have hf := if_f h10 hf
  by_cases h12 : y0 = 21
  · refine b_tswV (tgt := 138) (off := 91) (lo := 16) (hi := 28) (dflt := 91) (offs := #[65, 91, 91, 91, 91, 91, 91, 91, 65, 65, 78, 78, 78]) (len := 65) h12 (by decide +kernel) (by decide) (by decide) (by decide) (by decide) ?_
    have hf := if_t h12 hf
    refine b_blk (pc' := 144) (ls' := [some (mR (5, 0, 19)), some (mR (8, 0, sd)), none]) (st' := [mI (I 19 7), mI 1, mR (5, 0, 19)]) (S' := (L, m_up I 19 3 y0, J, (m_up R 19 4 (some (8, 0, sd))))) (P := True) [(.aload_n 0, (0, 0, 0, 0, 0)), (.iconst 1, (0, 0, 0, 1, 0)), (.aload_n 0, (0, 0, 0, 0, 0)), (.getfield 66, (5, 7, 0, 0, 0))] [] (by decide +kernel) rfl trivial ?_
    obtain ⟨r13, hc13, hf⟩ := bnd_o hf
    refine b_cV (as := [mI 1, mI (I 19 7)]) (st := []) (by decide +kernel) k_5_69 n_Reader_wrong rfl (by decide) v_Reader_wrong (C_Reader_wrong sd (m_up I 19 3 y0) J (1 : Int32) (I 19 7) (rf_t hR) rfl hqd hc13) (Nat.le_of_ble_eq_true rfl) (by decide) rfl rfl (fun _ h => h) ?_
    show m_B G (m_rm 69 0 0) M_Reader_readQuestion Q 0 0 147 [some (mR (5, 0, 19)), some (mR (8, 0, sd)), none] [mI r13.1] (L, r13.2, J, (m_up R 19 4 (some (8, 0, sd))))
    refine b_blk (pc' := 148) (ls' := [some (mR (5, 0, 19)), some (mR (8, 0, sd)), some (mI r13.1)]) (st' := []) (S' := (L, r13.2, J, (m_up R 19 4 (some (8, 0, sd))))) (P := True) [(.istore_n 2, (0, 0, 0, 0, 0))] [] (by decide +kernel) rfl trivial ?_
    exact m_B_cg rfl rfl rfl (W_Reader_readQuestion_148 sd r13.2 J r13.1 hR hqd hf hk)
  have hf := if_f h12 hf
  by_cases h14 : y0 = 22
  · refine b_tswV (tgt := 138) (off := 91) (lo := 16) (hi := 28) (dflt := 91) (offs := #[65, 91, 91, 91, 91, 91, 91, 91, 65, 65, 78, 78, 78]) (len := 65) h14 (by decide +kernel) (by decide) (by decide) (by decide) (by decide) ?_
    have hf := if_t h14 hf
    refine b_blk (pc' := 144) (ls' := [some (mR (5, 0, 19)), some (mR (8, 0, sd)), none]) (st' := [mI (I 19 7), mI 1, mR (5, 0, 19)]) (S' := (L, m_up I 19 3 y0, J, (m_up R 19 4 (some (8, 0, sd))))) (P := True) [(.aload_n 0, (0, 0, 0, 0, 0)), (.iconst 1, (0, 0, 0, 1, 0)), (.aload_n 0, (0, 0, 0, 0, 0)), (.getfield 66, (5, 7, 0, 0, 0))] [] (by decide +kernel) rfl trivial ?_
    obtain ⟨r15, hc15, hf⟩ := bnd_o hf
    refine b_cV (as := [mI 1, mI (I 19 7)]) (st := []) (by decide +kernel) k_5_69 n_Reader_wrong rfl (by decide) v_Reader_wrong (C_Reader_wrong sd (m_up I 19 3 y0) J (1 : Int32) (I 19 7) (rf_t hR) rfl hqd hc15) (Nat.le_of_ble_eq_true rfl) (by decide) rfl rfl (fun _ h => h) ?_
    show m_B G (m_rm 69 0 0) M_Reader_readQuestion Q 0 0 147 [some (mR (5, 0, 19)), some (mR (8, 0, sd)), none] [mI r15.1] (L, r15.2, J, (m_up R 19 4 (some (8, 0, sd))))
    refine b_blk (pc' := 148) (ls' := [some (mR (5, 0, 19)), some (mR (8, 0, sd)), some (mI r15.1)]) (st' := []) (S' := (L, r15.2, J, (m_up R 19 4 (some (8, 0, sd))))) (P := True) [(.istore_n 2, (0, 0, 0, 0, 0))] [] (by decide +kernel) rfl trivial ?_
    exact m_B_cg rfl rfl rfl (W_Reader_readQuestion_148 sd r15.2 J r15.1 hR hqd hf hk)
  have hf := if_f h14 hf
  by_cases h16 : y0 = 23
  · refine b_tswV (tgt := 138) (off := 91) (lo := 16) (hi := 28) (dflt := 91) (offs := #[65, 91, 91, 91, 91, 91, 91, 91, 65, 65, 78, 78, 78]) (len := 65) h16 (by decide +kernel) (by decide) (by decide) (by decide) (by decide) ?_
    have hf := if_t h16 hf
    refine b_blk (pc' := 144) (ls' := [some (mR (5, 0, 19)), some (mR (8, 0, sd)), none]) (st' := [mI (I 19 7), mI 1, mR (5, 0, 19)]) (S' := (L, m_up I 19 3 y0, J, (m_up R 19 4 (some (8, 0, sd))))) (P := True) [(.aload_n 0, (0, 0, 0, 0, 0)), (.iconst 1, (0, 0, 0, 1, 0)), (.aload_n 0, (0, 0, 0, 0, 0)), (.getfield 66, (5, 7, 0, 0, 0))] [] (by decide +kernel) rfl trivial ?_
    obtain ⟨r17, hc17, hf⟩ := bnd_o hf
    refine b_cV (as := [mI 1, mI (I 19 7)]) (st := []) (by decide +kernel) k_5_69 n_Reader_wrong rfl (by decide) v_Reader_wrong (C_Reader_wrong sd (m_up I 19 3 y0) J (1 : Int32) (I 19 7) (rf_t hR) rfl hqd hc17) (Nat.le_of_ble_eq_true rfl) (by decide) rfl rfl (fun _ h => h) ?_
    show m_B G (m_rm 69 0 0) M_Reader_readQuestion Q 0 0 147 [some (mR (5, 0, 19)), some (mR (8, 0, sd)), none] [mI r17.1] (L, r17.2, J, (m_up R 19 4 (some (8, 0, sd))))
    refine b_blk (pc' := 148) (ls' := [some (mR (5, 0, 19)), some (mR (8, 0, sd)), some (mI r17.1)]) (st' := []) (S' := (L, r17.2, J, (m_up R 19 4 (some (8, 0, sd))))) (P := True) [(.istore_n 2, (0, 0, 0, 0, 0))] [] (by decide +kernel) rfl trivial ?_
    exact m_B_cg rfl rfl rfl (W_Reader_readQuestion_148 sd r17.2 J r17.1 hR hqd hf hk)
  have hf := if_f h16 hf
  by_cases h18 : y0 = 24
  · refine b_tswV (tgt := 112) (off := 65) (lo := 16) (hi := 28) (dflt := 91) (offs := #[65, 91, 91, 91, 91, 91, 91, 91, 65, 65, 78, 78, 78]) (len := 65) h18 (by decide +kernel) (by decide) (by decide) (by decide) (by decide) ?_
    have hf := if_t h18 hf
    refine b_blk (pc' := 113) (ls' := [some (mR (5, 0, 19)), some (mR (8, 0, sd)), none]) (st' := [mR (5, 0, 19)]) (S' := (L, m_up I 19 3 y0, J, (m_up R 19 4 (some (8, 0, sd))))) (P := True) [(.aload_n 0, (0, 0, 0, 0, 0))] [] (by decide +kernel) rfl trivial ?_
    obtain ⟨r19, hc19, hf⟩ := bnd_o hf
    refine b_cV (as := []) (st := []) (by decide +kernel) k_5_88 n_Reader_advance rfl (by decide) v_Reader_advance (C_Reader_advance sd (m_up I 19 3 y0) J (rf_t hR) rfl hqd hc19) (Nat.le_of_ble_eq_true rfl) (by decide) rfl rfl (fun _ h => h) ?_
    show m_B G (m_rm 69 0 0) M_Reader_readQuestion Q 0 0 116 [some (mR (5, 0, 19)), some (mR (8, 0, sd)), none] [] (L, r19, J, (m_up R 19 4 (some (8, 0, sd))))
    refine b_blk (pc' := 118) (ls' := [some (mR (5, 0, 19)), some (mR (8, 0, sd)), none]) (st' := [mI 0, mR (5, 0, 19)]) (S' := (L, r19, J, (m_up R 19 4 (some (8, 0, sd))))) (P := True) [(.aload_n 0, (0, 0, 0, 0, 0)), (.iconst 0, (0, 0, 0, 0, 0))] [] (by decide +kernel) rfl trivial ?_
    obtain ⟨r20, hc20, hf⟩ := bnd_o hf
    refine b_cV (as := [mI 0]) (st := []) (by decide +kernel) k_5_91 n_Reader_test rfl (by decide) v_Reader_test (C_Reader_test0 sd r19 J (0 : Int32) (rf_t hR) rfl hqd hc20) (Nat.le_of_ble_eq_true rfl) (by decide) rfl rfl (fun _ h => h) ?_
    show m_B G (m_rm 69 0 0) M_Reader_readQuestion Q 0 0 121 [some (mR (5, 0, 19)), some (mR (8, 0, sd)), none] [mI r20.1] (L, r20.2, J, (m_up R 19 4 (some (8, 0, sd))))
    refine b_blk (pc' := 148) (ls' := [some (mR (5, 0, 19)), some (mR (8, 0, sd)), some (mI r20.1)]) (st' := []) (S' := (L, r20.2, J, (m_up R 19 4 (some (8, 0, sd))))) (P := True) [(.istore_n 2, (0, 0, 0, 0, 0)), (.goto 26, (0, 148, 0, 0, 0))] [] (by decide +kernel) rfl trivial ?_
    exact m_B_cg rfl rfl rfl (W_Reader_readQuestion_148 sd r20.2 J r20.1 hR hqd hf hk)
  have hf := if_f h18 hf
  by_cases h21 : y0 = 25
  · refine b_tswV (tgt := 112) (off := 65) (lo := 16) (hi := 28) (dflt := 91) (offs := #[65, 91, 91, 91, 91, 91, 91, 91, 65, 65, 78, 78, 78]) (len := 65) h21 (by decide +kernel) (by decide) (by decide) (by decide) (by decide) ?_
    have hf := if_t h21 hf
    refine b_blk (pc' := 113) (ls' := [some (mR (5, 0, 19)), some (mR (8, 0, sd)), none]) (st' := [mR (5, 0, 19)]) (S' := (L, m_up I 19 3 y0, J, (m_up R 19 4 (some (8, 0, sd))))) (P := True) [(.aload_n 0, (0, 0, 0, 0, 0))] [] (by decide +kernel) rfl trivial ?_
    obtain ⟨r22, hc22, hf⟩ := bnd_o hf
    refine b_cV (as := []) (st := []) (by decide +kernel) k_5_88 n_Reader_advance rfl (by decide) v_Reader_advance (C_Reader_advance sd (m_up I 19 3 y0) J (rf_t hR) rfl hqd hc22) (Nat.le_of_ble_eq_true rfl) (by decide) rfl rfl (fun _ h => h) ?_
    show m_B G (m_rm 69 0 0) M_Reader_readQuestion Q 0 0 116 [some (mR (5, 0, 19)), some (mR (8, 0, sd)), none] [] (L, r22, J, (m_up R 19 4 (some (8, 0, sd))))
    refine b_blk (pc' := 118) (ls' := [some (mR (5, 0, 19)), some (mR (8, 0, sd)), none]) (st' := [mI 0, mR (5, 0, 19)]) (S' := (L, r22, J, (m_up R 19 4 (some (8, 0, sd))))) (P := True) [(.aload_n 0, (0, 0, 0, 0, 0)), (.iconst 0, (0, 0, 0, 0, 0))] [] (by decide +kernel) rfl trivial ?_
    obtain ⟨r23, hc23, hf⟩ := bnd_o hf
    refine b_cV (as := [mI 0]) (st := []) (by decide +kernel) k_5_91 n_Reader_test rfl (by decide) v_Reader_test (C_Reader_test0 sd r22 J (0 : Int32) (rf_t hR) rfl hqd hc23) (Nat.le_of_ble_eq_true rfl) (by decide) rfl rfl (fun _ h => h) ?_
    show m_B G (m_rm 69 0 0) M_Reader_readQuestion Q 0 0 121 [some (mR (5, 0, 19)), some (mR (8, 0, sd)), none] [mI r23.1] (L, r23.2, J, (m_up R 19 4 (some (8, 0, sd))))
    refine b_blk (pc' := 148) (ls' := [some (mR (5, 0, 19)), some (mR (8, 0, sd)), some (mI r23.1)]) (st' := []) (S' := (L, r23.2, J, (m_up R 19 4 (some (8, 0, sd))))) (P := True) [(.istore_n 2, (0, 0, 0, 0, 0)), (.goto 26, (0, 148, 0, 0, 0))] [] (by decide +kernel) rfl trivial ?_
    exact m_B_cg rfl rfl rfl (W_Reader_readQuestion_148 sd r23.2 J r23.1 hR hqd hf hk)
  have hf := if_f h21 hf
  by_cases h24 : y0 = 26
  · refine b_tswV (tgt := 125) (off := 78) (lo := 16) (hi := 28) (dflt := 91) (offs := #[65, 91, 91, 91, 91, 91, 91, 91, 65, 65, 78, 78, 78]) (len := 65) h24 (by decide +kernel) (by decide) (by decide) (by decide) (by decide) ?_
    have hf := if_t h24 hf
    refine b_blk (pc' := 126) (ls' := [some (mR (5, 0, 19)), some (mR (8, 0, sd)), none]) (st' := [mR (5, 0, 19)]) (S' := (L, m_up I 19 3 y0, J, (m_up R 19 4 (some (8, 0, sd))))) (P := True) [(.aload_n 0, (0, 0, 0, 0, 0))] [] (by decide +kernel) rfl trivial ?_
    obtain ⟨r25, hc25, hf⟩ := bnd_o hf
    refine b_cV (as := []) (st := []) (by decide +kernel) k_5_88 n_Reader_advance rfl (by decide) v_Reader_advance (C_Reader_advance sd (m_up I 19 3 y0) J (rf_t hR) rfl hqd hc25) (Nat.le_of_ble_eq_true rfl) (by decide) rfl rfl (fun _ h => h) ?_
    show m_B G (m_rm 69 0 0) M_Reader_readQuestion Q 0 0 129 [some (mR (5, 0, 19)), some (mR (8, 0, sd)), none] [] (L, r25, J, (m_up R 19 4 (some (8, 0, sd))))
    refine b_blk (pc' := 131) (ls' := [some (mR (5, 0, 19)), some (mR (8, 0, sd)), none]) (st' := [mI 0, mR (5, 0, 19)]) (S' := (L, r25, J, (m_up R 19 4 (some (8, 0, sd))))) (P := True) [(.aload_n 0, (0, 0, 0, 0, 0)), (.iconst 0, (0, 0, 0, 0, 0))] [] (by decide +kernel) rfl trivial ?_
    obtain ⟨r26, hc26, hf⟩ := bnd_o hf
    refine b_cV (as := [mI 0]) (st := []) (by decide +kernel) k_5_94 n_Reader_sum rfl (by decide) v_Reader_sum (C_Reader_sum0 sd r25 J (0 : Int32) (rf_t hR) rfl hqd hc26) (Nat.le_of_ble_eq_true rfl) (by decide) rfl rfl (fun _ h => h) ?_
    show m_B G (m_rm 69 0 0) M_Reader_readQuestion Q 0 0 134 [some (mR (5, 0, 19)), some (mR (8, 0, sd)), none] [mI r26.1] (L, r26.2, J, (m_up R 19 4 (some (8, 0, sd))))
    refine b_blk (pc' := 148) (ls' := [some (mR (5, 0, 19)), some (mR (8, 0, sd)), some (mI r26.1)]) (st' := []) (S' := (L, r26.2, J, (m_up R 19 4 (some (8, 0, sd))))) (P := True) [(.istore_n 2, (0, 0, 0, 0, 0)), (.goto 13, (0, 148, 0, 0, 0))] [] (by decide +kernel) rfl trivial ?_
    exact m_B_cg rfl rfl rfl (W_Reader_readQuestion_148 sd r26.2 J r26.1 hR hqd hf hk)
  have hf := if_f h24 hf
  by_cases h27 : y0 = 27
  · refine b_tswV (tgt := 125) (off := 78) (lo := 16) (hi := 28) (dflt := 91) (offs := #[65, 91, 91, 91, 91, 91, 91, 91, 65, 65, 78, 78, 78]) (len := 65) h27 (by decide +kernel) (by decide) (by decide) (by decide) (by decide) ?_
    have hf := if_t h27 hf
    refine b_blk (pc' := 126) (ls' := [some (mR (5, 0, 19)), some (mR (8, 0, sd)), none]) (st' := [mR (5, 0, 19)]) (S' := (L, m_up I 19 3 y0, J, (m_up R 19 4 (some (8, 0, sd))))) (P := True) [(.aload_n 0, (0, 0, 0, 0, 0))] [] (by decide +kernel) rfl trivial ?_
    obtain ⟨r28, hc28, hf⟩ := bnd_o hf
    refine b_cV (as := []) (st := []) (by decide +kernel) k_5_88 n_Reader_advance rfl (by decide) v_Reader_advance (C_Reader_advance sd (m_up I 19 3 y0) J (rf_t hR) rfl hqd hc28) (Nat.le_of_ble_eq_true rfl) (by decide) rfl rfl (fun _ h => h) ?_
    show m_B G (m_rm 69 0 0) M_Reader_readQuestion Q 0 0 129 [some (mR (5, 0, 19)), some (mR (8, 0, sd)), none] [] (L, r28, J, (m_up R 19 4 (some (8, 0, sd))))
    refine b_blk (pc' := 131) (ls' := [some (mR (5, 0, 19)), some (mR (8, 0, sd)), none]) (st' := [mI 0, mR (5, 0, 19)]) (S' := (L, r28, J, (m_up R 19 4 (some (8, 0, sd))))) (P := True) [(.aload_n 0, (0, 0, 0, 0, 0)), (.iconst 0, (0, 0, 0, 0, 0))] [] (by decide +kernel) rfl trivial ?_
    obtain ⟨r29, hc29, hf⟩ := bnd_o hf
    refine b_cV (as := [mI 0]) (st := []) (by decide +kernel) k_5_94 n_Reader_sum rfl (by decide) v_Reader_sum (C_Reader_sum0 sd r28 J (0 : Int32) (rf_t hR) rfl hqd hc29) (Nat.le_of_ble_eq_true rfl) (by decide) rfl rfl (fun _ h => h) ?_
    show m_B G (m_rm 69 0 0) M_Reader_readQuestion Q 0 0 134 [some (mR (5, 0, 19)), some (mR (8, 0, sd)), none] [mI r29.1] (L, r29.2, J, (m_up R 19 4 (some (8, 0, sd))))
    refine b_blk (pc' := 148) (ls' := [some (mR (5, 0, 19)), some (mR (8, 0, sd)), some (mI r29.1)]) (st' := []) (S' := (L, r29.2, J, (m_up R 19 4 (some (8, 0, sd))))) (P := True) [(.istore_n 2, (0, 0, 0, 0, 0)), (.goto 13, (0, 148, 0, 0, 0))] [] (by decide +kernel) rfl trivial ?_
    exact m_B_cg rfl rfl rfl (W_Reader_readQuestion_148 sd r29.2 J r29.1 hR hqd hf hk)
  have hf := if_f h27 hf
  by_cases h30 : y0 = 28
  · refine b_tswV (tgt := 125) (off := 78) (lo := 16) (hi := 28) (dflt := 91) (offs := #[65, 91, 91, 91, 91, 91, 91, 91, 65, 65, 78, 78, 78]) (len := 65) h30 (by decide +kernel) (by decide) (by decide) (by decide) (by decide) ?_
    have hf := if_t h30 hf
    refine b_blk (pc' := 126) (ls' := [some (mR (5, 0, 19)), some (mR (8, 0, sd)), none]) (st' := [mR (5, 0, 19)]) (S' := (L, m_up I 19 3 y0, J, (m_up R 19 4 (some (8, 0, sd))))) (P := True) [(.aload_n 0, (0, 0, 0, 0, 0))] [] (by decide +kernel) rfl trivial ?_
    obtain ⟨r31, hc31, hf⟩ := bnd_o hf
    refine b_cV (as := []) (st := []) (by decide +kernel) k_5_88 n_Reader_advance rfl (by decide) v_Reader_advance (C_Reader_advance sd (m_up I 19 3 y0) J (rf_t hR) rfl hqd hc31) (Nat.le_of_ble_eq_true rfl) (by decide) rfl rfl (fun _ h => h) ?_
    show m_B G (m_rm 69 0 0) M_Reader_readQuestion Q 0 0 129 [some (mR (5, 0, 19)), some (mR (8, 0, sd)), none] [] (L, r31, J, (m_up R 19 4 (some (8, 0, sd))))
    refine b_blk (pc' := 131) (ls' := [some (mR (5, 0, 19)), some (mR (8, 0, sd)), none]) (st' := [mI 0, mR (5, 0, 19)]) (S' := (L, r31, J, (m_up R 19 4 (some (8, 0, sd))))) (P := True) [(.aload_n 0, (0, 0, 0, 0, 0)), (.iconst 0, (0, 0, 0, 0, 0))] [] (by decide +kernel) rfl trivial ?_
    obtain ⟨r32, hc32, hf⟩ := bnd_o hf
    refine b_cV (as := [mI 0]) (st := []) (by decide +kernel) k_5_94 n_Reader_sum rfl (by decide) v_Reader_sum (C_Reader_sum0 sd r31 J (0 : Int32) (rf_t hR) rfl hqd hc32) (Nat.le_of_ble_eq_true rfl) (by decide) rfl rfl (fun _ h => h) ?_
    show m_B G (m_rm 69 0 0) M_Reader_readQuestion Q 0 0 134 [some (mR (5, 0, 19)), some (mR (8, 0, sd)), none] [mI r32.1] (L, r32.2, J, (m_up R 19 4 (some (8, 0, sd))))
    refine b_blk (pc' := 148) (ls' := [some (mR (5, 0, 19)), some (mR (8, 0, sd)), some (mI r32.1)]) (st' := []) (S' := (L, r32.2, J, (m_up R 19 4 (some (8, 0, sd))))) (P := True) [(.istore_n 2, (0, 0, 0, 0, 0)), (.goto 13, (0, 148, 0, 0, 0))] [] (by decide +kernel) rfl trivial ?_
    exact m_B_cg rfl rfl rfl (W_Reader_readQuestion_148 sd r32.2 J r32.1 hR hqd hf hk)
  have hf := if_f h30 hf
  refine b_tswD (tgt := 138) (lo := 16) (hi := 28) (dflt := 91) (offs := #[65, 91, 91, 91, 91, 91, 91, 91, 65, 65, 78, 78, 78]) (len := 65) (by decide +kernel) (by have q0 := lv_neT h1 (a := 16) (by decide); have q1 := lv_neT h4 (a := 17) (by decide); have q2 := lv_neT h6 (a := 18) (by decide); have q3 := lv_neT h8 (a := 19) (by decide); have q4 := lv_neT h10 (a := 20) (by decide); have q5 := lv_neT h12 (a := 21) (by decide); have q6 := lv_neT h14 (a := 22) (by decide); have q7 := lv_neT h16 (a := 23) (by decide); have q8 := lv_neT h18 (a := 24) (by decide); have q9 := lv_neT h21 (a := 25) (by decide); have q10 := lv_neT h24 (a := 26) (by decide); have q11 := lv_neT h27 (a := 27) (by decide); have q12 := lv_neT h30 (a := 28) (by decide); omega) (by decide) ?_
  refine b_blk (pc' := 144) (ls' := [some (mR (5, 0, 19)), some (mR (8, 0, sd)), none]) (st' := [mI (I 19 7), mI 1, mR (5, 0, 19)]) (S' := (L, m_up I 19 3 y0, J, (m_up R 19 4 (some (8, 0, sd))))) (P := True) [(.aload_n 0, (0, 0, 0, 0, 0)), (.iconst 1, (0, 0, 0, 1, 0)), (.aload_n 0, (0, 0, 0, 0, 0)), (.getfield 66, (5, 7, 0, 0, 0))] [] (by decide +kernel) rfl trivial ?_
  obtain ⟨r33, hc33, hf⟩ := bnd_o hf
  refine b_cV (as := [mI 1, mI (I 19 7)]) (st := []) (by decide +kernel) k_5_69 n_Reader_wrong rfl (by decide) v_Reader_wrong (C_Reader_wrong sd (m_up I 19 3 y0) J (1 : Int32) (I 19 7) (rf_t hR) rfl hqd hc33) (Nat.le_of_ble_eq_true rfl) (by decide) rfl rfl (fun _ h => h) ?_
  show m_B G (m_rm 69 0 0) M_Reader_readQuestion Q 0 0 147 [some (mR (5, 0, 19)), some (mR (8, 0, sd)), none] [mI r33.1] (L, r33.2, J, (m_up R 19 4 (some (8, 0, sd))))
  refine b_blk (pc' := 148) (ls' := [some (mR (5, 0, 19)), some (mR (8, 0, sd)), some (mI r33.1)]) (st' := []) (S' := (L, r33.2, J, (m_up R 19 4 (some (8, 0, sd))))) (P := True) [(.istore_n 2, (0, 0, 0, 0, 0))] [] (by decide +kernel) rfl trivial ?_
  exact m_B_cg rfl rfl rfl (W_Reader_readQuestion_148 sd r33.2 J r33.1 hR hqd hf hk)
noncomputable def F_Reader_readQuestion (sd : Nat) (I : MI) : Option (Int32 × MI) :=
  (F_Reader_begin sd I).bind fun r1 => bnd (m_up (m_up (m_fil (m_fil (uI_Slope_clear_1 r1 sd) (sd + 1) (1 : Int32) 6) (sd + 2) (0 : Int32) 36) 19 11 (63552 : Int32)) 19 12 (131104 : Int32) : MI) fun x2 => if ((m_fil (m_fil (uI_Slope_clear_1 r1 sd) (sd + 1) (1 : Int32) 6) (sd + 2) (0 : Int32) 36) 19 6) = (256 : Int32) then (F_Reader_readQuestion_40 sd x2 (x2 19 9)) else (F_Reader_readQuestion_40 sd x2 (-1 : Int32))
set_option maxRecDepth 100000 in
set_option maxHeartbeats 400000 in
theorem W_Reader_readQuestion {G : MG} {Q : Option MV → MS → Prop} {L : List (Nat × Nat)} {R : Nat → Nat → Option MRef} (sd : Nat) (I : MI) (J : MJ) (hR : RF R) (hqd : sd = 3 ∨ sd = 11) {r : Int32 × MI} (hf : F_Reader_readQuestion sd I = some r) (hk : (fun r : Int32 × MI => Q (some (mI r.1)) (L, r.2, J, m_up R 19 4 (some (8, 0, sd)))) r) : m_B G (m_rm 69 0 0) M_Reader_readQuestion Q 0 0 0 [some (mR (5, 0, 19)), some (mR (8, 0, sd)), none] [] (L, I, J, R) := by
  unfold F_Reader_readQuestion at hf
  refine b_blk (pc' := 2) (ls' := [some (mR (5, 0, 19)), some (mR (8, 0, sd)), none]) (st' := [mR (8, 0, sd), mR (5, 0, 19)]) (S' := (L, I, J, R)) (P := True) [(.aload_n 0, (0, 0, 0, 0, 0)), (.aload_n 1, (0, 0, 0, 0, 0))] [] (by decide +kernel) rfl trivial ?_
  obtain ⟨r1, hc1, hf⟩ := bnd_o hf
  refine b_cV (as := [mR (8, 0, sd)]) (st := []) (by decide +kernel) k_5_23 n_Reader_begin rfl (by decide) v_Reader_begin (C_Reader_begin sd I J hR hqd hc1) (Nat.le_of_ble_eq_true rfl) (by decide) rfl rfl (fun _ h => h) ?_
  show m_B G (m_rm 69 0 0) M_Reader_readQuestion Q 0 0 5 [some (mR (5, 0, 19)), some (mR (8, 0, sd)), none] [] (L, r1, J, m_up R 19 4 (some (8, 0, sd)))
  refine b_blk (pc' := 6) (ls' := [some (mR (5, 0, 19)), some (mR (8, 0, sd)), none]) (st' := [mR (8, 0, sd)]) (S' := (L, r1, J, m_up R 19 4 (some (8, 0, sd)))) (P := True) [(.aload_n 1, (0, 0, 0, 0, 0))] [] (by decide +kernel) rfl trivial ?_
  refine b_cV (as := []) (st := []) (by decide +kernel) k_5_27 n_Slope_clear rfl (by decide) v_Slope_clear (c_Slope_clear sd (sl_of (rf_t hR) hqd)) (Nat.le_of_ble_eq_true rfl) (by decide) rfl rfl (fun _ h => h) ?_
  show m_B _ _ _ _ _ _ 9 [some (mR (5, 0, 19)), some (mR (8, 0, sd)), none] [] (L, m_fil (m_fil (uI_Slope_clear_1 r1 sd) (sd + 1) (1 : Int32) 6) (sd + 2) (0 : Int32) 36, J, (m_up R 19 4 (some (8, 0, sd))))
  refine b_blk (pc' := 29) (ls' := [some (mR (5, 0, 19)), some (mR (8, 0, sd)), none]) (st' := [mI 256, mI ((m_fil (m_fil (uI_Slope_clear_1 r1 sd) (sd + 1) (1 : Int32) 6) (sd + 2) (0 : Int32) 36) 19 6), mR (5, 0, 19)]) (S' := (L, m_up (m_up (m_fil (m_fil (uI_Slope_clear_1 r1 sd) (sd + 1) (1 : Int32) 6) (sd + 2) (0 : Int32) 36) 19 11 (63552 : Int32)) 19 12 (131104 : Int32), J, (m_up R 19 4 (some (8, 0, sd))))) (P := True) [(.aload_n 0, (0, 0, 0, 0, 0)), (.ldc 77, (0, 0, 0, 63552, 0)), (.putfield 78, (5, 11, 0, 0, 0)), (.aload_n 0, (0, 0, 0, 0, 0)), (.ldc 81, (0, 0, 0, 131104, 0)), (.putfield 82, (5, 12, 0, 0, 0)), (.aload_n 0, (0, 0, 0, 0, 0)), (.aload_n 0, (0, 0, 0, 0, 0)), (.getfield 39, (5, 6, 0, 0, 0)), (.sipush 256, (0, 0, 0, 256, 0))] [] (by decide +kernel) rfl trivial ?_
  obtain ⟨x2, ex2, hf⟩ := bnd_s hf
  refine m_B_cg (ls' := [some (mR (5, 0, 19)), some (mR (8, 0, sd)), none]) (st' := [mI 256, mI ((m_fil (m_fil (uI_Slope_clear_1 r1 sd) (sd + 1) (1 : Int32) 6) (sd + 2) (0 : Int32) 36) 19 6), mR (5, 0, 19)]) (S' := (L, x2, J, (m_up R 19 4 (some (8, 0, sd))))) (by first | with_reducible rfl | rw [ex2]) (by first | with_reducible rfl | rw [ex2]) (by first | with_reducible rfl | rw [ex2]) ?_
  refine b_icmp_ne (off := 10) (tgt := 39) (by decide +kernel) (by decide) (fun h3 => ?_) (fun h3 => ?_)
  · have hf := if_f h3 hf
    refine b_blk (pc' := 40) (ls' := [some (mR (5, 0, 19)), some (mR (8, 0, sd)), none]) (st' := [mI (-1), mR (5, 0, 19)]) (S' := (L, x2, J, (m_up R 19 4 (some (8, 0, sd))))) (P := True) [(.iconst (-1), (0, 0, 0, (-1), 0))] [] (by decide +kernel) rfl trivial ?_
    exact m_B_cg rfl rfl rfl (W_Reader_readQuestion_40 sd x2 J (-1 : Int32) hR hqd hf hk)
  · have hf := if_t h3 hf
    refine b_blk (pc' := 40) (ls' := [some (mR (5, 0, 19)), some (mR (8, 0, sd)), none]) (st' := [mI (x2 19 9), mR (5, 0, 19)]) (S' := (L, x2, J, (m_up R 19 4 (some (8, 0, sd))))) (P := True) [(.aload_n 0, (0, 0, 0, 0, 0)), (.getfield 42, (5, 9, 0, 0, 0)), (.goto 4, (0, 40, 0, 0, 0))] [] (by decide +kernel) rfl trivial ?_
    exact m_B_cg rfl rfl rfl (W_Reader_readQuestion_40 sd x2 J (x2 19 9) hR hqd hf hk)
theorem C_Reader_readQuestion {G : MG} {L : List (Nat × Nat)} {R : Nat → Nat → Option MRef} (sd : Nat) (I : MI) (J : MJ) (hR : RF R) (hqd : sd = 3 ∨ sd = 11) {r : Int32 × MI} (hf : F_Reader_readQuestion sd I = some r) : m_met G 69 0 0 y_Reader_readQuestion M_Reader_readQuestion [mR (5, 0, 19), mR (8, 0, sd)] (L, I, J, R) (m_is (some (mI r.1)) (L, r.2, J, m_up R 19 4 (some (8, 0, sd)))) :=
  m_met_in n_Reader_readQuestion (plainFor_of_name (by decide)) (by decide) (Nat.le_of_ble_eq_true rfl) (ls := [some (mR (5, 0, 19)), some (mR (8, 0, sd)), none]) rfl (W_Reader_readQuestion sd I J hR hqd hf ⟨rfl, rfl⟩)
