/-! what is seen, what tells -/
/-- rounds of a loop 'from 0 on, below b and below c' -/
def m2 (b : Int32) (c : Nat) : Nat := min b.toNatClampNeg c
theorem m2_a {b x : Int32} {c n : Nat} (e : x = b) (hn : n < m2 b c) (h : x ≤ nI n) : False := by
  unfold m2 at hn
  exact ge_no e (by omega) h
theorem m2_b {b : Int32} {c n : Nat} (hc : c < 2 ^ 31) (hn : n < m2 b c) (h : nI c ≤ nI n) : False := by
  unfold m2 at hn
  exact absurd ((nI_leI hc (by omega)).mp h) (by omega)
theorem m2_y {b x : Int32} {c : Nat} (e : x = b) (hc : c < 2 ^ 31) (h1 : ¬ x ≤ nI (m2 b c)) (h2 : ¬ nI c ≤ nI (m2 b c)) : False := by
  rw [e] at h1
  have hb := cl_lt b
  have g1 : ¬ b.toNatClampNeg ≤ m2 b c := fun q => h1 ((ge_cl (by unfold m2; omega)).mpr q)
  have g2 : ¬ c ≤ m2 b c := fun q => h2 ((nI_leI hc (by unfold m2; omega)).mpr q)
  unfold m2 at g1 g2
  omega
def so (I : MI) (k : Nat) : Nat → Bool
  | 0 => true
  | n + 1 => so I k n && decide ((l_owner I k (I 171 (nI n).toNatClampNeg) (I 172 (nI n).toNatClampNeg) 6).1 = I 173 (nI n).toNatClampNeg)
theorem so_off {I : MI} {k n : Nat} (h : so I k n = false) {m : Nat} (hm : n ≤ m) : so I k m = false := by
  induction hm with
  | refl => exact h
  | step _ ih => simp [so, ih]
set_option maxRecDepth 100000 in
set_option maxHeartbeats 400000 in
theorem c_Seen_isSo {G : MG} {L : List (Nat × Nat)} {I : Nat → Nat → Int32} {J : Nat → Nat → Int64} {R : Nat → Nat → Option MRef} (k : Nat) (hR : RF R) (hk : LayR R k) : m_met G 4 0 0 y_Seen_isSo M_Seen_isSo [mR (7, 0, 170), mR (3, 0, k)] (L, I, J, R) (m_is (some (mI (bI (so I k (m2 (I 170 3) 16))))) (L, I, J, R)) := by
  refine m_met_in n_Seen_isSo (plainFor_of_name (by decide)) (by decide) (Nat.le_of_ble_eq_true rfl) (ls := [some (mR (7, 0, 170)), some (mR (3, 0, k)), none]) rfl ?_
  refine b_blk (pc' := 2) (ls' := [some (mR (7, 0, 170)), some (mR (3, 0, k)), some (mI 0)]) (st' := []) (S' := (L, I, J, R)) (P := True) [(.iconst 0, (0, 0, 0, 0, 0)), (.istore_n 2, (0, 0, 0, 0, 0))] [] (by decide +kernel) rfl trivial ?_
  suffices hx : so I k (m2 (I 170 3) 16) = true → m_B G (m_rm 4 0 0) M_Seen_isSo (m_is (some (mI (bI (so I k (m2 (I 170 3) 16))))) (L, I, J, R)) 0 0 49 [some (mR (7, 0, 170)), some (mR (3, 0, k)), some (mI (nI (m2 (I 170 3) 16)))] [] (L, I, J, R) by
    refine m_B_cg ?_ rfl ?_ (loop_up (m2 (I 170 3) 16) (fun n => so I k n = true → m_B G (m_rm 4 0 0) M_Seen_isSo (m_is (some (mI (bI (so I k (m2 (I 170 3) 16))))) (L, I, J, R)) 0 0 2 [some (mR (7, 0, 170)), some (mR (3, 0, k)), some (mI (nI n))] [] (L, I, J, R)) ?_ ?_ 0 (Nat.zero_le _)  ?_)
    · first | with_reducible rfl | rfl | (simp only [nI_succ]; done)
    · rfl
    · intro  hh
      refine b_blk (pc' := 7) (ls' := [some (mR (7, 0, 170)), some (mR (3, 0, k)), some (mI (nI (m2 (I 170 3) 16)))]) (st' := [mI (I 170 3), mI (nI (m2 (I 170 3) 16))]) (S' := (L, I, J, R)) (P := True) [(.iload_n 2, (0, 0, 0, 0, 0)), (.aload_n 0, (0, 0, 0, 0, 0)), (.getfield 41, (7, 3, 0, 0, 0))] [] (by decide +kernel) rfl trivial ?_
      refine b_icmp_ge (off := 42) (tgt := 49) (by decide +kernel) (by decide) (fun h1 => ?_) (fun h1 => ?_)
      · exact hx  hh
      · refine b_blk (pc' := 13) (ls' := [some (mR (7, 0, 170)), some (mR (3, 0, k)), some (mI (nI (m2 (I 170 3) 16)))]) (st' := [mI 16, mI (nI (m2 (I 170 3) 16))]) (S' := (L, I, J, R)) (P := True) [(.iload_n 2, (0, 0, 0, 0, 0)), (.bipush 16, (0, 0, 0, 16, 0))] [] (by decide +kernel) rfl trivial ?_
        refine b_icmp_ge (off := 36) (tgt := 49) (by decide +kernel) (by decide) (fun h2 => ?_) (fun h2 => ?_)
        · exact hx  hh
        · exact (m2_y (c := 16) rfl (by decide) h1 h2).elim
    · intro n hn ih  hh
      refine b_blk (pc' := 7) (ls' := [some (mR (7, 0, 170)), some (mR (3, 0, k)), some (mI (nI n))]) (st' := [mI (I 170 3), mI (nI n)]) (S' := (L, I, J, R)) (P := True) [(.iload_n 2, (0, 0, 0, 0, 0)), (.aload_n 0, (0, 0, 0, 0, 0)), (.getfield 41, (7, 3, 0, 0, 0))] [] (by decide +kernel) rfl trivial ?_
      refine b_icmp_ge (off := 42) (tgt := 49) (by decide +kernel) (by decide) (fun h3 => ?_) (fun h3 => ?_)
      · exact (m2_a rfl hn h3).elim
      · refine b_blk (pc' := 13) (ls' := [some (mR (7, 0, 170)), some (mR (3, 0, k)), some (mI (nI n))]) (st' := [mI 16, mI (nI n)]) (S' := (L, I, J, R)) (P := True) [(.iload_n 2, (0, 0, 0, 0, 0)), (.bipush 16, (0, 0, 0, 16, 0))] [] (by decide +kernel) rfl trivial ?_
        refine b_icmp_ge (off := 36) (tgt := 49) (by decide +kernel) (by decide) (fun h4 => ?_) (fun h4 => ?_)
        · exact (m2_b (c := 16) (by decide) hn h4).elim
        · refine b_blk (pc' := 29) (ls' := [some (mR (7, 0, 170)), some (mR (3, 0, k)), some (mI (nI n))]) (st' := [mI (I 172 (nI n).toNatClampNeg), mI (I 171 (nI n).toNatClampNeg), mR (3, 0, k)]) (S' := (L, I, J, R)) (P := ((((True ∧ R 170 0 = some (20, 16, 171)) ∧ vp_in (nI n) 16) ∧ R 170 1 = some (20, 16, 172)) ∧ vp_in (nI n) 16)) [(.aload_n 1, (0, 0, 0, 0, 0)), (.aload_n 0, (0, 0, 0, 0, 0)), (.getfield 9, (7, 0, 3, 0, 0)), (.iload_n 2, (0, 0, 0, 0, 0)), (.iaload, (0, 0, 0, 0, 0)), (.aload_n 0, (0, 0, 0, 0, 0)), (.getfield 15, (7, 1, 3, 0, 0)), (.iload_n 2, (0, 0, 0, 0, 0)), (.iaload, (0, 0, 0, 0, 0))] [some (20, 16, 171), some (20, 16, 172)] (by decide +kernel) rfl ⟨⟨⟨⟨trivial, (r_170_0 hR)⟩, (vp_in_nI (N := 16) (by have := hn; unfold m2 at this; omega) (by decide))⟩, (r_170_1 hR)⟩, (vp_in_nI (N := 16) (by have := hn; unfold m2 at this; omega) (by decide))⟩ ?_
          refine b_cV (as := [mI (I 171 (nI n).toNatClampNeg), mI (I 172 (nI n).toNatClampNeg)]) (st := []) (by decide +kernel) k_7_44 n_Lay_ownerOf rfl (by decide) v_Lay_ownerOf (c_Lay_ownerOf k (I 171 (nI n).toNatClampNeg) (I 172 (nI n).toNatClampNeg) (by assumption)) (Nat.le_of_ble_eq_true rfl) (by decide) rfl rfl (fun _ h => h) ?_
          show m_B _ _ _ _ _ _ 32 [some (mR (7, 0, 170)), some (mR (3, 0, k)), some (mI (nI n))] [mI ((l_owner I k (I 171 (nI n).toNatClampNeg) (I 172 (nI n).toNatClampNeg) 6).1)] (L, I, J, R)
          refine b_blk (pc' := 38) (ls' := [some (mR (7, 0, 170)), some (mR (3, 0, k)), some (mI (nI n))]) (st' := [mI (I 173 (nI n).toNatClampNeg), mI ((l_owner I k (I 171 (nI n).toNatClampNeg) (I 172 (nI n).toNatClampNeg) 6).1)]) (S' := (L, I, J, R)) (P := ((True ∧ R 170 2 = some (20, 16, 173)) ∧ vp_in (nI n) 16)) [(.aload_n 0, (0, 0, 0, 0, 0)), (.getfield 18, (7, 2, 3, 0, 0)), (.iload_n 2, (0, 0, 0, 0, 0)), (.iaload, (0, 0, 0, 0, 0))] [some (20, 16, 173)] (by decide +kernel) rfl ⟨⟨trivial, (r_170_2 hR)⟩, (vp_in_nI (N := 16) (by have := hn; unfold m2 at this; omega) (by decide))⟩ ?_
          refine b_icmp_eq (off := 5) (tgt := 43) (by decide +kernel) (by decide) (fun h5 => ?_) (fun h5 => ?_)
          · refine b_blk (pc' := 2) (ls' := [some (mR (7, 0, 170)), some (mR (3, 0, k)), some (mI ((nI n) + 1))]) (st' := []) (S' := (L, I, J, R)) (P := True) [(.iinc 2 1, (0, 0, 0, 1, 0)), (.goto (-44), (0, 2, 0, 0, 0))] [] (by decide +kernel) rfl trivial ?_
            refine m_B_cg ?_ rfl ?_ (ih  ?_)
            · first | with_reducible rfl | rfl | (simp only [nI_succ]; done)
            · rfl
            · rw [so, hh, decide_eq_true h5]; rfl
          · refine b_blk (pc' := 42) (ls' := [some (mR (7, 0, 170)), some (mR (3, 0, k)), some (mI (nI n))]) (st' := [mI 0]) (S' := (L, I, J, R)) (P := True) [(.iconst 0, (0, 0, 0, 0, 0))] [] (by decide +kernel) rfl trivial ?_
            refine b_zret (by decide +kernel) rfl (by decide) ⟨?_, ?_⟩
            · first | (rw [hh]; rfl) | (rw [so_off (n := n + 1) (by rw [so, hh, decide_eq_false (by assumption)]; rfl) (by omega)]; rfl)
            · rfl
    · rfl
  intro  hh
  refine b_blk (pc' := 50) (ls' := [some (mR (7, 0, 170)), some (mR (3, 0, k)), some (mI (nI (m2 (I 170 3) 16)))]) (st' := [mI 1]) (S' := (L, I, J, R)) (P := True) [(.iconst 1, (0, 0, 0, 1, 0))] [] (by decide +kernel) rfl trivial ?_
  refine b_zret (by decide +kernel) rfl (by decide) ⟨?_, ?_⟩
  · first | (rw [hh]; rfl) | (rw [so_off (n := n + 1) (by rw [so, hh, decide_eq_false (by assumption)]; rfl) (by omega)]; rfl)
  · rfl
def co_k (Y : MI) (c r : Int32) : Int32 := (c * 30 + r) * 7 + (l_owner Y 31 c r 6).1 + 1
def co_r (X : MI) (c : Int32) : Nat → MI
  | 0 => X
  | q + 1 => if co_k (co_r X c q) c (nI q) < 0 then co_r X c q else if Int32.ofNat 1260 ≤ co_k (co_r X c q) c (nI q) then co_r X c q
    else m_up (co_r X c q) 44 (co_k (co_r X c q) c (nI q)).toNatClampNeg (co_r X c q 44 (co_k (co_r X c q) c (nI q)).toNatClampNeg + 1)
def co_c (X : MI) (sl : Nat) : Nat → MI
  | 0 => X
  | n + 1 => co_r (co_c X sl n) (nI n) (X sl 2).toNatClampNeg
def F44 (q : Nat) : Prop := q = 44
theorem fr_cor (X : MI) (c : Int32) : ∀ q, fr F44 (co_r X c q) X := by
  intro q
  induction q with
  | zero => exact fr_refl
  | succ q ih =>
    simp only [co_r]
    repeat' split
    · exact ih
    · exact ih
    · exact fr_up ih rfl
theorem fr_coc (X : MI) (sl : Nat) : ∀ n, fr F44 (co_c X sl n) X := by
  intro n
  induction n with
  | zero => exact fr_refl
  | succ n ih => exact fr_trans (fr_cor _ _ _) ih
theorem f44_sl {sl : Nat} (hq : sl = 3 ∨ sl = 11) : ¬ F44 sl := by unfold F44; omega
theorem co_c1 {X : MI} {sl n : Nat} (hq : sl = 3 ∨ sl = 11) : co_c X sl n sl 1 = X sl 1 := by rw [fr_coc _ _ _ sl (f44_sl hq)]
theorem co_c2 {X : MI} {sl n q : Nat} {c : Int32} (hq : sl = 3 ∨ sl = 11) : co_r (co_c X sl n) c q sl 2 = X sl 2 := by rw [fr_cor _ _ _ sl (f44_sl hq), fr_coc _ _ _ sl (f44_sl hq)]
theorem in_1260 {x : Int32} (h1 : ¬ x < 0) (h2 : ¬ Int32.ofNat 1260 ≤ x) : vp_in x 1260 := in_n (by decide) h1 h2
set_option maxRecDepth 100000 in
set_option maxHeartbeats 400000 in
theorem c_Foresight_countOwners {G : MG} {L : List (Nat × Nat)} {I : Nat → Nat → Int32} {J : Nat → Nat → Int64} {R : Nat → Nat → Option MRef}  (sl : Nat) (hR : RF R) (hs : R 24 1 = some (8, 0, sl)) (hq : sl = 3 ∨ sl = 11) : m_met G 4 0 0 y_Foresight_countOwners M_Foresight_countOwners [mR (0, 0, 30)] (L, I, J, R) (m_is (none) (L, co_c I sl (I sl 1).toNatClampNeg, J, R)) := by
  refine m_met_in n_Foresight_countOwners (plainFor_of_name (by decide)) (by decide) (Nat.le_of_ble_eq_true rfl) (ls := [some (mR (0, 0, 30)), none, none, none]) rfl ?_
  refine b_blk (pc' := 2) (ls' := [some (mR (0, 0, 30)), some (mI 0), none, none]) (st' := []) (S' := (L, I, J, R)) (P := True) [(.iconst 0, (0, 0, 0, 0, 0)), (.istore_n 1, (0, 0, 0, 0, 0))] [] (by decide +kernel) rfl trivial ?_
  suffices hx : m_B G (m_rm 4 0 0) M_Foresight_countOwners (m_is (none) (L, co_c I sl (I sl 1).toNatClampNeg, J, R)) 0 0 89 [some (mR (0, 0, 30)), some (mI (nI ((I sl 1).toNatClampNeg))), none, none] [] (L, co_c I sl ((I sl 1).toNatClampNeg), J, R) by
    refine m_B_cg ?_ rfl ?_ (loop_up ((I sl 1).toNatClampNeg) (fun n => m_B G (m_rm 4 0 0) M_Foresight_countOwners (m_is (none) (L, co_c I sl (I sl 1).toNatClampNeg, J, R)) 0 0 2 [some (mR (0, 0, 30)), some (mI (nI n)), none, none] [] (L, co_c I sl n, J, R)) ?_ ?_ 0 (Nat.zero_le _))
    · first | with_reducible rfl | (simp only [m_clr, nI_succ]; done) | rfl
    · first | with_reducible rfl | (simp only [m_clr, nI_succ]; done) | rfl
    · refine b_blk (pc' := 13) (ls' := [some (mR (0, 0, 30)), some (mI (nI ((I sl 1).toNatClampNeg))), none, none]) (st' := [mI ((co_c I sl ((I sl 1).toNatClampNeg)) sl 1), mI (nI ((I sl 1).toNatClampNeg))]) (S' := (L, co_c I sl ((I sl 1).toNatClampNeg), J, R)) (P := ((True ∧ R 30 1 = some (10, 0, 24)) ∧ R 24 1 = some (8, 0, sl))) [(.iload_n 1, (0, 0, 0, 0, 0)), (.aload_n 0, (0, 0, 0, 0, 0)), (.getfield 38, (0, 1, 3, 0, 0)), (.getfield 60, (10, 1, 3, 0, 0)), (.getfield 64, (8, 1, 0, 0, 0))] [some (10, 0, 24), some (8, 0, sl)] (by decide +kernel) rfl ⟨⟨trivial, (r_30_1 hR)⟩, hs⟩ ?_
      refine b_icmp_ge (off := 76) (tgt := 89) (by decide +kernel) (by decide) (fun h1 => ?_) (fun h1 => ?_)
      · exact hx
      · exact (ge_yes (co_c1 hq) h1).elim
    · intro n hn ih
      refine b_blk (pc' := 13) (ls' := [some (mR (0, 0, 30)), some (mI (nI n)), none, none]) (st' := [mI ((co_c I sl n) sl 1), mI (nI n)]) (S' := (L, co_c I sl n, J, R)) (P := ((True ∧ R 30 1 = some (10, 0, 24)) ∧ R 24 1 = some (8, 0, sl))) [(.iload_n 1, (0, 0, 0, 0, 0)), (.aload_n 0, (0, 0, 0, 0, 0)), (.getfield 38, (0, 1, 3, 0, 0)), (.getfield 60, (10, 1, 3, 0, 0)), (.getfield 64, (8, 1, 0, 0, 0))] [some (10, 0, 24), some (8, 0, sl)] (by decide +kernel) rfl ⟨⟨trivial, (r_30_1 hR)⟩, hs⟩ ?_
      refine b_icmp_ge (off := 76) (tgt := 89) (by decide +kernel) (by decide) (fun h2 => ?_) (fun h2 => ?_)
      · exact (ge_no (co_c1 hq) hn h2).elim
      · refine b_blk (pc' := 18) (ls' := [some (mR (0, 0, 30)), some (mI (nI n)), some (mI 0), none]) (st' := []) (S' := (L, co_c I sl n, J, R)) (P := True) [(.iconst 0, (0, 0, 0, 0, 0)), (.istore_n 2, (0, 0, 0, 0, 0))] [] (by decide +kernel) rfl trivial ?_
        suffices hx : m_B G (m_rm 4 0 0) M_Foresight_countOwners (m_is (none) (L, co_c I sl (I sl 1).toNatClampNeg, J, R)) 0 0 83 [some (mR (0, 0, 30)), some (mI (nI n)), some (mI (nI ((I sl 2).toNatClampNeg))), none] [] (L, co_r (co_c I sl n) (nI n) ((I sl 2).toNatClampNeg), J, R) by
          refine m_B_cg ?_ rfl ?_ (loop_up ((I sl 2).toNatClampNeg) (fun q => m_B G (m_rm 4 0 0) M_Foresight_countOwners (m_is (none) (L, co_c I sl (I sl 1).toNatClampNeg, J, R)) 0 0 18 [some (mR (0, 0, 30)), some (mI (nI n)), some (mI (nI q)), none] [] (L, co_r (co_c I sl n) (nI n) q, J, R)) ?_ ?_ 0 (Nat.zero_le _))
          · first | with_reducible rfl | (simp only [m_clr, nI_succ]; done) | rfl
          · first | with_reducible rfl | (simp only [m_clr, nI_succ]; done) | rfl
          · refine b_blk (pc' := 29) (ls' := [some (mR (0, 0, 30)), some (mI (nI n)), some (mI (nI ((I sl 2).toNatClampNeg))), none]) (st' := [mI ((co_r (co_c I sl n) (nI n) ((I sl 2).toNatClampNeg)) sl 2), mI (nI ((I sl 2).toNatClampNeg))]) (S' := (L, co_r (co_c I sl n) (nI n) ((I sl 2).toNatClampNeg), J, R)) (P := ((True ∧ R 30 1 = some (10, 0, 24)) ∧ R 24 1 = some (8, 0, sl))) [(.iload_n 2, (0, 0, 0, 0, 0)), (.aload_n 0, (0, 0, 0, 0, 0)), (.getfield 38, (0, 1, 3, 0, 0)), (.getfield 60, (10, 1, 3, 0, 0)), (.getfield 73, (8, 2, 0, 0, 0))] [some (10, 0, 24), some (8, 0, sl)] (by decide +kernel) rfl ⟨⟨trivial, (r_30_1 hR)⟩, hs⟩ ?_
            refine b_icmp_ge (off := 54) (tgt := 83) (by decide +kernel) (by decide) (fun h3 => ?_) (fun h3 => ?_)
            · exact hx
            · exact (ge_yes (co_c2 hq) h3).elim
          · intro q hn2 ih2
            refine b_blk (pc' := 29) (ls' := [some (mR (0, 0, 30)), some (mI (nI n)), some (mI (nI q)), none]) (st' := [mI ((co_r (co_c I sl n) (nI n) q) sl 2), mI (nI q)]) (S' := (L, co_r (co_c I sl n) (nI n) q, J, R)) (P := ((True ∧ R 30 1 = some (10, 0, 24)) ∧ R 24 1 = some (8, 0, sl))) [(.iload_n 2, (0, 0, 0, 0, 0)), (.aload_n 0, (0, 0, 0, 0, 0)), (.getfield 38, (0, 1, 3, 0, 0)), (.getfield 60, (10, 1, 3, 0, 0)), (.getfield 73, (8, 2, 0, 0, 0))] [some (10, 0, 24), some (8, 0, sl)] (by decide +kernel) rfl ⟨⟨trivial, (r_30_1 hR)⟩, hs⟩ ?_
            refine b_icmp_ge (off := 54) (tgt := 83) (by decide +kernel) (by decide) (fun h4 => ?_) (fun h4 => ?_)
            · exact (ge_no (co_c2 hq) hn2 h4).elim
            · refine b_blk (pc' := 47) (ls' := [some (mR (0, 0, 30)), some (mI (nI n)), some (mI (nI q)), none]) (st' := [mI (nI q), mI (nI n), mR (3, 0, 31), mI ((((nI n) * (30 : Int32)) + (nI q)) * (7 : Int32))]) (S' := (L, co_r (co_c I sl n) (nI n) q, J, R)) (P := (True ∧ R 30 2 = some (3, 0, 31))) [(.iload_n 1, (0, 0, 0, 0, 0)), (.bipush 30, (0, 0, 0, 30, 0)), (.imul, (0, 0, 0, 0, 0)), (.iload_n 2, (0, 0, 0, 0, 0)), (.iadd, (0, 0, 0, 0, 0)), (.bipush 7, (0, 0, 0, 7, 0)), (.imul, (0, 0, 0, 0, 0)), (.aload_n 0, (0, 0, 0, 0, 0)), (.getfield 12, (0, 2, 3, 0, 0)), (.iload_n 1, (0, 0, 0, 0, 0)), (.iload_n 2, (0, 0, 0, 0, 0))] [some (3, 0, 31)] (by decide +kernel) rfl ⟨trivial, (r_30_2 hR)⟩ ?_
              refine b_cV (as := [mI (nI n), mI (nI q)]) (st := [mI ((((nI n) * (30 : Int32)) + (nI q)) * (7 : Int32))]) (by decide +kernel) k_0_165 n_Lay_ownerOf rfl (by decide) v_Lay_ownerOf (c_Lay_ownerOf 31 (nI n) (nI q) (ly_31 hR)) (Nat.le_of_ble_eq_true rfl) (by decide) rfl rfl (fun _ h => h) ?_
              show m_B _ _ _ _ _ _ 50 [some (mR (0, 0, 30)), some (mI (nI n)), some (mI (nI q)), none] [mI ((l_owner (co_r (co_c I sl n) (nI n) q) 31 (nI n) (nI q) 6).1), mI ((((nI n) * (30 : Int32)) + (nI q)) * (7 : Int32))] (L, (co_r (co_c I sl n) (nI n) q), J, R)
              refine b_blk (pc' := 55) (ls' := [some (mR (0, 0, 30)), some (mI (nI n)), some (mI (nI q)), some (mI ((((((nI n) * (30 : Int32)) + (nI q)) * (7 : Int32)) + ((l_owner (co_r (co_c I sl n) (nI n) q) 31 (nI n) (nI q) 6).1)) + (1 : Int32)))]) (st' := [mI ((((((nI n) * (30 : Int32)) + (nI q)) * (7 : Int32)) + ((l_owner (co_r (co_c I sl n) (nI n) q) 31 (nI n) (nI q) 6).1)) + (1 : Int32))]) (S' := (L, (co_r (co_c I sl n) (nI n) q), J, R)) (P := True) [(.iadd, (0, 0, 0, 0, 0)), (.iconst 1, (0, 0, 0, 1, 0)), (.iadd, (0, 0, 0, 0, 0)), (.istore_n 3, (0, 0, 0, 0, 0)), (.iload_n 3, (0, 0, 0, 0, 0))] [] (by decide +kernel) rfl trivial ?_
              refine b_if_lt (off := 22) (tgt := 77) (by decide +kernel) (by decide) (fun h5 => ?_) (fun h5 => ?_)
              · refine b_blk (pc' := 18) (ls' := [some (mR (0, 0, 30)), some (mI (nI n)), some (mI ((nI q) + 1)), some (mI ((((((nI n) * (30 : Int32)) + (nI q)) * (7 : Int32)) + ((l_owner (co_r (co_c I sl n) (nI n) q) 31 (nI n) (nI q) 6).1)) + (1 : Int32)))]) (st' := []) (S' := (L, (co_r (co_c I sl n) (nI n) q), J, R)) (P := True) [(.iinc 2 1, (0, 0, 0, 1, 0)), (.goto (-62), (0, 18, 0, 0, 0))] [] (by decide +kernel) rfl trivial ?_
                refine b_frg 3 ?_
                refine m_B_cg ?_ rfl ?_ ih2
                · first | with_reducible rfl | (simp only [m_clr, nI_succ]; done) | rfl
                · exact congrArg (fun Z => (L, Z, J, R)) (if_pos h5).symm
              · refine b_blk (pc' := 64) (ls' := [some (mR (0, 0, 30)), some (mI (nI n)), some (mI (nI q)), some (mI ((((((nI n) * (30 : Int32)) + (nI q)) * (7 : Int32)) + ((l_owner (co_r (co_c I sl n) (nI n) q) 31 (nI n) (nI q) 6).1)) + (1 : Int32)))]) (st' := [mI (Int32.ofNat 1260), mI ((((((nI n) * (30 : Int32)) + (nI q)) * (7 : Int32)) + ((l_owner (co_r (co_c I sl n) (nI n) q) 31 (nI n) (nI q) 6).1)) + (1 : Int32))]) (S' := (L, (co_r (co_c I sl n) (nI n) q), J, R)) (P := (True ∧ R 30 6 = some (20, 1260, 44))) [(.iload_n 3, (0, 0, 0, 0, 0)), (.aload_n 0, (0, 0, 0, 0, 0)), (.getfield 28, (0, 6, 3, 0, 0)), (.arraylength, (0, 0, 0, 0, 0))] [some (20, 1260, 44)] (by decide +kernel) rfl ⟨trivial, (r_30_6 hR)⟩ ?_
                refine b_icmp_ge (off := 13) (tgt := 77) (by decide +kernel) (by decide) (fun h6 => ?_) (fun h6 => ?_)
                · refine b_blk (pc' := 18) (ls' := [some (mR (0, 0, 30)), some (mI (nI n)), some (mI ((nI q) + 1)), some (mI ((((((nI n) * (30 : Int32)) + (nI q)) * (7 : Int32)) + ((l_owner (co_r (co_c I sl n) (nI n) q) 31 (nI n) (nI q) 6).1)) + (1 : Int32)))]) (st' := []) (S' := (L, (co_r (co_c I sl n) (nI n) q), J, R)) (P := True) [(.iinc 2 1, (0, 0, 0, 1, 0)), (.goto (-62), (0, 18, 0, 0, 0))] [] (by decide +kernel) rfl trivial ?_
                  refine b_frg 3 ?_
                  refine m_B_cg ?_ rfl ?_ ih2
                  · first | with_reducible rfl | (simp only [m_clr, nI_succ]; done) | rfl
                  · exact congrArg (fun Z => (L, Z, J, R)) ((if_neg h5).trans (if_pos h6)).symm
                · refine b_blk (pc' := 18) (ls' := [some (mR (0, 0, 30)), some (mI (nI n)), some (mI ((nI q) + 1)), some (mI ((((((nI n) * (30 : Int32)) + (nI q)) * (7 : Int32)) + ((l_owner (co_r (co_c I sl n) (nI n) q) 31 (nI n) (nI q) 6).1)) + (1 : Int32)))]) (st' := []) (S' := (L, m_up (co_r (co_c I sl n) (nI n) q) 44 (((((((nI n) * (30 : Int32)) + (nI q)) * (7 : Int32)) + ((l_owner (co_r (co_c I sl n) (nI n) q) 31 (nI n) (nI q) 6).1)) + (1 : Int32)).toNatClampNeg) (((co_r (co_c I sl n) (nI n) q) 44 ((((((nI n) * (30 : Int32)) + (nI q)) * (7 : Int32)) + ((l_owner (co_r (co_c I sl n) (nI n) q) 31 (nI n) (nI q) 6).1)) + (1 : Int32)).toNatClampNeg) + (1 : Int32)), J, R)) (P := (((True ∧ R 30 6 = some (20, 1260, 44)) ∧ vp_in ((((((nI n) * (30 : Int32)) + (nI q)) * (7 : Int32)) + ((l_owner (co_r (co_c I sl n) (nI n) q) 31 (nI n) (nI q) 6).1)) + (1 : Int32)) 1260) ∧ vp_in ((((((nI n) * (30 : Int32)) + (nI q)) * (7 : Int32)) + ((l_owner (co_r (co_c I sl n) (nI n) q) 31 (nI n) (nI q) 6).1)) + (1 : Int32)) 1260)) [(.aload_n 0, (0, 0, 0, 0, 0)), (.getfield 28, (0, 6, 3, 0, 0)), (.iload_n 3, (0, 0, 0, 0, 0)), (.dup2, (0, 0, 0, 0, 0)), (.iaload, (0, 0, 0, 0, 0)), (.iconst 1, (0, 0, 0, 1, 0)), (.iadd, (0, 0, 0, 0, 0)), (.iastore, (0, 0, 0, 0, 0)), (.iinc 2 1, (0, 0, 0, 1, 0)), (.goto (-62), (0, 18, 0, 0, 0))] [some (20, 1260, 44)] (by decide +kernel) rfl ⟨⟨⟨trivial, (r_30_6 hR)⟩, (in_1260 h5 h6)⟩, (in_1260 h5 h6)⟩ ?_
                  refine b_frg 3 ?_
                  refine m_B_cg ?_ rfl ?_ ih2
                  · first | with_reducible rfl | (simp only [m_clr, nI_succ]; done) | rfl
                  · exact congrArg (fun Z => (L, Z, J, R)) ((if_neg h5).trans (if_neg h6)).symm
        refine b_blk (pc' := 2) (ls' := [some (mR (0, 0, 30)), some (mI ((nI n) + 1)), some (mI (nI ((I sl 2).toNatClampNeg))), none]) (st' := []) (S' := (L, co_r (co_c I sl n) (nI n) ((I sl 2).toNatClampNeg), J, R)) (P := True) [(.iinc 1 1, (0, 0, 0, 1, 0)), (.goto (-84), (0, 2, 0, 0, 0))] [] (by decide +kernel) rfl trivial ?_
        refine b_frg 2 ?_
        refine m_B_cg ?_ rfl ?_ ih
        · first | with_reducible rfl | (simp only [m_clr, nI_succ]; done) | rfl
        · first | with_reducible rfl | (simp only [m_clr, nI_succ]; done) | rfl
  refine b_vret (by decide +kernel) rfl ⟨?_, ?_⟩
  · rfl
  · rfl
def ff_u (X : MI) (n : Nat) (v : Int32) : MI := m_up (m_up (m_up X 30 13 v) 30 14 (nI n)) 30 12 (X 30 12 + 1)
def ff_h (X : MI) (sl n : Nat) : MI := if X 30 12 = 0 then co_c (ff_u X n (nI n)) sl (ff_u X n (nI n) sl 1).toNatClampNeg else co_c (ff_u X n (X 30 13)) sl (ff_u X n (X 30 13) sl 1).toNatClampNeg
def ff_0 (I : MI) : MI := w_take (m_fil (m_up (m_up (m_up I 30 12 0) 30 13 (-1)) 30 14 (-1)) 44 0 1260) 31 20
def ff (I : MI) (sl : Nat) : Nat → MI
  | 0 => ff_0 I
  | n + 1 => py_year none (if bI (so (ff I sl n) 31 (m2 (ff I sl n 170 3) 16)) = 0 then ff I sl n else ff_h (ff I sl n) sl n) 31 sl
theorem ff_e1 {I : MI} {sl n : Nat} (h : bI (so (ff I sl n) 31 (m2 (ff I sl n 170 3) 16)) = 0) : ff I sl (n + 1) = py_year none (ff I sl n) 31 sl := by rw [ff, if_pos h]
theorem ff_e2 {I : MI} {sl n : Nat} (h : ¬ bI (so (ff I sl n) 31 (m2 (ff I sl n 170 3) 16)) = 0) (h2 : ff I sl n 30 12 = 0) : ff I sl (n + 1) = py_year none (co_c (ff_u (ff I sl n) n (nI n)) sl (ff_u (ff I sl n) n (nI n) sl 1).toNatClampNeg) 31 sl := by rw [ff, if_neg h, ff_h, if_pos h2]
theorem ff_e3 {I : MI} {sl n : Nat} (h : ¬ bI (so (ff I sl n) 31 (m2 (ff I sl n 170 3) 16)) = 0) (h2 : ¬ ff I sl n 30 12 = 0) : ff I sl (n + 1) = py_year none (co_c (ff_u (ff I sl n) n (ff I sl n 30 13)) sl (ff_u (ff I sl n) n (ff I sl n 30 13) sl 1).toNatClampNeg) 31 sl := by rw [ff, if_neg h, ff_h, if_neg h2]
set_option maxRecDepth 100000 in
set_option maxHeartbeats 400000 in
theorem c_Foresight_findFits {G : MG} {L : List (Nat × Nat)} {I : Nat → Nat → Int32} {J : Nat → Nat → Int64} {R : Nat → Nat → Option MRef} (m : Int32) (sl : Nat) (hR : RF R) (hs : R 24 1 = some (8, 0, sl)) (hq : sl = 3 ∨ sl = 11) (hm : m ≤ 60) : m_met G 7 0 0 y_Foresight_findFits M_Foresight_findFits [mR (0, 0, 30), mR (7, 0, 170), mI m] (L, I, J, R) (m_is (none) (L, ff I sl (m_le m), J, R)) := by
  refine m_met_in n_Foresight_findFits (plainFor_of_name (by decide)) (by decide) (Nat.le_of_ble_eq_true rfl) (ls := [some (mR (0, 0, 30)), some (mR (7, 0, 170)), some (mI m), none]) rfl ?_
  refine b_blk (pc' := 20) (ls' := [some (mR (0, 0, 30)), some (mR (7, 0, 170)), some (mI m), none]) (st' := [mI 0, mR (20, 1260, 44)]) (S' := (L, m_up (m_up (m_up I 30 12 (0 : Int32)) 30 13 (-1 : Int32)) 30 14 (-1 : Int32), J, R)) (P := (True ∧ R 30 6 = some (20, 1260, 44))) [(.aload_n 0, (0, 0, 0, 0, 0)), (.iconst 0, (0, 0, 0, 0, 0)), (.putfield 147, (0, 12, 0, 0, 0)), (.aload_n 0, (0, 0, 0, 0, 0)), (.iconst (-1), (0, 0, 0, (-1), 0)), (.putfield 150, (0, 13, 0, 0, 0)), (.aload_n 0, (0, 0, 0, 0, 0)), (.iconst (-1), (0, 0, 0, (-1), 0)), (.putfield 153, (0, 14, 0, 0, 0)), (.aload_n 0, (0, 0, 0, 0, 0)), (.getfield 28, (0, 6, 3, 0, 0)), (.iconst 0, (0, 0, 0, 0, 0))] [some (20, 1260, 44)] (by decide +kernel) rfl ⟨trivial, (r_30_6 hR)⟩ ?_
  refine b_cS (as := [mR (20, 1260, 44), mI 0]) (st := []) (by decide +kernel) k_0_108 n_Arrays_fill s_Arrays_fill (c_Arrays_fill 44 1260 (0 : Int32) (by decide)) (Nat.le_of_ble_eq_true rfl) (by decide) rfl rfl (fun _ h => h) ?_
  show m_B _ _ _ _ _ _ 23 [some (mR (0, 0, 30)), some (mR (7, 0, 170)), some (mI m), none] [] (L, m_fil (m_up (m_up (m_up I 30 12 (0 : Int32)) 30 13 (-1 : Int32)) 30 14 (-1 : Int32)) 44 (0 : Int32) 1260, J, R)
  refine b_blk (pc' := 31) (ls' := [some (mR (0, 0, 30)), some (mR (7, 0, 170)), some (mI m), none]) (st' := [mR (3, 0, 20), mR (3, 0, 31)]) (S' := (L, m_fil (m_up (m_up (m_up I 30 12 (0 : Int32)) 30 13 (-1 : Int32)) 30 14 (-1 : Int32)) 44 (0 : Int32) 1260, J, R)) (P := ((True ∧ R 30 2 = some (3, 0, 31)) ∧ R 30 0 = some (3, 0, 20))) [(.aload_n 0, (0, 0, 0, 0, 0)), (.getfield 12, (0, 2, 3, 0, 0)), (.aload_n 0, (0, 0, 0, 0, 0)), (.getfield 35, (0, 0, 3, 0, 0))] [some (3, 0, 31), some (3, 0, 20)] (by decide +kernel) rfl ⟨⟨trivial, (r_30_2 hR)⟩, (r_30_0 hR)⟩ ?_
  refine b_cV (as := [mR (3, 0, 20)]) (st := []) (by decide +kernel) k_0_42 n_Lay_takeFrom rfl (by decide) v_Lay_takeFrom (c_take 31 20 (ly_31 hR) (ly_20 hR)) (Nat.le_of_ble_eq_true rfl) (by decide) rfl rfl (fun _ h => h) ?_
  show m_B _ _ _ _ _ _ 34 [some (mR (0, 0, 30)), some (mR (7, 0, 170)), some (mI m), none] [] (L, w_take (m_fil (m_up (m_up (m_up I 30 12 (0 : Int32)) 30 13 (-1 : Int32)) 30 14 (-1 : Int32)) 44 (0 : Int32) 1260) 31 20, J, R)
  refine b_blk (pc' := 36) (ls' := [some (mR (0, 0, 30)), some (mR (7, 0, 170)), some (mI m), some (mI 0)]) (st' := []) (S' := (L, w_take (m_fil (m_up (m_up (m_up I 30 12 (0 : Int32)) 30 13 (-1 : Int32)) 30 14 (-1 : Int32)) 44 (0 : Int32) 1260) 31 20, J, R)) (P := True) [(.iconst 0, (0, 0, 0, 0, 0)), (.istore_n 3, (0, 0, 0, 0, 0))] [] (by decide +kernel) rfl trivial ?_
  suffices hx : m_B G (m_rm 7 0 0) M_Foresight_findFits (m_is (none) (L, ff I sl (m_le m), J, R)) 0 0 109 [some (mR (0, 0, 30)), some (mR (7, 0, 170)), some (mI m), some (mI (nI (m_le m)))] [] (L, ff I sl (m_le m), J, R) by
    refine m_B_cg ?_ rfl ?_ (loop_up (m_le m) (fun n => m_B G (m_rm 7 0 0) M_Foresight_findFits (m_is (none) (L, ff I sl (m_le m), J, R)) 0 0 36 [some (mR (0, 0, 30)), some (mR (7, 0, 170)), some (mI m), some (mI (nI n))] [] (L, ff I sl n, J, R)) ?_ ?_ 0 (Nat.zero_le _))
    · first | with_reducible rfl | (simp only [nI_succ]; done) | rfl
    · first | with_reducible rfl | (simp only [nI_succ]; done) | rfl
    · refine b_blk (pc' := 38) (ls' := [some (mR (0, 0, 30)), some (mR (7, 0, 170)), some (mI m), some (mI (nI (m_le m)))]) (st' := [mI m, mI (nI (m_le m))]) (S' := (L, ff I sl (m_le m), J, R)) (P := True) [(.iload_n 3, (0, 0, 0, 0, 0)), (.iload_n 2, (0, 0, 0, 0, 0))] [] (by decide +kernel) rfl trivial ?_
      refine b_icmp_gt (off := 71) (tgt := 109) (by decide +kernel) (by decide) (fun h1 => ?_) (fun h1 => ?_)
      · exact hx
      · exact (le_yes hm h1).elim
    · intro n hn ih
      refine b_blk (pc' := 38) (ls' := [some (mR (0, 0, 30)), some (mR (7, 0, 170)), some (mI m), some (mI (nI n))]) (st' := [mI m, mI (nI n)]) (S' := (L, ff I sl n, J, R)) (P := True) [(.iload_n 3, (0, 0, 0, 0, 0)), (.iload_n 2, (0, 0, 0, 0, 0))] [] (by decide +kernel) rfl trivial ?_
      refine b_icmp_gt (off := 71) (tgt := 109) (by decide +kernel) (by decide) (fun h2 => ?_) (fun h2 => ?_)
      · exact (le_no hn h2).elim
      · refine b_blk (pc' := 46) (ls' := [some (mR (0, 0, 30)), some (mR (7, 0, 170)), some (mI m), some (mI (nI n))]) (st' := [mR (3, 0, 31), mR (7, 0, 170)]) (S' := (L, ff I sl n, J, R)) (P := (True ∧ R 30 2 = some (3, 0, 31))) [(.aload_n 1, (0, 0, 0, 0, 0)), (.aload_n 0, (0, 0, 0, 0, 0)), (.getfield 12, (0, 2, 3, 0, 0))] [some (3, 0, 31)] (by decide +kernel) rfl ⟨trivial, (r_30_2 hR)⟩ ?_
        refine b_cV (as := [mR (3, 0, 31)]) (st := []) (by decide +kernel) k_0_156 n_Seen_isSo rfl (by decide) v_Seen_isSo (c_Seen_isSo 31 hR (ly_31 hR)) (Nat.le_of_ble_eq_true rfl) (by decide) rfl rfl (fun _ h => h) ?_
        show m_B _ _ _ _ _ _ 49 [some (mR (0, 0, 30)), some (mR (7, 0, 170)), some (mI m), some (mI (nI n))] [mI (bI (so (ff I sl n) 31 (m2 ((ff I sl n) 170 3) 16)))] (L, (ff I sl n), J, R)
        refine b_if_eq (off := 41) (tgt := 90) (by decide +kernel) (by decide) (fun h3 => ?_) (fun h3 => ?_)
        · refine b_blk (pc' := 99) (ls' := [some (mR (0, 0, 30)), some (mR (7, 0, 170)), some (mI m), some (mI (nI n))]) (st' := [mN, mR (3, 0, 31), mR (10, 0, 24)]) (S' := (L, (ff I sl n), J, R)) (P := ((True ∧ R 30 1 = some (10, 0, 24)) ∧ R 30 2 = some (3, 0, 31))) [(.aload_n 0, (0, 0, 0, 0, 0)), (.getfield 38, (0, 1, 3, 0, 0)), (.aload_n 0, (0, 0, 0, 0, 0)), (.getfield 12, (0, 2, 3, 0, 0)), (.aconst_null, (0, 0, 0, 0, 0))] [some (10, 0, 24), some (3, 0, 31)] (by decide +kernel) rfl ⟨⟨trivial, (r_30_1 hR)⟩, (r_30_2 hR)⟩ ?_
          refine b_cV (as := [mR (3, 0, 31), mN]) (st := []) (by decide +kernel) k_0_50 n_Walker_passYear rfl (by decide) v_Walker_passYear (c_Walker_passYear_N 31 sl hR hs (sl_of hR hq) (ly_31 hR) (fp_no hq (by decide))) (Nat.le_of_ble_eq_true rfl) (by decide) rfl rfl (fun _ h => h) ?_
          show m_B _ _ _ _ _ _ 102 [some (mR (0, 0, 30)), some (mR (7, 0, 170)), some (mI m), some (mI (nI n))] [mI (py_went none (ff I sl n) 31 sl)] (L, py_year none (ff I sl n) 31 sl, J, R)
          refine b_blk (pc' := 36) (ls' := [some (mR (0, 0, 30)), some (mR (7, 0, 170)), some (mI m), some (mI ((nI n) + 1))]) (st' := []) (S' := (L, py_year none (ff I sl n) 31 sl, J, R)) (P := True) [(.pop, (0, 0, 0, 0, 0)), (.iinc 3 1, (0, 0, 0, 1, 0)), (.goto (-70), (0, 36, 0, 0, 0))] [] (by decide +kernel) rfl trivial ?_
          refine m_B_cg ?_ rfl ?_ ih
          · first | with_reducible rfl | (simp only [nI_succ]; done) | rfl
          · exact congrArg (fun Z => (L, Z, J, R)) (ff_e1 h3).symm
        · refine b_blk (pc' := 57) (ls' := [some (mR (0, 0, 30)), some (mR (7, 0, 170)), some (mI m), some (mI (nI n))]) (st' := [mI ((ff I sl n) 30 12), mR (0, 0, 30)]) (S' := (L, (ff I sl n), J, R)) (P := True) [(.aload_n 0, (0, 0, 0, 0, 0)), (.aload_n 0, (0, 0, 0, 0, 0)), (.getfield 147, (0, 12, 0, 0, 0))] [] (by decide +kernel) rfl trivial ?_
          refine b_if_ne (off := 7) (tgt := 64) (by decide +kernel) (by decide) (fun h4 => ?_) (fun h4 => ?_)
          · refine b_blk (pc' := 87) (ls' := [some (mR (0, 0, 30)), some (mR (7, 0, 170)), some (mI m), some (mI (nI n))]) (st' := [mR (0, 0, 30)]) (S' := (L, m_up (m_up (m_up (ff I sl n) 30 13 ((ff I sl n) 30 13)) 30 14 (nI n)) 30 12 (((ff I sl n) 30 12) + (1 : Int32)), J, R)) (P := True) [(.aload_n 0, (0, 0, 0, 0, 0)), (.getfield 150, (0, 13, 0, 0, 0)), (.putfield 150, (0, 13, 0, 0, 0)), (.aload_n 0, (0, 0, 0, 0, 0)), (.iload_n 3, (0, 0, 0, 0, 0)), (.putfield 153, (0, 14, 0, 0, 0)), (.aload_n 0, (0, 0, 0, 0, 0)), (.dup, (0, 0, 0, 0, 0)), (.getfield 147, (0, 12, 0, 0, 0)), (.iconst 1, (0, 0, 0, 1, 0)), (.iadd, (0, 0, 0, 0, 0)), (.putfield 147, (0, 12, 0, 0, 0)), (.aload_n 0, (0, 0, 0, 0, 0))] [] (by decide +kernel) rfl trivial ?_
            refine b_cV (as := []) (st := []) (by decide +kernel) k_0_162 n_Foresight_countOwners rfl (by decide) v_Foresight_countOwners (c_Foresight_countOwners  sl hR hs hq) (Nat.le_of_ble_eq_true rfl) (by decide) rfl rfl (fun _ h => h) ?_
            show m_B _ _ _ _ _ _ 90 [some (mR (0, 0, 30)), some (mR (7, 0, 170)), some (mI m), some (mI (nI n))] [] (L, co_c (m_up (m_up (m_up (ff I sl n) 30 13 ((ff I sl n) 30 13)) 30 14 (nI n)) 30 12 (((ff I sl n) 30 12) + (1 : Int32))) sl ((m_up (m_up (m_up (ff I sl n) 30 13 ((ff I sl n) 30 13)) 30 14 (nI n)) 30 12 (((ff I sl n) 30 12) + (1 : Int32))) sl 1).toNatClampNeg, J, R)
            refine b_blk (pc' := 99) (ls' := [some (mR (0, 0, 30)), some (mR (7, 0, 170)), some (mI m), some (mI (nI n))]) (st' := [mN, mR (3, 0, 31), mR (10, 0, 24)]) (S' := (L, co_c (m_up (m_up (m_up (ff I sl n) 30 13 ((ff I sl n) 30 13)) 30 14 (nI n)) 30 12 (((ff I sl n) 30 12) + (1 : Int32))) sl ((m_up (m_up (m_up (ff I sl n) 30 13 ((ff I sl n) 30 13)) 30 14 (nI n)) 30 12 (((ff I sl n) 30 12) + (1 : Int32))) sl 1).toNatClampNeg, J, R)) (P := ((True ∧ R 30 1 = some (10, 0, 24)) ∧ R 30 2 = some (3, 0, 31))) [(.aload_n 0, (0, 0, 0, 0, 0)), (.getfield 38, (0, 1, 3, 0, 0)), (.aload_n 0, (0, 0, 0, 0, 0)), (.getfield 12, (0, 2, 3, 0, 0)), (.aconst_null, (0, 0, 0, 0, 0))] [some (10, 0, 24), some (3, 0, 31)] (by decide +kernel) rfl ⟨⟨trivial, (r_30_1 hR)⟩, (r_30_2 hR)⟩ ?_
            refine b_cV (as := [mR (3, 0, 31), mN]) (st := []) (by decide +kernel) k_0_50 n_Walker_passYear rfl (by decide) v_Walker_passYear (c_Walker_passYear_N 31 sl hR hs (sl_of hR hq) (ly_31 hR) (fp_no hq (by decide))) (Nat.le_of_ble_eq_true rfl) (by decide) rfl rfl (fun _ h => h) ?_
            show m_B _ _ _ _ _ _ 102 [some (mR (0, 0, 30)), some (mR (7, 0, 170)), some (mI m), some (mI (nI n))] [mI (py_went none (co_c (m_up (m_up (m_up (ff I sl n) 30 13 ((ff I sl n) 30 13)) 30 14 (nI n)) 30 12 (((ff I sl n) 30 12) + (1 : Int32))) sl ((m_up (m_up (m_up (ff I sl n) 30 13 ((ff I sl n) 30 13)) 30 14 (nI n)) 30 12 (((ff I sl n) 30 12) + (1 : Int32))) sl 1).toNatClampNeg) 31 sl)] (L, py_year none (co_c (m_up (m_up (m_up (ff I sl n) 30 13 ((ff I sl n) 30 13)) 30 14 (nI n)) 30 12 (((ff I sl n) 30 12) + (1 : Int32))) sl ((m_up (m_up (m_up (ff I sl n) 30 13 ((ff I sl n) 30 13)) 30 14 (nI n)) 30 12 (((ff I sl n) 30 12) + (1 : Int32))) sl 1).toNatClampNeg) 31 sl, J, R)
            refine b_blk (pc' := 36) (ls' := [some (mR (0, 0, 30)), some (mR (7, 0, 170)), some (mI m), some (mI ((nI n) + 1))]) (st' := []) (S' := (L, py_year none (co_c (m_up (m_up (m_up (ff I sl n) 30 13 ((ff I sl n) 30 13)) 30 14 (nI n)) 30 12 (((ff I sl n) 30 12) + (1 : Int32))) sl ((m_up (m_up (m_up (ff I sl n) 30 13 ((ff I sl n) 30 13)) 30 14 (nI n)) 30 12 (((ff I sl n) 30 12) + (1 : Int32))) sl 1).toNatClampNeg) 31 sl, J, R)) (P := True) [(.pop, (0, 0, 0, 0, 0)), (.iinc 3 1, (0, 0, 0, 1, 0)), (.goto (-70), (0, 36, 0, 0, 0))] [] (by decide +kernel) rfl trivial ?_
            refine m_B_cg ?_ rfl ?_ ih
            · first | with_reducible rfl | (simp only [nI_succ]; done) | rfl
            · exact congrArg (fun Z => (L, Z, J, R)) (ff_e3 h3 h4).symm
          · refine b_blk (pc' := 68) (ls' := [some (mR (0, 0, 30)), some (mR (7, 0, 170)), some (mI m), some (mI (nI n))]) (st' := [mI (nI n), mR (0, 0, 30)]) (S' := (L, (ff I sl n), J, R)) (P := True) [(.iload_n 3, (0, 0, 0, 0, 0)), (.goto 7, (0, 68, 0, 0, 0))] [] (by decide +kernel) rfl trivial ?_
            refine b_blk (pc' := 87) (ls' := [some (mR (0, 0, 30)), some (mR (7, 0, 170)), some (mI m), some (mI (nI n))]) (st' := [mR (0, 0, 30)]) (S' := (L, m_up (m_up (m_up (ff I sl n) 30 13 (nI n)) 30 14 (nI n)) 30 12 (((ff I sl n) 30 12) + (1 : Int32)), J, R)) (P := True) [(.putfield 150, (0, 13, 0, 0, 0)), (.aload_n 0, (0, 0, 0, 0, 0)), (.iload_n 3, (0, 0, 0, 0, 0)), (.putfield 153, (0, 14, 0, 0, 0)), (.aload_n 0, (0, 0, 0, 0, 0)), (.dup, (0, 0, 0, 0, 0)), (.getfield 147, (0, 12, 0, 0, 0)), (.iconst 1, (0, 0, 0, 1, 0)), (.iadd, (0, 0, 0, 0, 0)), (.putfield 147, (0, 12, 0, 0, 0)), (.aload_n 0, (0, 0, 0, 0, 0))] [] (by decide +kernel) rfl trivial ?_
            refine b_cV (as := []) (st := []) (by decide +kernel) k_0_162 n_Foresight_countOwners rfl (by decide) v_Foresight_countOwners (c_Foresight_countOwners  sl hR hs hq) (Nat.le_of_ble_eq_true rfl) (by decide) rfl rfl (fun _ h => h) ?_
            show m_B _ _ _ _ _ _ 90 [some (mR (0, 0, 30)), some (mR (7, 0, 170)), some (mI m), some (mI (nI n))] [] (L, co_c (m_up (m_up (m_up (ff I sl n) 30 13 (nI n)) 30 14 (nI n)) 30 12 (((ff I sl n) 30 12) + (1 : Int32))) sl ((m_up (m_up (m_up (ff I sl n) 30 13 (nI n)) 30 14 (nI n)) 30 12 (((ff I sl n) 30 12) + (1 : Int32))) sl 1).toNatClampNeg, J, R)
            refine b_blk (pc' := 99) (ls' := [some (mR (0, 0, 30)), some (mR (7, 0, 170)), some (mI m), some (mI (nI n))]) (st' := [mN, mR (3, 0, 31), mR (10, 0, 24)]) (S' := (L, co_c (m_up (m_up (m_up (ff I sl n) 30 13 (nI n)) 30 14 (nI n)) 30 12 (((ff I sl n) 30 12) + (1 : Int32))) sl ((m_up (m_up (m_up (ff I sl n) 30 13 (nI n)) 30 14 (nI n)) 30 12 (((ff I sl n) 30 12) + (1 : Int32))) sl 1).toNatClampNeg, J, R)) (P := ((True ∧ R 30 1 = some (10, 0, 24)) ∧ R 30 2 = some (3, 0, 31))) [(.aload_n 0, (0, 0, 0, 0, 0)), (.getfield 38, (0, 1, 3, 0, 0)), (.aload_n 0, (0, 0, 0, 0, 0)), (.getfield 12, (0, 2, 3, 0, 0)), (.aconst_null, (0, 0, 0, 0, 0))] [some (10, 0, 24), some (3, 0, 31)] (by decide +kernel) rfl ⟨⟨trivial, (r_30_1 hR)⟩, (r_30_2 hR)⟩ ?_
            refine b_cV (as := [mR (3, 0, 31), mN]) (st := []) (by decide +kernel) k_0_50 n_Walker_passYear rfl (by decide) v_Walker_passYear (c_Walker_passYear_N 31 sl hR hs (sl_of hR hq) (ly_31 hR) (fp_no hq (by decide))) (Nat.le_of_ble_eq_true rfl) (by decide) rfl rfl (fun _ h => h) ?_
            show m_B _ _ _ _ _ _ 102 [some (mR (0, 0, 30)), some (mR (7, 0, 170)), some (mI m), some (mI (nI n))] [mI (py_went none (co_c (m_up (m_up (m_up (ff I sl n) 30 13 (nI n)) 30 14 (nI n)) 30 12 (((ff I sl n) 30 12) + (1 : Int32))) sl ((m_up (m_up (m_up (ff I sl n) 30 13 (nI n)) 30 14 (nI n)) 30 12 (((ff I sl n) 30 12) + (1 : Int32))) sl 1).toNatClampNeg) 31 sl)] (L, py_year none (co_c (m_up (m_up (m_up (ff I sl n) 30 13 (nI n)) 30 14 (nI n)) 30 12 (((ff I sl n) 30 12) + (1 : Int32))) sl ((m_up (m_up (m_up (ff I sl n) 30 13 (nI n)) 30 14 (nI n)) 30 12 (((ff I sl n) 30 12) + (1 : Int32))) sl 1).toNatClampNeg) 31 sl, J, R)
            refine b_blk (pc' := 36) (ls' := [some (mR (0, 0, 30)), some (mR (7, 0, 170)), some (mI m), some (mI ((nI n) + 1))]) (st' := []) (S' := (L, py_year none (co_c (m_up (m_up (m_up (ff I sl n) 30 13 (nI n)) 30 14 (nI n)) 30 12 (((ff I sl n) 30 12) + (1 : Int32))) sl ((m_up (m_up (m_up (ff I sl n) 30 13 (nI n)) 30 14 (nI n)) 30 12 (((ff I sl n) 30 12) + (1 : Int32))) sl 1).toNatClampNeg) 31 sl, J, R)) (P := True) [(.pop, (0, 0, 0, 0, 0)), (.iinc 3 1, (0, 0, 0, 1, 0)), (.goto (-70), (0, 36, 0, 0, 0))] [] (by decide +kernel) rfl trivial ?_
            refine m_B_cg ?_ rfl ?_ ih
            · first | with_reducible rfl | (simp only [nI_succ]; done) | rfl
            · exact congrArg (fun Z => (L, Z, J, R)) (ff_e2 h3 h4).symm
  refine b_vret (by decide +kernel) rfl ⟨?_, ?_⟩
  · rfl
  · rfl
def lb (I : MI) (c r : Int32) : Nat → Int32
  | 0 => 0
  | n + 1 => if (c * 30 + r) * 7 + nI n < 0 then lb I c r n else if Int32.ofNat 1260 ≤ (c * 30 + r) * 7 + nI n then lb I c r n else f_Math_max_II (lb I c r n) (I 44 ((c * 30 + r) * 7 + nI n).toNatClampNeg)
set_option maxRecDepth 100000 in
set_option maxHeartbeats 400000 in
theorem c_Foresight_leftBy {G : MG} {L : List (Nat × Nat)} {I : Nat → Nat → Int32} {J : Nat → Nat → Int64} {R : Nat → Nat → Option MRef} (c : Int32) (r : Int32) (hR : RF R) : m_met G 2 0 0 y_Foresight_leftBy M_Foresight_leftBy [mR (0, 0, 30), mI c, mI r] (L, I, J, R) (m_is (some (mI (lb I c r 7))) (L, I, J, R)) := by
  refine m_met_in n_Foresight_leftBy (plainFor_of_name (by decide)) (by decide) (Nat.le_of_ble_eq_true rfl) (ls := [some (mR (0, 0, 30)), some (mI c), some (mI r), none, none, none]) rfl ?_
  refine b_blk (pc' := 5) (ls' := [some (mR (0, 0, 30)), some (mI c), some (mI r), some (mI 0), some (mI 0), none]) (st' := []) (S' := (L, I, J, R)) (P := True) [(.iconst 0, (0, 0, 0, 0, 0)), (.istore_n 3, (0, 0, 0, 0, 0)), (.iconst 0, (0, 0, 0, 0, 0)), (.istore 4, (0, 0, 0, 0, 0))] [] (by decide +kernel) rfl trivial ?_
  suffices hx : m_B G (m_rm 2 0 0) M_Foresight_leftBy (m_is (some (mI (lb I c r 7))) (L, I, J, R)) 0 0 63 [some (mR (0, 0, 30)), some (mI c), some (mI r), some (mI (lb I c r 7)), some (mI (nI 7)), none] [] (L, I, J, R) by
    refine m_B_cg ?_ rfl ?_ (loop_up 7 (fun n => m_B G (m_rm 2 0 0) M_Foresight_leftBy (m_is (some (mI (lb I c r 7))) (L, I, J, R)) 0 0 5 [some (mR (0, 0, 30)), some (mI c), some (mI r), some (mI (lb I c r n)), some (mI (nI n)), none] [] (L, I, J, R)) ?_ ?_ 0 (Nat.zero_le _))
    · first | with_reducible rfl | rfl
    · rfl
    · refine b_blk (pc' := 9) (ls' := [some (mR (0, 0, 30)), some (mI c), some (mI r), some (mI (lb I c r 7)), some (mI (nI 7)), none]) (st' := [mI 7, mI (nI 7)]) (S' := (L, I, J, R)) (P := True) [(.iload 4, (0, 0, 0, 0, 0)), (.bipush 7, (0, 0, 0, 7, 0))] [] (by decide +kernel) rfl trivial ?_
      refine b_icmp_ge (off := 54) (tgt := 63) (by decide +kernel) (by decide) (fun h1 => ?_) (fun h1 => ?_)
      · exact hx
      · exact absurd (Int32.le_refl _) h1
    · intro n hn ih
      refine b_blk (pc' := 9) (ls' := [some (mR (0, 0, 30)), some (mI c), some (mI r), some (mI (lb I c r n)), some (mI (nI n)), none]) (st' := [mI 7, mI (nI n)]) (S' := (L, I, J, R)) (P := True) [(.iload 4, (0, 0, 0, 0, 0)), (.bipush 7, (0, 0, 0, 7, 0))] [] (by decide +kernel) rfl trivial ?_
      refine b_icmp_ge (off := 54) (tgt := 63) (by decide +kernel) (by decide) (fun h2 => ?_) (fun h2 => ?_)
      · exact absurd h2 (nI_ge hn (by decide))
      · refine b_blk (pc' := 28) (ls' := [some (mR (0, 0, 30)), some (mI c), some (mI r), some (mI (lb I c r n)), some (mI (nI n)), some (mI ((((c * (30 : Int32)) + r) * (7 : Int32)) + (nI n)))]) (st' := [mI ((((c * (30 : Int32)) + r) * (7 : Int32)) + (nI n))]) (S' := (L, I, J, R)) (P := True) [(.iload_n 1, (0, 0, 0, 0, 0)), (.bipush 30, (0, 0, 0, 30, 0)), (.imul, (0, 0, 0, 0, 0)), (.iload_n 2, (0, 0, 0, 0, 0)), (.iadd, (0, 0, 0, 0, 0)), (.bipush 7, (0, 0, 0, 7, 0)), (.imul, (0, 0, 0, 0, 0)), (.iload 4, (0, 0, 0, 0, 0)), (.iadd, (0, 0, 0, 0, 0)), (.istore 5, (0, 0, 0, 0, 0)), (.iload 5, (0, 0, 0, 0, 0))] [] (by decide +kernel) rfl trivial ?_
        refine b_if_lt (off := 27) (tgt := 55) (by decide +kernel) (by decide) (fun h3 => ?_) (fun h3 => ?_)
        · refine b_blk (pc' := 5) (ls' := [some (mR (0, 0, 30)), some (mI c), some (mI r), some (mI (lb I c r n)), some (mI ((nI n) + 1)), some (mI ((((c * (30 : Int32)) + r) * (7 : Int32)) + (nI n)))]) (st' := []) (S' := (L, I, J, R)) (P := True) [(.iload_n 3, (0, 0, 0, 0, 0)), (.istore_n 3, (0, 0, 0, 0, 0)), (.iinc 4 1, (0, 0, 0, 1, 0)), (.goto (-55), (0, 5, 0, 0, 0))] [] (by decide +kernel) rfl trivial ?_
          refine b_frg 5 ?_
          refine m_B_cg ?_ rfl ?_ ih
          · simp only [m_clr, nI_succ]; rw [lb, if_pos h3]
          · rfl
        · refine b_blk (pc' := 38) (ls' := [some (mR (0, 0, 30)), some (mI c), some (mI r), some (mI (lb I c r n)), some (mI (nI n)), some (mI ((((c * (30 : Int32)) + r) * (7 : Int32)) + (nI n)))]) (st' := [mI (Int32.ofNat 1260), mI ((((c * (30 : Int32)) + r) * (7 : Int32)) + (nI n))]) (S' := (L, I, J, R)) (P := (True ∧ R 30 6 = some (20, 1260, 44))) [(.iload 5, (0, 0, 0, 0, 0)), (.aload_n 0, (0, 0, 0, 0, 0)), (.getfield 28, (0, 6, 3, 0, 0)), (.arraylength, (0, 0, 0, 0, 0))] [some (20, 1260, 44)] (by decide +kernel) rfl ⟨trivial, (r_30_6 hR)⟩ ?_
          refine b_icmp_ge (off := 17) (tgt := 55) (by decide +kernel) (by decide) (fun h4 => ?_) (fun h4 => ?_)
          · refine b_blk (pc' := 5) (ls' := [some (mR (0, 0, 30)), some (mI c), some (mI r), some (mI (lb I c r n)), some (mI ((nI n) + 1)), some (mI ((((c * (30 : Int32)) + r) * (7 : Int32)) + (nI n)))]) (st' := []) (S' := (L, I, J, R)) (P := True) [(.iload_n 3, (0, 0, 0, 0, 0)), (.istore_n 3, (0, 0, 0, 0, 0)), (.iinc 4 1, (0, 0, 0, 1, 0)), (.goto (-55), (0, 5, 0, 0, 0))] [] (by decide +kernel) rfl trivial ?_
            refine b_frg 5 ?_
            refine m_B_cg ?_ rfl ?_ ih
            · simp only [m_clr, nI_succ]; rw [lb, if_neg h3, if_pos h4]
            · rfl
          · refine b_blk (pc' := 49) (ls' := [some (mR (0, 0, 30)), some (mI c), some (mI r), some (mI (lb I c r n)), some (mI (nI n)), some (mI ((((c * (30 : Int32)) + r) * (7 : Int32)) + (nI n)))]) (st' := [mI (I 44 ((((c * (30 : Int32)) + r) * (7 : Int32)) + (nI n)).toNatClampNeg), mI (lb I c r n)]) (S' := (L, I, J, R)) (P := ((True ∧ R 30 6 = some (20, 1260, 44)) ∧ vp_in ((((c * (30 : Int32)) + r) * (7 : Int32)) + (nI n)) 1260)) [(.iload_n 3, (0, 0, 0, 0, 0)), (.aload_n 0, (0, 0, 0, 0, 0)), (.getfield 28, (0, 6, 3, 0, 0)), (.iload 5, (0, 0, 0, 0, 0)), (.iaload, (0, 0, 0, 0, 0))] [some (20, 1260, 44)] (by decide +kernel) rfl ⟨⟨trivial, (r_30_6 hR)⟩, (in_1260 h3 h4)⟩ ?_
            refine b_cS (as := [mI (lb I c r n), mI (I 44 ((((c * (30 : Int32)) + r) * (7 : Int32)) + (nI n)).toNatClampNeg)]) (st := []) (by decide +kernel) k_0_184 n_Math_max_II s_Math_max_II (c_Math_max_II (lb I c r n) (I 44 ((((c * (30 : Int32)) + r) * (7 : Int32)) + (nI n)).toNatClampNeg) ) (Nat.le_of_ble_eq_true rfl) (by decide) rfl rfl (fun _ h => h) ?_
            show m_B _ _ _ _ _ _ 52 [some (mR (0, 0, 30)), some (mI c), some (mI r), some (mI (lb I c r n)), some (mI (nI n)), some (mI ((((c * (30 : Int32)) + r) * (7 : Int32)) + (nI n)))] [mI (f_Math_max_II (lb I c r n) (I 44 ((((c * (30 : Int32)) + r) * (7 : Int32)) + (nI n)).toNatClampNeg))] (L, I, J, R)
            refine b_blk (pc' := 56) (ls' := [some (mR (0, 0, 30)), some (mI c), some (mI r), some (mI (lb I c r n)), some (mI (nI n)), some (mI ((((c * (30 : Int32)) + r) * (7 : Int32)) + (nI n)))]) (st' := [mI (f_Math_max_II (lb I c r n) (I 44 ((((c * (30 : Int32)) + r) * (7 : Int32)) + (nI n)).toNatClampNeg))]) (S' := (L, I, J, R)) (P := True) [(.goto 4, (0, 56, 0, 0, 0))] [] (by decide +kernel) rfl trivial ?_
            refine b_blk (pc' := 5) (ls' := [some (mR (0, 0, 30)), some (mI c), some (mI r), some (mI (f_Math_max_II (lb I c r n) (I 44 ((((c * (30 : Int32)) + r) * (7 : Int32)) + (nI n)).toNatClampNeg))), some (mI ((nI n) + 1)), some (mI ((((c * (30 : Int32)) + r) * (7 : Int32)) + (nI n)))]) (st' := []) (S' := (L, I, J, R)) (P := True) [(.istore_n 3, (0, 0, 0, 0, 0)), (.iinc 4 1, (0, 0, 0, 1, 0)), (.goto (-55), (0, 5, 0, 0, 0))] [] (by decide +kernel) rfl trivial ?_
            refine b_frg 5 ?_
            refine m_B_cg ?_ rfl ?_ ih
            · simp only [m_clr, nI_succ]; rw [lb, if_neg h3, if_neg h4]
            · rfl
  refine b_blk (pc' := 64) (ls' := [some (mR (0, 0, 30)), some (mI c), some (mI r), some (mI (lb I c r 7)), some (mI (nI 7)), none]) (st' := [mI (lb I c r 7)]) (S' := (L, I, J, R)) (P := True) [(.iload_n 3, (0, 0, 0, 0, 0))] [] (by decide +kernel) rfl trivial ?_
  refine b_iret (by decide +kernel) rfl ⟨?_, ?_⟩
  · rfl
  · rfl
