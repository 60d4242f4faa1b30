/-! what tells; at rest -/
def ft_r (X : MI) (c : Int32) : Nat → MI
  | 0 => X
  | q + 1 => if ft_r X c q 30 17 ≤ lb (ft_r X c q) c (nI q) 7 then ft_r X c q else m_up (m_up (m_up (ft_r X c q) 30 17 (lb (ft_r X c q) c (nI q) 7)) 30 15 c) 30 16 (nI q)
def ft_c (X : MI) (sl : Nat) : Nat → MI
  | 0 => X
  | n + 1 => ft_r (ft_c X sl n) (nI n) (X sl 2).toNatClampNeg
def ft_N (X : MI) (sl : Nat) : Nat := if X 30 12 ≤ 0 then 0 else (X sl 1).toNatClampNeg
def ft_0 (I : MI) (sl : Nat) (m : Int32) : MI := m_up (m_up (m_up (ff I sl (m_le m)) 30 15 (-1)) 30 16 (-1)) 30 17 (ff I sl (m_le m) 30 12 + 1)
theorem ft_ri (X : MI) (c : Int32) : ∀ q, fr (fun k => k = 30) (ft_r X c q) X ∧ ft_r X c q 30 12 = X 30 12 := by
  intro q
  induction q with
  | zero => exact ⟨fr_refl, rfl⟩
  | succ q ih =>
    simp only [ft_r]
    split
    · exact ih
    · exact ⟨fr_up (fr_up (fr_up ih.1 rfl) rfl) rfl, by simp [m_up]; exact ih.2⟩
theorem ft_ci (X : MI) (sl : Nat) : ∀ n, fr (fun k => k = 30) (ft_c X sl n) X ∧ ft_c X sl n 30 12 = X 30 12 := by
  intro n
  induction n with
  | zero => exact ⟨fr_refl, rfl⟩
  | succ n ih => exact ⟨fr_trans (ft_ri _ _ _).1 ih.1, (ft_ri _ _ _).2.trans ih.2⟩
theorem n30 {sl : Nat} (hq : sl = 3 ∨ sl = 11) : ¬ (fun k => k = 30) sl := by show ¬ sl = 30; omega
theorem ft_c1 {X : MI} {sl n : Nat} (hq : sl = 3 ∨ sl = 11) : ft_c X sl n sl 1 = X sl 1 := by rw [(ft_ci X sl n).1 sl (n30 hq)]
theorem ft_c2 {X : MI} {sl n q : Nat} {c : Int32} (hq : sl = 3 ∨ sl = 11) : ft_r (ft_c X sl n) c q sl 2 = X sl 2 := by rw [(ft_ri _ c q).1 sl (n30 hq), (ft_ci X sl n).1 sl (n30 hq)]
theorem ft_a {X : MI} {sl n : Nat} (hq : sl = 3 ∨ sl = 11) (hn : n < ft_N X sl) (h : ft_c X sl n sl 1 ≤ nI n) : False := by
  unfold ft_N at hn
  split at hn
  · omega
  · exact ge_no (ft_c1 hq) hn h
theorem ft_b {X : MI} {sl n : Nat} (hn : n < ft_N X sl) (h : ft_c X sl n 30 12 ≤ 0) : False := by
  rw [(ft_ci X sl n).2] at h
  unfold ft_N at hn
  rw [if_pos h] at hn
  omega
theorem ft_y {X : MI} {sl : Nat} (hq : sl = 3 ∨ sl = 11) (h1 : ¬ ft_c X sl (ft_N X sl) sl 1 ≤ nI (ft_N X sl)) (h2 : ¬ ft_c X sl (ft_N X sl) 30 12 ≤ 0) : False := by
  rw [(ft_ci X sl _).2] at h2
  have e : ft_N X sl = (X sl 1).toNatClampNeg := by unfold ft_N; rw [if_neg h2]
  rw [e] at h1
  exact ge_yes (ft_c1 hq) h1
set_option maxRecDepth 100000 in
set_option maxHeartbeats 400000 in
theorem c_Foresight_findTelling {G : MG} {L : List (Nat × Nat)} {I : Nat → Nat → Int32} {J : Nat → Nat → Int64} {R : Nat → Nat → Option MRef} (m : Int32) (sl : Nat) (hR : RF R) (hs : R 24 1 = some (8, 0, sl)) (hq : sl = 3 ∨ sl = 11) (hm : m ≤ 60) : m_met G 8 0 0 y_Foresight_findTelling M_Foresight_findTelling [mR (0, 0, 30), mR (7, 0, 170), mI m] (L, I, J, R) (m_is (none) (L, ft_c (ft_0 I sl m) sl (ft_N (ft_0 I sl m) sl), J, R)) := by
  refine m_met_in n_Foresight_findTelling (plainFor_of_name (by decide)) (by decide) (Nat.le_of_ble_eq_true rfl) (ls := [some (mR (0, 0, 30)), some (mR (7, 0, 170)), some (mI m), none, none, none]) rfl ?_
  refine b_blk (pc' := 3) (ls' := [some (mR (0, 0, 30)), some (mR (7, 0, 170)), some (mI m), none, none, none]) (st' := [mI m, mR (7, 0, 170), mR (0, 0, 30)]) (S' := (L, I, J, R)) (P := True) [(.aload_n 0, (0, 0, 0, 0, 0)), (.aload_n 1, (0, 0, 0, 0, 0)), (.iload_n 2, (0, 0, 0, 0, 0))] [] (by decide +kernel) rfl trivial ?_
  refine b_cV (as := [mR (7, 0, 170), mI m]) (st := []) (by decide +kernel) k_0_168 n_Foresight_findFits rfl (by decide) v_Foresight_findFits (c_Foresight_findFits m sl hR hs hq (by assumption)) (Nat.le_of_ble_eq_true rfl) (by decide) rfl rfl (fun _ h => h) ?_
  show m_B _ _ _ _ _ _ 6 [some (mR (0, 0, 30)), some (mR (7, 0, 170)), some (mI m), none, none, none] [] (L, ff I sl (m_le m), J, R)
  refine b_blk (pc' := 28) (ls' := [some (mR (0, 0, 30)), some (mR (7, 0, 170)), some (mI m), some (mI 0), none, none]) (st' := []) (S' := (L, m_up (m_up (m_up (ff I sl (m_le m)) 30 15 (-1 : Int32)) 30 16 (-1 : Int32)) 30 17 (((ff I sl (m_le m)) 30 12) + (1 : Int32)), J, R)) (P := True) [(.aload_n 0, (0, 0, 0, 0, 0)), (.iconst (-1), (0, 0, 0, (-1), 0)), (.putfield 172, (0, 15, 0, 0, 0)), (.aload_n 0, (0, 0, 0, 0, 0)), (.iconst (-1), (0, 0, 0, (-1), 0)), (.putfield 175, (0, 16, 0, 0, 0)), (.aload_n 0, (0, 0, 0, 0, 0)), (.aload_n 0, (0, 0, 0, 0, 0)), (.getfield 147, (0, 12, 0, 0, 0)), (.iconst 1, (0, 0, 0, 1, 0)), (.iadd, (0, 0, 0, 0, 0)), (.putfield 178, (0, 17, 0, 0, 0)), (.iconst 0, (0, 0, 0, 0, 0)), (.istore_n 3, (0, 0, 0, 0, 0))] [] (by decide +kernel) rfl trivial ?_
  suffices hx : m_B G (m_rm 8 0 0) M_Foresight_findTelling (m_is (none) (L, ft_c (ft_0 I sl m) sl (ft_N (ft_0 I sl m) sl), J, R)) 0 0 114 [some (mR (0, 0, 30)), some (mR (7, 0, 170)), some (mI m), some (mI (nI (ft_N (ft_0 I sl m) sl))), none, none] [] (L, ft_c (ft_0 I sl m) sl (ft_N (ft_0 I sl m) sl), J, R) by
    refine m_B_cg ?_ rfl ?_ (loop_up (ft_N (ft_0 I sl m) sl) (fun n => m_B G (m_rm 8 0 0) M_Foresight_findTelling (m_is (none) (L, ft_c (ft_0 I sl m) sl (ft_N (ft_0 I sl m) sl), J, R)) 0 0 28 [some (mR (0, 0, 30)), some (mR (7, 0, 170)), some (mI m), some (mI (nI n)), none, none] [] (L, ft_c (ft_0 I sl m) sl n, J, R)) ?_ ?_ 0 (Nat.zero_le _))
    · first | with_reducible rfl | (simp only [m_clr, nI_succ]; done) | rfl
    · first | with_reducible rfl | (simp only [m_clr, nI_succ]; done) | rfl
    · refine b_blk (pc' := 39) (ls' := [some (mR (0, 0, 30)), some (mR (7, 0, 170)), some (mI m), some (mI (nI (ft_N (ft_0 I sl m) sl))), none, none]) (st' := [mI ((ft_c (ft_0 I sl m) sl (ft_N (ft_0 I sl m) sl)) sl 1), mI (nI (ft_N (ft_0 I sl m) sl))]) (S' := (L, ft_c (ft_0 I sl m) sl (ft_N (ft_0 I sl m) sl), J, R)) (P := ((True ∧ R 30 1 = some (10, 0, 24)) ∧ R 24 1 = some (8, 0, sl))) [(.iload_n 3, (0, 0, 0, 0, 0)), (.aload_n 0, (0, 0, 0, 0, 0)), (.getfield 38, (0, 1, 3, 0, 0)), (.getfield 60, (10, 1, 3, 0, 0)), (.getfield 64, (8, 1, 0, 0, 0))] [some (10, 0, 24), some (8, 0, sl)] (by decide +kernel) rfl ⟨⟨trivial, (r_30_1 hR)⟩, hs⟩ ?_
      refine b_icmp_ge (off := 75) (tgt := 114) (by decide +kernel) (by decide) (fun h1 => ?_) (fun h1 => ?_)
      · exact hx
      · refine b_blk (pc' := 46) (ls' := [some (mR (0, 0, 30)), some (mR (7, 0, 170)), some (mI m), some (mI (nI (ft_N (ft_0 I sl m) sl))), none, none]) (st' := [mI ((ft_c (ft_0 I sl m) sl (ft_N (ft_0 I sl m) sl)) 30 12)]) (S' := (L, ft_c (ft_0 I sl m) sl (ft_N (ft_0 I sl m) sl), J, R)) (P := True) [(.aload_n 0, (0, 0, 0, 0, 0)), (.getfield 147, (0, 12, 0, 0, 0))] [] (by decide +kernel) rfl trivial ?_
        refine b_if_le (off := 68) (tgt := 114) (by decide +kernel) (by decide) (fun h2 => ?_) (fun h2 => ?_)
        · exact hx
        · exact (ft_y hq h1 h2).elim
    · intro n hn ih
      refine b_blk (pc' := 39) (ls' := [some (mR (0, 0, 30)), some (mR (7, 0, 170)), some (mI m), some (mI (nI n)), none, none]) (st' := [mI ((ft_c (ft_0 I sl m) sl n) sl 1), mI (nI n)]) (S' := (L, ft_c (ft_0 I sl m) sl n, J, R)) (P := ((True ∧ R 30 1 = some (10, 0, 24)) ∧ R 24 1 = some (8, 0, sl))) [(.iload_n 3, (0, 0, 0, 0, 0)), (.aload_n 0, (0, 0, 0, 0, 0)), (.getfield 38, (0, 1, 3, 0, 0)), (.getfield 60, (10, 1, 3, 0, 0)), (.getfield 64, (8, 1, 0, 0, 0))] [some (10, 0, 24), some (8, 0, sl)] (by decide +kernel) rfl ⟨⟨trivial, (r_30_1 hR)⟩, hs⟩ ?_
      refine b_icmp_ge (off := 75) (tgt := 114) (by decide +kernel) (by decide) (fun h3 => ?_) (fun h3 => ?_)
      · exact (ft_a hq hn h3).elim
      · refine b_blk (pc' := 46) (ls' := [some (mR (0, 0, 30)), some (mR (7, 0, 170)), some (mI m), some (mI (nI n)), none, none]) (st' := [mI ((ft_c (ft_0 I sl m) sl n) 30 12)]) (S' := (L, ft_c (ft_0 I sl m) sl n, J, R)) (P := True) [(.aload_n 0, (0, 0, 0, 0, 0)), (.getfield 147, (0, 12, 0, 0, 0))] [] (by decide +kernel) rfl trivial ?_
        refine b_if_le (off := 68) (tgt := 114) (by decide +kernel) (by decide) (fun h4 => ?_) (fun h4 => ?_)
        · exact (ft_b hn h4).elim
        · refine b_blk (pc' := 52) (ls' := [some (mR (0, 0, 30)), some (mR (7, 0, 170)), some (mI m), some (mI (nI n)), some (mI 0), none]) (st' := []) (S' := (L, ft_c (ft_0 I sl m) sl n, J, R)) (P := True) [(.iconst 0, (0, 0, 0, 0, 0)), (.istore 4, (0, 0, 0, 0, 0))] [] (by decide +kernel) rfl trivial ?_
          suffices hx : m_B G (m_rm 8 0 0) M_Foresight_findTelling (m_is (none) (L, ft_c (ft_0 I sl m) sl (ft_N (ft_0 I sl m) sl), J, R)) 0 0 108 [some (mR (0, 0, 30)), some (mR (7, 0, 170)), some (mI m), some (mI (nI n)), some (mI (nI ((ft_0 I sl m sl 2).toNatClampNeg))), none] [] (L, ft_r (ft_c (ft_0 I sl m) sl n) (nI n) ((ft_0 I sl m sl 2).toNatClampNeg), J, R) by
            refine m_B_cg ?_ rfl ?_ (loop_up ((ft_0 I sl m sl 2).toNatClampNeg) (fun q => m_B G (m_rm 8 0 0) M_Foresight_findTelling (m_is (none) (L, ft_c (ft_0 I sl m) sl (ft_N (ft_0 I sl m) sl), J, R)) 0 0 52 [some (mR (0, 0, 30)), some (mR (7, 0, 170)), some (mI m), some (mI (nI n)), some (mI (nI q)), none] [] (L, ft_r (ft_c (ft_0 I sl m) sl n) (nI n) q, J, R)) ?_ ?_ 0 (Nat.zero_le _))
            · first | with_reducible rfl | (simp only [m_clr, nI_succ]; done) | rfl
            · first | with_reducible rfl | (simp only [m_clr, nI_succ]; done) | rfl
            · refine b_blk (pc' := 64) (ls' := [some (mR (0, 0, 30)), some (mR (7, 0, 170)), some (mI m), some (mI (nI n)), some (mI (nI ((ft_0 I sl m sl 2).toNatClampNeg))), none]) (st' := [mI ((ft_r (ft_c (ft_0 I sl m) sl n) (nI n) ((ft_0 I sl m sl 2).toNatClampNeg)) sl 2), mI (nI ((ft_0 I sl m sl 2).toNatClampNeg))]) (S' := (L, ft_r (ft_c (ft_0 I sl m) sl n) (nI n) ((ft_0 I sl m sl 2).toNatClampNeg), J, R)) (P := ((True ∧ R 30 1 = some (10, 0, 24)) ∧ R 24 1 = some (8, 0, sl))) [(.iload 4, (0, 0, 0, 0, 0)), (.aload_n 0, (0, 0, 0, 0, 0)), (.getfield 38, (0, 1, 3, 0, 0)), (.getfield 60, (10, 1, 3, 0, 0)), (.getfield 73, (8, 2, 0, 0, 0))] [some (10, 0, 24), some (8, 0, sl)] (by decide +kernel) rfl ⟨⟨trivial, (r_30_1 hR)⟩, hs⟩ ?_
              refine b_icmp_ge (off := 44) (tgt := 108) (by decide +kernel) (by decide) (fun h5 => ?_) (fun h5 => ?_)
              · exact hx
              · exact (ge_yes (ft_c2 hq) h5).elim
            · intro q hn2 ih2
              refine b_blk (pc' := 64) (ls' := [some (mR (0, 0, 30)), some (mR (7, 0, 170)), some (mI m), some (mI (nI n)), some (mI (nI q)), none]) (st' := [mI ((ft_r (ft_c (ft_0 I sl m) sl n) (nI n) q) sl 2), mI (nI q)]) (S' := (L, ft_r (ft_c (ft_0 I sl m) sl n) (nI n) q, J, R)) (P := ((True ∧ R 30 1 = some (10, 0, 24)) ∧ R 24 1 = some (8, 0, sl))) [(.iload 4, (0, 0, 0, 0, 0)), (.aload_n 0, (0, 0, 0, 0, 0)), (.getfield 38, (0, 1, 3, 0, 0)), (.getfield 60, (10, 1, 3, 0, 0)), (.getfield 73, (8, 2, 0, 0, 0))] [some (10, 0, 24), some (8, 0, sl)] (by decide +kernel) rfl ⟨⟨trivial, (r_30_1 hR)⟩, hs⟩ ?_
              refine b_icmp_ge (off := 44) (tgt := 108) (by decide +kernel) (by decide) (fun h6 => ?_) (fun h6 => ?_)
              · exact (ge_no (ft_c2 hq) hn2 h6).elim
              · refine b_blk (pc' := 71) (ls' := [some (mR (0, 0, 30)), some (mR (7, 0, 170)), some (mI m), some (mI (nI n)), some (mI (nI q)), none]) (st' := [mI (nI q), mI (nI n), mR (0, 0, 30)]) (S' := (L, ft_r (ft_c (ft_0 I sl m) sl n) (nI n) q, J, R)) (P := True) [(.aload_n 0, (0, 0, 0, 0, 0)), (.iload_n 3, (0, 0, 0, 0, 0)), (.iload 4, (0, 0, 0, 0, 0))] [] (by decide +kernel) rfl trivial ?_
                refine b_cV (as := [mI (nI n), mI (nI q)]) (st := []) (by decide +kernel) k_0_181 n_Foresight_leftBy rfl (by decide) v_Foresight_leftBy (c_Foresight_leftBy (nI n) (nI q) hR) (Nat.le_of_ble_eq_true rfl) (by decide) rfl rfl (fun _ h => h) ?_
                show m_B _ _ _ _ _ _ 74 [some (mR (0, 0, 30)), some (mR (7, 0, 170)), some (mI m), some (mI (nI n)), some (mI (nI q)), none] [mI (lb (ft_r (ft_c (ft_0 I sl m) sl n) (nI n) q) (nI n) (nI q) 7)] (L, (ft_r (ft_c (ft_0 I sl m) sl n) (nI n) q), J, R)
                refine b_blk (pc' := 82) (ls' := [some (mR (0, 0, 30)), some (mR (7, 0, 170)), some (mI m), some (mI (nI n)), some (mI (nI q)), some (mI (lb (ft_r (ft_c (ft_0 I sl m) sl n) (nI n) q) (nI n) (nI q) 7))]) (st' := [mI ((ft_r (ft_c (ft_0 I sl m) sl n) (nI n) q) 30 17), mI (lb (ft_r (ft_c (ft_0 I sl m) sl n) (nI n) q) (nI n) (nI q) 7)]) (S' := (L, (ft_r (ft_c (ft_0 I sl m) sl n) (nI n) q), J, R)) (P := True) [(.istore 5, (0, 0, 0, 0, 0)), (.iload 5, (0, 0, 0, 0, 0)), (.aload_n 0, (0, 0, 0, 0, 0)), (.getfield 178, (0, 17, 0, 0, 0))] [] (by decide +kernel) rfl trivial ?_
                refine b_icmp_ge (off := 20) (tgt := 102) (by decide +kernel) (by decide) (fun h7 => ?_) (fun h7 => ?_)
                · refine b_blk (pc' := 52) (ls' := [some (mR (0, 0, 30)), some (mR (7, 0, 170)), some (mI m), some (mI (nI n)), some (mI ((nI q) + 1)), some (mI (lb (ft_r (ft_c (ft_0 I sl m) sl n) (nI n) q) (nI n) (nI q) 7))]) (st' := []) (S' := (L, (ft_r (ft_c (ft_0 I sl m) sl n) (nI n) q), J, R)) (P := True) [(.iinc 4 1, (0, 0, 0, 1, 0)), (.goto (-53), (0, 52, 0, 0, 0))] [] (by decide +kernel) rfl trivial ?_
                  refine b_frg 5 ?_
                  refine m_B_cg ?_ rfl ?_ ih2
                  · first | with_reducible rfl | (simp only [m_clr, nI_succ]; done) | rfl
                  · exact congrArg (fun Z => (L, Z, J, R)) (if_pos h7).symm
                · refine b_blk (pc' := 52) (ls' := [some (mR (0, 0, 30)), some (mR (7, 0, 170)), some (mI m), some (mI (nI n)), some (mI ((nI q) + 1)), some (mI (lb (ft_r (ft_c (ft_0 I sl m) sl n) (nI n) q) (nI n) (nI q) 7))]) (st' := []) (S' := (L, m_up (m_up (m_up (ft_r (ft_c (ft_0 I sl m) sl n) (nI n) q) 30 17 (lb (ft_r (ft_c (ft_0 I sl m) sl n) (nI n) q) (nI n) (nI q) 7)) 30 15 (nI n)) 30 16 (nI q), J, R)) (P := True) [(.aload_n 0, (0, 0, 0, 0, 0)), (.iload 5, (0, 0, 0, 0, 0)), (.putfield 178, (0, 17, 0, 0, 0)), (.aload_n 0, (0, 0, 0, 0, 0)), (.iload_n 3, (0, 0, 0, 0, 0)), (.putfield 172, (0, 15, 0, 0, 0)), (.aload_n 0, (0, 0, 0, 0, 0)), (.iload 4, (0, 0, 0, 0, 0)), (.putfield 175, (0, 16, 0, 0, 0)), (.iinc 4 1, (0, 0, 0, 1, 0)), (.goto (-53), (0, 52, 0, 0, 0))] [] (by decide +kernel) rfl trivial ?_
                  refine b_frg 5 ?_
                  refine m_B_cg ?_ rfl ?_ ih2
                  · first | with_reducible rfl | (simp only [m_clr, nI_succ]; done) | rfl
                  · exact congrArg (fun Z => (L, Z, J, R)) (if_neg h7).symm
          refine b_blk (pc' := 28) (ls' := [some (mR (0, 0, 30)), some (mR (7, 0, 170)), some (mI m), some (mI ((nI n) + 1)), some (mI (nI ((ft_0 I sl m sl 2).toNatClampNeg))), none]) (st' := []) (S' := (L, ft_r (ft_c (ft_0 I sl m) sl n) (nI n) ((ft_0 I sl m sl 2).toNatClampNeg), J, R)) (P := True) [(.iinc 3 1, (0, 0, 0, 1, 0)), (.goto (-83), (0, 28, 0, 0, 0))] [] (by decide +kernel) rfl trivial ?_
          refine b_frg 4 ?_
          refine m_B_cg ?_ rfl ?_ ih
          · first | with_reducible rfl | (simp only [m_clr, nI_succ]; done) | rfl
          · first | with_reducible rfl | (simp only [m_clr, nI_succ]; done) | rfl
  refine b_vret (by decide +kernel) rfl ⟨?_, ?_⟩
  · rfl
  · rfl
def ar_b (t : Int32) (n : Nat) : Int32 := (t >>> (nI n &&& 31)) &&& 1
def ar_1 (X : MI) (t : Int32) : Nat → MI
  | 0 => X
  | n + 1 => gI_Lay_takeStakes (ar_1 X t n) 31 (if ar_b t n = 0 then 35 else 39) (nI n)
def ar_u (Z : MI) (t : Int32) (n : Nat) : MI := gI_Lay_takeStakes Z 31 (if ar_b t n = 0 then 39 else 35) (nI n)
def ar_v (Z : MI) (t : Int32) (n : Nat) : MI := gI_Lay_takeStakes (ar_u Z t n) 31 (if ar_b t n = 0 then 35 else 39) (nI n)
def ar_ok (Z : MI) (sl : Nat) (t : Int32) (n : Nat) : Prop := l_field (ar_u Z t n) 31 (nI n) (ar_u Z t n sl 2) 6 ≤ l_field Z 31 (nI n) (Z sl 2) 6
