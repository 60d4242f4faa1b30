/-! Foresight: the iron place, what is seen -/
def fi_r (X : MI) (sl : Nat) (c wo : Int32) : Nat → MI
  | 0 => X
  | q + 1 => if (wo >>> (nI q &&& 31)) &&& 1 = 0 then fi_r X sl c wo q else ti_w (fi_r X sl c wo q) sl c (nI q)
def fi_wo (X : MI) (n : Nat) : Int32 := X 43 (nI n).toNatClampNeg &&& (f_Lay_postsOf X 20 (nI n) ^^^ -1)
def fi_c (X : MI) (sl : Nat) : Nat → MI
  | 0 => X
  | n + 1 => fi_r (fi_c X sl n) sl (nI n) (fi_wo (fi_c X sl n) n) (X sl 2).toNatClampNeg
def FV (q : Nat) : Prop := FT q ∨ q = 30
theorem fv_sl {sl : Nat} (hq : sl = 3 ∨ sl = 11) : ¬ FV sl := by unfold FV FT; omega
theorem fr_ti {X I : MI} {sl : Nat} {c r : Int32} (h : fr FV X I) : fr FV (ti_w X sl c r) I := by
  have h0 : fr FV (ti_Z X sl c r) I := fr_trans (fr_mono ti_fr (fun _ => Or.inl)) h
  unfold ti_w
  split
  · exact h0
  · exact fr_up (fr_up (fr_up h0 (Or.inr rfl)) (Or.inr rfl)) (Or.inr rfl)
theorem fr_fir (X : MI) (sl : Nat) (c wo : Int32) : ∀ q, fr FV (fi_r X sl c wo q) X := by
  intro q
  induction q with
  | zero => exact fr_refl
  | succ q ih =>
    simp only [fi_r]
    split
    · exact ih
    · exact fr_ti ih
theorem fr_fic (X : MI) (sl : Nat) : ∀ n, fr FV (fi_c X sl n) X := by
  intro n
  induction n with
  | zero => exact fr_refl
  | succ n ih => exact fr_trans (fr_fir _ _ _ _ _) ih
def fi_1 (I : MI) (f m : Int32) : MI := m_up (m_up (m_up (m_up I 30 7 f) 30 8 m) 30 9 (-1)) 30 10 (-1)
def fi_t (I : MI) (sl : Nat) (f m : Int32) : MI := tr (fi_1 I f m) sl m.toNatClampNeg
def fi_0 (I : MI) (sl : Nat) (f m : Int32) : MI := m_up (fi_t I sl f m) 30 11 (l_field (fi_t I sl f m) 31 f (fi_t I sl f m sl 2) 6)
def fi_w (I : MI) (sl : Nat) (f m : Int32) : MI := if f = I 30 7 ∧ m = I 30 8 then I else fi_c (fi_0 I sl f m) sl (tb_N (fi_0 I sl f m sl 1))
theorem fi_no {X : MI} {sl n : Nat} (hq : sl = 3 ∨ sl = 11) (hn : n < tb_N (X sl 1)) (h : fi_c X sl n sl 1 ≤ nI n) : False := by
  unfold tb_N at hn
  exact ge_no (congrFun (fr_fic X sl n sl (fv_sl hq)) 1) (by omega) h
theorem fi_yes {X : MI} {sl : Nat} (hq : sl = 3 ∨ sl = 11) (h1 : ¬ fi_c X sl (tb_N (X sl 1)) sl 1 ≤ nI (tb_N (X sl 1))) (h2 : ¬ (6 : Int32) ≤ nI (tb_N (X sl 1))) : False := by
  rw [congrFun (fr_fic X sl _ sl (fv_sl hq)) 1] at h1
  have hb := cl_lt (X sl 1)
  have g1 : ¬ (X sl 1).toNatClampNeg ≤ tb_N (X sl 1) := fun q => h1 ((ge_cl (by unfold tb_N; omega)).mpr q)
  have g2 : ¬ 6 ≤ tb_N (X sl 1) := fun q => h2 ((nI_leI (a := 6) (by decide) (by unfold tb_N; omega)).mpr q)
  unfold tb_N at g1 g2
  omega
theorem fi_rc {X : MI} {sl n q : Nat} {c wo : Int32} (hq : sl = 3 ∨ sl = 11) : fi_r (fi_c X sl n) sl c wo q sl 2 = X sl 2 := by rw [fr_fir _ _ _ _ _ sl (fv_sl hq), fr_fic _ _ _ sl (fv_sl hq)]
set_option maxRecDepth 100000 in
set_option maxHeartbeats 400000 in
theorem c_Foresight_findIron {G : MG} {L : List (Nat × Nat)} {I : Nat → Nat → Int32} {J : Nat → Nat → Int64} {R : Nat → Nat → Option MRef} (f : Int32) (m : Int32) (sl : Nat) (hR : RF R) (hs : R 24 1 = some (8, 0, sl)) (hq : sl = 3 ∨ sl = 11) : m_met G 8 0 0 y_Foresight_findIron M_Foresight_findIron [mR (0, 0, 30), mI f, mI m] (L, I, J, R) (m_is (none) (L, fi_w I sl f m, J, R)) := by
  refine m_met_in n_Foresight_findIron (plainFor_of_name (by decide)) (by decide) (Nat.le_of_ble_eq_true rfl) (ls := [some (mR (0, 0, 30)), some (mI f), some (mI m), none, none, none]) rfl ?_
  suffices hj : ¬ (f = I 30 7 ∧ m = I 30 8) → m_B G (m_rm 8 0 0) M_Foresight_findIron (m_is (none) (L, fi_w I sl f m, J, R)) 0 0 17 [some (mR (0, 0, 30)), some (mI f), some (mI m), none, none, none] [] (L, I, J, R) by
    refine b_blk (pc' := 5) (ls' := [some (mR (0, 0, 30)), some (mI f), some (mI m), none, none, none]) (st' := [mI (I 30 7), mI f]) (S' := (L, I, J, R)) (P := True) [(.iload_n 1, (0, 0, 0, 0, 0)), (.aload_n 0, (0, 0, 0, 0, 0)), (.getfield 31, (0, 7, 0, 0, 0))] [] (by decide +kernel) rfl trivial ?_
    refine b_icmp_ne (off := 12) (tgt := 17) (by decide +kernel) (by decide) (fun h1 => ?_) (fun h1 => ?_)
    · exact hj (fun q => h1 q.1)
    · refine b_blk (pc' := 13) (ls' := [some (mR (0, 0, 30)), some (mI f), some (mI m), none, none, none]) (st' := [mI (I 30 8), mI m]) (S' := (L, I, J, R)) (P := True) [(.iload_n 2, (0, 0, 0, 0, 0)), (.aload_n 0, (0, 0, 0, 0, 0)), (.getfield 85, (0, 8, 0, 0, 0))] [] (by decide +kernel) rfl trivial ?_
      refine b_icmp_ne (off := 4) (tgt := 17) (by decide +kernel) (by decide) (fun h2 => ?_) (fun h2 => ?_)
      · exact hj (fun q => h2 q.2)
      · refine b_vret (by decide +kernel) rfl ⟨?_, ?_⟩
        · rfl
        · first | exact congrArg (fun Z => (L, Z, J, R)) (if_neg hjn).symm | exact congrArg (fun Z => (L, Z, J, R)) (if_pos ⟨by assumption, by assumption⟩).symm
  intro hjn
  refine b_blk (pc' := 39) (ls' := [some (mR (0, 0, 30)), some (mI f), some (mI m), none, none, none]) (st' := [mI m, mR (0, 0, 30)]) (S' := (L, m_up (m_up (m_up (m_up I 30 7 f) 30 8 m) 30 9 (-1 : Int32)) 30 10 (-1 : Int32), J, R)) (P := True) [(.aload_n 0, (0, 0, 0, 0, 0)), (.iload_n 1, (0, 0, 0, 0, 0)), (.putfield 31, (0, 7, 0, 0, 0)), (.aload_n 0, (0, 0, 0, 0, 0)), (.iload_n 2, (0, 0, 0, 0, 0)), (.putfield 85, (0, 8, 0, 0, 0)), (.aload_n 0, (0, 0, 0, 0, 0)), (.iconst (-1), (0, 0, 0, (-1), 0)), (.putfield 88, (0, 9, 0, 0, 0)), (.aload_n 0, (0, 0, 0, 0, 0)), (.iconst (-1), (0, 0, 0, (-1), 0)), (.putfield 91, (0, 10, 0, 0, 0)), (.aload_n 0, (0, 0, 0, 0, 0)), (.iload_n 2, (0, 0, 0, 0, 0))] [] (by decide +kernel) rfl trivial ?_
  refine b_cV (as := [mI m]) (st := []) (by decide +kernel) k_0_94 n_Foresight_tread rfl (by decide) v_Foresight_tread (c_Foresight_tread m sl hR hs hq) (Nat.le_of_ble_eq_true rfl) (by decide) rfl rfl (fun _ h => h) ?_
  show m_B _ _ _ _ _ _ 42 [some (mR (0, 0, 30)), some (mI f), some (mI m), none, none, none] [] (L, tr (m_up (m_up (m_up (m_up I 30 7 f) 30 8 m) 30 9 (-1 : Int32)) 30 10 (-1 : Int32)) sl m.toNatClampNeg, J, R)
  refine b_blk (pc' := 58) (ls' := [some (mR (0, 0, 30)), some (mI f), some (mI m), none, none, none]) (st' := [mI ((tr (m_up (m_up (m_up (m_up I 30 7 f) 30 8 m) 30 9 (-1 : Int32)) 30 10 (-1 : Int32)) sl m.toNatClampNeg) sl 2), mI f, mR (3, 0, 31), mR (0, 0, 30)]) (S' := (L, tr (m_up (m_up (m_up (m_up I 30 7 f) 30 8 m) 30 9 (-1 : Int32)) 30 10 (-1 : Int32)) sl m.toNatClampNeg, J, R)) (P := (((True ∧ R 30 2 = some (3, 0, 31)) ∧ R 30 1 = some (10, 0, 24)) ∧ R 24 1 = some (8, 0, sl))) [(.aload_n 0, (0, 0, 0, 0, 0)), (.aload_n 0, (0, 0, 0, 0, 0)), (.getfield 12, (0, 2, 3, 0, 0)), (.iload_n 1, (0, 0, 0, 0, 0)), (.aload_n 0, (0, 0, 0, 0, 0)), (.getfield 38, (0, 1, 3, 0, 0)), (.getfield 60, (10, 1, 3, 0, 0)), (.getfield 73, (8, 2, 0, 0, 0))] [some (3, 0, 31), some (10, 0, 24), some (8, 0, sl)] (by decide +kernel) rfl ⟨⟨⟨trivial, (r_30_2 hR)⟩, (r_30_1 hR)⟩, hs⟩ ?_
  refine b_cV (as := [mI f, mI ((tr (m_up (m_up (m_up (m_up I 30 7 f) 30 8 m) 30 9 (-1 : Int32)) 30 10 (-1 : Int32)) sl m.toNatClampNeg) sl 2)]) (st := [mR (0, 0, 30)]) (by decide +kernel) k_0_76 n_Lay_fieldOf rfl (by decide) v_Lay_fieldOf (c_Lay_fieldOf 31 f ((tr (m_up (m_up (m_up (m_up I 30 7 f) 30 8 m) 30 9 (-1 : Int32)) 30 10 (-1 : Int32)) sl m.toNatClampNeg) sl 2) (ly_31 hR)) (Nat.le_of_ble_eq_true rfl) (by decide) rfl rfl (fun _ h => h) ?_
  show m_B _ _ _ _ _ _ 61 [some (mR (0, 0, 30)), some (mI f), some (mI m), none, none, none] [mI (l_field (tr (m_up (m_up (m_up (m_up I 30 7 f) 30 8 m) 30 9 (-1 : Int32)) 30 10 (-1 : Int32)) sl m.toNatClampNeg) 31 f ((tr (m_up (m_up (m_up (m_up I 30 7 f) 30 8 m) 30 9 (-1 : Int32)) 30 10 (-1 : Int32)) sl m.toNatClampNeg) sl 2) 6), mR (0, 0, 30)] (L, (tr (m_up (m_up (m_up (m_up I 30 7 f) 30 8 m) 30 9 (-1 : Int32)) 30 10 (-1 : Int32)) sl m.toNatClampNeg), J, R)
  refine b_blk (pc' := 66) (ls' := [some (mR (0, 0, 30)), some (mI f), some (mI m), some (mI 0), none, none]) (st' := []) (S' := (L, m_up (tr (m_up (m_up (m_up (m_up I 30 7 f) 30 8 m) 30 9 (-1 : Int32)) 30 10 (-1 : Int32)) sl m.toNatClampNeg) 30 11 (l_field (tr (m_up (m_up (m_up (m_up I 30 7 f) 30 8 m) 30 9 (-1 : Int32)) 30 10 (-1 : Int32)) sl m.toNatClampNeg) 31 f ((tr (m_up (m_up (m_up (m_up I 30 7 f) 30 8 m) 30 9 (-1 : Int32)) 30 10 (-1 : Int32)) sl m.toNatClampNeg) sl 2) 6), J, R)) (P := True) [(.putfield 98, (0, 11, 0, 0, 0)), (.iconst 0, (0, 0, 0, 0, 0)), (.istore_n 3, (0, 0, 0, 0, 0))] [] (by decide +kernel) rfl trivial ?_
  suffices hx : m_B G (m_rm 8 0 0) M_Foresight_findIron (m_is (none) (L, fi_w I sl f m, J, R)) 0 0 152 [some (mR (0, 0, 30)), some (mI f), some (mI m), some (mI (nI (tb_N (fi_0 I sl f m sl 1)))), none, none] [] (L, fi_c (fi_0 I sl f m) sl (tb_N (fi_0 I sl f m sl 1)), J, R) by
    refine m_B_cg ?_ rfl ?_ (loop_up (tb_N (fi_0 I sl f m sl 1)) (fun n => m_B G (m_rm 8 0 0) M_Foresight_findIron (m_is (none) (L, fi_w I sl f m, J, R)) 0 0 66 [some (mR (0, 0, 30)), some (mI f), some (mI m), some (mI (nI n)), none, none] [] (L, fi_c (fi_0 I sl f m) sl n, J, R)) ?_ ?_ 0 (Nat.zero_le _))
    · first | with_reducible rfl | (simp only [m_clr, nI_succ]; done) | rfl
    · first | with_reducible rfl | (simp only [m_clr, nI_succ]; done) | rfl
    · refine b_blk (pc' := 77) (ls' := [some (mR (0, 0, 30)), some (mI f), some (mI m), some (mI (nI (tb_N (fi_0 I sl f m sl 1)))), none, none]) (st' := [mI ((fi_c (fi_0 I sl f m) sl (tb_N (fi_0 I sl f m sl 1))) sl 1), mI (nI (tb_N (fi_0 I sl f m sl 1)))]) (S' := (L, fi_c (fi_0 I sl f m) sl (tb_N (fi_0 I sl f m sl 1)), J, R)) (P := ((True ∧ R 30 1 = some (10, 0, 24)) ∧ R 24 1 = some (8, 0, sl))) [(.iload_n 3, (0, 0, 0, 0, 0)), (.aload_n 0, (0, 0, 0, 0, 0)), (.getfield 38, (0, 1, 3, 0, 0)), (.getfield 60, (10, 1, 3, 0, 0)), (.getfield 64, (8, 1, 0, 0, 0))] [some (10, 0, 24), some (8, 0, sl)] (by decide +kernel) rfl ⟨⟨trivial, (r_30_1 hR)⟩, hs⟩ ?_
      refine b_icmp_ge (off := 75) (tgt := 152) (by decide +kernel) (by decide) (fun h3 => ?_) (fun h3 => ?_)
      · exact hx
      · refine b_blk (pc' := 83) (ls' := [some (mR (0, 0, 30)), some (mI f), some (mI m), some (mI (nI (tb_N (fi_0 I sl f m sl 1)))), none, none]) (st' := [mI 6, mI (nI (tb_N (fi_0 I sl f m sl 1)))]) (S' := (L, fi_c (fi_0 I sl f m) sl (tb_N (fi_0 I sl f m sl 1)), J, R)) (P := True) [(.iload_n 3, (0, 0, 0, 0, 0)), (.bipush 6, (0, 0, 0, 6, 0))] [] (by decide +kernel) rfl trivial ?_
        refine b_icmp_ge (off := 69) (tgt := 152) (by decide +kernel) (by decide) (fun h4 => ?_) (fun h4 => ?_)
        · exact hx
        · exact (fi_yes hq h3 h4).elim
    · intro n hn ih
      refine b_blk (pc' := 77) (ls' := [some (mR (0, 0, 30)), some (mI f), some (mI m), some (mI (nI n)), none, none]) (st' := [mI ((fi_c (fi_0 I sl f m) sl n) sl 1), mI (nI n)]) (S' := (L, fi_c (fi_0 I sl f m) sl n, J, R)) (P := ((True ∧ R 30 1 = some (10, 0, 24)) ∧ R 24 1 = some (8, 0, sl))) [(.iload_n 3, (0, 0, 0, 0, 0)), (.aload_n 0, (0, 0, 0, 0, 0)), (.getfield 38, (0, 1, 3, 0, 0)), (.getfield 60, (10, 1, 3, 0, 0)), (.getfield 64, (8, 1, 0, 0, 0))] [some (10, 0, 24), some (8, 0, sl)] (by decide +kernel) rfl ⟨⟨trivial, (r_30_1 hR)⟩, hs⟩ ?_
      refine b_icmp_ge (off := 75) (tgt := 152) (by decide +kernel) (by decide) (fun h5 => ?_) (fun h5 => ?_)
      · exact (fi_no hq hn h5).elim
      · refine b_blk (pc' := 83) (ls' := [some (mR (0, 0, 30)), some (mI f), some (mI m), some (mI (nI n)), none, none]) (st' := [mI 6, mI (nI n)]) (S' := (L, fi_c (fi_0 I sl f m) sl n, J, R)) (P := True) [(.iload_n 3, (0, 0, 0, 0, 0)), (.bipush 6, (0, 0, 0, 6, 0))] [] (by decide +kernel) rfl trivial ?_
        refine b_icmp_ge (off := 69) (tgt := 152) (by decide +kernel) (by decide) (fun h6 => ?_) (fun h6 => ?_)
        · exact (tb_no2 hn h6).elim
        · refine b_blk (pc' := 97) (ls' := [some (mR (0, 0, 30)), some (mI f), some (mI m), some (mI (nI n)), none, none]) (st' := [mI (nI n), mR (3, 0, 20), mI ((fi_c (fi_0 I sl f m) sl n) 43 (nI n).toNatClampNeg)]) (S' := (L, fi_c (fi_0 I sl f m) sl n, J, R)) (P := (((True ∧ R 30 5 = some (20, 6, 43)) ∧ vp_in (nI n) 6) ∧ R 30 0 = some (3, 0, 20))) [(.aload_n 0, (0, 0, 0, 0, 0)), (.getfield 24, (0, 5, 3, 0, 0)), (.iload_n 3, (0, 0, 0, 0, 0)), (.iaload, (0, 0, 0, 0, 0)), (.aload_n 0, (0, 0, 0, 0, 0)), (.getfield 35, (0, 0, 3, 0, 0)), (.iload_n 3, (0, 0, 0, 0, 0))] [some (20, 6, 43), some (3, 0, 20)] (by decide +kernel) rfl ⟨⟨⟨trivial, (r_30_5 hR)⟩, (vp_in_nI (N := 6) (by have := hn; unfold tb_N at this; omega) (by decide))⟩, (r_30_0 hR)⟩ ?_
          refine b_cV (as := [mI (nI n)]) (st := [mI ((fi_c (fi_0 I sl f m) sl n) 43 (nI n).toNatClampNeg)]) (by decide +kernel) k_0_101 n_Lay_postsOf rfl (by decide) v_Lay_postsOf (c_Lay_postsOf 20 (nI n) (ly_20 hR)) (Nat.le_of_ble_eq_true rfl) (by decide) rfl rfl (fun _ h => h) ?_
          show m_B _ _ _ _ _ _ 100 [some (mR (0, 0, 30)), some (mI f), some (mI m), some (mI (nI n)), none, none] [mI (f_Lay_postsOf (fi_c (fi_0 I sl f m) sl n) 20 (nI n)), mI ((fi_c (fi_0 I sl f m) sl n) 43 (nI n).toNatClampNeg)] (L, (fi_c (fi_0 I sl f m) sl n), J, R)
          refine b_blk (pc' := 108) (ls' := [some (mR (0, 0, 30)), some (mI f), some (mI m), some (mI (nI n)), some (mI (((fi_c (fi_0 I sl f m) sl n) 43 (nI n).toNatClampNeg) &&& ((f_Lay_postsOf (fi_c (fi_0 I sl f m) sl n) 20 (nI n)) ^^^ (-1 : Int32)))), some (mI 0)]) (st' := []) (S' := (L, (fi_c (fi_0 I sl f m) sl n), J, R)) (P := True) [(.iconst (-1), (0, 0, 0, (-1), 0)), (.ixor, (0, 0, 0, 0, 0)), (.iand, (0, 0, 0, 0, 0)), (.istore 4, (0, 0, 0, 0, 0)), (.iconst 0, (0, 0, 0, 0, 0)), (.istore 5, (0, 0, 0, 0, 0))] [] (by decide +kernel) rfl trivial ?_
          suffices hx : m_B G (m_rm 8 0 0) M_Foresight_findIron (m_is (none) (L, fi_w I sl f m, J, R)) 0 0 146 [some (mR (0, 0, 30)), some (mI f), some (mI m), some (mI (nI n)), some (mI (((fi_c (fi_0 I sl f m) sl n) 43 (nI n).toNatClampNeg) &&& ((f_Lay_postsOf (fi_c (fi_0 I sl f m) sl n) 20 (nI n)) ^^^ (-1 : Int32)))), some (mI (nI ((fi_0 I sl f m sl 2).toNatClampNeg)))] [] (L, fi_r (fi_c (fi_0 I sl f m) sl n) sl (nI n) (fi_wo (fi_c (fi_0 I sl f m) sl n) n) ((fi_0 I sl f m sl 2).toNatClampNeg), J, R) by
            refine m_B_cg ?_ rfl ?_ (loop_up ((fi_0 I sl f m sl 2).toNatClampNeg) (fun q => m_B G (m_rm 8 0 0) M_Foresight_findIron (m_is (none) (L, fi_w I sl f m, J, R)) 0 0 108 [some (mR (0, 0, 30)), some (mI f), some (mI m), some (mI (nI n)), some (mI (((fi_c (fi_0 I sl f m) sl n) 43 (nI n).toNatClampNeg) &&& ((f_Lay_postsOf (fi_c (fi_0 I sl f m) sl n) 20 (nI n)) ^^^ (-1 : Int32)))), some (mI (nI q))] [] (L, fi_r (fi_c (fi_0 I sl f m) sl n) sl (nI n) (fi_wo (fi_c (fi_0 I sl f m) sl n) n) q, J, R)) ?_ ?_ 0 (Nat.zero_le _))
            · first | with_reducible rfl | (simp only [m_clr, nI_succ]; done) | rfl | exact congrArg (fun Z => (L, Z, J, R)) (if_pos (by assumption)).symm | exact congrArg (fun Z => (L, Z, J, R)) (if_neg (by assumption)).symm
            · first | with_reducible rfl | (simp only [m_clr, nI_succ]; done) | rfl | exact congrArg (fun Z => (L, Z, J, R)) (if_pos (by assumption)).symm | exact congrArg (fun Z => (L, Z, J, R)) (if_neg (by assumption)).symm
            · refine b_blk (pc' := 120) (ls' := [some (mR (0, 0, 30)), some (mI f), some (mI m), some (mI (nI n)), some (mI (((fi_c (fi_0 I sl f m) sl n) 43 (nI n).toNatClampNeg) &&& ((f_Lay_postsOf (fi_c (fi_0 I sl f m) sl n) 20 (nI n)) ^^^ (-1 : Int32)))), some (mI (nI ((fi_0 I sl f m sl 2).toNatClampNeg)))]) (st' := [mI ((fi_r (fi_c (fi_0 I sl f m) sl n) sl (nI n) (fi_wo (fi_c (fi_0 I sl f m) sl n) n) ((fi_0 I sl f m sl 2).toNatClampNeg)) sl 2), mI (nI ((fi_0 I sl f m sl 2).toNatClampNeg))]) (S' := (L, fi_r (fi_c (fi_0 I sl f m) sl n) sl (nI n) (fi_wo (fi_c (fi_0 I sl f m) sl n) n) ((fi_0 I sl f m sl 2).toNatClampNeg), J, R)) (P := ((True ∧ R 30 1 = some (10, 0, 24)) ∧ R 24 1 = some (8, 0, sl))) [(.iload 5, (0, 0, 0, 0, 0)), (.aload_n 0, (0, 0, 0, 0, 0)), (.getfield 38, (0, 1, 3, 0, 0)), (.getfield 60, (10, 1, 3, 0, 0)), (.getfield 73, (8, 2, 0, 0, 0))] [some (10, 0, 24), some (8, 0, sl)] (by decide +kernel) rfl ⟨⟨trivial, (r_30_1 hR)⟩, hs⟩ ?_
              refine b_icmp_ge (off := 26) (tgt := 146) (by decide +kernel) (by decide) (fun h7 => ?_) (fun h7 => ?_)
              · exact hx
              · exact (ge_yes (fi_rc hq) h7).elim
            · intro q hn2 ih2
              refine b_blk (pc' := 120) (ls' := [some (mR (0, 0, 30)), some (mI f), some (mI m), some (mI (nI n)), some (mI (((fi_c (fi_0 I sl f m) sl n) 43 (nI n).toNatClampNeg) &&& ((f_Lay_postsOf (fi_c (fi_0 I sl f m) sl n) 20 (nI n)) ^^^ (-1 : Int32)))), some (mI (nI q))]) (st' := [mI ((fi_r (fi_c (fi_0 I sl f m) sl n) sl (nI n) (fi_wo (fi_c (fi_0 I sl f m) sl n) n) q) sl 2), mI (nI q)]) (S' := (L, fi_r (fi_c (fi_0 I sl f m) sl n) sl (nI n) (fi_wo (fi_c (fi_0 I sl f m) sl n) n) q, J, R)) (P := ((True ∧ R 30 1 = some (10, 0, 24)) ∧ R 24 1 = some (8, 0, sl))) [(.iload 5, (0, 0, 0, 0, 0)), (.aload_n 0, (0, 0, 0, 0, 0)), (.getfield 38, (0, 1, 3, 0, 0)), (.getfield 60, (10, 1, 3, 0, 0)), (.getfield 73, (8, 2, 0, 0, 0))] [some (10, 0, 24), some (8, 0, sl)] (by decide +kernel) rfl ⟨⟨trivial, (r_30_1 hR)⟩, hs⟩ ?_
              refine b_icmp_ge (off := 26) (tgt := 146) (by decide +kernel) (by decide) (fun h8 => ?_) (fun h8 => ?_)
              · exact (ge_no (fi_rc hq) hn2 h8).elim
              · refine b_blk (pc' := 130) (ls' := [some (mR (0, 0, 30)), some (mI f), some (mI m), some (mI (nI n)), some (mI (((fi_c (fi_0 I sl f m) sl n) 43 (nI n).toNatClampNeg) &&& ((f_Lay_postsOf (fi_c (fi_0 I sl f m) sl n) 20 (nI n)) ^^^ (-1 : Int32)))), some (mI (nI q))]) (st' := [mI (((((fi_c (fi_0 I sl f m) sl n) 43 (nI n).toNatClampNeg) &&& ((f_Lay_postsOf (fi_c (fi_0 I sl f m) sl n) 20 (nI n)) ^^^ (-1 : Int32))) >>> ((nI q) &&& 31)) &&& (1 : Int32))]) (S' := (L, fi_r (fi_c (fi_0 I sl f m) sl n) sl (nI n) (fi_wo (fi_c (fi_0 I sl f m) sl n) n) q, J, R)) (P := True) [(.iload 4, (0, 0, 0, 0, 0)), (.iload 5, (0, 0, 0, 0, 0)), (.ishr, (0, 0, 0, 0, 0)), (.iconst 1, (0, 0, 0, 1, 0)), (.iand, (0, 0, 0, 0, 0))] [] (by decide +kernel) rfl trivial ?_
                refine b_if_eq (off := 10) (tgt := 140) (by decide +kernel) (by decide) (fun h9 => ?_) (fun h9 => ?_)
                · refine b_blk (pc' := 108) (ls' := [some (mR (0, 0, 30)), some (mI f), some (mI m), some (mI (nI n)), some (mI (((fi_c (fi_0 I sl f m) sl n) 43 (nI n).toNatClampNeg) &&& ((f_Lay_postsOf (fi_c (fi_0 I sl f m) sl n) 20 (nI n)) ^^^ (-1 : Int32)))), some (mI ((nI q) + 1))]) (st' := []) (S' := (L, fi_r (fi_c (fi_0 I sl f m) sl n) sl (nI n) (fi_wo (fi_c (fi_0 I sl f m) sl n) n) q, J, R)) (P := True) [(.iinc 5 1, (0, 0, 0, 1, 0)), (.goto (-35), (0, 108, 0, 0, 0))] [] (by decide +kernel) rfl trivial ?_
                  refine m_B_cg ?_ rfl ?_ ih2
                  · first | with_reducible rfl | (simp only [m_clr, nI_succ]; done) | rfl | exact congrArg (fun Z => (L, Z, J, R)) (if_pos (by assumption)).symm | exact congrArg (fun Z => (L, Z, J, R)) (if_neg (by assumption)).symm
                  · first | with_reducible rfl | (simp only [m_clr, nI_succ]; done) | rfl | exact congrArg (fun Z => (L, Z, J, R)) (if_pos (by assumption)).symm | exact congrArg (fun Z => (L, Z, J, R)) (if_neg (by assumption)).symm
                · refine b_blk (pc' := 137) (ls' := [some (mR (0, 0, 30)), some (mI f), some (mI m), some (mI (nI n)), some (mI (((fi_c (fi_0 I sl f m) sl n) 43 (nI n).toNatClampNeg) &&& ((f_Lay_postsOf (fi_c (fi_0 I sl f m) sl n) 20 (nI n)) ^^^ (-1 : Int32)))), some (mI (nI q))]) (st' := [mI (nI q), mI (nI n), mR (0, 0, 30)]) (S' := (L, fi_r (fi_c (fi_0 I sl f m) sl n) sl (nI n) (fi_wo (fi_c (fi_0 I sl f m) sl n) n) q, J, R)) (P := True) [(.aload_n 0, (0, 0, 0, 0, 0)), (.iload_n 3, (0, 0, 0, 0, 0)), (.iload 5, (0, 0, 0, 0, 0))] [] (by decide +kernel) rfl trivial ?_
                  refine b_cV (as := [mI (nI n), mI (nI q)]) (st := []) (by decide +kernel) k_0_105 n_Foresight_tryIron rfl (by decide) v_Foresight_tryIron (c_Foresight_tryIron (nI n) (nI q) sl hR hs hq) (Nat.le_of_ble_eq_true rfl) (by decide) rfl rfl (fun _ h => h) ?_
                  show m_B _ _ _ _ _ _ 140 [some (mR (0, 0, 30)), some (mI f), some (mI m), some (mI (nI n)), some (mI (((fi_c (fi_0 I sl f m) sl n) 43 (nI n).toNatClampNeg) &&& ((f_Lay_postsOf (fi_c (fi_0 I sl f m) sl n) 20 (nI n)) ^^^ (-1 : Int32)))), some (mI (nI q))] [] (L, ti_w (fi_r (fi_c (fi_0 I sl f m) sl n) sl (nI n) (fi_wo (fi_c (fi_0 I sl f m) sl n) n) q) sl (nI n) (nI q), J, R)
                  refine b_blk (pc' := 108) (ls' := [some (mR (0, 0, 30)), some (mI f), some (mI m), some (mI (nI n)), some (mI (((fi_c (fi_0 I sl f m) sl n) 43 (nI n).toNatClampNeg) &&& ((f_Lay_postsOf (fi_c (fi_0 I sl f m) sl n) 20 (nI n)) ^^^ (-1 : Int32)))), some (mI ((nI q) + 1))]) (st' := []) (S' := (L, ti_w (fi_r (fi_c (fi_0 I sl f m) sl n) sl (nI n) (fi_wo (fi_c (fi_0 I sl f m) sl n) n) q) sl (nI n) (nI q), J, R)) (P := True) [(.iinc 5 1, (0, 0, 0, 1, 0)), (.goto (-35), (0, 108, 0, 0, 0))] [] (by decide +kernel) rfl trivial ?_
                  refine m_B_cg ?_ rfl ?_ ih2
                  · first | with_reducible rfl | (simp only [m_clr, nI_succ]; done) | rfl | exact congrArg (fun Z => (L, Z, J, R)) (if_pos (by assumption)).symm | exact congrArg (fun Z => (L, Z, J, R)) (if_neg (by assumption)).symm
                  · first | with_reducible rfl | (simp only [m_clr, nI_succ]; done) | rfl | exact congrArg (fun Z => (L, Z, J, R)) (if_pos (by assumption)).symm | exact congrArg (fun Z => (L, Z, J, R)) (if_neg (by assumption)).symm
          refine b_blk (pc' := 66) (ls' := [some (mR (0, 0, 30)), some (mI f), some (mI m), some (mI ((nI n) + 1)), some (mI (((fi_c (fi_0 I sl f m) sl n) 43 (nI n).toNatClampNeg) &&& ((f_Lay_postsOf (fi_c (fi_0 I sl f m) sl n) 20 (nI n)) ^^^ (-1 : Int32)))), some (mI (nI ((fi_0 I sl f m sl 2).toNatClampNeg)))]) (st' := []) (S' := (L, fi_r (fi_c (fi_0 I sl f m) sl n) sl (nI n) (fi_wo (fi_c (fi_0 I sl f m) sl n) n) ((fi_0 I sl f m sl 2).toNatClampNeg), J, R)) (P := True) [(.iinc 3 1, (0, 0, 0, 1, 0)), (.goto (-83), (0, 66, 0, 0, 0))] [] (by decide +kernel) rfl trivial ?_
          refine b_frg 4 ?_
          refine b_frg 5 ?_
          refine m_B_cg ?_ rfl ?_ ih
          · first | with_reducible rfl | (simp only [m_clr, nI_succ]; done) | rfl
          · first | with_reducible rfl | (simp only [m_clr, nI_succ]; done) | rfl
  refine b_vret (by decide +kernel) rfl ⟨?_, ?_⟩
  · rfl
  · first | exact congrArg (fun Z => (L, Z, J, R)) (if_neg hjn).symm | exact congrArg (fun Z => (L, Z, J, R)) (if_pos ⟨by assumption, by assumption⟩).symm
