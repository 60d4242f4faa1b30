/-! Foresight: irons -/
theorem fr_mono {P P' : Nat → Prop} {X I : MI} (h : fr P X I) (hp : ∀ q, P q → P' q) : fr P' X I := fun q hq => h q (fun c => hq (hp q c))
theorem fr_drive {P : Nat → Prop} {X I : MI} {k : Nat} {c r : Int32} (h : fr P X I) (hc : P (k + 2)) : fr P (gI_Lay_drive X k c r) I := by
  unfold gI_Lay_drive
  repeat' split
  all_goals first | exact h | exact fr_up h hc
/-- the cells that a trial on Foresight's own lay may touch -/
def FT (q : Nat) : Prop := q = 26 ∨ q = 27 ∨ (31 ≤ q ∧ q ≤ 34)
theorem fp_ft {q : Nat} (h : FP 31 none q) : FT q := by
  unfold FP at h
  unfold FT
  rcases h with h | h | h | h | h | ⟨g, h, -⟩
  all_goals first | omega | cases h
theorem fr_itT {X I : MI} {sl n : Nat} (h : fr FT X I) : fr FT (py_it X 31 sl n) I := fr_trans (fr_mono (fr_it X 31 sl n) (fun _ => fp_ft)) h
theorem fr_yearT {X I : MI} {sl : Nat} (h : fr FT X I) : fr FT (py_year none X 31 sl) I := fr_trans (fr_mono (fr_year none X 31 sl) (fun _ => fp_ft)) h
theorem fr_takeT {X I : MI} {o : Nat} (h : fr FT X I) : fr FT (w_take X 31 o) I := fr_take h (by simp [FT]) (by simp [FT]) (by simp [FT]) (by simp [FT])
theorem ft_30 : ¬ FT 30 := by unfold FT; omega
theorem ft_sl {sl : Nat} (hq : sl = 3 ∨ sl = 11) : ¬ FT sl := by unfold FT; omega
def ti_0 (I : MI) (c r : Int32) : MI := gI_Lay_drive (w_take I 31 20) 31 c r
theorem ti_fr {I : MI} {c r : Int32} {sl n : Nat} : fr FT (py_it (ti_0 I c r) 31 sl n) I := fr_itT (fr_drive (fr_takeT fr_refl) (by simp [FT]))
def ti_Z (I : MI) (sl : Nat) (c r : Int32) : MI := py_it (ti_0 I c r) 31 sl (I 30 8).toNatClampNeg
def ti_f (I : MI) (sl : Nat) (c r : Int32) : Int32 := l_field (ti_Z I sl c r) 31 (ti_Z I sl c r 30 7) (ti_Z I sl c r sl 2) 6
def ti_w (I : MI) (sl : Nat) (c r : Int32) : MI := if ti_f I sl c r ≤ ti_Z I sl c r 30 11 then ti_Z I sl c r else m_up (m_up (m_up (ti_Z I sl c r) 30 11 (ti_f I sl c r)) 30 9 c) 30 10 r
set_option maxRecDepth 100000 in
set_option maxHeartbeats 400000 in
theorem c_Foresight_tryIron {G : MG} {L : List (Nat × Nat)} {I : Nat → Nat → Int32} {J : Nat → Nat → Int64} {R : Nat → Nat → Option MRef} (c : Int32) (r : Int32) (sl : Nat) (hR : RF R) (hs : R 24 1 = some (8, 0, sl)) (hq : sl = 3 ∨ sl = 11) : m_met G 7 0 0 y_Foresight_tryIron M_Foresight_tryIron [mR (0, 0, 30), mI c, mI r] (L, I, J, R) (m_is (none) (L, ti_w I sl c r, J, R)) := by
  refine m_met_in n_Foresight_tryIron (plainFor_of_name (by decide)) (by decide) (Nat.le_of_ble_eq_true rfl) (ls := [some (mR (0, 0, 30)), some (mI c), some (mI r), none]) rfl ?_
  refine b_blk (pc' := 8) (ls' := [some (mR (0, 0, 30)), some (mI c), some (mI r), none]) (st' := [mR (3, 0, 20), mR (3, 0, 31)]) (S' := (L, I, J, R)) (P := ((True ∧ R 30 2 = some (3, 0, 31)) ∧ R 30 0 = some (3, 0, 20))) [(.aload_n 0, (0, 0, 0, 0, 0)), (.getfield 12, (0, 2, 3, 0, 0)), (.aload_n 0, (0, 0, 0, 0, 0)), (.getfield 35, (0, 0, 3, 0, 0))] [some (3, 0, 31), some (3, 0, 20)] (by decide +kernel) rfl ⟨⟨trivial, (r_30_2 hR)⟩, (r_30_0 hR)⟩ ?_
  refine b_cV (as := [mR (3, 0, 20)]) (st := []) (by decide +kernel) k_0_42 n_Lay_takeFrom rfl (by decide) v_Lay_takeFrom (c_take 31 20 (ly_31 hR) (ly_20 hR)) (Nat.le_of_ble_eq_true rfl) (by decide) rfl rfl (fun _ h => h) ?_
  show m_B _ _ _ _ _ _ 11 [some (mR (0, 0, 30)), some (mI c), some (mI r), none] [] (L, w_take I 31 20, J, R)
  refine b_blk (pc' := 17) (ls' := [some (mR (0, 0, 30)), some (mI c), some (mI r), none]) (st' := [mI r, mI c, mR (3, 0, 31)]) (S' := (L, w_take I 31 20, J, R)) (P := (True ∧ R 30 2 = some (3, 0, 31))) [(.aload_n 0, (0, 0, 0, 0, 0)), (.getfield 12, (0, 2, 3, 0, 0)), (.iload_n 1, (0, 0, 0, 0, 0)), (.iload_n 2, (0, 0, 0, 0, 0))] [some (3, 0, 31)] (by decide +kernel) rfl ⟨trivial, (r_30_2 hR)⟩ ?_
  refine b_cV (as := [mI c, mI r]) (st := []) (by decide +kernel) k_0_129 n_Lay_drive rfl (by decide) v_Lay_drive (c_Lay_drive 31 c r (ly_31 hR)) (Nat.le_of_ble_eq_true rfl) (by decide) rfl rfl (fun _ h => h) ?_
  show m_B _ _ _ _ _ _ 20 [some (mR (0, 0, 30)), some (mI c), some (mI r), none] [] (L, gI_Lay_drive (w_take I 31 20) 31 c r, J, R)
  refine b_blk (pc' := 22) (ls' := [some (mR (0, 0, 30)), some (mI c), some (mI r), some (mI 0)]) (st' := []) (S' := (L, gI_Lay_drive (w_take I 31 20) 31 c r, J, R)) (P := True) [(.iconst 0, (0, 0, 0, 0, 0)), (.istore_n 3, (0, 0, 0, 0, 0))] [] (by decide +kernel) rfl trivial ?_
  suffices hx : m_B G (m_rm 7 0 0) M_Foresight_tryIron (m_is (none) (L, ti_w I sl c r, J, R)) 0 0 49 [some (mR (0, 0, 30)), some (mI c), some (mI r), some (mI (nI ((I 30 8).toNatClampNeg)))] [] (L, py_it (ti_0 I c r) 31 sl ((I 30 8).toNatClampNeg), J, R) by
    refine m_B_cg ?_ rfl ?_ (loop_up ((I 30 8).toNatClampNeg) (fun n => m_B G (m_rm 7 0 0) M_Foresight_tryIron (m_is (none) (L, ti_w I sl c r, J, R)) 0 0 22 [some (mR (0, 0, 30)), some (mI c), some (mI r), some (mI (nI n))] [] (L, py_it (ti_0 I c r) 31 sl n, J, R)) ?_ ?_ 0 (Nat.zero_le _))
    · first | with_reducible rfl | rfl | (simp only [nI_succ]; done)
    · first | with_reducible rfl | rfl | (simp only [nI_succ]; done)
    · refine b_blk (pc' := 27) (ls' := [some (mR (0, 0, 30)), some (mI c), some (mI r), some (mI (nI ((I 30 8).toNatClampNeg)))]) (st' := [mI ((py_it (ti_0 I c r) 31 sl ((I 30 8).toNatClampNeg)) 30 8), mI (nI ((I 30 8).toNatClampNeg))]) (S' := (L, py_it (ti_0 I c r) 31 sl ((I 30 8).toNatClampNeg), J, R)) (P := True) [(.iload_n 3, (0, 0, 0, 0, 0)), (.aload_n 0, (0, 0, 0, 0, 0)), (.getfield 85, (0, 8, 0, 0, 0))] [] (by decide +kernel) rfl trivial ?_
      refine b_icmp_ge (off := 22) (tgt := 49) (by decide +kernel) (by decide) (fun h1 => ?_) (fun h1 => ?_)
      · exact hx
      · exact (ge_yes (congrFun (ti_fr 30 ft_30) 8) h1).elim
    · intro n hn ih
      refine b_blk (pc' := 27) (ls' := [some (mR (0, 0, 30)), some (mI c), some (mI r), some (mI (nI n))]) (st' := [mI ((py_it (ti_0 I c r) 31 sl n) 30 8), mI (nI n)]) (S' := (L, py_it (ti_0 I c r) 31 sl n, J, R)) (P := True) [(.iload_n 3, (0, 0, 0, 0, 0)), (.aload_n 0, (0, 0, 0, 0, 0)), (.getfield 85, (0, 8, 0, 0, 0))] [] (by decide +kernel) rfl trivial ?_
      refine b_icmp_ge (off := 22) (tgt := 49) (by decide +kernel) (by decide) (fun h2 => ?_) (fun h2 => ?_)
      · exact (ge_no (congrFun (ti_fr 30 ft_30) 8) hn h2).elim
      · refine b_blk (pc' := 39) (ls' := [some (mR (0, 0, 30)), some (mI c), some (mI r), some (mI (nI n))]) (st' := [mN, mR (3, 0, 31), mR (10, 0, 24)]) (S' := (L, py_it (ti_0 I c r) 31 sl n, J, R)) (P := ((True ∧ R 30 1 = some (10, 0, 24)) ∧ R 30 2 = some (3, 0, 31))) [(.aload_n 0, (0, 0, 0, 0, 0)), (.getfield 38, (0, 1, 3, 0, 0)), (.aload_n 0, (0, 0, 0, 0, 0)), (.getfield 12, (0, 2, 3, 0, 0)), (.aconst_null, (0, 0, 0, 0, 0))] [some (10, 0, 24), some (3, 0, 31)] (by decide +kernel) rfl ⟨⟨trivial, (r_30_1 hR)⟩, (r_30_2 hR)⟩ ?_
        refine b_cV (as := [mR (3, 0, 31), mN]) (st := []) (by decide +kernel) k_0_50 n_Walker_passYear rfl (by decide) v_Walker_passYear (c_Walker_passYear_N 31 sl hR hs (sl_of hR hq) (ly_31 hR) (fp_no hq (by decide))) (Nat.le_of_ble_eq_true rfl) (by decide) rfl rfl (fun _ h => h) ?_
        show m_B _ _ _ _ _ _ 42 [some (mR (0, 0, 30)), some (mI c), some (mI r), some (mI (nI n))] [mI (py_went none (py_it (ti_0 I c r) 31 sl n) 31 sl)] (L, py_year none (py_it (ti_0 I c r) 31 sl n) 31 sl, J, R)
        refine b_blk (pc' := 22) (ls' := [some (mR (0, 0, 30)), some (mI c), some (mI r), some (mI ((nI n) + 1))]) (st' := []) (S' := (L, py_year none (py_it (ti_0 I c r) 31 sl n) 31 sl, J, R)) (P := True) [(.pop, (0, 0, 0, 0, 0)), (.iinc 3 1, (0, 0, 0, 1, 0)), (.goto (-24), (0, 22, 0, 0, 0))] [] (by decide +kernel) rfl trivial ?_
        refine m_B_cg ?_ rfl ?_ ih
        · first | with_reducible rfl | rfl | (simp only [nI_succ]; done)
        · first | with_reducible rfl | rfl | (simp only [nI_succ]; done)
  refine b_blk (pc' := 67) (ls' := [some (mR (0, 0, 30)), some (mI c), some (mI r), some (mI (nI ((I 30 8).toNatClampNeg)))]) (st' := [mI ((py_it (ti_0 I c r) 31 sl ((I 30 8).toNatClampNeg)) sl 2), mI ((py_it (ti_0 I c r) 31 sl ((I 30 8).toNatClampNeg)) 30 7), mR (3, 0, 31)]) (S' := (L, py_it (ti_0 I c r) 31 sl ((I 30 8).toNatClampNeg), J, R)) (P := (((True ∧ R 30 2 = some (3, 0, 31)) ∧ R 30 1 = some (10, 0, 24)) ∧ R 24 1 = some (8, 0, sl))) [(.aload_n 0, (0, 0, 0, 0, 0)), (.getfield 12, (0, 2, 3, 0, 0)), (.aload_n 0, (0, 0, 0, 0, 0)), (.getfield 31, (0, 7, 0, 0, 0)), (.aload_n 0, (0, 0, 0, 0, 0)), (.getfield 38, (0, 1, 3, 0, 0)), (.getfield 60, (10, 1, 3, 0, 0)), (.getfield 73, (8, 2, 0, 0, 0))] [some (3, 0, 31), some (10, 0, 24), some (8, 0, sl)] (by decide +kernel) rfl ⟨⟨⟨trivial, (r_30_2 hR)⟩, (r_30_1 hR)⟩, hs⟩ ?_
  refine b_cV (as := [mI ((py_it (ti_0 I c r) 31 sl ((I 30 8).toNatClampNeg)) 30 7), mI ((py_it (ti_0 I c r) 31 sl ((I 30 8).toNatClampNeg)) sl 2)]) (st := []) (by decide +kernel) k_0_76 n_Lay_fieldOf rfl (by decide) v_Lay_fieldOf (c_Lay_fieldOf 31 ((py_it (ti_0 I c r) 31 sl ((I 30 8).toNatClampNeg)) 30 7) ((py_it (ti_0 I c r) 31 sl ((I 30 8).toNatClampNeg)) sl 2) (ly_31 hR)) (Nat.le_of_ble_eq_true rfl) (by decide) rfl rfl (fun _ h => h) ?_
  show m_B _ _ _ _ _ _ 70 [some (mR (0, 0, 30)), some (mI c), some (mI r), some (mI (nI ((I 30 8).toNatClampNeg)))] [mI (l_field (py_it (ti_0 I c r) 31 sl ((I 30 8).toNatClampNeg)) 31 ((py_it (ti_0 I c r) 31 sl ((I 30 8).toNatClampNeg)) 30 7) ((py_it (ti_0 I c r) 31 sl ((I 30 8).toNatClampNeg)) sl 2) 6)] (L, (py_it (ti_0 I c r) 31 sl ((I 30 8).toNatClampNeg)), J, R)
  refine b_blk (pc' := 76) (ls' := [some (mR (0, 0, 30)), some (mI c), some (mI r), some (mI (l_field (py_it (ti_0 I c r) 31 sl ((I 30 8).toNatClampNeg)) 31 ((py_it (ti_0 I c r) 31 sl ((I 30 8).toNatClampNeg)) 30 7) ((py_it (ti_0 I c r) 31 sl ((I 30 8).toNatClampNeg)) sl 2) 6))]) (st' := [mI ((py_it (ti_0 I c r) 31 sl ((I 30 8).toNatClampNeg)) 30 11), mI (l_field (py_it (ti_0 I c r) 31 sl ((I 30 8).toNatClampNeg)) 31 ((py_it (ti_0 I c r) 31 sl ((I 30 8).toNatClampNeg)) 30 7) ((py_it (ti_0 I c r) 31 sl ((I 30 8).toNatClampNeg)) sl 2) 6)]) (S' := (L, (py_it (ti_0 I c r) 31 sl ((I 30 8).toNatClampNeg)), J, R)) (P := True) [(.istore_n 3, (0, 0, 0, 0, 0)), (.iload_n 3, (0, 0, 0, 0, 0)), (.aload_n 0, (0, 0, 0, 0, 0)), (.getfield 98, (0, 11, 0, 0, 0))] [] (by decide +kernel) rfl trivial ?_
  refine b_icmp_le (off := 18) (tgt := 94) (by decide +kernel) (by decide) (fun h3 => ?_) (fun h3 => ?_)
  · refine b_vret (by decide +kernel) rfl ⟨?_, ?_⟩
    · rfl
    · first | exact congrArg (fun X => (L, X, J, R)) (if_pos (by assumption)).symm | exact congrArg (fun X => (L, X, J, R)) (if_neg (by assumption)).symm
  · refine b_blk (pc' := 94) (ls' := [some (mR (0, 0, 30)), some (mI c), some (mI r), some (mI (l_field (py_it (ti_0 I c r) 31 sl ((I 30 8).toNatClampNeg)) 31 ((py_it (ti_0 I c r) 31 sl ((I 30 8).toNatClampNeg)) 30 7) ((py_it (ti_0 I c r) 31 sl ((I 30 8).toNatClampNeg)) sl 2) 6))]) (st' := []) (S' := (L, m_up (m_up (m_up (py_it (ti_0 I c r) 31 sl ((I 30 8).toNatClampNeg)) 30 11 (l_field (py_it (ti_0 I c r) 31 sl ((I 30 8).toNatClampNeg)) 31 ((py_it (ti_0 I c r) 31 sl ((I 30 8).toNatClampNeg)) 30 7) ((py_it (ti_0 I c r) 31 sl ((I 30 8).toNatClampNeg)) sl 2) 6)) 30 9 c) 30 10 r, J, R)) (P := True) [(.aload_n 0, (0, 0, 0, 0, 0)), (.iload_n 3, (0, 0, 0, 0, 0)), (.putfield 98, (0, 11, 0, 0, 0)), (.aload_n 0, (0, 0, 0, 0, 0)), (.iload_n 1, (0, 0, 0, 0, 0)), (.putfield 88, (0, 9, 0, 0, 0)), (.aload_n 0, (0, 0, 0, 0, 0)), (.iload_n 2, (0, 0, 0, 0, 0)), (.putfield 91, (0, 10, 0, 0, 0))] [] (by decide +kernel) rfl trivial ?_
    refine b_vret (by decide +kernel) rfl ⟨?_, ?_⟩
    · rfl
    · first | exact congrArg (fun X => (L, X, J, R)) (if_pos (by assumption)).symm | exact congrArg (fun X => (L, X, J, R)) (if_neg (by assumption)).symm
/-- where stakes of a fence stand or could come, in the first n columns -/
def tb (I : MI) (sl : Nat) (f : Int32) : Nat → MI
  | 0 => m_up (m_up I 27 6 (f_Lay_ageOf I 31 f)) 27 11 ((m_up I 27 6 (f_Lay_ageOf I 31 f)) 31 0)
  | n + 1 => if v_rowOf (tb I sl f n) 31 f (nI n) = -1 then tb I sl f n else
      m_up (gI_Walker_paces (tb I sl f n) sl (nI n) (v_rowOf (tb I sl f n) 31 f (nI n))) 43 n (gI_Walker_paces (tb I sl f n) sl (nI n) (v_rowOf (tb I sl f n) 31 f (nI n)) 43 n ||| ((2 <<< (f_Walker_paces (tb I sl f n) sl (nI n) (v_rowOf (tb I sl f n) 31 f (nI n)) &&& 31)) - 1) <<< (v_rowOf (tb I sl f n) 31 f (nI n) &&& 31))
def tb_N (b : Int32) : Nat := min b.toNatClampNeg 6
def FB (q : Nat) : Prop := q = 26 ∨ q = 27 ∨ q = 43
theorem tb_fr (I : MI) (sl : Nat) (f : Int32) : ∀ n, fr FB (tb I sl f n) I := by
  intro n
  induction n with
  | zero => exact fr_up (fr_up fr_refl (by simp [FB])) (by simp [FB])
  | succ n ih =>
    simp only [tb]
    split
    · exact ih
    · exact fr_up (fr_paces ih (by simp [FB]) (by simp [FB])) (by simp [FB])
theorem fb_sl {sl : Nat} (hq : sl = 3 ∨ sl = 11) : ¬ FB sl := by unfold FB; omega
theorem tb_no {I : MI} {sl n : Nat} {f : Int32} (hq : sl = 3 ∨ sl = 11) (hn : n < tb_N (I sl 1)) (h : tb I sl f n sl 1 ≤ nI n) : False := by
  unfold tb_N at hn
  exact ge_no (congrFun (tb_fr I sl f n sl (fb_sl hq)) 1) (by omega) h
theorem tb_no2 {b : Int32} {n : Nat} (hn : n < tb_N b) (h : (6 : Int32) ≤ nI n) : False := by
  unfold tb_N at hn
  exact absurd ((nI_leI (a := 6) (by decide) (by omega)).mp h) (by omega)
theorem tb_yes {I : MI} {sl : Nat} {f : Int32} (hq : sl = 3 ∨ sl = 11) (h1 : ¬ tb I sl f (tb_N (I sl 1)) sl 1 ≤ nI (tb_N (I sl 1))) (h2 : ¬ (6 : Int32) ≤ nI (tb_N (I sl 1))) : False := by
  rw [congrFun (tb_fr I sl f _ sl (fb_sl hq)) 1] at h1
  have hb := cl_lt (I sl 1)
  have g1 : ¬ (I sl 1).toNatClampNeg ≤ tb_N (I sl 1) := fun q => h1 ((ge_cl (by unfold tb_N; omega)).mpr q)
  have g2 : ¬ 6 ≤ tb_N (I sl 1) := fun q => h2 ((nI_leI (a := 6) (by decide) (by unfold tb_N; omega)).mpr q)
  unfold tb_N at g1 g2
  omega
set_option maxRecDepth 100000 in
set_option maxHeartbeats 400000 in
theorem c_Foresight_treadBy {G : MG} {L : List (Nat × Nat)} {I : Nat → Nat → Int32} {J : Nat → Nat → Int64} {R : Nat → Nat → Option MRef} (f : Int32) (sl : Nat) (hR : RF R) (hs : R 24 1 = some (8, 0, sl)) (hq : sl = 3 ∨ sl = 11) : m_met G 5 0 0 y_Foresight_treadBy M_Foresight_treadBy [mR (0, 0, 30), mI f] (L, I, J, R) (m_is (none) (L, tb I sl f (tb_N (I sl 1)), J, R)) := by
  refine m_met_in n_Foresight_treadBy (plainFor_of_name (by decide)) (by decide) (Nat.le_of_ble_eq_true rfl) (ls := [some (mR (0, 0, 30)), some (mI f), none, none, none]) rfl ?_
  refine b_blk (pc' := 9) (ls' := [some (mR (0, 0, 30)), some (mI f), none, none, none]) (st' := [mI f, mR (3, 0, 31), mR (10, 0, 24)]) (S' := (L, I, J, R)) (P := ((True ∧ R 30 1 = some (10, 0, 24)) ∧ R 30 2 = some (3, 0, 31))) [(.aload_n 0, (0, 0, 0, 0, 0)), (.getfield 38, (0, 1, 3, 0, 0)), (.aload_n 0, (0, 0, 0, 0, 0)), (.getfield 12, (0, 2, 3, 0, 0)), (.iload_n 1, (0, 0, 0, 0, 0))] [some (10, 0, 24), some (3, 0, 31)] (by decide +kernel) rfl ⟨⟨trivial, (r_30_1 hR)⟩, (r_30_2 hR)⟩ ?_
  refine b_cV (as := [mR (3, 0, 31), mI f]) (st := []) (by decide +kernel) k_0_120 n_Walker_face rfl (by decide) v_Walker_face (c_Walker_face 31 f hR (ly_31 hR)) (Nat.le_of_ble_eq_true rfl) (by decide) rfl rfl (fun _ h => h) ?_
  show m_B _ _ _ _ _ _ 12 [some (mR (0, 0, 30)), some (mI f), none, none, none] [] (L, m_up (m_up I 27 6 (f_Lay_ageOf I 31 f)) 27 11 ((m_up I 27 6 (f_Lay_ageOf I 31 f)) 31 0), J, R)
  refine b_blk (pc' := 14) (ls' := [some (mR (0, 0, 30)), some (mI f), some (mI 0), none, none]) (st' := []) (S' := (L, m_up (m_up I 27 6 (f_Lay_ageOf I 31 f)) 27 11 ((m_up I 27 6 (f_Lay_ageOf I 31 f)) 31 0), J, R)) (P := True) [(.iconst 0, (0, 0, 0, 0, 0)), (.istore_n 2, (0, 0, 0, 0, 0))] [] (by decide +kernel) rfl trivial ?_
  suffices hx : m_B G (m_rm 5 0 0) M_Foresight_treadBy (m_is (none) (L, tb I sl f (tb_N (I sl 1)), J, R)) 0 0 83 [some (mR (0, 0, 30)), some (mI f), some (mI (nI (tb_N (I sl 1)))), none, none] [] (L, tb I sl f (tb_N (I sl 1)), J, R) by
    refine m_B_cg ?_ rfl ?_ (loop_up (tb_N (I sl 1)) (fun n => m_B G (m_rm 5 0 0) M_Foresight_treadBy (m_is (none) (L, tb I sl f (tb_N (I sl 1)), J, R)) 0 0 14 [some (mR (0, 0, 30)), some (mI f), some (mI (nI n)), none, none] [] (L, tb I sl f n, J, R)) ?_ ?_ 0 (Nat.zero_le _))
    · first | with_reducible rfl | (simp only [m_clr, nI_succ]; done) | rfl | (rw [tb, if_pos (by assumption)]; done) | (rw [tb, if_neg (by assumption), nI_clamp (by have := hn; unfold tb_N at this; omega)]; done)
    · first | with_reducible rfl | (simp only [m_clr, nI_succ]; done) | rfl | (rw [tb, if_pos (by assumption)]; done) | (rw [tb, if_neg (by assumption), nI_clamp (by have := hn; unfold tb_N at this; omega)]; done)
    · refine b_blk (pc' := 25) (ls' := [some (mR (0, 0, 30)), some (mI f), some (mI (nI (tb_N (I sl 1)))), none, none]) (st' := [mI ((tb I sl f (tb_N (I sl 1))) sl 1), mI (nI (tb_N (I sl 1)))]) (S' := (L, tb I sl f (tb_N (I sl 1)), J, R)) (P := ((True ∧ R 30 1 = some (10, 0, 24)) ∧ R 24 1 = some (8, 0, sl))) [(.iload_n 2, (0, 0, 0, 0, 0)), (.aload_n 0, (0, 0, 0, 0, 0)), (.getfield 38, (0, 1, 3, 0, 0)), (.getfield 60, (10, 1, 3, 0, 0)), (.getfield 64, (8, 1, 0, 0, 0))] [some (10, 0, 24), some (8, 0, sl)] (by decide +kernel) rfl ⟨⟨trivial, (r_30_1 hR)⟩, hs⟩ ?_
      refine b_icmp_ge (off := 58) (tgt := 83) (by decide +kernel) (by decide) (fun h1 => ?_) (fun h1 => ?_)
      · exact hx
      · refine b_blk (pc' := 31) (ls' := [some (mR (0, 0, 30)), some (mI f), some (mI (nI (tb_N (I sl 1)))), none, none]) (st' := [mI 6, mI (nI (tb_N (I sl 1)))]) (S' := (L, tb I sl f (tb_N (I sl 1)), J, R)) (P := True) [(.iload_n 2, (0, 0, 0, 0, 0)), (.bipush 6, (0, 0, 0, 6, 0))] [] (by decide +kernel) rfl trivial ?_
        refine b_icmp_ge (off := 52) (tgt := 83) (by decide +kernel) (by decide) (fun h2 => ?_) (fun h2 => ?_)
        · exact hx
        · exact (tb_yes hq h1 h2).elim
    · intro n hn ih
      refine b_blk (pc' := 25) (ls' := [some (mR (0, 0, 30)), some (mI f), some (mI (nI n)), none, none]) (st' := [mI ((tb I sl f n) sl 1), mI (nI n)]) (S' := (L, tb I sl f n, J, R)) (P := ((True ∧ R 30 1 = some (10, 0, 24)) ∧ R 24 1 = some (8, 0, sl))) [(.iload_n 2, (0, 0, 0, 0, 0)), (.aload_n 0, (0, 0, 0, 0, 0)), (.getfield 38, (0, 1, 3, 0, 0)), (.getfield 60, (10, 1, 3, 0, 0)), (.getfield 64, (8, 1, 0, 0, 0))] [some (10, 0, 24), some (8, 0, sl)] (by decide +kernel) rfl ⟨⟨trivial, (r_30_1 hR)⟩, hs⟩ ?_
      refine b_icmp_ge (off := 58) (tgt := 83) (by decide +kernel) (by decide) (fun h3 => ?_) (fun h3 => ?_)
      · exact (tb_no hq hn h3).elim
      · refine b_blk (pc' := 31) (ls' := [some (mR (0, 0, 30)), some (mI f), some (mI (nI n)), none, none]) (st' := [mI 6, mI (nI n)]) (S' := (L, tb I sl f n, J, R)) (P := True) [(.iload_n 2, (0, 0, 0, 0, 0)), (.bipush 6, (0, 0, 0, 6, 0))] [] (by decide +kernel) rfl trivial ?_
        refine b_icmp_ge (off := 52) (tgt := 83) (by decide +kernel) (by decide) (fun h4 => ?_) (fun h4 => ?_)
        · exact (tb_no2 hn h4).elim
        · refine b_blk (pc' := 40) (ls' := [some (mR (0, 0, 30)), some (mI f), some (mI (nI n)), none, none]) (st' := [mI (nI n), mI f, mR (3, 0, 31)]) (S' := (L, tb I sl f n, J, R)) (P := (True ∧ R 30 2 = some (3, 0, 31))) [(.aload_n 0, (0, 0, 0, 0, 0)), (.getfield 12, (0, 2, 3, 0, 0)), (.iload_n 1, (0, 0, 0, 0, 0)), (.iload_n 2, (0, 0, 0, 0, 0))] [some (3, 0, 31)] (by decide +kernel) rfl ⟨trivial, (r_30_2 hR)⟩ ?_
          refine b_cV (as := [mI f, mI (nI n)]) (st := []) (by decide +kernel) k_0_123 n_Lay_rowOf rfl (by decide) v_Lay_rowOf (c_Lay_rowOf 31 f (nI n) (ly_31 hR)) (Nat.le_of_ble_eq_true rfl) (by decide) rfl rfl (fun _ h => h) ?_
          show m_B _ _ _ _ _ _ 43 [some (mR (0, 0, 30)), some (mI f), some (mI (nI n)), none, none] [mI (v_rowOf (tb I sl f n) 31 f (nI n))] (L, (tb I sl f n), J, R)
          refine b_blk (pc' := 46) (ls' := [some (mR (0, 0, 30)), some (mI f), some (mI (nI n)), some (mI (v_rowOf (tb I sl f n) 31 f (nI n))), none]) (st' := [mI (-1), mI (v_rowOf (tb I sl f n) 31 f (nI n))]) (S' := (L, (tb I sl f n), J, R)) (P := True) [(.istore_n 3, (0, 0, 0, 0, 0)), (.iload_n 3, (0, 0, 0, 0, 0)), (.iconst (-1), (0, 0, 0, (-1), 0))] [] (by decide +kernel) rfl trivial ?_
          refine b_icmp_eq (off := 31) (tgt := 77) (by decide +kernel) (by decide) (fun h5 => ?_) (fun h5 => ?_)
          · refine b_blk (pc' := 14) (ls' := [some (mR (0, 0, 30)), some (mI f), some (mI ((nI n) + 1)), some (mI (v_rowOf (tb I sl f n) 31 f (nI n))), none]) (st' := []) (S' := (L, (tb I sl f n), J, R)) (P := True) [(.iinc 2 1, (0, 0, 0, 1, 0)), (.goto (-66), (0, 14, 0, 0, 0))] [] (by decide +kernel) rfl trivial ?_
            refine b_frg 3 ?_
            refine m_B_cg ?_ rfl ?_ ih
            · first | with_reducible rfl | (simp only [m_clr, nI_succ]; done) | rfl | (rw [tb, if_pos (by assumption)]; done) | (rw [tb, if_neg (by assumption), nI_clamp (by have := hn; unfold tb_N at this; omega)]; done)
            · first | with_reducible rfl | (simp only [m_clr, nI_succ]; done) | rfl | (rw [tb, if_pos (by assumption)]; done) | (rw [tb, if_neg (by assumption), nI_clamp (by have := hn; unfold tb_N at this; omega)]; done)
          · refine b_blk (pc' := 56) (ls' := [some (mR (0, 0, 30)), some (mI f), some (mI (nI n)), some (mI (v_rowOf (tb I sl f n) 31 f (nI n))), none]) (st' := [mI (v_rowOf (tb I sl f n) 31 f (nI n)), mI (nI n), mR (10, 0, 24), mI 2]) (S' := (L, (tb I sl f n), J, R)) (P := (True ∧ R 30 1 = some (10, 0, 24))) [(.iconst 2, (0, 0, 0, 2, 0)), (.aload_n 0, (0, 0, 0, 0, 0)), (.getfield 38, (0, 1, 3, 0, 0)), (.iload_n 2, (0, 0, 0, 0, 0)), (.iload_n 3, (0, 0, 0, 0, 0))] [some (10, 0, 24)] (by decide +kernel) rfl ⟨trivial, (r_30_1 hR)⟩ ?_
            refine b_cV (as := [mI (nI n), mI (v_rowOf (tb I sl f n) 31 f (nI n))]) (st := [mI 2]) (by decide +kernel) k_0_126 n_Walker_paces rfl (by decide) v_Walker_paces (c_Walker_paces (nI n) (v_rowOf (tb I sl f n) 31 f (nI n)) sl hR hs (sl_of hR hq)) (Nat.le_of_ble_eq_true rfl) (by decide) rfl rfl (fun _ h => h) ?_
            show m_B _ _ _ _ _ _ 59 [some (mR (0, 0, 30)), some (mI f), some (mI (nI n)), some (mI (v_rowOf (tb I sl f n) 31 f (nI n))), none] [mI (f_Walker_paces (tb I sl f n) sl (nI n) (v_rowOf (tb I sl f n) 31 f (nI n))), mI 2] (L, gI_Walker_paces (tb I sl f n) sl (nI n) (v_rowOf (tb I sl f n) 31 f (nI n)), J, R)
            refine b_blk (pc' := 14) (ls' := [some (mR (0, 0, 30)), some (mI f), some (mI ((nI n) + 1)), some (mI (v_rowOf (tb I sl f n) 31 f (nI n))), some (mI (((2 : Int32) <<< ((f_Walker_paces (tb I sl f n) sl (nI n) (v_rowOf (tb I sl f n) 31 f (nI n))) &&& 31)) - (1 : Int32)))]) (st' := []) (S' := (L, m_up (gI_Walker_paces (tb I sl f n) sl (nI n) (v_rowOf (tb I sl f n) 31 f (nI n))) 43 ((nI n).toNatClampNeg) (((gI_Walker_paces (tb I sl f n) sl (nI n) (v_rowOf (tb I sl f n) 31 f (nI n))) 43 (nI n).toNatClampNeg) ||| ((((2 : Int32) <<< ((f_Walker_paces (tb I sl f n) sl (nI n) (v_rowOf (tb I sl f n) 31 f (nI n))) &&& 31)) - (1 : Int32)) <<< ((v_rowOf (tb I sl f n) 31 f (nI n)) &&& 31))), J, R)) (P := (((True ∧ R 30 5 = some (20, 6, 43)) ∧ vp_in (nI n) 6) ∧ vp_in (nI n) 6)) [(.ishl, (0, 0, 0, 0, 0)), (.iconst 1, (0, 0, 0, 1, 0)), (.isub, (0, 0, 0, 0, 0)), (.istore 4, (0, 0, 0, 0, 0)), (.aload_n 0, (0, 0, 0, 0, 0)), (.getfield 24, (0, 5, 3, 0, 0)), (.iload_n 2, (0, 0, 0, 0, 0)), (.dup2, (0, 0, 0, 0, 0)), (.iaload, (0, 0, 0, 0, 0)), (.iload 4, (0, 0, 0, 0, 0)), (.iload_n 3, (0, 0, 0, 0, 0)), (.ishl, (0, 0, 0, 0, 0)), (.ior, (0, 0, 0, 0, 0)), (.iastore, (0, 0, 0, 0, 0)), (.iinc 2 1, (0, 0, 0, 1, 0)), (.goto (-66), (0, 14, 0, 0, 0))] [some (20, 6, 43)] (by decide +kernel) rfl ⟨⟨⟨trivial, (r_30_5 hR)⟩, (vp_in_nI (N := 6) (by have := hn; unfold tb_N at this; omega) (by decide))⟩, (vp_in_nI (N := 6) (by have := hn; unfold tb_N at this; omega) (by decide))⟩ ?_
            refine b_frg 3 ?_
            refine b_frg 4 ?_
            refine m_B_cg ?_ rfl ?_ ih
            · first | with_reducible rfl | (simp only [m_clr, nI_succ]; done) | rfl | (rw [tb, if_pos (by assumption)]; done) | (rw [tb, if_neg (by assumption), nI_clamp (by have := hn; unfold tb_N at this; omega)]; done)
            · first | with_reducible rfl | (simp only [m_clr, nI_succ]; done) | rfl | (rw [tb, if_pos (by assumption)]; done) | (rw [tb, if_neg (by assumption), nI_clamp (by have := hn; unfold tb_N at this; omega)]; done)
  refine b_vret (by decide +kernel) rfl ⟨?_, ?_⟩
  · rfl
  · rfl
def tr_in (X : MI) (sl : Nat) : Nat → MI
  | 0 => X
  | q + 1 => tb (tr_in X sl q) sl (nI q) (tb_N (tr_in X sl q sl 1))
def tr (I : MI) (sl : Nat) : Nat → MI
  | 0 => w_take (m_fil I 43 0 6) 31 20
  | n + 1 => py_year none (tr_in (tr I sl n) sl (I sl 3).toNatClampNeg) 31 sl
/-- Foresight's own lay, and trodden -/
def FU (q : Nat) : Prop := FT q ∨ q = 43
theorem fb_fu {q : Nat} (h : FB q) : FU q := by unfold FB at h; unfold FU FT; omega
theorem fr_fil {P : Nat → Prop} {X I : MI} {a m : Nat} {v : Int32} (h : fr P X I) (ha : P a) : fr P (m_fil X a v m) I := fun q hq => by
  have hne : q ≠ a := fun e => hq (by rw [e]; exact ha)
  have e : m_fil X a v m q = X q := by funext j; simp [m_fil, hne]
  rw [e]; exact h q hq
theorem fr_trin (X : MI) (sl : Nat) : ∀ q, fr FU (tr_in X sl q) X := by
  intro q
  induction q with
  | zero => exact fr_refl
  | succ q ih => exact fr_trans (fr_mono (tb_fr _ _ _ _) (fun _ => fb_fu)) ih
theorem fr_tr (I : MI) (sl : Nat) : ∀ n, fr FU (tr I sl n) I := by
  intro n
  induction n with
  | zero => exact fr_trans (fr_mono (fr_takeT fr_refl) (fun _ => Or.inl)) (fr_fil fr_refl (Or.inr rfl))
  | succ n ih => exact fr_trans (fr_mono (fr_yearT fr_refl) (fun _ => Or.inl)) (fr_trans (fr_trin _ _ _) ih)
theorem fu_sl {sl : Nat} (hq : sl = 3 ∨ sl = 11) : ¬ FU sl := by unfold FU FT; omega
theorem tr_c {I : MI} {sl n q : Nat} (hq : sl = 3 ∨ sl = 11) : tr_in (tr I sl n) sl q sl 3 = I sl 3 := by rw [fr_trin _ _ _ sl (fu_sl hq), fr_tr _ _ _ sl (fu_sl hq)]
set_option maxRecDepth 100000 in
set_option maxHeartbeats 400000 in
theorem c_Foresight_tread {G : MG} {L : List (Nat × Nat)} {I : Nat → Nat → Int32} {J : Nat → Nat → Int64} {R : Nat → Nat → Option MRef} (m : Int32) (sl : Nat) (hR : RF R) (hs : R 24 1 = some (8, 0, sl)) (hq : sl = 3 ∨ sl = 11) : m_met G 7 0 0 y_Foresight_tread M_Foresight_tread [mR (0, 0, 30), mI m] (L, I, J, R) (m_is (none) (L, tr I sl m.toNatClampNeg, J, R)) := by
  refine m_met_in n_Foresight_tread (plainFor_of_name (by decide)) (by decide) (Nat.le_of_ble_eq_true rfl) (ls := [some (mR (0, 0, 30)), some (mI m), none, none]) rfl ?_
  refine b_blk (pc' := 5) (ls' := [some (mR (0, 0, 30)), some (mI m), none, none]) (st' := [mI 0, mR (20, 6, 43)]) (S' := (L, I, J, R)) (P := (True ∧ R 30 5 = some (20, 6, 43))) [(.aload_n 0, (0, 0, 0, 0, 0)), (.getfield 24, (0, 5, 3, 0, 0)), (.iconst 0, (0, 0, 0, 0, 0))] [some (20, 6, 43)] (by decide +kernel) rfl ⟨trivial, (r_30_5 hR)⟩ ?_
  refine b_cS (as := [mR (20, 6, 43), mI 0]) (st := []) (by decide +kernel) k_0_108 n_Arrays_fill s_Arrays_fill (c_Arrays_fill 43 6 (0 : Int32) (by decide)) (Nat.le_of_ble_eq_true rfl) (by decide) rfl rfl (fun _ h => h) ?_
  show m_B _ _ _ _ _ _ 8 [some (mR (0, 0, 30)), some (mI m), none, none] [] (L, m_fil I 43 (0 : Int32) 6, J, R)
  refine b_blk (pc' := 16) (ls' := [some (mR (0, 0, 30)), some (mI m), none, none]) (st' := [mR (3, 0, 20), mR (3, 0, 31)]) (S' := (L, m_fil I 43 (0 : Int32) 6, J, R)) (P := ((True ∧ R 30 2 = some (3, 0, 31)) ∧ R 30 0 = some (3, 0, 20))) [(.aload_n 0, (0, 0, 0, 0, 0)), (.getfield 12, (0, 2, 3, 0, 0)), (.aload_n 0, (0, 0, 0, 0, 0)), (.getfield 35, (0, 0, 3, 0, 0))] [some (3, 0, 31), some (3, 0, 20)] (by decide +kernel) rfl ⟨⟨trivial, (r_30_2 hR)⟩, (r_30_0 hR)⟩ ?_
  refine b_cV (as := [mR (3, 0, 20)]) (st := []) (by decide +kernel) k_0_42 n_Lay_takeFrom rfl (by decide) v_Lay_takeFrom (c_take 31 20 (ly_31 hR) (ly_20 hR)) (Nat.le_of_ble_eq_true rfl) (by decide) rfl rfl (fun _ h => h) ?_
  show m_B _ _ _ _ _ _ 19 [some (mR (0, 0, 30)), some (mI m), none, none] [] (L, w_take (m_fil I 43 (0 : Int32) 6) 31 20, J, R)
  refine b_blk (pc' := 21) (ls' := [some (mR (0, 0, 30)), some (mI m), some (mI 0), none]) (st' := []) (S' := (L, w_take (m_fil I 43 (0 : Int32) 6) 31 20, J, R)) (P := True) [(.iconst 0, (0, 0, 0, 0, 0)), (.istore_n 2, (0, 0, 0, 0, 0))] [] (by decide +kernel) rfl trivial ?_
  suffices hx : m_B G (m_rm 7 0 0) M_Foresight_tread (m_is (none) (L, tr I sl m.toNatClampNeg, J, R)) 0 0 72 [some (mR (0, 0, 30)), some (mI m), some (mI (nI m.toNatClampNeg)), none] [] (L, tr I sl m.toNatClampNeg, J, R) by
    refine m_B_cg ?_ rfl ?_ (loop_up m.toNatClampNeg (fun n => m_B G (m_rm 7 0 0) M_Foresight_tread (m_is (none) (L, tr I sl m.toNatClampNeg, J, R)) 0 0 21 [some (mR (0, 0, 30)), some (mI m), some (mI (nI n)), none] [] (L, tr I sl n, J, R)) ?_ ?_ 0 (Nat.zero_le _))
    · first | with_reducible rfl | (simp only [m_clr, nI_succ]; done) | rfl
    · first | with_reducible rfl | (simp only [m_clr, nI_succ]; done) | rfl
    · refine b_blk (pc' := 23) (ls' := [some (mR (0, 0, 30)), some (mI m), some (mI (nI m.toNatClampNeg)), none]) (st' := [mI m, mI (nI m.toNatClampNeg)]) (S' := (L, tr I sl m.toNatClampNeg, J, R)) (P := True) [(.iload_n 2, (0, 0, 0, 0, 0)), (.iload_n 1, (0, 0, 0, 0, 0))] [] (by decide +kernel) rfl trivial ?_
      refine b_icmp_ge (off := 49) (tgt := 72) (by decide +kernel) (by decide) (fun h1 => ?_) (fun h1 => ?_)
      · exact hx
      · exact (ge_yes rfl h1).elim
    · intro n hn ih
      refine b_blk (pc' := 23) (ls' := [some (mR (0, 0, 30)), some (mI m), some (mI (nI n)), none]) (st' := [mI m, mI (nI n)]) (S' := (L, tr I sl n, J, R)) (P := True) [(.iload_n 2, (0, 0, 0, 0, 0)), (.iload_n 1, (0, 0, 0, 0, 0))] [] (by decide +kernel) rfl trivial ?_
      refine b_icmp_ge (off := 49) (tgt := 72) (by decide +kernel) (by decide) (fun h2 => ?_) (fun h2 => ?_)
      · exact (ge_no rfl hn h2).elim
      · refine b_blk (pc' := 28) (ls' := [some (mR (0, 0, 30)), some (mI m), some (mI (nI n)), some (mI 0)]) (st' := []) (S' := (L, tr I sl n, J, R)) (P := True) [(.iconst 0, (0, 0, 0, 0, 0)), (.istore_n 3, (0, 0, 0, 0, 0))] [] (by decide +kernel) rfl trivial ?_
        suffices hx : m_B G (m_rm 7 0 0) M_Foresight_tread (m_is (none) (L, tr I sl m.toNatClampNeg, J, R)) 0 0 53 [some (mR (0, 0, 30)), some (mI m), some (mI (nI n)), some (mI (nI ((I sl 3).toNatClampNeg)))] [] (L, tr_in (tr I sl n) sl ((I sl 3).toNatClampNeg), J, R) by
          refine m_B_cg ?_ rfl ?_ (loop_up ((I sl 3).toNatClampNeg) (fun q => m_B G (m_rm 7 0 0) M_Foresight_tread (m_is (none) (L, tr I sl m.toNatClampNeg, J, R)) 0 0 28 [some (mR (0, 0, 30)), some (mI m), some (mI (nI n)), some (mI (nI q))] [] (L, tr_in (tr I sl n) sl q, J, R)) ?_ ?_ 0 (Nat.zero_le _))
          · first | with_reducible rfl | (simp only [m_clr, nI_succ]; done) | rfl
          · first | with_reducible rfl | (simp only [m_clr, nI_succ]; done) | rfl
          · refine b_blk (pc' := 39) (ls' := [some (mR (0, 0, 30)), some (mI m), some (mI (nI n)), some (mI (nI ((I sl 3).toNatClampNeg)))]) (st' := [mI ((tr_in (tr I sl n) sl ((I sl 3).toNatClampNeg)) sl 3), mI (nI ((I sl 3).toNatClampNeg))]) (S' := (L, tr_in (tr I sl n) sl ((I sl 3).toNatClampNeg), J, R)) (P := ((True ∧ R 30 1 = some (10, 0, 24)) ∧ R 24 1 = some (8, 0, sl))) [(.iload_n 3, (0, 0, 0, 0, 0)), (.aload_n 0, (0, 0, 0, 0, 0)), (.getfield 38, (0, 1, 3, 0, 0)), (.getfield 60, (10, 1, 3, 0, 0)), (.getfield 114, (8, 3, 0, 0, 0))] [some (10, 0, 24), some (8, 0, sl)] (by decide +kernel) rfl ⟨⟨trivial, (r_30_1 hR)⟩, hs⟩ ?_
            refine b_icmp_ge (off := 14) (tgt := 53) (by decide +kernel) (by decide) (fun h3 => ?_) (fun h3 => ?_)
            · exact hx
            · exact (ge_yes (tr_c hq) h3).elim
          · intro q hn2 ih2
            refine b_blk (pc' := 39) (ls' := [some (mR (0, 0, 30)), some (mI m), some (mI (nI n)), some (mI (nI q))]) (st' := [mI ((tr_in (tr I sl n) sl q) sl 3), mI (nI q)]) (S' := (L, tr_in (tr I sl n) sl q, J, R)) (P := ((True ∧ R 30 1 = some (10, 0, 24)) ∧ R 24 1 = some (8, 0, sl))) [(.iload_n 3, (0, 0, 0, 0, 0)), (.aload_n 0, (0, 0, 0, 0, 0)), (.getfield 38, (0, 1, 3, 0, 0)), (.getfield 60, (10, 1, 3, 0, 0)), (.getfield 114, (8, 3, 0, 0, 0))] [some (10, 0, 24), some (8, 0, sl)] (by decide +kernel) rfl ⟨⟨trivial, (r_30_1 hR)⟩, hs⟩ ?_
            refine b_icmp_ge (off := 14) (tgt := 53) (by decide +kernel) (by decide) (fun h4 => ?_) (fun h4 => ?_)
            · exact (ge_no (tr_c hq) hn2 h4).elim
            · refine b_blk (pc' := 44) (ls' := [some (mR (0, 0, 30)), some (mI m), some (mI (nI n)), some (mI (nI q))]) (st' := [mI (nI q), mR (0, 0, 30)]) (S' := (L, tr_in (tr I sl n) sl q, J, R)) (P := True) [(.aload_n 0, (0, 0, 0, 0, 0)), (.iload_n 3, (0, 0, 0, 0, 0))] [] (by decide +kernel) rfl trivial ?_
              refine b_cV (as := [mI (nI q)]) (st := []) (by decide +kernel) k_0_117 n_Foresight_treadBy rfl (by decide) v_Foresight_treadBy (c_Foresight_treadBy (nI q) sl hR hs hq) (Nat.le_of_ble_eq_true rfl) (by decide) rfl rfl (fun _ h => h) ?_
              show m_B _ _ _ _ _ _ 47 [some (mR (0, 0, 30)), some (mI m), some (mI (nI n)), some (mI (nI q))] [] (L, tb (tr_in (tr I sl n) sl q) sl (nI q) (tb_N ((tr_in (tr I sl n) sl q) sl 1)), J, R)
              refine b_blk (pc' := 28) (ls' := [some (mR (0, 0, 30)), some (mI m), some (mI (nI n)), some (mI ((nI q) + 1))]) (st' := []) (S' := (L, tb (tr_in (tr I sl n) sl q) sl (nI q) (tb_N ((tr_in (tr I sl n) sl q) sl 1)), J, R)) (P := True) [(.iinc 3 1, (0, 0, 0, 1, 0)), (.goto (-22), (0, 28, 0, 0, 0))] [] (by decide +kernel) rfl trivial ?_
              refine m_B_cg ?_ rfl ?_ ih2
              · first | with_reducible rfl | (simp only [m_clr, nI_succ]; done) | rfl
              · first | with_reducible rfl | (simp only [m_clr, nI_succ]; done) | rfl
        refine b_blk (pc' := 62) (ls' := [some (mR (0, 0, 30)), some (mI m), some (mI (nI n)), some (mI (nI ((I sl 3).toNatClampNeg)))]) (st' := [mN, mR (3, 0, 31), mR (10, 0, 24)]) (S' := (L, tr_in (tr I sl n) sl ((I sl 3).toNatClampNeg), J, R)) (P := ((True ∧ R 30 1 = some (10, 0, 24)) ∧ R 30 2 = some (3, 0, 31))) [(.aload_n 0, (0, 0, 0, 0, 0)), (.getfield 38, (0, 1, 3, 0, 0)), (.aload_n 0, (0, 0, 0, 0, 0)), (.getfield 12, (0, 2, 3, 0, 0)), (.aconst_null, (0, 0, 0, 0, 0))] [some (10, 0, 24), some (3, 0, 31)] (by decide +kernel) rfl ⟨⟨trivial, (r_30_1 hR)⟩, (r_30_2 hR)⟩ ?_
        refine b_cV (as := [mR (3, 0, 31), mN]) (st := []) (by decide +kernel) k_0_50 n_Walker_passYear rfl (by decide) v_Walker_passYear (c_Walker_passYear_N 31 sl hR hs (sl_of hR hq) (ly_31 hR) (fp_no hq (by decide))) (Nat.le_of_ble_eq_true rfl) (by decide) rfl rfl (fun _ h => h) ?_
        show m_B _ _ _ _ _ _ 65 [some (mR (0, 0, 30)), some (mI m), some (mI (nI n)), some (mI (nI ((I sl 3).toNatClampNeg)))] [mI (py_went none (tr_in (tr I sl n) sl ((I sl 3).toNatClampNeg)) 31 sl)] (L, py_year none (tr_in (tr I sl n) sl ((I sl 3).toNatClampNeg)) 31 sl, J, R)
        refine b_blk (pc' := 21) (ls' := [some (mR (0, 0, 30)), some (mI m), some (mI ((nI n) + 1)), some (mI (nI ((I sl 3).toNatClampNeg)))]) (st' := []) (S' := (L, py_year none (tr_in (tr I sl n) sl ((I sl 3).toNatClampNeg)) 31 sl, J, R)) (P := True) [(.pop, (0, 0, 0, 0, 0)), (.iinc 2 1, (0, 0, 0, 1, 0)), (.goto (-48), (0, 21, 0, 0, 0))] [] (by decide +kernel) rfl trivial ?_
        refine b_frg 3 ?_
        refine m_B_cg ?_ rfl ?_ ih
        · first | with_reducible rfl | (simp only [m_clr, nI_succ]; done) | rfl
        · first | with_reducible rfl | (simp only [m_clr, nI_succ]; done) | rfl
  refine b_vret (by decide +kernel) rfl ⟨?_, ?_⟩
  · rfl
  · rfl
