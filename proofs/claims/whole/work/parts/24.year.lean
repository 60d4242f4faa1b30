/-! Walker: a year -/
theorem fr_plant {P : Nat → Prop} {X I : MI} {k : Nat} {f b : Int32} (h : fr P X I) (h1 : P (k + 1)) (h3 : P (k + 3)) : fr P (w_plant X k f b) I := by
  unfold w_plant
  refine fr_putAge ?_ h1
  generalize b.toNatClampNeg = n
  induction n with
  | zero => exact h
  | succ n ih => exact fr_putStake ih h3
theorem fr_roots {P : Nat → Prop} {X I : MI} {sl k : Nat} {f : Int32} (h : fr P X I) (h6 : P 26) (h7 : P 27) : fr P (gI_Walker_rootsAgain X sl k f) I := by
  have h0 : fr P (uI_Walker_rootsAgain_0 X sl k f) I := by
    unfold uI_Walker_rootsAgain_0
    exact fr_up (fr_up (fr_up h h7) h7) h7
  unfold gI_Walker_rootsAgain
  repeat' split
  all_goals first | exact h | (unfold uI_Walker_rootsAgain_1; exact fr_run (fr_up h0 h7) h6)
/-- the first n fences have walked -/
def py_1 (lg : Option Nat) (I : MI) (k sl : Nat) : Nat → Int32 × MI
  | 0 => (0, I)
  | n + 1 => if f_Lay_isCut (py_1 lg I k sl n).2 k (nI n) = 0 then
      ((py_1 lg I k sl n).1 + (l_wf lg (py_1 lg I k sl n).2 k sl (nI n) ((py_1 lg I k sl n).2 sl 1).toNatClampNeg).1, (l_wf lg (py_1 lg I k sl n).2 k sl (nI n) ((py_1 lg I k sl n).2 sl 1).toNatClampNeg).2)
    else py_1 lg I k sl n
def py_age (X : MI) (k : Nat) (f : Int32) : MI := gI_Lay_putAge X k f (f_Math_min_II 99 (f_Lay_ageOf X k f + 1))
/-- the first n fences are older, and have rooted again, if they do -/
def py_2 (lg : Option Nat) (I : MI) (k sl : Nat) : Nat → MI
  | 0 => I
  | n + 1 => if f_Walker_rootsAgain (py_age (py_2 lg I k sl n) k (nI n)) sl k (nI n) = 0 then gI_Walker_rootsAgain (py_age (py_2 lg I k sl n) k (nI n)) sl k (nI n)
    else wf_note lg (w_plant (gI_Walker_rootsAgain (py_age (py_2 lg I k sl n) k (nI n)) sl k (nI n)) k (nI n) (gI_Walker_rootsAgain (py_age (py_2 lg I k sl n) k (nI n)) sl k (nI n) sl 1)) k (nI n) 255
def py_a (lg : Option Nat) (I : MI) (k sl : Nat) : MI := m_up (py_1 lg I k sl (I sl 3).toNatClampNeg).2 k 1 0
def py_b (lg : Option Nat) (I : MI) (k sl : Nat) : MI := py_2 lg (py_a lg I k sl) k sl (I sl 3).toNatClampNeg
def py_year (lg : Option Nat) (I : MI) (k sl : Nat) : MI := m_up (py_b lg I k sl) k 0 (f_Math_min_II 999 (py_b lg I k sl k 0 + 1))
def py_went (lg : Option Nat) (I : MI) (k sl : Nat) : Int32 := (py_1 lg I k sl (I sl 3).toNatClampNeg).1
theorem fr_py1 (lg : Option Nat) (I : MI) (k sl : Nat) : ∀ n, fr (FP k lg) (py_1 lg I k sl n).2 I := by
  intro n
  induction n with
  | zero => exact fr_refl
  | succ n ih =>
    simp only [py_1]
    split
    · exact fr_trans (fr_wf _ _ _ _ _ _) ih
    · exact ih
theorem fr_py2 (lg : Option Nat) (I : MI) (k sl : Nat) : ∀ n, fr (FP k lg) (py_2 lg I k sl n) I := by
  intro n
  induction n with
  | zero => exact fr_refl
  | succ n ih =>
    have h1 : fr (FP k lg) (gI_Walker_rootsAgain (py_age (py_2 lg I k sl n) k (nI n)) sl k (nI n)) I := fr_roots (fr_putAge ih (by simp [FP])) (by simp [FP]) (by simp [FP])
    simp only [py_2]
    split
    · exact h1
    · exact fr_wnote (fr_plant h1 (by simp [FP]) (by simp [FP]))
theorem fr_pya (lg : Option Nat) (I : MI) (k sl : Nat) : fr (FP k lg) (py_a lg I k sl) I := fr_up (fr_py1 _ _ _ _ _) (by simp [FP])
theorem fr_pyb (lg : Option Nat) (I : MI) (k sl : Nat) : fr (FP k lg) (py_b lg I k sl) I := fr_trans (fr_py2 _ _ _ _ _) (fr_pya _ _ _ _)
theorem fr_year (lg : Option Nat) (I : MI) (k sl : Nat) : fr (FP k lg) (py_year lg I k sl) I := fr_up (fr_pyb _ _ _ _) (by simp [FP])
theorem py_c1 {lg : Option Nat} {I X : MI} {k sl n : Nat} {w : Int32} (hd : ¬ FP k lg sl) (hh : py_1 lg I k sl n = (w, X)) : X sl = I sl := by
  have h := fr_py1 lg I k sl n sl hd
  rw [hh] at h
  exact h
theorem py_c2 {lg : Option Nat} {I X : MI} {k sl n : Nat} (hd : ¬ FP k lg sl) (hh : py_2 lg (py_a lg I k sl) k sl n = X) : X sl = I sl := by
  rw [← hh]
  exact (fr_py2 lg _ k sl n sl hd).trans (fr_pya lg I k sl sl hd)
theorem ge_no {B X : Int32} {n : Nat} (e : X = B) (hn : n < B.toNatClampNeg) (h : X ≤ nI n) : False := by
  rw [e] at h
  exact absurd ((ge_cl (by have := cl_lt B; omega)).mp h) (by omega)
theorem ge_yes {B X : Int32} (e : X = B) (h : ¬ X ≤ nI B.toNatClampNeg) : False := by
  rw [e] at h
  exact h (ge_clN B)
theorem py_e1 {lg : Option Nat} {I X : MI} {k sl n : Nat} {w : Int32} (hh : py_1 lg I k sl n = (w, X)) (h1 : f_Lay_isCut X k (nI n) = 0) : py_1 lg I k sl (n + 1) = (w + (l_wf lg X k sl (nI n) (X sl 1).toNatClampNeg).1, (l_wf lg X k sl (nI n) (X sl 1).toNatClampNeg).2) := by
  simp only [py_1, hh, h1, if_true]
theorem py_e2 {lg : Option Nat} {I X : MI} {k sl n : Nat} {w : Int32} (hh : py_1 lg I k sl n = (w, X)) (h1 : ¬ f_Lay_isCut X k (nI n) = 0) : py_1 lg I k sl (n + 1) = (w, X) := by
  simp only [py_1, hh, h1, if_false]
theorem py_f1 {lg : Option Nat} {I X : MI} {k sl n : Nat} (hh : py_2 lg I k sl n = X) (h1 : f_Walker_rootsAgain (py_age X k (nI n)) sl k (nI n) = 0) : py_2 lg I k sl (n + 1) = gI_Walker_rootsAgain (py_age X k (nI n)) sl k (nI n) := by
  simp only [py_2, hh, h1, if_true]
theorem py_f2 {lg : Option Nat} {I X : MI} {k sl n : Nat} (hh : py_2 lg I k sl n = X) (h1 : ¬ f_Walker_rootsAgain (py_age X k (nI n)) sl k (nI n) = 0) : py_2 lg I k sl (n + 1) = wf_note lg (w_plant (gI_Walker_rootsAgain (py_age X k (nI n)) sl k (nI n)) k (nI n) (gI_Walker_rootsAgain (py_age X k (nI n)) sl k (nI n) sl 1)) k (nI n) 255 := by
  simp only [py_2, hh, h1, if_false]
set_option maxRecDepth 100000 in
set_option maxHeartbeats 400000 in
theorem c_Walker_passYear_N {G : MG} {L : List (Nat × Nat)} {I : Nat → Nat → Int32} {J : Nat → Nat → Int64} {R : Nat → Nat → Option MRef} (k : Nat) (sl : Nat) (hR : RF R) (hs : R 24 1 = some (8, 0, sl)) (hsl : SlopeR R sl) (hk : LayR R k)  (hd : ¬ FP k none sl) : m_met G 6 0 0 y_Walker_passYear M_Walker_passYear [mR (10, 0, 24), mR (3, 0, k), mN] (L, I, J, R) (m_is (some (mI (py_went none I k sl))) (L, py_year none I k sl, J, R)) := by
  refine m_met_in n_Walker_passYear (plainFor_of_name (by decide)) (by decide) (Nat.le_of_ble_eq_true rfl) (ls := [some (mR (10, 0, 24)), some (mR (3, 0, k)), some (mN), none, none]) rfl ?_
  refine b_blk (pc' := 5) (ls' := [some (mR (10, 0, 24)), some (mR (3, 0, k)), some (mN), some (mI 0), some (mI 0)]) (st' := []) (S' := (L, I, J, R)) (P := True) [(.iconst 0, (0, 0, 0, 0, 0)), (.istore_n 3, (0, 0, 0, 0, 0)), (.iconst 0, (0, 0, 0, 0, 0)), (.istore 4, (0, 0, 0, 0, 0))] [] (by decide +kernel) rfl trivial ?_
  suffices hx : ∀ (w : Int32) (X : MI), py_1 none I k sl ((I sl 3).toNatClampNeg) = (w, X) → m_B G (m_rm 6 0 0) M_Walker_passYear (m_is (some (mI (py_went none I k sl))) (L, py_year none I k sl, J, R)) 0 0 43 [some (mR (10, 0, 24)), some (mR (3, 0, k)), some (mN), some (mI w), some (mI (nI ((I sl 3).toNatClampNeg)))] [] (L, X, J, R) by
    refine m_B_cg ?_ rfl ?_ (loop_up ((I sl 3).toNatClampNeg) (fun n => ∀ (w : Int32) (X : MI), py_1 none I k sl n = (w, X) → m_B G (m_rm 6 0 0) M_Walker_passYear (m_is (some (mI (py_went none I k sl))) (L, py_year none I k sl, J, R)) 0 0 5 [some (mR (10, 0, 24)), some (mR (3, 0, k)), some (mN), some (mI w), some (mI (nI n))] [] (L, X, J, R)) ?_ ?_ 0 (Nat.zero_le _) 0 I ?_)
    · first | with_reducible rfl | (simp [nI_succ, nI_0]; done)
    · first | with_reducible rfl | (simp [nI_succ, nI_0]; done)
    · intro w X hh
      refine b_blk (pc' := 14) (ls' := [some (mR (10, 0, 24)), some (mR (3, 0, k)), some (mN), some (mI w), some (mI (nI ((I sl 3).toNatClampNeg)))]) (st' := [mI (X sl 3), mI (nI ((I sl 3).toNatClampNeg))]) (S' := (L, X, J, R)) (P := (True ∧ R 24 1 = some (8, 0, sl))) [(.iload 4, (0, 0, 0, 0, 0)), (.aload_n 0, (0, 0, 0, 0, 0)), (.getfield 18, (10, 1, 3, 0, 0)), (.getfield 63, (8, 3, 0, 0, 0))] [some (8, 0, sl)] (by decide +kernel) rfl ⟨trivial, hs⟩ ?_
      refine b_icmp_ge (off := 29) (tgt := 43) (by decide +kernel) (by decide) (fun h1 => ?_) (fun h1 => ?_)
      · exact hx w X hh
      · exact (ge_yes (congrFun (py_c1 hd hh) 3) h1).elim
    · intro n hn ih w X hh
      refine b_blk (pc' := 14) (ls' := [some (mR (10, 0, 24)), some (mR (3, 0, k)), some (mN), some (mI w), some (mI (nI n))]) (st' := [mI (X sl 3), mI (nI n)]) (S' := (L, X, J, R)) (P := (True ∧ R 24 1 = some (8, 0, sl))) [(.iload 4, (0, 0, 0, 0, 0)), (.aload_n 0, (0, 0, 0, 0, 0)), (.getfield 18, (10, 1, 3, 0, 0)), (.getfield 63, (8, 3, 0, 0, 0))] [some (8, 0, sl)] (by decide +kernel) rfl ⟨trivial, hs⟩ ?_
      refine b_icmp_ge (off := 29) (tgt := 43) (by decide +kernel) (by decide) (fun h2 => ?_) (fun h2 => ?_)
      · exact (ge_no (congrFun (py_c1 hd hh) 3) hn h2).elim
      · refine b_blk (pc' := 20) (ls' := [some (mR (10, 0, 24)), some (mR (3, 0, k)), some (mN), some (mI w), some (mI (nI n))]) (st' := [mI (nI n), mR (3, 0, k)]) (S' := (L, X, J, R)) (P := True) [(.aload_n 1, (0, 0, 0, 0, 0)), (.iload 4, (0, 0, 0, 0, 0))] [] (by decide +kernel) rfl trivial ?_
        refine b_cV (as := [mI (nI n)]) (st := []) (by decide +kernel) k_10_66 n_Lay_isCut rfl (by decide) v_Lay_isCut (c_Lay_isCut k (nI n) ) (Nat.le_of_ble_eq_true rfl) (by decide) rfl rfl (fun _ h => h) ?_
        show m_B _ _ _ _ _ _ 23 [some (mR (10, 0, 24)), some (mR (3, 0, k)), some (mN), some (mI w), some (mI (nI n))] [mI (f_Lay_isCut X k (nI n))] (L, X, J, R)
        refine b_if_ne (off := 14) (tgt := 37) (by decide +kernel) (by decide) (fun h3 => ?_) (fun h3 => ?_)
        · refine b_blk (pc' := 5) (ls' := [some (mR (10, 0, 24)), some (mR (3, 0, k)), some (mN), some (mI w), some (mI ((nI n) + 1))]) (st' := []) (S' := (L, X, J, R)) (P := True) [(.iinc 4 1, (0, 0, 0, 1, 0)), (.goto (-35), (0, 5, 0, 0, 0))] [] (by decide +kernel) rfl trivial ?_
          refine m_B_cg ?_ rfl ?_ (ih w X ?_)
          · first | with_reducible rfl | (simp [nI_succ, nI_0]; done)
          · first | with_reducible rfl | (simp [nI_succ, nI_0]; done)
          · exact py_e2 hh h3
        · refine b_blk (pc' := 32) (ls' := [some (mR (10, 0, 24)), some (mR (3, 0, k)), some (mN), some (mI w), some (mI (nI n))]) (st' := [mN, mI (nI n), mR (3, 0, k), mR (10, 0, 24), mI w]) (S' := (L, X, J, R)) (P := True) [(.iload_n 3, (0, 0, 0, 0, 0)), (.aload_n 0, (0, 0, 0, 0, 0)), (.aload_n 1, (0, 0, 0, 0, 0)), (.iload 4, (0, 0, 0, 0, 0)), (.aload_n 2, (0, 0, 0, 0, 0))] [] (by decide +kernel) rfl trivial ?_
          refine b_cV (as := [mR (3, 0, k), mI (nI n), mN]) (st := [mI w]) (by decide +kernel) k_10_70 n_Walker_walkFence rfl (by decide) v_Walker_walkFence (c_Walker_walkFence_N k (nI n) sl hR hs hsl (by assumption) (by assumption)) (Nat.le_of_ble_eq_true rfl) (by decide) rfl rfl (fun _ h => h) ?_
          show m_B _ _ _ _ _ _ 35 [some (mR (10, 0, 24)), some (mR (3, 0, k)), some (mN), some (mI w), some (mI (nI n))] [mI ((l_wf none X k sl (nI n) (X sl 1).toNatClampNeg).1), mI w] (L, (l_wf none X k sl (nI n) (X sl 1).toNatClampNeg).2, J, R)
          refine b_blk (pc' := 5) (ls' := [some (mR (10, 0, 24)), some (mR (3, 0, k)), some (mN), some (mI (w + ((l_wf none X k sl (nI n) (X sl 1).toNatClampNeg).1))), some (mI ((nI n) + 1))]) (st' := []) (S' := (L, (l_wf none X k sl (nI n) (X sl 1).toNatClampNeg).2, J, R)) (P := True) [(.iadd, (0, 0, 0, 0, 0)), (.istore_n 3, (0, 0, 0, 0, 0)), (.iinc 4 1, (0, 0, 0, 1, 0)), (.goto (-35), (0, 5, 0, 0, 0))] [] (by decide +kernel) rfl trivial ?_
          refine m_B_cg ?_ rfl ?_ (ih (w + ((l_wf none X k sl (nI n) (X sl 1).toNatClampNeg).1)) ((l_wf none X k sl (nI n) (X sl 1).toNatClampNeg).2) ?_)
          · first | with_reducible rfl | (simp [nI_succ, nI_0]; done)
          · first | with_reducible rfl | (simp [nI_succ, nI_0]; done)
          · exact py_e1 hh h3
    · rfl
  intro w X hh
  refine b_blk (pc' := 51) (ls' := [some (mR (10, 0, 24)), some (mR (3, 0, k)), some (mN), some (mI w), some (mI 0)]) (st' := []) (S' := (L, m_up X k 1 (0 : Int32), J, R)) (P := True) [(.aload_n 1, (0, 0, 0, 0, 0)), (.iconst 0, (0, 0, 0, 0, 0)), (.putfield 74, (3, 1, 0, 0, 0)), (.iconst 0, (0, 0, 0, 0, 0)), (.istore 4, (0, 0, 0, 0, 0))] [] (by decide +kernel) rfl trivial ?_
  suffices hx : ∀ (Y : MI), py_2 none (py_a none I k sl) k sl ((I sl 3).toNatClampNeg) = Y → m_B G (m_rm 6 0 0) M_Walker_passYear (m_is (some (mI (py_went none I k sl))) (L, py_year none I k sl, J, R)) 0 0 128 [some (mR (10, 0, 24)), some (mR (3, 0, k)), some (mN), some (mI w), some (mI (nI ((I sl 3).toNatClampNeg)))] [] (L, Y, J, R) by
    refine m_B_cg ?_ rfl ?_ (loop_up ((I sl 3).toNatClampNeg) (fun n => ∀ (Y : MI), py_2 none (py_a none I k sl) k sl n = Y → m_B G (m_rm 6 0 0) M_Walker_passYear (m_is (some (mI (py_went none I k sl))) (L, py_year none I k sl, J, R)) 0 0 51 [some (mR (10, 0, 24)), some (mR (3, 0, k)), some (mN), some (mI w), some (mI (nI n))] [] (L, Y, J, R)) ?_ ?_ 0 (Nat.zero_le _) (m_up X k 1 (0 : Int32)) ?_)
    · first | with_reducible rfl | (simp [nI_succ, nI_0]; done)
    · first | with_reducible rfl | (simp [nI_succ, nI_0]; done)
    · intro Y hh2
      refine b_blk (pc' := 60) (ls' := [some (mR (10, 0, 24)), some (mR (3, 0, k)), some (mN), some (mI w), some (mI (nI ((I sl 3).toNatClampNeg)))]) (st' := [mI (Y sl 3), mI (nI ((I sl 3).toNatClampNeg))]) (S' := (L, Y, J, R)) (P := (True ∧ R 24 1 = some (8, 0, sl))) [(.iload 4, (0, 0, 0, 0, 0)), (.aload_n 0, (0, 0, 0, 0, 0)), (.getfield 18, (10, 1, 3, 0, 0)), (.getfield 63, (8, 3, 0, 0, 0))] [some (8, 0, sl)] (by decide +kernel) rfl ⟨trivial, hs⟩ ?_
      refine b_icmp_ge (off := 68) (tgt := 128) (by decide +kernel) (by decide) (fun h4 => ?_) (fun h4 => ?_)
      · exact hx Y hh2
      · exact (ge_yes (congrFun (py_c2 hd hh2) 3) h4).elim
    · intro n hn ih Y hh2
      refine b_blk (pc' := 60) (ls' := [some (mR (10, 0, 24)), some (mR (3, 0, k)), some (mN), some (mI w), some (mI (nI n))]) (st' := [mI (Y sl 3), mI (nI n)]) (S' := (L, Y, J, R)) (P := (True ∧ R 24 1 = some (8, 0, sl))) [(.iload 4, (0, 0, 0, 0, 0)), (.aload_n 0, (0, 0, 0, 0, 0)), (.getfield 18, (10, 1, 3, 0, 0)), (.getfield 63, (8, 3, 0, 0, 0))] [some (8, 0, sl)] (by decide +kernel) rfl ⟨trivial, hs⟩ ?_
      refine b_icmp_ge (off := 68) (tgt := 128) (by decide +kernel) (by decide) (fun h5 => ?_) (fun h5 => ?_)
      · exact (ge_no (congrFun (py_c2 hd hh2) 3) hn h5).elim
      · refine b_blk (pc' := 71) (ls' := [some (mR (10, 0, 24)), some (mR (3, 0, k)), some (mN), some (mI w), some (mI (nI n))]) (st' := [mI (nI n), mR (3, 0, k), mI 99, mI (nI n), mR (3, 0, k)]) (S' := (L, Y, J, R)) (P := True) [(.aload_n 1, (0, 0, 0, 0, 0)), (.iload 4, (0, 0, 0, 0, 0)), (.bipush 99, (0, 0, 0, 99, 0)), (.aload_n 1, (0, 0, 0, 0, 0)), (.iload 4, (0, 0, 0, 0, 0))] [] (by decide +kernel) rfl trivial ?_
        refine b_cV (as := [mI (nI n)]) (st := [mI 99, mI (nI n), mR (3, 0, k)]) (by decide +kernel) k_10_26 n_Lay_ageOf rfl (by decide) v_Lay_ageOf (c_Lay_ageOf k (nI n) (by assumption)) (Nat.le_of_ble_eq_true rfl) (by decide) rfl rfl (fun _ h => h) ?_
        show m_B _ _ _ _ _ _ 74 [some (mR (10, 0, 24)), some (mR (3, 0, k)), some (mN), some (mI w), some (mI (nI n))] [mI (f_Lay_ageOf Y k (nI n)), mI 99, mI (nI n), mR (3, 0, k)] (L, Y, J, R)
        refine b_blk (pc' := 76) (ls' := [some (mR (10, 0, 24)), some (mR (3, 0, k)), some (mN), some (mI w), some (mI (nI n))]) (st' := [mI ((f_Lay_ageOf Y k (nI n)) + (1 : Int32)), mI 99, mI (nI n), mR (3, 0, k)]) (S' := (L, Y, J, R)) (P := True) [(.iconst 1, (0, 0, 0, 1, 0)), (.iadd, (0, 0, 0, 0, 0))] [] (by decide +kernel) rfl trivial ?_
        refine b_cS (as := [mI 99, mI ((f_Lay_ageOf Y k (nI n)) + (1 : Int32))]) (st := [mI (nI n), mR (3, 0, k)]) (by decide +kernel) k_10_54 n_Math_min_II s_Math_min_II (c_Math_min_II (99 : Int32) ((f_Lay_ageOf Y k (nI n)) + (1 : Int32)) ) (Nat.le_of_ble_eq_true rfl) (by decide) rfl rfl (fun _ h => h) ?_
        show m_B _ _ _ _ _ _ 79 [some (mR (10, 0, 24)), some (mR (3, 0, k)), some (mN), some (mI w), some (mI (nI n))] [mI (f_Math_min_II (99 : Int32) ((f_Lay_ageOf Y k (nI n)) + (1 : Int32))), mI (nI n), mR (3, 0, k)] (L, Y, J, R)
        refine b_cV (as := [mI (nI n), mI (f_Math_min_II (99 : Int32) ((f_Lay_ageOf Y k (nI n)) + (1 : Int32)))]) (st := []) (by decide +kernel) k_10_77 n_Lay_putAge rfl (by decide) v_Lay_putAge (c_Lay_putAge k (nI n) (f_Math_min_II (99 : Int32) ((f_Lay_ageOf Y k (nI n)) + (1 : Int32))) (by assumption)) (Nat.le_of_ble_eq_true rfl) (by decide) rfl rfl (fun _ h => h) ?_
        show m_B _ _ _ _ _ _ 82 [some (mR (10, 0, 24)), some (mR (3, 0, k)), some (mN), some (mI w), some (mI (nI n))] [] (L, gI_Lay_putAge Y k (nI n) (f_Math_min_II (99 : Int32) ((f_Lay_ageOf Y k (nI n)) + (1 : Int32))), J, R)
        refine b_blk (pc' := 86) (ls' := [some (mR (10, 0, 24)), some (mR (3, 0, k)), some (mN), some (mI w), some (mI (nI n))]) (st' := [mI (nI n), mR (3, 0, k), mR (10, 0, 24)]) (S' := (L, gI_Lay_putAge Y k (nI n) (f_Math_min_II (99 : Int32) ((f_Lay_ageOf Y k (nI n)) + (1 : Int32))), J, R)) (P := True) [(.aload_n 0, (0, 0, 0, 0, 0)), (.aload_n 1, (0, 0, 0, 0, 0)), (.iload 4, (0, 0, 0, 0, 0))] [] (by decide +kernel) rfl trivial ?_
        refine b_cV (as := [mR (3, 0, k), mI (nI n)]) (st := []) (by decide +kernel) k_10_81 n_Walker_rootsAgain rfl (by decide) v_Walker_rootsAgain (c_Walker_rootsAgain k (nI n) sl hR hs hsl (by assumption)) (Nat.le_of_ble_eq_true rfl) (by decide) rfl rfl (fun _ h => h) ?_
        show m_B _ _ _ _ _ _ 89 [some (mR (10, 0, 24)), some (mR (3, 0, k)), some (mN), some (mI w), some (mI (nI n))] [mI (f_Walker_rootsAgain (gI_Lay_putAge Y k (nI n) (f_Math_min_II (99 : Int32) ((f_Lay_ageOf Y k (nI n)) + (1 : Int32)))) sl k (nI n))] (L, gI_Walker_rootsAgain (gI_Lay_putAge Y k (nI n) (f_Math_min_II (99 : Int32) ((f_Lay_ageOf Y k (nI n)) + (1 : Int32)))) sl k (nI n), J, R)
        refine b_if_eq (off := 33) (tgt := 122) (by decide +kernel) (by decide) (fun h6 => ?_) (fun h6 => ?_)
        · refine b_blk (pc' := 51) (ls' := [some (mR (10, 0, 24)), some (mR (3, 0, k)), some (mN), some (mI w), some (mI ((nI n) + 1))]) (st' := []) (S' := (L, gI_Walker_rootsAgain (gI_Lay_putAge Y k (nI n) (f_Math_min_II (99 : Int32) ((f_Lay_ageOf Y k (nI n)) + (1 : Int32)))) sl k (nI n), J, R)) (P := True) [(.iinc 4 1, (0, 0, 0, 1, 0)), (.goto (-74), (0, 51, 0, 0, 0))] [] (by decide +kernel) rfl trivial ?_
          refine m_B_cg ?_ rfl ?_ (ih (gI_Walker_rootsAgain (gI_Lay_putAge Y k (nI n) (f_Math_min_II (99 : Int32) ((f_Lay_ageOf Y k (nI n)) + (1 : Int32)))) sl k (nI n)) ?_)
          · first | with_reducible rfl | (simp [nI_succ, nI_0]; done)
          · first | with_reducible rfl | (simp [nI_succ, nI_0]; done)
          · exact py_f1 hh2 h6
        · refine b_blk (pc' := 102) (ls' := [some (mR (10, 0, 24)), some (mR (3, 0, k)), some (mN), some (mI w), some (mI (nI n))]) (st' := [mI ((gI_Walker_rootsAgain (gI_Lay_putAge Y k (nI n) (f_Math_min_II (99 : Int32) ((f_Lay_ageOf Y k (nI n)) + (1 : Int32)))) sl k (nI n)) sl 1), mI (nI n), mR (3, 0, k)]) (S' := (L, gI_Walker_rootsAgain (gI_Lay_putAge Y k (nI n) (f_Math_min_II (99 : Int32) ((f_Lay_ageOf Y k (nI n)) + (1 : Int32)))) sl k (nI n), J, R)) (P := (True ∧ R 24 1 = some (8, 0, sl))) [(.aload_n 1, (0, 0, 0, 0, 0)), (.iload 4, (0, 0, 0, 0, 0)), (.aload_n 0, (0, 0, 0, 0, 0)), (.getfield 18, (10, 1, 3, 0, 0)), (.getfield 85, (8, 1, 0, 0, 0))] [some (8, 0, sl)] (by decide +kernel) rfl ⟨trivial, hs⟩ ?_
          refine b_cV (as := [mI (nI n), mI ((gI_Walker_rootsAgain (gI_Lay_putAge Y k (nI n) (f_Math_min_II (99 : Int32) ((f_Lay_ageOf Y k (nI n)) + (1 : Int32)))) sl k (nI n)) sl 1)]) (st := []) (by decide +kernel) k_10_88 n_Lay_plant rfl (by decide) v_Lay_plant (c_Lay_plant k (nI n) ((gI_Walker_rootsAgain (gI_Lay_putAge Y k (nI n) (f_Math_min_II (99 : Int32) ((f_Lay_ageOf Y k (nI n)) + (1 : Int32)))) sl k (nI n)) sl 1) (by assumption)) (Nat.le_of_ble_eq_true rfl) (by decide) rfl rfl (fun _ h => h) ?_
          show m_B _ _ _ _ _ _ 105 [some (mR (10, 0, 24)), some (mR (3, 0, k)), some (mN), some (mI w), some (mI (nI n))] [] (L, w_plant (gI_Walker_rootsAgain (gI_Lay_putAge Y k (nI n) (f_Math_min_II (99 : Int32) ((f_Lay_ageOf Y k (nI n)) + (1 : Int32)))) sl k (nI n)) k (nI n) ((gI_Walker_rootsAgain (gI_Lay_putAge Y k (nI n) (f_Math_min_II (99 : Int32) ((f_Lay_ageOf Y k (nI n)) + (1 : Int32)))) sl k (nI n)) sl 1), J, R)
          refine b_blk (pc' := 106) (ls' := [some (mR (10, 0, 24)), some (mR (3, 0, k)), some (mN), some (mI w), some (mI (nI n))]) (st' := [mN]) (S' := (L, w_plant (gI_Walker_rootsAgain (gI_Lay_putAge Y k (nI n) (f_Math_min_II (99 : Int32) ((f_Lay_ageOf Y k (nI n)) + (1 : Int32)))) sl k (nI n)) k (nI n) ((gI_Walker_rootsAgain (gI_Lay_putAge Y k (nI n) (f_Math_min_II (99 : Int32) ((f_Lay_ageOf Y k (nI n)) + (1 : Int32)))) sl k (nI n)) sl 1), J, R)) (P := True) [(.aload_n 2, (0, 0, 0, 0, 0))] [] (by decide +kernel) rfl trivial ?_
          refine b_ifnull_N (r := (0, 0, 0)) (off := 16) (tgt := 122) (by decide +kernel) (by decide) ?_
          refine b_blk (pc' := 51) (ls' := [some (mR (10, 0, 24)), some (mR (3, 0, k)), some (mN), some (mI w), some (mI ((nI n) + 1))]) (st' := []) (S' := (L, w_plant (gI_Walker_rootsAgain (gI_Lay_putAge Y k (nI n) (f_Math_min_II (99 : Int32) ((f_Lay_ageOf Y k (nI n)) + (1 : Int32)))) sl k (nI n)) k (nI n) ((gI_Walker_rootsAgain (gI_Lay_putAge Y k (nI n) (f_Math_min_II (99 : Int32) ((f_Lay_ageOf Y k (nI n)) + (1 : Int32)))) sl k (nI n)) sl 1), J, R)) (P := True) [(.iinc 4 1, (0, 0, 0, 1, 0)), (.goto (-74), (0, 51, 0, 0, 0))] [] (by decide +kernel) rfl trivial ?_
          refine m_B_cg ?_ rfl ?_ (ih (w_plant (gI_Walker_rootsAgain (gI_Lay_putAge Y k (nI n) (f_Math_min_II (99 : Int32) ((f_Lay_ageOf Y k (nI n)) + (1 : Int32)))) sl k (nI n)) k (nI n) ((gI_Walker_rootsAgain (gI_Lay_putAge Y k (nI n) (f_Math_min_II (99 : Int32) ((f_Lay_ageOf Y k (nI n)) + (1 : Int32)))) sl k (nI n)) sl 1)) ?_)
          · first | with_reducible rfl | (simp [nI_succ, nI_0]; done)
          · first | with_reducible rfl | (simp [nI_succ, nI_0]; done)
          · exact py_f2 hh2 h6
    · rw [py_a, hh]; rfl
  intro Y hh2
  refine b_blk (pc' := 138) (ls' := [some (mR (10, 0, 24)), some (mR (3, 0, k)), some (mN), some (mI w), some (mI (nI ((I sl 3).toNatClampNeg)))]) (st' := [mI ((Y k 0) + (1 : Int32)), mI 999, mR (3, 0, k)]) (S' := (L, Y, J, R)) (P := True) [(.aload_n 1, (0, 0, 0, 0, 0)), (.sipush 999, (0, 0, 0, 999, 0)), (.aload_n 1, (0, 0, 0, 0, 0)), (.getfield 32, (3, 0, 0, 0, 0)), (.iconst 1, (0, 0, 0, 1, 0)), (.iadd, (0, 0, 0, 0, 0))] [] (by decide +kernel) rfl trivial ?_
  refine b_cS (as := [mI 999, mI ((Y k 0) + (1 : Int32))]) (st := [mR (3, 0, k)]) (by decide +kernel) k_10_54 n_Math_min_II s_Math_min_II (c_Math_min_II (999 : Int32) ((Y k 0) + (1 : Int32)) ) (Nat.le_of_ble_eq_true rfl) (by decide) rfl rfl (fun _ h => h) ?_
  show m_B _ _ _ _ _ _ 141 [some (mR (10, 0, 24)), some (mR (3, 0, k)), some (mN), some (mI w), some (mI (nI ((I sl 3).toNatClampNeg)))] [mI (f_Math_min_II (999 : Int32) ((Y k 0) + (1 : Int32))), mR (3, 0, k)] (L, Y, J, R)
  refine b_blk (pc' := 145) (ls' := [some (mR (10, 0, 24)), some (mR (3, 0, k)), some (mN), some (mI w), some (mI (nI ((I sl 3).toNatClampNeg)))]) (st' := [mI w]) (S' := (L, m_up Y k 0 (f_Math_min_II (999 : Int32) ((Y k 0) + (1 : Int32))), J, R)) (P := True) [(.putfield 32, (3, 0, 0, 0, 0)), (.iload_n 3, (0, 0, 0, 0, 0))] [] (by decide +kernel) rfl trivial ?_
  refine b_iret (by decide +kernel) rfl ⟨?_, ?_⟩
  · rw [py_went, hh]
  · rw [py_year, py_b, hh2]
set_option maxRecDepth 100000 in
set_option maxHeartbeats 400000 in
theorem c_Walker_passYear_L {G : MG} {L : List (Nat × Nat)} {I : Nat → Nat → Int32} {J : Nat → Nat → Int64} {R : Nat → Nat → Option MRef} (k : Nat) (g : Nat) (sl : Nat) (hR : RF R) (hs : R 24 1 = some (8, 0, sl)) (hsl : SlopeR R sl) (hk : LayR R k) (hg : LogR R g) (hd : ¬ FP k (some g) sl) : m_met G 6 0 0 y_Walker_passYear M_Walker_passYear [mR (10, 0, 24), mR (3, 0, k), mR (4, 0, g)] (L, I, J, R) (m_is (some (mI (py_went (some g) I k sl))) (L, py_year (some g) I k sl, J, R)) := by
  refine m_met_in n_Walker_passYear (plainFor_of_name (by decide)) (by decide) (Nat.le_of_ble_eq_true rfl) (ls := [some (mR (10, 0, 24)), some (mR (3, 0, k)), some (mR (4, 0, g)), none, none]) rfl ?_
  refine b_blk (pc' := 5) (ls' := [some (mR (10, 0, 24)), some (mR (3, 0, k)), some (mR (4, 0, g)), some (mI 0), some (mI 0)]) (st' := []) (S' := (L, I, J, R)) (P := True) [(.iconst 0, (0, 0, 0, 0, 0)), (.istore_n 3, (0, 0, 0, 0, 0)), (.iconst 0, (0, 0, 0, 0, 0)), (.istore 4, (0, 0, 0, 0, 0))] [] (by decide +kernel) rfl trivial ?_
  suffices hx : ∀ (w : Int32) (X : MI), py_1 (some g) I k sl ((I sl 3).toNatClampNeg) = (w, X) → m_B G (m_rm 6 0 0) M_Walker_passYear (m_is (some (mI (py_went (some g) I k sl))) (L, py_year (some g) I k sl, J, R)) 0 0 43 [some (mR (10, 0, 24)), some (mR (3, 0, k)), some (mR (4, 0, g)), some (mI w), some (mI (nI ((I sl 3).toNatClampNeg)))] [] (L, X, J, R) by
    refine m_B_cg ?_ rfl ?_ (loop_up ((I sl 3).toNatClampNeg) (fun n => ∀ (w : Int32) (X : MI), py_1 (some g) I k sl n = (w, X) → m_B G (m_rm 6 0 0) M_Walker_passYear (m_is (some (mI (py_went (some g) I k sl))) (L, py_year (some g) I k sl, J, R)) 0 0 5 [some (mR (10, 0, 24)), some (mR (3, 0, k)), some (mR (4, 0, g)), some (mI w), some (mI (nI n))] [] (L, X, J, R)) ?_ ?_ 0 (Nat.zero_le _) 0 I ?_)
    · first | with_reducible rfl | (simp [nI_succ, nI_0]; done)
    · first | with_reducible rfl | (simp [nI_succ, nI_0]; done)
    · intro w X hh
      refine b_blk (pc' := 14) (ls' := [some (mR (10, 0, 24)), some (mR (3, 0, k)), some (mR (4, 0, g)), some (mI w), some (mI (nI ((I sl 3).toNatClampNeg)))]) (st' := [mI (X sl 3), mI (nI ((I sl 3).toNatClampNeg))]) (S' := (L, X, J, R)) (P := (True ∧ R 24 1 = some (8, 0, sl))) [(.iload 4, (0, 0, 0, 0, 0)), (.aload_n 0, (0, 0, 0, 0, 0)), (.getfield 18, (10, 1, 3, 0, 0)), (.getfield 63, (8, 3, 0, 0, 0))] [some (8, 0, sl)] (by decide +kernel) rfl ⟨trivial, hs⟩ ?_
      refine b_icmp_ge (off := 29) (tgt := 43) (by decide +kernel) (by decide) (fun h1 => ?_) (fun h1 => ?_)
      · exact hx w X hh
      · exact (ge_yes (congrFun (py_c1 hd hh) 3) h1).elim
    · intro n hn ih w X hh
      refine b_blk (pc' := 14) (ls' := [some (mR (10, 0, 24)), some (mR (3, 0, k)), some (mR (4, 0, g)), some (mI w), some (mI (nI n))]) (st' := [mI (X sl 3), mI (nI n)]) (S' := (L, X, J, R)) (P := (True ∧ R 24 1 = some (8, 0, sl))) [(.iload 4, (0, 0, 0, 0, 0)), (.aload_n 0, (0, 0, 0, 0, 0)), (.getfield 18, (10, 1, 3, 0, 0)), (.getfield 63, (8, 3, 0, 0, 0))] [some (8, 0, sl)] (by decide +kernel) rfl ⟨trivial, hs⟩ ?_
      refine b_icmp_ge (off := 29) (tgt := 43) (by decide +kernel) (by decide) (fun h2 => ?_) (fun h2 => ?_)
      · exact (ge_no (congrFun (py_c1 hd hh) 3) hn h2).elim
      · refine b_blk (pc' := 20) (ls' := [some (mR (10, 0, 24)), some (mR (3, 0, k)), some (mR (4, 0, g)), some (mI w), some (mI (nI n))]) (st' := [mI (nI n), mR (3, 0, k)]) (S' := (L, X, J, R)) (P := True) [(.aload_n 1, (0, 0, 0, 0, 0)), (.iload 4, (0, 0, 0, 0, 0))] [] (by decide +kernel) rfl trivial ?_
        refine b_cV (as := [mI (nI n)]) (st := []) (by decide +kernel) k_10_66 n_Lay_isCut rfl (by decide) v_Lay_isCut (c_Lay_isCut k (nI n) ) (Nat.le_of_ble_eq_true rfl) (by decide) rfl rfl (fun _ h => h) ?_
        show m_B _ _ _ _ _ _ 23 [some (mR (10, 0, 24)), some (mR (3, 0, k)), some (mR (4, 0, g)), some (mI w), some (mI (nI n))] [mI (f_Lay_isCut X k (nI n))] (L, X, J, R)
        refine b_if_ne (off := 14) (tgt := 37) (by decide +kernel) (by decide) (fun h3 => ?_) (fun h3 => ?_)
        · refine b_blk (pc' := 5) (ls' := [some (mR (10, 0, 24)), some (mR (3, 0, k)), some (mR (4, 0, g)), some (mI w), some (mI ((nI n) + 1))]) (st' := []) (S' := (L, X, J, R)) (P := True) [(.iinc 4 1, (0, 0, 0, 1, 0)), (.goto (-35), (0, 5, 0, 0, 0))] [] (by decide +kernel) rfl trivial ?_
          refine m_B_cg ?_ rfl ?_ (ih w X ?_)
          · first | with_reducible rfl | (simp [nI_succ, nI_0]; done)
          · first | with_reducible rfl | (simp [nI_succ, nI_0]; done)
          · exact py_e2 hh h3
        · refine b_blk (pc' := 32) (ls' := [some (mR (10, 0, 24)), some (mR (3, 0, k)), some (mR (4, 0, g)), some (mI w), some (mI (nI n))]) (st' := [mR (4, 0, g), mI (nI n), mR (3, 0, k), mR (10, 0, 24), mI w]) (S' := (L, X, J, R)) (P := True) [(.iload_n 3, (0, 0, 0, 0, 0)), (.aload_n 0, (0, 0, 0, 0, 0)), (.aload_n 1, (0, 0, 0, 0, 0)), (.iload 4, (0, 0, 0, 0, 0)), (.aload_n 2, (0, 0, 0, 0, 0))] [] (by decide +kernel) rfl trivial ?_
          refine b_cV (as := [mR (3, 0, k), mI (nI n), mR (4, 0, g)]) (st := [mI w]) (by decide +kernel) k_10_70 n_Walker_walkFence rfl (by decide) v_Walker_walkFence (c_Walker_walkFence_L k (nI n) g sl hR hs hsl (by assumption) (by assumption) (by assumption)) (Nat.le_of_ble_eq_true rfl) (by decide) rfl rfl (fun _ h => h) ?_
          show m_B _ _ _ _ _ _ 35 [some (mR (10, 0, 24)), some (mR (3, 0, k)), some (mR (4, 0, g)), some (mI w), some (mI (nI n))] [mI ((l_wf (some g) X k sl (nI n) (X sl 1).toNatClampNeg).1), mI w] (L, (l_wf (some g) X k sl (nI n) (X sl 1).toNatClampNeg).2, J, R)
          refine b_blk (pc' := 5) (ls' := [some (mR (10, 0, 24)), some (mR (3, 0, k)), some (mR (4, 0, g)), some (mI (w + ((l_wf (some g) X k sl (nI n) (X sl 1).toNatClampNeg).1))), some (mI ((nI n) + 1))]) (st' := []) (S' := (L, (l_wf (some g) X k sl (nI n) (X sl 1).toNatClampNeg).2, J, R)) (P := True) [(.iadd, (0, 0, 0, 0, 0)), (.istore_n 3, (0, 0, 0, 0, 0)), (.iinc 4 1, (0, 0, 0, 1, 0)), (.goto (-35), (0, 5, 0, 0, 0))] [] (by decide +kernel) rfl trivial ?_
          refine m_B_cg ?_ rfl ?_ (ih (w + ((l_wf (some g) X k sl (nI n) (X sl 1).toNatClampNeg).1)) ((l_wf (some g) X k sl (nI n) (X sl 1).toNatClampNeg).2) ?_)
          · first | with_reducible rfl | (simp [nI_succ, nI_0]; done)
          · first | with_reducible rfl | (simp [nI_succ, nI_0]; done)
          · exact py_e1 hh h3
    · rfl
  intro w X hh
  refine b_blk (pc' := 51) (ls' := [some (mR (10, 0, 24)), some (mR (3, 0, k)), some (mR (4, 0, g)), some (mI w), some (mI 0)]) (st' := []) (S' := (L, m_up X k 1 (0 : Int32), J, R)) (P := True) [(.aload_n 1, (0, 0, 0, 0, 0)), (.iconst 0, (0, 0, 0, 0, 0)), (.putfield 74, (3, 1, 0, 0, 0)), (.iconst 0, (0, 0, 0, 0, 0)), (.istore 4, (0, 0, 0, 0, 0))] [] (by decide +kernel) rfl trivial ?_
  suffices hx : ∀ (Y : MI), py_2 (some g) (py_a (some g) I k sl) k sl ((I sl 3).toNatClampNeg) = Y → m_B G (m_rm 6 0 0) M_Walker_passYear (m_is (some (mI (py_went (some g) I k sl))) (L, py_year (some g) I k sl, J, R)) 0 0 128 [some (mR (10, 0, 24)), some (mR (3, 0, k)), some (mR (4, 0, g)), some (mI w), some (mI (nI ((I sl 3).toNatClampNeg)))] [] (L, Y, J, R) by
    refine m_B_cg ?_ rfl ?_ (loop_up ((I sl 3).toNatClampNeg) (fun n => ∀ (Y : MI), py_2 (some g) (py_a (some g) I k sl) k sl n = Y → m_B G (m_rm 6 0 0) M_Walker_passYear (m_is (some (mI (py_went (some g) I k sl))) (L, py_year (some g) I k sl, J, R)) 0 0 51 [some (mR (10, 0, 24)), some (mR (3, 0, k)), some (mR (4, 0, g)), some (mI w), some (mI (nI n))] [] (L, Y, J, R)) ?_ ?_ 0 (Nat.zero_le _) (m_up X k 1 (0 : Int32)) ?_)
    · first | with_reducible rfl | (simp [nI_succ, nI_0]; done)
    · first | with_reducible rfl | (simp [nI_succ, nI_0]; done)
    · intro Y hh2
      refine b_blk (pc' := 60) (ls' := [some (mR (10, 0, 24)), some (mR (3, 0, k)), some (mR (4, 0, g)), some (mI w), some (mI (nI ((I sl 3).toNatClampNeg)))]) (st' := [mI (Y sl 3), mI (nI ((I sl 3).toNatClampNeg))]) (S' := (L, Y, J, R)) (P := (True ∧ R 24 1 = some (8, 0, sl))) [(.iload 4, (0, 0, 0, 0, 0)), (.aload_n 0, (0, 0, 0, 0, 0)), (.getfield 18, (10, 1, 3, 0, 0)), (.getfield 63, (8, 3, 0, 0, 0))] [some (8, 0, sl)] (by decide +kernel) rfl ⟨trivial, hs⟩ ?_
      refine b_icmp_ge (off := 68) (tgt := 128) (by decide +kernel) (by decide) (fun h4 => ?_) (fun h4 => ?_)
      · exact hx Y hh2
      · exact (ge_yes (congrFun (py_c2 hd hh2) 3) h4).elim
    · intro n hn ih Y hh2
      refine b_blk (pc' := 60) (ls' := [some (mR (10, 0, 24)), some (mR (3, 0, k)), some (mR (4, 0, g)), some (mI w), some (mI (nI n))]) (st' := [mI (Y sl 3), mI (nI n)]) (S' := (L, Y, J, R)) (P := (True ∧ R 24 1 = some (8, 0, sl))) [(.iload 4, (0, 0, 0, 0, 0)), (.aload_n 0, (0, 0, 0, 0, 0)), (.getfield 18, (10, 1, 3, 0, 0)), (.getfield 63, (8, 3, 0, 0, 0))] [some (8, 0, sl)] (by decide +kernel) rfl ⟨trivial, hs⟩ ?_
      refine b_icmp_ge (off := 68) (tgt := 128) (by decide +kernel) (by decide) (fun h5 => ?_) (fun h5 => ?_)
      · exact (ge_no (congrFun (py_c2 hd hh2) 3) hn h5).elim
      · refine b_blk (pc' := 71) (ls' := [some (mR (10, 0, 24)), some (mR (3, 0, k)), some (mR (4, 0, g)), some (mI w), some (mI (nI n))]) (st' := [mI (nI n), mR (3, 0, k), mI 99, mI (nI n), mR (3, 0, k)]) (S' := (L, Y, J, R)) (P := True) [(.aload_n 1, (0, 0, 0, 0, 0)), (.iload 4, (0, 0, 0, 0, 0)), (.bipush 99, (0, 0, 0, 99, 0)), (.aload_n 1, (0, 0, 0, 0, 0)), (.iload 4, (0, 0, 0, 0, 0))] [] (by decide +kernel) rfl trivial ?_
        refine b_cV (as := [mI (nI n)]) (st := [mI 99, mI (nI n), mR (3, 0, k)]) (by decide +kernel) k_10_26 n_Lay_ageOf rfl (by decide) v_Lay_ageOf (c_Lay_ageOf k (nI n) (by assumption)) (Nat.le_of_ble_eq_true rfl) (by decide) rfl rfl (fun _ h => h) ?_
        show m_B _ _ _ _ _ _ 74 [some (mR (10, 0, 24)), some (mR (3, 0, k)), some (mR (4, 0, g)), some (mI w), some (mI (nI n))] [mI (f_Lay_ageOf Y k (nI n)), mI 99, mI (nI n), mR (3, 0, k)] (L, Y, J, R)
        refine b_blk (pc' := 76) (ls' := [some (mR (10, 0, 24)), some (mR (3, 0, k)), some (mR (4, 0, g)), some (mI w), some (mI (nI n))]) (st' := [mI ((f_Lay_ageOf Y k (nI n)) + (1 : Int32)), mI 99, mI (nI n), mR (3, 0, k)]) (S' := (L, Y, J, R)) (P := True) [(.iconst 1, (0, 0, 0, 1, 0)), (.iadd, (0, 0, 0, 0, 0))] [] (by decide +kernel) rfl trivial ?_
        refine b_cS (as := [mI 99, mI ((f_Lay_ageOf Y k (nI n)) + (1 : Int32))]) (st := [mI (nI n), mR (3, 0, k)]) (by decide +kernel) k_10_54 n_Math_min_II s_Math_min_II (c_Math_min_II (99 : Int32) ((f_Lay_ageOf Y k (nI n)) + (1 : Int32)) ) (Nat.le_of_ble_eq_true rfl) (by decide) rfl rfl (fun _ h => h) ?_
        show m_B _ _ _ _ _ _ 79 [some (mR (10, 0, 24)), some (mR (3, 0, k)), some (mR (4, 0, g)), some (mI w), some (mI (nI n))] [mI (f_Math_min_II (99 : Int32) ((f_Lay_ageOf Y k (nI n)) + (1 : Int32))), mI (nI n), mR (3, 0, k)] (L, Y, J, R)
        refine b_cV (as := [mI (nI n), mI (f_Math_min_II (99 : Int32) ((f_Lay_ageOf Y k (nI n)) + (1 : Int32)))]) (st := []) (by decide +kernel) k_10_77 n_Lay_putAge rfl (by decide) v_Lay_putAge (c_Lay_putAge k (nI n) (f_Math_min_II (99 : Int32) ((f_Lay_ageOf Y k (nI n)) + (1 : Int32))) (by assumption)) (Nat.le_of_ble_eq_true rfl) (by decide) rfl rfl (fun _ h => h) ?_
        show m_B _ _ _ _ _ _ 82 [some (mR (10, 0, 24)), some (mR (3, 0, k)), some (mR (4, 0, g)), some (mI w), some (mI (nI n))] [] (L, gI_Lay_putAge Y k (nI n) (f_Math_min_II (99 : Int32) ((f_Lay_ageOf Y k (nI n)) + (1 : Int32))), J, R)
        refine b_blk (pc' := 86) (ls' := [some (mR (10, 0, 24)), some (mR (3, 0, k)), some (mR (4, 0, g)), some (mI w), some (mI (nI n))]) (st' := [mI (nI n), mR (3, 0, k), mR (10, 0, 24)]) (S' := (L, gI_Lay_putAge Y k (nI n) (f_Math_min_II (99 : Int32) ((f_Lay_ageOf Y k (nI n)) + (1 : Int32))), J, R)) (P := True) [(.aload_n 0, (0, 0, 0, 0, 0)), (.aload_n 1, (0, 0, 0, 0, 0)), (.iload 4, (0, 0, 0, 0, 0))] [] (by decide +kernel) rfl trivial ?_
        refine b_cV (as := [mR (3, 0, k), mI (nI n)]) (st := []) (by decide +kernel) k_10_81 n_Walker_rootsAgain rfl (by decide) v_Walker_rootsAgain (c_Walker_rootsAgain k (nI n) sl hR hs hsl (by assumption)) (Nat.le_of_ble_eq_true rfl) (by decide) rfl rfl (fun _ h => h) ?_
        show m_B _ _ _ _ _ _ 89 [some (mR (10, 0, 24)), some (mR (3, 0, k)), some (mR (4, 0, g)), some (mI w), some (mI (nI n))] [mI (f_Walker_rootsAgain (gI_Lay_putAge Y k (nI n) (f_Math_min_II (99 : Int32) ((f_Lay_ageOf Y k (nI n)) + (1 : Int32)))) sl k (nI n))] (L, gI_Walker_rootsAgain (gI_Lay_putAge Y k (nI n) (f_Math_min_II (99 : Int32) ((f_Lay_ageOf Y k (nI n)) + (1 : Int32)))) sl k (nI n), J, R)
        refine b_if_eq (off := 33) (tgt := 122) (by decide +kernel) (by decide) (fun h6 => ?_) (fun h6 => ?_)
        · refine b_blk (pc' := 51) (ls' := [some (mR (10, 0, 24)), some (mR (3, 0, k)), some (mR (4, 0, g)), some (mI w), some (mI ((nI n) + 1))]) (st' := []) (S' := (L, gI_Walker_rootsAgain (gI_Lay_putAge Y k (nI n) (f_Math_min_II (99 : Int32) ((f_Lay_ageOf Y k (nI n)) + (1 : Int32)))) sl k (nI n), J, R)) (P := True) [(.iinc 4 1, (0, 0, 0, 1, 0)), (.goto (-74), (0, 51, 0, 0, 0))] [] (by decide +kernel) rfl trivial ?_
          refine m_B_cg ?_ rfl ?_ (ih (gI_Walker_rootsAgain (gI_Lay_putAge Y k (nI n) (f_Math_min_II (99 : Int32) ((f_Lay_ageOf Y k (nI n)) + (1 : Int32)))) sl k (nI n)) ?_)
          · first | with_reducible rfl | (simp [nI_succ, nI_0]; done)
          · first | with_reducible rfl | (simp [nI_succ, nI_0]; done)
          · exact py_f1 hh2 h6
        · refine b_blk (pc' := 102) (ls' := [some (mR (10, 0, 24)), some (mR (3, 0, k)), some (mR (4, 0, g)), some (mI w), some (mI (nI n))]) (st' := [mI ((gI_Walker_rootsAgain (gI_Lay_putAge Y k (nI n) (f_Math_min_II (99 : Int32) ((f_Lay_ageOf Y k (nI n)) + (1 : Int32)))) sl k (nI n)) sl 1), mI (nI n), mR (3, 0, k)]) (S' := (L, gI_Walker_rootsAgain (gI_Lay_putAge Y k (nI n) (f_Math_min_II (99 : Int32) ((f_Lay_ageOf Y k (nI n)) + (1 : Int32)))) sl k (nI n), J, R)) (P := (True ∧ R 24 1 = some (8, 0, sl))) [(.aload_n 1, (0, 0, 0, 0, 0)), (.iload 4, (0, 0, 0, 0, 0)), (.aload_n 0, (0, 0, 0, 0, 0)), (.getfield 18, (10, 1, 3, 0, 0)), (.getfield 85, (8, 1, 0, 0, 0))] [some (8, 0, sl)] (by decide +kernel) rfl ⟨trivial, hs⟩ ?_
          refine b_cV (as := [mI (nI n), mI ((gI_Walker_rootsAgain (gI_Lay_putAge Y k (nI n) (f_Math_min_II (99 : Int32) ((f_Lay_ageOf Y k (nI n)) + (1 : Int32)))) sl k (nI n)) sl 1)]) (st := []) (by decide +kernel) k_10_88 n_Lay_plant rfl (by decide) v_Lay_plant (c_Lay_plant k (nI n) ((gI_Walker_rootsAgain (gI_Lay_putAge Y k (nI n) (f_Math_min_II (99 : Int32) ((f_Lay_ageOf Y k (nI n)) + (1 : Int32)))) sl k (nI n)) sl 1) (by assumption)) (Nat.le_of_ble_eq_true rfl) (by decide) rfl rfl (fun _ h => h) ?_
          show m_B _ _ _ _ _ _ 105 [some (mR (10, 0, 24)), some (mR (3, 0, k)), some (mR (4, 0, g)), some (mI w), some (mI (nI n))] [] (L, w_plant (gI_Walker_rootsAgain (gI_Lay_putAge Y k (nI n) (f_Math_min_II (99 : Int32) ((f_Lay_ageOf Y k (nI n)) + (1 : Int32)))) sl k (nI n)) k (nI n) ((gI_Walker_rootsAgain (gI_Lay_putAge Y k (nI n) (f_Math_min_II (99 : Int32) ((f_Lay_ageOf Y k (nI n)) + (1 : Int32)))) sl k (nI n)) sl 1), J, R)
          refine b_blk (pc' := 106) (ls' := [some (mR (10, 0, 24)), some (mR (3, 0, k)), some (mR (4, 0, g)), some (mI w), some (mI (nI n))]) (st' := [mR (4, 0, g)]) (S' := (L, w_plant (gI_Walker_rootsAgain (gI_Lay_putAge Y k (nI n) (f_Math_min_II (99 : Int32) ((f_Lay_ageOf Y k (nI n)) + (1 : Int32)))) sl k (nI n)) k (nI n) ((gI_Walker_rootsAgain (gI_Lay_putAge Y k (nI n) (f_Math_min_II (99 : Int32) ((f_Lay_ageOf Y k (nI n)) + (1 : Int32)))) sl k (nI n)) sl 1), J, R)) (P := True) [(.aload_n 2, (0, 0, 0, 0, 0))] [] (by decide +kernel) rfl trivial ?_
          refine b_ifnull_R (off := 16) (tgt := 122) (by decide +kernel) (by decide) ?_
          refine b_blk (pc' := 119) (ls' := [some (mR (10, 0, 24)), some (mR (3, 0, k)), some (mR (4, 0, g)), some (mI w), some (mI (nI n))]) (st' := [mI 255, mI (nI n), mI ((w_plant (gI_Walker_rootsAgain (gI_Lay_putAge Y k (nI n) (f_Math_min_II (99 : Int32) ((f_Lay_ageOf Y k (nI n)) + (1 : Int32)))) sl k (nI n)) k (nI n) ((gI_Walker_rootsAgain (gI_Lay_putAge Y k (nI n) (f_Math_min_II (99 : Int32) ((f_Lay_ageOf Y k (nI n)) + (1 : Int32)))) sl k (nI n)) sl 1)) k 0), mR (4, 0, g)]) (S' := (L, w_plant (gI_Walker_rootsAgain (gI_Lay_putAge Y k (nI n) (f_Math_min_II (99 : Int32) ((f_Lay_ageOf Y k (nI n)) + (1 : Int32)))) sl k (nI n)) k (nI n) ((gI_Walker_rootsAgain (gI_Lay_putAge Y k (nI n) (f_Math_min_II (99 : Int32) ((f_Lay_ageOf Y k (nI n)) + (1 : Int32)))) sl k (nI n)) sl 1), J, R)) (P := True) [(.aload_n 2, (0, 0, 0, 0, 0)), (.aload_n 1, (0, 0, 0, 0, 0)), (.getfield 32, (3, 0, 0, 0, 0)), (.iload 4, (0, 0, 0, 0, 0)), (.sipush 255, (0, 0, 0, 255, 0))] [] (by decide +kernel) rfl trivial ?_
          refine b_cV (as := [mI ((w_plant (gI_Walker_rootsAgain (gI_Lay_putAge Y k (nI n) (f_Math_min_II (99 : Int32) ((f_Lay_ageOf Y k (nI n)) + (1 : Int32)))) sl k (nI n)) k (nI n) ((gI_Walker_rootsAgain (gI_Lay_putAge Y k (nI n) (f_Math_min_II (99 : Int32) ((f_Lay_ageOf Y k (nI n)) + (1 : Int32)))) sl k (nI n)) sl 1)) k 0), mI (nI n), mI 255]) (st := []) (by decide +kernel) k_10_91 n_Log_note rfl (by decide) v_Log_note (c_Log_note g ((w_plant (gI_Walker_rootsAgain (gI_Lay_putAge Y k (nI n) (f_Math_min_II (99 : Int32) ((f_Lay_ageOf Y k (nI n)) + (1 : Int32)))) sl k (nI n)) k (nI n) ((gI_Walker_rootsAgain (gI_Lay_putAge Y k (nI n) (f_Math_min_II (99 : Int32) ((f_Lay_ageOf Y k (nI n)) + (1 : Int32)))) sl k (nI n)) sl 1)) k 0) (nI n) (255 : Int32) (by assumption)) (Nat.le_of_ble_eq_true rfl) (by decide) rfl rfl (fun _ h => h) ?_
          show m_B _ _ _ _ _ _ 122 [some (mR (10, 0, 24)), some (mR (3, 0, k)), some (mR (4, 0, g)), some (mI w), some (mI (nI n))] [] (L, gI_Log_note (w_plant (gI_Walker_rootsAgain (gI_Lay_putAge Y k (nI n) (f_Math_min_II (99 : Int32) ((f_Lay_ageOf Y k (nI n)) + (1 : Int32)))) sl k (nI n)) k (nI n) ((gI_Walker_rootsAgain (gI_Lay_putAge Y k (nI n) (f_Math_min_II (99 : Int32) ((f_Lay_ageOf Y k (nI n)) + (1 : Int32)))) sl k (nI n)) sl 1)) g ((w_plant (gI_Walker_rootsAgain (gI_Lay_putAge Y k (nI n) (f_Math_min_II (99 : Int32) ((f_Lay_ageOf Y k (nI n)) + (1 : Int32)))) sl k (nI n)) k (nI n) ((gI_Walker_rootsAgain (gI_Lay_putAge Y k (nI n) (f_Math_min_II (99 : Int32) ((f_Lay_ageOf Y k (nI n)) + (1 : Int32)))) sl k (nI n)) sl 1)) k 0) (nI n) (255 : Int32), J, R)
          refine b_blk (pc' := 51) (ls' := [some (mR (10, 0, 24)), some (mR (3, 0, k)), some (mR (4, 0, g)), some (mI w), some (mI ((nI n) + 1))]) (st' := []) (S' := (L, gI_Log_note (w_plant (gI_Walker_rootsAgain (gI_Lay_putAge Y k (nI n) (f_Math_min_II (99 : Int32) ((f_Lay_ageOf Y k (nI n)) + (1 : Int32)))) sl k (nI n)) k (nI n) ((gI_Walker_rootsAgain (gI_Lay_putAge Y k (nI n) (f_Math_min_II (99 : Int32) ((f_Lay_ageOf Y k (nI n)) + (1 : Int32)))) sl k (nI n)) sl 1)) g ((w_plant (gI_Walker_rootsAgain (gI_Lay_putAge Y k (nI n) (f_Math_min_II (99 : Int32) ((f_Lay_ageOf Y k (nI n)) + (1 : Int32)))) sl k (nI n)) k (nI n) ((gI_Walker_rootsAgain (gI_Lay_putAge Y k (nI n) (f_Math_min_II (99 : Int32) ((f_Lay_ageOf Y k (nI n)) + (1 : Int32)))) sl k (nI n)) sl 1)) k 0) (nI n) (255 : Int32), J, R)) (P := True) [(.iinc 4 1, (0, 0, 0, 1, 0)), (.goto (-74), (0, 51, 0, 0, 0))] [] (by decide +kernel) rfl trivial ?_
          refine m_B_cg ?_ rfl ?_ (ih (gI_Log_note (w_plant (gI_Walker_rootsAgain (gI_Lay_putAge Y k (nI n) (f_Math_min_II (99 : Int32) ((f_Lay_ageOf Y k (nI n)) + (1 : Int32)))) sl k (nI n)) k (nI n) ((gI_Walker_rootsAgain (gI_Lay_putAge Y k (nI n) (f_Math_min_II (99 : Int32) ((f_Lay_ageOf Y k (nI n)) + (1 : Int32)))) sl k (nI n)) sl 1)) g ((w_plant (gI_Walker_rootsAgain (gI_Lay_putAge Y k (nI n) (f_Math_min_II (99 : Int32) ((f_Lay_ageOf Y k (nI n)) + (1 : Int32)))) sl k (nI n)) k (nI n) ((gI_Walker_rootsAgain (gI_Lay_putAge Y k (nI n) (f_Math_min_II (99 : Int32) ((f_Lay_ageOf Y k (nI n)) + (1 : Int32)))) sl k (nI n)) sl 1)) k 0) (nI n) (255 : Int32)) ?_)
          · first | with_reducible rfl | (simp [nI_succ, nI_0]; done)
          · first | with_reducible rfl | (simp [nI_succ, nI_0]; done)
          · exact py_f2 hh2 h6
    · rw [py_a, hh]; rfl
  intro Y hh2
  refine b_blk (pc' := 138) (ls' := [some (mR (10, 0, 24)), some (mR (3, 0, k)), some (mR (4, 0, g)), some (mI w), some (mI (nI ((I sl 3).toNatClampNeg)))]) (st' := [mI ((Y k 0) + (1 : Int32)), mI 999, mR (3, 0, k)]) (S' := (L, Y, J, R)) (P := True) [(.aload_n 1, (0, 0, 0, 0, 0)), (.sipush 999, (0, 0, 0, 999, 0)), (.aload_n 1, (0, 0, 0, 0, 0)), (.getfield 32, (3, 0, 0, 0, 0)), (.iconst 1, (0, 0, 0, 1, 0)), (.iadd, (0, 0, 0, 0, 0))] [] (by decide +kernel) rfl trivial ?_
  refine b_cS (as := [mI 999, mI ((Y k 0) + (1 : Int32))]) (st := [mR (3, 0, k)]) (by decide +kernel) k_10_54 n_Math_min_II s_Math_min_II (c_Math_min_II (999 : Int32) ((Y k 0) + (1 : Int32)) ) (Nat.le_of_ble_eq_true rfl) (by decide) rfl rfl (fun _ h => h) ?_
  show m_B _ _ _ _ _ _ 141 [some (mR (10, 0, 24)), some (mR (3, 0, k)), some (mR (4, 0, g)), some (mI w), some (mI (nI ((I sl 3).toNatClampNeg)))] [mI (f_Math_min_II (999 : Int32) ((Y k 0) + (1 : Int32))), mR (3, 0, k)] (L, Y, J, R)
  refine b_blk (pc' := 145) (ls' := [some (mR (10, 0, 24)), some (mR (3, 0, k)), some (mR (4, 0, g)), some (mI w), some (mI (nI ((I sl 3).toNatClampNeg)))]) (st' := [mI w]) (S' := (L, m_up Y k 0 (f_Math_min_II (999 : Int32) ((Y k 0) + (1 : Int32))), J, R)) (P := True) [(.putfield 32, (3, 0, 0, 0, 0)), (.iload_n 3, (0, 0, 0, 0, 0))] [] (by decide +kernel) rfl trivial ?_
  refine b_iret (by decide +kernel) rfl ⟨?_, ?_⟩
  · rw [py_went, hh]
  · rw [py_year, py_b, hh2]
