/-! Foresight: years ahead -/
def w_take (I : MI) (k o : Nat) : MI := m_cpI (m_cpI (m_cpI (m_up (m_up I k 0 (I o 0)) k 1 ((m_up I k 0 (I o 0)) o 1)) (o + 1) (k + 1) 0 0 6) (o + 2) (k + 2) 0 0 6) (o + 3) (k + 3) 0 0 36
theorem c_take {G : MG} {L : List (Nat × Nat)} {I : Nat → Nat → Int32} {J : Nat → Nat → Int64} {R : Nat → Nat → Option MRef} (k o : Nat) (hk : LayR R k) (ho : LayR R o) : m_met G 2 0 0 y_Lay_takeFrom M_Lay_takeFrom [mR (3, 0, k), mR (3, 0, o)] (L, I, J, R) (m_is none (L, w_take I k o, J, R)) := c_Lay_takeFrom k o hk ho
theorem fr_cp {P : Nat → Prop} {X I : MI} {a b s d n : Nat} (h : fr P X I) (hb : P b) : fr P (m_cpI X a b s d n) I := fun q hq => by
  have hne : q ≠ b := fun e => hq (by rw [e]; exact hb)
  have e : m_cpI X a b s d n q = X q := by simp [m_cpI, hne]
  rw [e]; exact h q hq
theorem fr_take {P : Nat → Prop} {X I : MI} {k o : Nat} (h : fr P X I) (h0 : P k) (h1 : P (k + 1)) (h2 : P (k + 2)) (h3 : P (k + 3)) : fr P (w_take X k o) I :=
  fr_cp (fr_cp (fr_cp (fr_up (fr_up h h0) h0) h1) h2) h3
/-- n years on, unnoted -/
def py_it (I : MI) (k sl : Nat) : Nat → MI
  | 0 => I
  | n + 1 => py_year none (py_it I k sl n) k sl
theorem fr_it (I : MI) (k sl : Nat) : ∀ n, fr (FP k none) (py_it I k sl n) I := by
  intro n
  induction n with
  | zero => exact fr_refl
  | succ n ih => exact fr_trans (fr_year _ _ _ _) ih
theorem fp_no {sl k : Nat} (hq : sl = 3 ∨ sl = 11) (hk : 20 ≤ k) : ¬ FP k none sl := by
  simp only [FP]
  intro h
  rcases h with h | h | h | h | h | ⟨g, h, -⟩
  all_goals first | omega | cases h
set_option maxRecDepth 100000 in
set_option maxHeartbeats 400000 in
theorem c_Foresight_forget {G : MG} {L : List (Nat × Nat)} {I : Nat → Nat → Int32} {J : Nat → Nat → Int64} {R : Nat → Nat → Option MRef}   : m_met G 1 0 0 y_Foresight_forget M_Foresight_forget [mR (0, 0, 30)] (L, I, J, R) (m_is (none) (L, m_up I 30 7 (-1 : Int32), J, R)) := by
  refine m_met_in n_Foresight_forget (plainFor_of_name (by decide)) (by decide) (Nat.le_of_ble_eq_true rfl) (ls := [some (mR (0, 0, 30))]) rfl ?_
  refine b_blk (pc' := 5) (ls' := [some (mR (0, 0, 30))]) (st' := []) (S' := (L, m_up I 30 7 (-1 : Int32), J, R)) (P := True) [(.aload_n 0, (0, 0, 0, 0, 0)), (.iconst (-1), (0, 0, 0, (-1), 0)), (.putfield 31, (0, 7, 0, 0, 0))] [] (by decide +kernel) rfl trivial ?_
  refine b_vret (by decide +kernel) rfl ⟨?_, ?_⟩
  · rfl
  · rfl
set_option maxRecDepth 100000 in
set_option maxHeartbeats 400000 in
theorem c_Foresight_passYears {G : MG} {L : List (Nat × Nat)} {I : Nat → Nat → Int32} {J : Nat → Nat → Int64} {R : Nat → Nat → Option MRef} (k : Nat) (m : Int32) (sl : Nat) (hR : RF R) (hs : R 24 1 = some (8, 0, sl)) (hq : sl = 3 ∨ sl = 11) (hk : LayR R k) (hk20 : 20 ≤ k) : m_met G 7 0 0 y_Foresight_passYears M_Foresight_passYears [mR (0, 0, 30), mR (3, 0, k), mI m] (L, I, J, R) (m_is (none) (L, py_it I k sl m.toNatClampNeg, J, R)) := by
  refine m_met_in n_Foresight_passYears (plainFor_of_name (by decide)) (by decide) (Nat.le_of_ble_eq_true rfl) (ls := [some (mR (0, 0, 30)), some (mR (3, 0, k)), some (mI m), none]) rfl ?_
  refine b_blk (pc' := 2) (ls' := [some (mR (0, 0, 30)), some (mR (3, 0, k)), some (mI m), some (mI 0)]) (st' := []) (S' := (L, I, J, R)) (P := True) [(.iconst 0, (0, 0, 0, 0, 0)), (.istore_n 3, (0, 0, 0, 0, 0))] [] (by decide +kernel) rfl trivial ?_
  suffices hx : m_B G (m_rm 7 0 0) M_Foresight_passYears (m_is (none) (L, py_it I k sl m.toNatClampNeg, J, R)) 0 0 23 [some (mR (0, 0, 30)), some (mR (3, 0, k)), some (mI m), some (mI (nI m.toNatClampNeg))] [] (L, py_it I k sl m.toNatClampNeg, J, R) by
    refine m_B_cg ?_ rfl ?_ (loop_up m.toNatClampNeg (fun n => m_B G (m_rm 7 0 0) M_Foresight_passYears (m_is (none) (L, py_it I k sl m.toNatClampNeg, J, R)) 0 0 2 [some (mR (0, 0, 30)), some (mR (3, 0, k)), some (mI m), some (mI (nI n))] [] (L, py_it I k sl n, J, R)) ?_ ?_ 0 (Nat.zero_le _))
    · first | with_reducible rfl | rfl | (simp only [nI_succ]; done) | (simp [nI_succ, nI_0]; done)
    · first | with_reducible rfl | rfl | (simp only [nI_succ]; done) | (simp [nI_succ, nI_0]; done)
    · refine b_blk (pc' := 4) (ls' := [some (mR (0, 0, 30)), some (mR (3, 0, k)), some (mI m), some (mI (nI m.toNatClampNeg))]) (st' := [mI m, mI (nI m.toNatClampNeg)]) (S' := (L, py_it I k sl m.toNatClampNeg, J, R)) (P := True) [(.iload_n 3, (0, 0, 0, 0, 0)), (.iload_n 2, (0, 0, 0, 0, 0))] [] (by decide +kernel) rfl trivial ?_
      refine b_icmp_ge (off := 19) (tgt := 23) (by decide +kernel) (by decide) (fun h1 => ?_) (fun h1 => ?_)
      · exact hx
      · exact (ge_yes rfl h1).elim
    · intro n hn ih
      refine b_blk (pc' := 4) (ls' := [some (mR (0, 0, 30)), some (mR (3, 0, k)), some (mI m), some (mI (nI n))]) (st' := [mI m, mI (nI n)]) (S' := (L, py_it I k sl n, J, R)) (P := True) [(.iload_n 3, (0, 0, 0, 0, 0)), (.iload_n 2, (0, 0, 0, 0, 0))] [] (by decide +kernel) rfl trivial ?_
      refine b_icmp_ge (off := 19) (tgt := 23) (by decide +kernel) (by decide) (fun h2 => ?_) (fun h2 => ?_)
      · exact (ge_no rfl hn h2).elim
      · refine b_blk (pc' := 13) (ls' := [some (mR (0, 0, 30)), some (mR (3, 0, k)), some (mI m), some (mI (nI n))]) (st' := [mN, mR (3, 0, k), mR (10, 0, 24)]) (S' := (L, py_it I k sl n, J, R)) (P := (True ∧ R 30 1 = some (10, 0, 24))) [(.aload_n 0, (0, 0, 0, 0, 0)), (.getfield 38, (0, 1, 3, 0, 0)), (.aload_n 1, (0, 0, 0, 0, 0)), (.aconst_null, (0, 0, 0, 0, 0))] [some (10, 0, 24)] (by decide +kernel) rfl ⟨trivial, (r_30_1 hR)⟩ ?_
        refine b_cV (as := [mR (3, 0, k), mN]) (st := []) (by decide +kernel) k_0_50 n_Walker_passYear rfl (by decide) v_Walker_passYear (c_Walker_passYear_N k sl hR hs (sl_of hR hq) (by assumption) (fp_no hq hk20)) (Nat.le_of_ble_eq_true rfl) (by decide) rfl rfl (fun _ h => h) ?_
        show m_B _ _ _ _ _ _ 16 [some (mR (0, 0, 30)), some (mR (3, 0, k)), some (mI m), some (mI (nI n))] [mI (py_went none (py_it I k sl n) k sl)] (L, py_year none (py_it I k sl n) k sl, J, R)
        refine b_blk (pc' := 2) (ls' := [some (mR (0, 0, 30)), some (mR (3, 0, k)), some (mI m), some (mI ((nI n) + 1))]) (st' := []) (S' := (L, py_year none (py_it I k sl n) k sl, J, R)) (P := True) [(.pop, (0, 0, 0, 0, 0)), (.iinc 3 1, (0, 0, 0, 1, 0)), (.goto (-18), (0, 2, 0, 0, 0))] [] (by decide +kernel) rfl trivial ?_
        refine m_B_cg ?_ rfl ?_ ih
        · first | with_reducible rfl | rfl | (simp only [nI_succ]; done) | (simp [nI_succ, nI_0]; done)
        · first | with_reducible rfl | rfl | (simp only [nI_succ]; done) | (simp [nI_succ, nI_0]; done)
  refine b_vret (by decide +kernel) rfl ⟨?_, ?_⟩
  · rfl
  · rfl
set_option maxRecDepth 100000 in
set_option maxHeartbeats 400000 in
theorem c_Foresight_goAhead {G : MG} {L : List (Nat × Nat)} {I : Nat → Nat → Int32} {J : Nat → Nat → Int64} {R : Nat → Nat → Option MRef} (m : Int32) (sl : Nat) (hR : RF R) (hs : R 24 1 = some (8, 0, sl)) (hq : sl = 3 ∨ sl = 11) : m_met G 8 0 0 y_Foresight_goAhead M_Foresight_goAhead [mR (0, 0, 30), mI m] (L, I, J, R) (m_is (some (mR (3, 0, 31))) (L, py_it (w_take I 31 20) 31 sl m.toNatClampNeg, J, R)) := by
  refine m_met_in n_Foresight_goAhead (plainFor_of_name (by decide)) (by decide) (Nat.le_of_ble_eq_true rfl) (ls := [some (mR (0, 0, 30)), some (mI m)]) rfl ?_
  refine b_blk (pc' := 8) (ls' := [some (mR (0, 0, 30)), some (mI m)]) (st' := [mR (3, 0, 20), mR (3, 0, 31)]) (S' := (L, I, J, R)) (P := ((True ∧ R 30 2 = some (3, 0, 31)) ∧ R 30 0 = some (3, 0, 20))) [(.aload_n 0, (0, 0, 0, 0, 0)), (.getfield 12, (0, 2, 3, 0, 0)), (.aload_n 0, (0, 0, 0, 0, 0)), (.getfield 35, (0, 0, 3, 0, 0))] [some (3, 0, 31), some (3, 0, 20)] (by decide +kernel) rfl ⟨⟨trivial, (r_30_2 hR)⟩, (r_30_0 hR)⟩ ?_
  refine b_cV (as := [mR (3, 0, 20)]) (st := []) (by decide +kernel) k_0_42 n_Lay_takeFrom rfl (by decide) v_Lay_takeFrom (c_take 31 20 (ly_31 hR) (ly_20 hR)) (Nat.le_of_ble_eq_true rfl) (by decide) rfl rfl (fun _ h => h) ?_
  show m_B _ _ _ _ _ _ 11 [some (mR (0, 0, 30)), some (mI m)] [] (L, w_take I 31 20, J, R)
  refine b_blk (pc' := 17) (ls' := [some (mR (0, 0, 30)), some (mI m)]) (st' := [mI m, mR (3, 0, 31), mR (0, 0, 30)]) (S' := (L, w_take I 31 20, J, R)) (P := (True ∧ R 30 2 = some (3, 0, 31))) [(.aload_n 0, (0, 0, 0, 0, 0)), (.aload_n 0, (0, 0, 0, 0, 0)), (.getfield 12, (0, 2, 3, 0, 0)), (.iload_n 1, (0, 0, 0, 0, 0))] [some (3, 0, 31)] (by decide +kernel) rfl ⟨trivial, (r_30_2 hR)⟩ ?_
  refine b_cV (as := [mR (3, 0, 31), mI m]) (st := []) (by decide +kernel) k_0_46 n_Foresight_passYears rfl (by decide) v_Foresight_passYears (c_Foresight_passYears 31 m sl hR hs hq (ly_31 hR) (by decide)) (Nat.le_of_ble_eq_true rfl) (by decide) rfl rfl (fun _ h => h) ?_
  show m_B _ _ _ _ _ _ 20 [some (mR (0, 0, 30)), some (mI m)] [] (L, py_it (w_take I 31 20) 31 sl m.toNatClampNeg, J, R)
  refine b_blk (pc' := 24) (ls' := [some (mR (0, 0, 30)), some (mI m)]) (st' := [mR (3, 0, 31)]) (S' := (L, py_it (w_take I 31 20) 31 sl m.toNatClampNeg, J, R)) (P := (True ∧ R 30 2 = some (3, 0, 31))) [(.aload_n 0, (0, 0, 0, 0, 0)), (.getfield 12, (0, 2, 3, 0, 0))] [some (3, 0, 31)] (by decide +kernel) rfl ⟨trivial, (r_30_2 hR)⟩ ?_
  refine b_aret (by decide +kernel) rfl ⟨?_, ?_⟩
  · rfl
  · rfl
def mt (X : MI) (sl : Nat) (a b : Int32) : Nat → Option Nat
  | 0 => none
  | n + 1 => match mt X sl a b n with
    | some j => some j
    | none => if bI (l_meet (py_it X 31 sl n) 31 a b 6) = 0 then none else some n
theorem mt_on {X : MI} {sl : Nat} {a b : Int32} {n j : Nat} (h : mt X sl a b n = some j) {m : Nat} (hm : n ≤ m) : mt X sl a b m = some j := by
  induction hm with
  | refl => exact h
  | step _ ih => simp [mt, ih]
def m_le (B : Int32) : Nat := if B < 0 then 0 else B.toNatClampNeg + 1
theorem le_no {B : Int32} {n : Nat} (hn : n < m_le B) (h : B < nI n) : False := by
  unfold m_le at hn
  split at hn
  · omega
  · rename_i h0
    obtain ⟨j, hj, rfl⟩ := nI_of h0
    rw [nI_clamp hj] at hn
    exact absurd ((nI_ltI hj (by omega)).mp h) (by omega)
theorem le_yes {B : Int32} (hB : B ≤ 60) (h : ¬ B < nI (m_le B)) : False := by
  unfold m_le at h
  split at h
  · rename_i h0
    exact h (by rw [nI_0]; exact h0)
  · rename_i h0
    obtain ⟨j, hj, rfl⟩ := nI_of h0
    have h6 : j ≤ 60 := (nI_leI (b := 60) hj (by decide)).mp hB
    rw [nI_clamp hj] at h
    exact h ((nI_ltI hj (by omega)).mpr (by omega))
def fm_v (I : MI) (sl : Nat) (a b m : Int32) : Int32 := match mt (w_take I 31 20) sl a b (m_le m) with
  | some j => nI j
  | none => -1
def fm_w (I : MI) (sl : Nat) (a b m : Int32) : MI := match mt (w_take I 31 20) sl a b (m_le m) with
  | some j => py_it (w_take I 31 20) 31 sl j
  | none => py_it (w_take I 31 20) 31 sl (m_le m)
set_option maxRecDepth 100000 in
set_option maxHeartbeats 400000 in
theorem c_Foresight_firstMeeting {G : MG} {L : List (Nat × Nat)} {I : Nat → Nat → Int32} {J : Nat → Nat → Int64} {R : Nat → Nat → Option MRef} (a : Int32) (b : Int32) (m : Int32) (sl : Nat) (hR : RF R) (hs : R 24 1 = some (8, 0, sl)) (hq : sl = 3 ∨ sl = 11) (hm : m ≤ 60) : m_met G 7 0 0 y_Foresight_firstMeeting M_Foresight_firstMeeting [mR (0, 0, 30), mI a, mI b, mI m] (L, I, J, R) (m_is (some (mI (fm_v I sl a b m))) (L, fm_w I sl a b m, J, R)) := by
  refine m_met_in n_Foresight_firstMeeting (plainFor_of_name (by decide)) (by decide) (Nat.le_of_ble_eq_true rfl) (ls := [some (mR (0, 0, 30)), some (mI a), some (mI b), some (mI m), none]) rfl ?_
  refine b_blk (pc' := 8) (ls' := [some (mR (0, 0, 30)), some (mI a), some (mI b), some (mI m), none]) (st' := [mR (3, 0, 20), mR (3, 0, 31)]) (S' := (L, I, J, R)) (P := ((True ∧ R 30 2 = some (3, 0, 31)) ∧ R 30 0 = some (3, 0, 20))) [(.aload_n 0, (0, 0, 0, 0, 0)), (.getfield 12, (0, 2, 3, 0, 0)), (.aload_n 0, (0, 0, 0, 0, 0)), (.getfield 35, (0, 0, 3, 0, 0))] [some (3, 0, 31), some (3, 0, 20)] (by decide +kernel) rfl ⟨⟨trivial, (r_30_2 hR)⟩, (r_30_0 hR)⟩ ?_
  refine b_cV (as := [mR (3, 0, 20)]) (st := []) (by decide +kernel) k_0_42 n_Lay_takeFrom rfl (by decide) v_Lay_takeFrom (c_take 31 20 (ly_31 hR) (ly_20 hR)) (Nat.le_of_ble_eq_true rfl) (by decide) rfl rfl (fun _ h => h) ?_
  show m_B _ _ _ _ _ _ 11 [some (mR (0, 0, 30)), some (mI a), some (mI b), some (mI m), none] [] (L, w_take I 31 20, J, R)
  refine b_blk (pc' := 14) (ls' := [some (mR (0, 0, 30)), some (mI a), some (mI b), some (mI m), some (mI 0)]) (st' := []) (S' := (L, w_take I 31 20, J, R)) (P := True) [(.iconst 0, (0, 0, 0, 0, 0)), (.istore 4, (0, 0, 0, 0, 0))] [] (by decide +kernel) rfl trivial ?_
  suffices hx : mt (w_take I 31 20) sl a b (m_le m) = none → m_B G (m_rm 7 0 0) M_Foresight_firstMeeting (m_is (some (mI (fm_v I sl a b m))) (L, fm_w I sl a b m, J, R)) 0 0 54 [some (mR (0, 0, 30)), some (mI a), some (mI b), some (mI m), some (mI (nI (m_le m)))] [] (L, py_it (w_take I 31 20) 31 sl (m_le m), J, R) by
    refine m_B_cg ?_ rfl ?_ (loop_up (m_le m) (fun n => mt (w_take I 31 20) sl a b n = none → m_B G (m_rm 7 0 0) M_Foresight_firstMeeting (m_is (some (mI (fm_v I sl a b m))) (L, fm_w I sl a b m, J, R)) 0 0 14 [some (mR (0, 0, 30)), some (mI a), some (mI b), some (mI m), some (mI (nI n))] [] (L, py_it (w_take I 31 20) 31 sl n, J, R)) ?_ ?_ 0 (Nat.zero_le _)  ?_)
    · first | with_reducible rfl | rfl | (simp only [nI_succ]; done)
    · first | with_reducible rfl | rfl | (simp only [nI_succ]; done)
    · intro  hh
      refine b_blk (pc' := 17) (ls' := [some (mR (0, 0, 30)), some (mI a), some (mI b), some (mI m), some (mI (nI (m_le m)))]) (st' := [mI m, mI (nI (m_le m))]) (S' := (L, py_it (w_take I 31 20) 31 sl (m_le m), J, R)) (P := True) [(.iload 4, (0, 0, 0, 0, 0)), (.iload_n 3, (0, 0, 0, 0, 0))] [] (by decide +kernel) rfl trivial ?_
      refine b_icmp_gt (off := 37) (tgt := 54) (by decide +kernel) (by decide) (fun h1 => ?_) (fun h1 => ?_)
      · exact hx  hh
      · exact (le_yes hm h1).elim
    · intro n hn ih  hh
      refine b_blk (pc' := 17) (ls' := [some (mR (0, 0, 30)), some (mI a), some (mI b), some (mI m), some (mI (nI n))]) (st' := [mI m, mI (nI n)]) (S' := (L, py_it (w_take I 31 20) 31 sl n, J, R)) (P := True) [(.iload 4, (0, 0, 0, 0, 0)), (.iload_n 3, (0, 0, 0, 0, 0))] [] (by decide +kernel) rfl trivial ?_
      refine b_icmp_gt (off := 37) (tgt := 54) (by decide +kernel) (by decide) (fun h2 => ?_) (fun h2 => ?_)
      · exact (le_no hn h2).elim
      · refine b_blk (pc' := 26) (ls' := [some (mR (0, 0, 30)), some (mI a), some (mI b), some (mI m), some (mI (nI n))]) (st' := [mI b, mI a, mR (3, 0, 31)]) (S' := (L, py_it (w_take I 31 20) 31 sl n, J, R)) (P := (True ∧ R 30 2 = some (3, 0, 31))) [(.aload_n 0, (0, 0, 0, 0, 0)), (.getfield 12, (0, 2, 3, 0, 0)), (.iload_n 1, (0, 0, 0, 0, 0)), (.iload_n 2, (0, 0, 0, 0, 0))] [some (3, 0, 31)] (by decide +kernel) rfl ⟨trivial, (r_30_2 hR)⟩ ?_
        refine b_cV (as := [mI a, mI b]) (st := []) (by decide +kernel) k_0_56 n_Lay_meetSomewhere rfl (by decide) v_Lay_meetSomewhere (c_Lay_meetSomewhere 31 a b (ly_31 hR)) (Nat.le_of_ble_eq_true rfl) (by decide) rfl rfl (fun _ h => h) ?_
        show m_B _ _ _ _ _ _ 29 [some (mR (0, 0, 30)), some (mI a), some (mI b), some (mI m), some (mI (nI n))] [mI (bI (l_meet (py_it (w_take I 31 20) 31 sl n) 31 a b 6))] (L, (py_it (w_take I 31 20) 31 sl n), J, R)
        refine b_if_eq (off := 6) (tgt := 35) (by decide +kernel) (by decide) (fun h3 => ?_) (fun h3 => ?_)
        · refine b_blk (pc' := 44) (ls' := [some (mR (0, 0, 30)), some (mI a), some (mI b), some (mI m), some (mI (nI n))]) (st' := [mN, mR (3, 0, 31), mR (10, 0, 24)]) (S' := (L, (py_it (w_take I 31 20) 31 sl n), J, R)) (P := ((True ∧ R 30 1 = some (10, 0, 24)) ∧ R 30 2 = some (3, 0, 31))) [(.aload_n 0, (0, 0, 0, 0, 0)), (.getfield 38, (0, 1, 3, 0, 0)), (.aload_n 0, (0, 0, 0, 0, 0)), (.getfield 12, (0, 2, 3, 0, 0)), (.aconst_null, (0, 0, 0, 0, 0))] [some (10, 0, 24), some (3, 0, 31)] (by decide +kernel) rfl ⟨⟨trivial, (r_30_1 hR)⟩, (r_30_2 hR)⟩ ?_
          refine b_cV (as := [mR (3, 0, 31), mN]) (st := []) (by decide +kernel) k_0_50 n_Walker_passYear rfl (by decide) v_Walker_passYear (c_Walker_passYear_N 31 sl hR hs (sl_of hR hq) (ly_31 hR) (fp_no hq (by decide))) (Nat.le_of_ble_eq_true rfl) (by decide) rfl rfl (fun _ h => h) ?_
          show m_B _ _ _ _ _ _ 47 [some (mR (0, 0, 30)), some (mI a), some (mI b), some (mI m), some (mI (nI n))] [mI (py_went none (py_it (w_take I 31 20) 31 sl n) 31 sl)] (L, py_year none (py_it (w_take I 31 20) 31 sl n) 31 sl, J, R)
          refine b_blk (pc' := 14) (ls' := [some (mR (0, 0, 30)), some (mI a), some (mI b), some (mI m), some (mI ((nI n) + 1))]) (st' := []) (S' := (L, py_year none (py_it (w_take I 31 20) 31 sl n) 31 sl, J, R)) (P := True) [(.pop, (0, 0, 0, 0, 0)), (.iinc 4 1, (0, 0, 0, 1, 0)), (.goto (-37), (0, 14, 0, 0, 0))] [] (by decide +kernel) rfl trivial ?_
          refine m_B_cg ?_ rfl ?_ (ih  ?_)
          · first | with_reducible rfl | rfl | (simp only [nI_succ]; done)
          · first | with_reducible rfl | rfl | (simp only [nI_succ]; done)
          · rw [mt, hh]; exact if_pos h3
        · refine b_blk (pc' := 34) (ls' := [some (mR (0, 0, 30)), some (mI a), some (mI b), some (mI m), some (mI (nI n))]) (st' := [mI (nI n)]) (S' := (L, (py_it (w_take I 31 20) 31 sl n), J, R)) (P := True) [(.iload 4, (0, 0, 0, 0, 0))] [] (by decide +kernel) rfl trivial ?_
          refine b_iret (by decide +kernel) rfl ⟨?_, ?_⟩
          · first | (rw [fm_v, hh]; done) | (rw [fm_v, mt_on (n := n + 1) (by rw [mt, hh]; exact if_neg (by assumption)) (by omega)]; done)
          · first | (rw [fm_w, hh]; done) | (rw [fm_w, mt_on (n := n + 1) (by rw [mt, hh]; exact if_neg (by assumption)) (by omega)]; done)
    · rfl
  intro  hh
  refine b_blk (pc' := 55) (ls' := [some (mR (0, 0, 30)), some (mI a), some (mI b), some (mI m), some (mI (nI (m_le m)))]) (st' := [mI (-1)]) (S' := (L, py_it (w_take I 31 20) 31 sl (m_le m), J, R)) (P := True) [(.iconst (-1), (0, 0, 0, (-1), 0))] [] (by decide +kernel) rfl trivial ?_
  refine b_iret (by decide +kernel) rfl ⟨?_, ?_⟩
  · first | (rw [fm_v, hh]; done) | (rw [fm_v, mt_on (n := n + 1) (by rw [mt, hh]; exact if_neg (by assumption)) (by omega)]; done)
  · first | (rw [fm_w, hh]; done) | (rw [fm_w, mt_on (n := n + 1) (by rw [mt, hh]; exact if_neg (by assumption)) (by omega)]; done)
def lf_p (X : MI) (sl : Nat) (f v : Int32) (n : Nat) : MI := if nI n = v then w_plant X 31 f (X sl 1) else X
def lf (I : MI) (sl : Nat) (f v : Int32) : Nat → Int32 × MI
  | 0 => (180, w_take I 31 20)
  | n + 1 => (f_Math_min_II (lf I sl f v n).1 (l_field (py_year none (lf_p (lf I sl f v n).2 sl f v n) 31 sl) 31 f (py_year none (lf_p (lf I sl f v n).2 sl f v n) 31 sl sl 2) 6), py_year none (lf_p (lf I sl f v n).2 sl f v n) 31 sl)
theorem lf_e {I X : MI} {sl n : Nat} {f v w : Int32} {Y : MI} (hh : lf I sl f v n = (w, X)) (hy : lf_p X sl f v n = Y) : lf I sl f v (n + 1) = (f_Math_min_II w (l_field (py_year none Y 31 sl) 31 f (py_year none Y 31 sl sl 2) 6), py_year none Y 31 sl) := by
  simp only [lf, hh, hy]
set_option maxRecDepth 100000 in
set_option maxHeartbeats 400000 in
theorem c_Foresight_leastField {G : MG} {L : List (Nat × Nat)} {I : Nat → Nat → Int32} {J : Nat → Nat → Int64} {R : Nat → Nat → Option MRef} (f : Int32) (m : Int32) (v : Int32) (sl : Nat) (hR : RF R) (hs : R 24 1 = some (8, 0, sl)) (hq : sl = 3 ∨ sl = 11) : m_met G 7 0 0 y_Foresight_leastField M_Foresight_leastField [mR (0, 0, 30), mI f, mI m, mI v] (L, I, J, R) (m_is (some (mI ((lf I sl f v m.toNatClampNeg).1))) (L, (lf I sl f v m.toNatClampNeg).2, J, R)) := by
  refine m_met_in n_Foresight_leastField (plainFor_of_name (by decide)) (by decide) (Nat.le_of_ble_eq_true rfl) (ls := [some (mR (0, 0, 30)), some (mI f), some (mI m), some (mI v), none, none]) rfl ?_
  refine b_blk (pc' := 13) (ls' := [some (mR (0, 0, 30)), some (mI f), some (mI m), some (mI v), some (mI 180), none]) (st' := [mR (3, 0, 20), mR (3, 0, 31)]) (S' := (L, I, J, R)) (P := ((True ∧ R 30 2 = some (3, 0, 31)) ∧ R 30 0 = some (3, 0, 20))) [(.sipush 180, (0, 0, 0, 180, 0)), (.istore 4, (0, 0, 0, 0, 0)), (.aload_n 0, (0, 0, 0, 0, 0)), (.getfield 12, (0, 2, 3, 0, 0)), (.aload_n 0, (0, 0, 0, 0, 0)), (.getfield 35, (0, 0, 3, 0, 0))] [some (3, 0, 31), some (3, 0, 20)] (by decide +kernel) rfl ⟨⟨trivial, (r_30_2 hR)⟩, (r_30_0 hR)⟩ ?_
  refine b_cV (as := [mR (3, 0, 20)]) (st := []) (by decide +kernel) k_0_42 n_Lay_takeFrom rfl (by decide) v_Lay_takeFrom (c_take 31 20 (ly_31 hR) (ly_20 hR)) (Nat.le_of_ble_eq_true rfl) (by decide) rfl rfl (fun _ h => h) ?_
  show m_B _ _ _ _ _ _ 16 [some (mR (0, 0, 30)), some (mI f), some (mI m), some (mI v), some (mI 180), none] [] (L, w_take I 31 20, J, R)
  refine b_blk (pc' := 19) (ls' := [some (mR (0, 0, 30)), some (mI f), some (mI m), some (mI v), some (mI 180), some (mI 0)]) (st' := []) (S' := (L, w_take I 31 20, J, R)) (P := True) [(.iconst 0, (0, 0, 0, 0, 0)), (.istore 5, (0, 0, 0, 0, 0))] [] (by decide +kernel) rfl trivial ?_
  suffices hx : ∀ (w : Int32) (X : MI), lf I sl f v m.toNatClampNeg = (w, X) → m_B G (m_rm 7 0 0) M_Foresight_leastField (m_is (some (mI ((lf I sl f v m.toNatClampNeg).1))) (L, (lf I sl f v m.toNatClampNeg).2, J, R)) 0 0 93 [some (mR (0, 0, 30)), some (mI f), some (mI m), some (mI v), some (mI w), some (mI (nI m.toNatClampNeg))] [] (L, X, J, R) by
    refine m_B_cg ?_ rfl ?_ (loop_up m.toNatClampNeg (fun n => ∀ (w : Int32) (X : MI), lf I sl f v n = (w, X) → m_B G (m_rm 7 0 0) M_Foresight_leastField (m_is (some (mI ((lf I sl f v m.toNatClampNeg).1))) (L, (lf I sl f v m.toNatClampNeg).2, J, R)) 0 0 19 [some (mR (0, 0, 30)), some (mI f), some (mI m), some (mI v), some (mI w), some (mI (nI n))] [] (L, X, J, R)) ?_ ?_ 0 (Nat.zero_le _) 180 (w_take I 31 20) ?_)
    · first | with_reducible rfl | rfl | (simp only [nI_succ]; done)
    · first | with_reducible rfl | rfl | (simp only [nI_succ]; done)
    · intro w X hh
      refine b_blk (pc' := 22) (ls' := [some (mR (0, 0, 30)), some (mI f), some (mI m), some (mI v), some (mI w), some (mI (nI m.toNatClampNeg))]) (st' := [mI m, mI (nI m.toNatClampNeg)]) (S' := (L, X, J, R)) (P := True) [(.iload 5, (0, 0, 0, 0, 0)), (.iload_n 2, (0, 0, 0, 0, 0))] [] (by decide +kernel) rfl trivial ?_
      refine b_icmp_ge (off := 71) (tgt := 93) (by decide +kernel) (by decide) (fun h1 => ?_) (fun h1 => ?_)
      · exact hx w X hh
      · exact (ge_yes rfl h1).elim
    · intro n hn ih w X hh
      refine b_blk (pc' := 22) (ls' := [some (mR (0, 0, 30)), some (mI f), some (mI m), some (mI v), some (mI w), some (mI (nI n))]) (st' := [mI m, mI (nI n)]) (S' := (L, X, J, R)) (P := True) [(.iload 5, (0, 0, 0, 0, 0)), (.iload_n 2, (0, 0, 0, 0, 0))] [] (by decide +kernel) rfl trivial ?_
      refine b_icmp_ge (off := 71) (tgt := 93) (by decide +kernel) (by decide) (fun h2 => ?_) (fun h2 => ?_)
      · exact (ge_no rfl hn h2).elim
      · refine b_blk (pc' := 28) (ls' := [some (mR (0, 0, 30)), some (mI f), some (mI m), some (mI v), some (mI w), some (mI (nI n))]) (st' := [mI v, mI (nI n)]) (S' := (L, X, J, R)) (P := True) [(.iload 5, (0, 0, 0, 0, 0)), (.iload_n 3, (0, 0, 0, 0, 0))] [] (by decide +kernel) rfl trivial ?_
        refine b_icmp_ne (off := 21) (tgt := 49) (by decide +kernel) (by decide) (fun h3 => ?_) (fun h3 => ?_)
        · refine b_blk (pc' := 58) (ls' := [some (mR (0, 0, 30)), some (mI f), some (mI m), some (mI v), some (mI w), some (mI (nI n))]) (st' := [mN, mR (3, 0, 31), mR (10, 0, 24)]) (S' := (L, X, J, R)) (P := ((True ∧ R 30 1 = some (10, 0, 24)) ∧ R 30 2 = some (3, 0, 31))) [(.aload_n 0, (0, 0, 0, 0, 0)), (.getfield 38, (0, 1, 3, 0, 0)), (.aload_n 0, (0, 0, 0, 0, 0)), (.getfield 12, (0, 2, 3, 0, 0)), (.aconst_null, (0, 0, 0, 0, 0))] [some (10, 0, 24), some (3, 0, 31)] (by decide +kernel) rfl ⟨⟨trivial, (r_30_1 hR)⟩, (r_30_2 hR)⟩ ?_
          refine b_cV (as := [mR (3, 0, 31), mN]) (st := []) (by decide +kernel) k_0_50 n_Walker_passYear rfl (by decide) v_Walker_passYear (c_Walker_passYear_N 31 sl hR hs (sl_of hR hq) (ly_31 hR) (fp_no hq (by decide))) (Nat.le_of_ble_eq_true rfl) (by decide) rfl rfl (fun _ h => h) ?_
          show m_B _ _ _ _ _ _ 61 [some (mR (0, 0, 30)), some (mI f), some (mI m), some (mI v), some (mI w), some (mI (nI n))] [mI (py_went none X 31 sl)] (L, py_year none X 31 sl, J, R)
          refine b_blk (pc' := 79) (ls' := [some (mR (0, 0, 30)), some (mI f), some (mI m), some (mI v), some (mI w), some (mI (nI n))]) (st' := [mI ((py_year none X 31 sl) sl 2), mI f, mR (3, 0, 31), mI w]) (S' := (L, py_year none X 31 sl, J, R)) (P := (((True ∧ R 30 2 = some (3, 0, 31)) ∧ R 30 1 = some (10, 0, 24)) ∧ R 24 1 = some (8, 0, sl))) [(.pop, (0, 0, 0, 0, 0)), (.iload 4, (0, 0, 0, 0, 0)), (.aload_n 0, (0, 0, 0, 0, 0)), (.getfield 12, (0, 2, 3, 0, 0)), (.iload_n 1, (0, 0, 0, 0, 0)), (.aload_n 0, (0, 0, 0, 0, 0)), (.getfield 38, (0, 1, 3, 0, 0)), (.getfield 60, (10, 1, 3, 0, 0)), (.getfield 73, (8, 2, 0, 0, 0))] [some (3, 0, 31), some (10, 0, 24), some (8, 0, sl)] (by decide +kernel) rfl ⟨⟨⟨trivial, (r_30_2 hR)⟩, (r_30_1 hR)⟩, hs⟩ ?_
          refine b_cV (as := [mI f, mI ((py_year none X 31 sl) sl 2)]) (st := [mI w]) (by decide +kernel) k_0_76 n_Lay_fieldOf rfl (by decide) v_Lay_fieldOf (c_Lay_fieldOf 31 f ((py_year none X 31 sl) sl 2) (ly_31 hR)) (Nat.le_of_ble_eq_true rfl) (by decide) rfl rfl (fun _ h => h) ?_
          show m_B _ _ _ _ _ _ 82 [some (mR (0, 0, 30)), some (mI f), some (mI m), some (mI v), some (mI w), some (mI (nI n))] [mI (l_field (py_year none X 31 sl) 31 f ((py_year none X 31 sl) sl 2) 6), mI w] (L, (py_year none X 31 sl), J, R)
          refine b_cS (as := [mI w, mI (l_field (py_year none X 31 sl) 31 f ((py_year none X 31 sl) sl 2) 6)]) (st := []) (by decide +kernel) k_0_80 n_Math_min_II s_Math_min_II (c_Math_min_II w (l_field (py_year none X 31 sl) 31 f ((py_year none X 31 sl) sl 2) 6) ) (Nat.le_of_ble_eq_true rfl) (by decide) rfl rfl (fun _ h => h) ?_
          show m_B _ _ _ _ _ _ 85 [some (mR (0, 0, 30)), some (mI f), some (mI m), some (mI v), some (mI w), some (mI (nI n))] [mI (f_Math_min_II w (l_field (py_year none X 31 sl) 31 f ((py_year none X 31 sl) sl 2) 6))] (L, (py_year none X 31 sl), J, R)
          refine b_blk (pc' := 19) (ls' := [some (mR (0, 0, 30)), some (mI f), some (mI m), some (mI v), some (mI (f_Math_min_II w (l_field (py_year none X 31 sl) 31 f ((py_year none X 31 sl) sl 2) 6))), some (mI ((nI n) + 1))]) (st' := []) (S' := (L, (py_year none X 31 sl), J, R)) (P := True) [(.istore 4, (0, 0, 0, 0, 0)), (.iinc 5 1, (0, 0, 0, 1, 0)), (.goto (-71), (0, 19, 0, 0, 0))] [] (by decide +kernel) rfl trivial ?_
          refine m_B_cg ?_ rfl ?_ (ih (f_Math_min_II w (l_field (py_year none X 31 sl) 31 f ((py_year none X 31 sl) sl 2) 6)) (py_year none X 31 sl) ?_)
          · first | with_reducible rfl | rfl | (simp only [nI_succ]; done)
          · first | with_reducible rfl | rfl | (simp only [nI_succ]; done)
          · exact lf_e hh (if_neg h3)
        · refine b_blk (pc' := 46) (ls' := [some (mR (0, 0, 30)), some (mI f), some (mI m), some (mI v), some (mI w), some (mI (nI n))]) (st' := [mI (X sl 1), mI f, mR (3, 0, 31)]) (S' := (L, X, J, R)) (P := (((True ∧ R 30 2 = some (3, 0, 31)) ∧ R 30 1 = some (10, 0, 24)) ∧ R 24 1 = some (8, 0, sl))) [(.aload_n 0, (0, 0, 0, 0, 0)), (.getfield 12, (0, 2, 3, 0, 0)), (.iload_n 1, (0, 0, 0, 0, 0)), (.aload_n 0, (0, 0, 0, 0, 0)), (.getfield 38, (0, 1, 3, 0, 0)), (.getfield 60, (10, 1, 3, 0, 0)), (.getfield 64, (8, 1, 0, 0, 0))] [some (3, 0, 31), some (10, 0, 24), some (8, 0, sl)] (by decide +kernel) rfl ⟨⟨⟨trivial, (r_30_2 hR)⟩, (r_30_1 hR)⟩, hs⟩ ?_
          refine b_cV (as := [mI f, mI (X sl 1)]) (st := []) (by decide +kernel) k_0_69 n_Lay_plant rfl (by decide) v_Lay_plant (c_Lay_plant 31 f (X sl 1) (ly_31 hR)) (Nat.le_of_ble_eq_true rfl) (by decide) rfl rfl (fun _ h => h) ?_
          show m_B _ _ _ _ _ _ 49 [some (mR (0, 0, 30)), some (mI f), some (mI m), some (mI v), some (mI w), some (mI (nI n))] [] (L, w_plant X 31 f (X sl 1), J, R)
          refine b_blk (pc' := 58) (ls' := [some (mR (0, 0, 30)), some (mI f), some (mI m), some (mI v), some (mI w), some (mI (nI n))]) (st' := [mN, mR (3, 0, 31), mR (10, 0, 24)]) (S' := (L, w_plant X 31 f (X sl 1), J, R)) (P := ((True ∧ R 30 1 = some (10, 0, 24)) ∧ R 30 2 = some (3, 0, 31))) [(.aload_n 0, (0, 0, 0, 0, 0)), (.getfield 38, (0, 1, 3, 0, 0)), (.aload_n 0, (0, 0, 0, 0, 0)), (.getfield 12, (0, 2, 3, 0, 0)), (.aconst_null, (0, 0, 0, 0, 0))] [some (10, 0, 24), some (3, 0, 31)] (by decide +kernel) rfl ⟨⟨trivial, (r_30_1 hR)⟩, (r_30_2 hR)⟩ ?_
          refine b_cV (as := [mR (3, 0, 31), mN]) (st := []) (by decide +kernel) k_0_50 n_Walker_passYear rfl (by decide) v_Walker_passYear (c_Walker_passYear_N 31 sl hR hs (sl_of hR hq) (ly_31 hR) (fp_no hq (by decide))) (Nat.le_of_ble_eq_true rfl) (by decide) rfl rfl (fun _ h => h) ?_
          show m_B _ _ _ _ _ _ 61 [some (mR (0, 0, 30)), some (mI f), some (mI m), some (mI v), some (mI w), some (mI (nI n))] [mI (py_went none (w_plant X 31 f (X sl 1)) 31 sl)] (L, py_year none (w_plant X 31 f (X sl 1)) 31 sl, J, R)
          refine b_blk (pc' := 79) (ls' := [some (mR (0, 0, 30)), some (mI f), some (mI m), some (mI v), some (mI w), some (mI (nI n))]) (st' := [mI ((py_year none (w_plant X 31 f (X sl 1)) 31 sl) sl 2), mI f, mR (3, 0, 31), mI w]) (S' := (L, py_year none (w_plant X 31 f (X sl 1)) 31 sl, J, R)) (P := (((True ∧ R 30 2 = some (3, 0, 31)) ∧ R 30 1 = some (10, 0, 24)) ∧ R 24 1 = some (8, 0, sl))) [(.pop, (0, 0, 0, 0, 0)), (.iload 4, (0, 0, 0, 0, 0)), (.aload_n 0, (0, 0, 0, 0, 0)), (.getfield 12, (0, 2, 3, 0, 0)), (.iload_n 1, (0, 0, 0, 0, 0)), (.aload_n 0, (0, 0, 0, 0, 0)), (.getfield 38, (0, 1, 3, 0, 0)), (.getfield 60, (10, 1, 3, 0, 0)), (.getfield 73, (8, 2, 0, 0, 0))] [some (3, 0, 31), some (10, 0, 24), some (8, 0, sl)] (by decide +kernel) rfl ⟨⟨⟨trivial, (r_30_2 hR)⟩, (r_30_1 hR)⟩, hs⟩ ?_
          refine b_cV (as := [mI f, mI ((py_year none (w_plant X 31 f (X sl 1)) 31 sl) sl 2)]) (st := [mI w]) (by decide +kernel) k_0_76 n_Lay_fieldOf rfl (by decide) v_Lay_fieldOf (c_Lay_fieldOf 31 f ((py_year none (w_plant X 31 f (X sl 1)) 31 sl) sl 2) (ly_31 hR)) (Nat.le_of_ble_eq_true rfl) (by decide) rfl rfl (fun _ h => h) ?_
          show m_B _ _ _ _ _ _ 82 [some (mR (0, 0, 30)), some (mI f), some (mI m), some (mI v), some (mI w), some (mI (nI n))] [mI (l_field (py_year none (w_plant X 31 f (X sl 1)) 31 sl) 31 f ((py_year none (w_plant X 31 f (X sl 1)) 31 sl) sl 2) 6), mI w] (L, (py_year none (w_plant X 31 f (X sl 1)) 31 sl), J, R)
          refine b_cS (as := [mI w, mI (l_field (py_year none (w_plant X 31 f (X sl 1)) 31 sl) 31 f ((py_year none (w_plant X 31 f (X sl 1)) 31 sl) sl 2) 6)]) (st := []) (by decide +kernel) k_0_80 n_Math_min_II s_Math_min_II (c_Math_min_II w (l_field (py_year none (w_plant X 31 f (X sl 1)) 31 sl) 31 f ((py_year none (w_plant X 31 f (X sl 1)) 31 sl) sl 2) 6) ) (Nat.le_of_ble_eq_true rfl) (by decide) rfl rfl (fun _ h => h) ?_
          show m_B _ _ _ _ _ _ 85 [some (mR (0, 0, 30)), some (mI f), some (mI m), some (mI v), some (mI w), some (mI (nI n))] [mI (f_Math_min_II w (l_field (py_year none (w_plant X 31 f (X sl 1)) 31 sl) 31 f ((py_year none (w_plant X 31 f (X sl 1)) 31 sl) sl 2) 6))] (L, (py_year none (w_plant X 31 f (X sl 1)) 31 sl), J, R)
          refine b_blk (pc' := 19) (ls' := [some (mR (0, 0, 30)), some (mI f), some (mI m), some (mI v), some (mI (f_Math_min_II w (l_field (py_year none (w_plant X 31 f (X sl 1)) 31 sl) 31 f ((py_year none (w_plant X 31 f (X sl 1)) 31 sl) sl 2) 6))), some (mI ((nI n) + 1))]) (st' := []) (S' := (L, (py_year none (w_plant X 31 f (X sl 1)) 31 sl), J, R)) (P := True) [(.istore 4, (0, 0, 0, 0, 0)), (.iinc 5 1, (0, 0, 0, 1, 0)), (.goto (-71), (0, 19, 0, 0, 0))] [] (by decide +kernel) rfl trivial ?_
          refine m_B_cg ?_ rfl ?_ (ih (f_Math_min_II w (l_field (py_year none (w_plant X 31 f (X sl 1)) 31 sl) 31 f ((py_year none (w_plant X 31 f (X sl 1)) 31 sl) sl 2) 6)) (py_year none (w_plant X 31 f (X sl 1)) 31 sl) ?_)
          · first | with_reducible rfl | rfl | (simp only [nI_succ]; done)
          · first | with_reducible rfl | rfl | (simp only [nI_succ]; done)
          · exact lf_e hh (if_pos h3)
    · rfl
  intro w X hh
  refine b_blk (pc' := 95) (ls' := [some (mR (0, 0, 30)), some (mI f), some (mI m), some (mI v), some (mI w), some (mI (nI m.toNatClampNeg))]) (st' := [mI w]) (S' := (L, X, J, R)) (P := True) [(.iload 4, (0, 0, 0, 0, 0))] [] (by decide +kernel) rfl trivial ?_
  refine b_iret (by decide +kernel) rfl ⟨?_, ?_⟩
  · rw [hh]
  · rw [hh]
