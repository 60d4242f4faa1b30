/-! constructors -/
section GI1
variable {G : MG} {R0 : Room} {M : MM} {Q : Option MV → MS → Prop} {rc rs pc : Nat} {ls : ML} {st : List MV} {L : List (Nat × Nat)} {I : MI} {J : MJ} {R : MRR}
theorem len_s {L : List (Nat × Nat)} {n : Nat} {q : Nat × Nat} (h : L.length = n) : (L ++ [q]).length = n + 1 := by rw [List.length_append, h]; rfl
theorem ok_ap {L : List (Nat × Nat)} {q : Nat × Nat} {v : MV} (h : m_ok L v) : m_ok (L ++ [q]) v := fun r hr => by
  have h1 := h r hr
  rw [List.getElem?_append_left (List.getElem?_eq_some_iff.mp h1).1]
  exact h1
theorem b_newT {idx c n rc' rs' : Nat} (hd : decode M.2.1 pc = .ok (.new idx, 3)) (hcl : Cond.classLink (m_cn M.1) idx (m_cn c) ∈ tw) (hi : Cond.instantiable (m_cn c) (m_nf c) ∈ tw ∧ Cond.initialized (m_cn c) ∈ tw) (hc : c < 13) (hL : L.length = n) (hrc : rc = rc' + 1) (hrs : rs = rs' + m_nf c)
    (h : m_B G R0 M Q rc' rs' (pc + 3) ls (mR (c, 0, n) :: st) (L ++ [(c, 0)], m_zap I n 0, m_zap J n 0, m_zap R n none)) : m_B G R0 M Q rc rs pc ls st (L, I, J, R) := by
  subst hL
  exact b_new hd hcl hi hc hrc hrs h
theorem b_newaT {t : ArrayType} {x : Int32} {n N rc' rs' : Nat} (hd : decode M.2.1 pc = .ok (.newarray t, 2)) (hw : Cond.arrayClass (newarray.typeOf t) ∈ tw) (hk : 20 ≤ m_akind t) (hn : ¬ x < 0) (hN : x.toNatClampNeg = N) (hbytes : N * componentBytes (newarray.typeOf t) ≤ 536870912) (hL : L.length = n) (hrc : rc = rc' + 1) (hrs : rs = rs' + N)
    (h : m_B G R0 M Q rc' rs' (pc + 2) ls (mR (m_akind t, N, n) :: st) (L ++ [(m_akind t, N)], m_zap I n 0, m_zap J n 0, m_zap R n none)) : m_B G R0 M Q rc rs pc ls (mI x :: st) (L, I, J, R) := by
  subst hL
  exact b_newa hd hw hk hn hN hbytes hrc hrs h
theorem b_anewT {idx kd c : Nat} {x : Int32} {n N rc' rs' : Nat} (hd : decode M.2.1 pc = .ok (.anewarray idx, 3)) (hcl : Cond.classLink (m_cn M.1) idx (m_cn c) ∈ tw) (hkd : (kd = 25 ∧ c = 3) ∨ (kd = 26 ∧ c = 4)) (hn : ¬ x < 0) (hN : x.toNatClampNeg = N) (hbytes : N * 4 ≤ 536870912) (hL : L.length = n) (hrc : rc = rc' + 1) (hrs : rs = rs' + N)
    (h : m_B G R0 M Q rc' rs' (pc + 3) ls (mR (kd, N, n) :: st) (L ++ [(kd, N)], m_zap I n 0, m_zap J n 0, m_zap R n none)) : m_B G R0 M Q rc rs pc ls (mI x :: st) (L, I, J, R) := by
  subst hL
  exact b_anew hd hcl hkd hn hN hbytes hrc hrs h
end GI1
def l_Tape (L : List (Nat × Nat)) : List (Nat × Nat) := L ++ [(22, 1600)]
def i_Tape (I : MI) (k : Nat) : MI := m_zap I (k + 1) 0
def j_Tape (J : MJ) (k : Nat) : MJ := m_zap J (k + 1) 0
def r_Tape (R : MRR) (k : Nat) : MRR := m_up (m_zap R (k + 1) none) k 0 (some (22, 1600, (k + 1)))
theorem len_Tape {L : List (Nat × Nat)} {n : Nat} (h : L.length = n) : (l_Tape L).length = n + 1 := by
  unfold l_Tape
  simp only [List.length_append, List.length_cons, List.length_nil, h]
theorem ok_Tape {L : List (Nat × Nat)} {v : MV} (h : m_ok L v) : m_ok (l_Tape L) v := ok_ap (h)
theorem ko_Tape : Cond.methodLink (m_cn 9) 3 objectInit ∈ tw := in_tw (ws := [Cond.methodLink (m_cn 9) 3 objectInit]) (by decide +kernel) _ List.mem_cons_self
set_option maxRecDepth 100000 in
set_option maxHeartbeats 4000000 in
theorem c_Tape_init {G : MG} {L : List (Nat × Nat)} {I : MI} {J : MJ} {R : MRR} (k : Nat) (hL : L.length = k + 1) : m_met G 1 1 1600 y_Tape_init M_Tape_init [mR (9, 0, k)] (L, I, J, R) (m_is none (l_Tape L, i_Tape I k, j_Tape J k, r_Tape R k)) := by
  refine m_met_in n_Tape_init (plainFor_of_name (by decide)) (by decide) (Nat.le_of_ble_eq_true rfl) (ls := [some (mR (9, 0, k))]) rfl ?_
  refine b_blk (pc' := 1) (ls' := [some (mR (9, 0, k))]) (st' := [mR (9, 0, k)]) (S' := (L, I, J, R)) (P := True) [(.aload_n 0, (0, 0, 0, 0, 0))] [] (by decide +kernel) rfl trivial ?_
  refine b_obj (by decide +kernel) ko_Tape (by decide) (by decide) ?_
  refine b_blk (pc' := 8) (ls' := [some (mR (9, 0, k))]) (st' := [mI 1600, mR (9, 0, k)]) (S' := (L, I, J, R)) (P := True) [(.aload_n 0, (0, 0, 0, 0, 0)), (.sipush 1600, (0, 0, 0, 1600, 0))] [] (by decide +kernel) rfl trivial ?_
  refine b_newaT (t := .byte) (N := 1600) (n := k + 1) (by decide +kernel) m_arr_byte (by decide) (by decide) (by decide) (by decide) hL (rc' := 0) (rs' := 0) rfl rfl ?_
  have hL1 : (L ++ [(22, 1600)]).length = k + 2 := len_s hL
  refine b_blk (pc' := 13) (ls' := [some (mR (9, 0, k))]) (st' := []) (S' := (L ++ [(22, 1600)], m_zap I (k + 1) 0, m_zap J (k + 1) 0, m_up (m_zap R (k + 1) none) k 0 (some (22, 1600, (k + 1))))) (P := True) [(.putfield 9, (9, 0, 3, 0, 0))] [] (by decide +kernel) rfl trivial ?_
  exact b_vret (by decide +kernel) rfl ⟨rfl, rfl⟩
def l_Lay (L : List (Nat × Nat)) : List (Nat × Nat) := ((L ++ [(20, 6)]) ++ [(20, 6)]) ++ [(20, 36)]
def i_Lay (I : MI) (k : Nat) : MI := m_fil (m_zap (m_zap (m_zap I (k + 1) 0) (k + 2) 0) (k + 3) 0) (k + 3) (-1) 36
def j_Lay (J : MJ) (k : Nat) : MJ := m_zap (m_zap (m_zap J (k + 1) 0) (k + 2) 0) (k + 3) 0
def r_Lay (R : MRR) (k : Nat) : MRR := m_up (m_zap (m_up (m_zap (m_up (m_zap R (k + 1) none) k 2 (some (20, 6, (k + 1)))) (k + 2) none) k 3 (some (20, 6, (k + 2)))) (k + 3) none) k 4 (some (20, 36, (k + 3)))
theorem len_Lay {L : List (Nat × Nat)} {n : Nat} (h : L.length = n) : (l_Lay L).length = n + 3 := by
  unfold l_Lay
  simp only [List.length_append, List.length_cons, List.length_nil, len_Tape (L := _) rfl, h]
theorem ok_Lay {L : List (Nat × Nat)} {v : MV} (h : m_ok L v) : m_ok (l_Lay L) v := ok_ap (ok_ap (ok_ap (h)))
theorem ko_Lay : Cond.methodLink (m_cn 3) 3 objectInit ∈ tw := in_tw (ws := [Cond.methodLink (m_cn 3) 3 objectInit]) (by decide +kernel) _ List.mem_cons_self
set_option maxRecDepth 100000 in
set_option maxHeartbeats 4000000 in
theorem c_Lay_init {G : MG} {L : List (Nat × Nat)} {I : MI} {J : MJ} {R : MRR} (k : Nat) (hL : L.length = k + 1) : m_met G 2 3 48 y_Lay_init M_Lay_init [mR (3, 0, k)] (L, I, J, R) (m_is none (l_Lay L, i_Lay I k, j_Lay J k, r_Lay R k)) := by
  refine m_met_in n_Lay_init (plainFor_of_name (by decide)) (by decide) (Nat.le_of_ble_eq_true rfl) (ls := [some (mR (3, 0, k))]) rfl ?_
  refine b_blk (pc' := 1) (ls' := [some (mR (3, 0, k))]) (st' := [mR (3, 0, k)]) (S' := (L, I, J, R)) (P := True) [(.aload_n 0, (0, 0, 0, 0, 0))] [] (by decide +kernel) rfl trivial ?_
  refine b_obj (by decide +kernel) ko_Lay (by decide) (by decide) ?_
  refine b_blk (pc' := 7) (ls' := [some (mR (3, 0, k))]) (st' := [mI 6, mR (3, 0, k)]) (S' := (L, I, J, R)) (P := True) [(.aload_n 0, (0, 0, 0, 0, 0)), (.bipush 6, (0, 0, 0, 6, 0))] [] (by decide +kernel) rfl trivial ?_
  refine b_newaT (t := .int) (N := 6) (n := k + 1) (by decide +kernel) m_arr_int (by decide) (by decide) (by decide) (by decide) hL (rc' := 2) (rs' := 42) rfl rfl ?_
  have hL1 : (L ++ [(20, 6)]).length = k + 2 := len_s hL
  refine b_blk (pc' := 15) (ls' := [some (mR (3, 0, k))]) (st' := [mI 6, mR (3, 0, k)]) (S' := (L ++ [(20, 6)], m_zap I (k + 1) 0, m_zap J (k + 1) 0, m_up (m_zap R (k + 1) none) k 2 (some (20, 6, (k + 1))))) (P := True) [(.putfield 9, (3, 2, 3, 0, 0)), (.aload_n 0, (0, 0, 0, 0, 0)), (.bipush 6, (0, 0, 0, 6, 0))] [] (by decide +kernel) rfl trivial ?_
  refine b_newaT (t := .int) (N := 6) (n := k + 2) (by decide +kernel) m_arr_int (by decide) (by decide) (by decide) (by decide) hL1 (rc' := 1) (rs' := 36) rfl rfl ?_
  have hL2 : ((L ++ [(20, 6)]) ++ [(20, 6)]).length = k + 3 := len_s hL1
  refine b_blk (pc' := 23) (ls' := [some (mR (3, 0, k))]) (st' := [mI 36, mR (3, 0, k)]) (S' := ((L ++ [(20, 6)]) ++ [(20, 6)], m_zap (m_zap I (k + 1) 0) (k + 2) 0, m_zap (m_zap J (k + 1) 0) (k + 2) 0, m_up (m_zap (m_up (m_zap R (k + 1) none) k 2 (some (20, 6, (k + 1)))) (k + 2) none) k 3 (some (20, 6, (k + 2))))) (P := True) [(.putfield 15, (3, 3, 3, 0, 0)), (.aload_n 0, (0, 0, 0, 0, 0)), (.bipush 36, (0, 0, 0, 36, 0))] [] (by decide +kernel) rfl trivial ?_
  refine b_newaT (t := .int) (N := 36) (n := k + 3) (by decide +kernel) m_arr_int (by decide) (by decide) (by decide) (by decide) hL2 (rc' := 0) (rs' := 0) rfl rfl ?_
  have hL3 : (((L ++ [(20, 6)]) ++ [(20, 6)]) ++ [(20, 36)]).length = k + 4 := len_s hL2
  refine b_blk (pc' := 33) (ls' := [some (mR (3, 0, k))]) (st' := [mI (-1), mR (20, 36, (k + 3))]) (S' := (((L ++ [(20, 6)]) ++ [(20, 6)]) ++ [(20, 36)], m_zap (m_zap (m_zap I (k + 1) 0) (k + 2) 0) (k + 3) 0, m_zap (m_zap (m_zap J (k + 1) 0) (k + 2) 0) (k + 3) 0, m_up (m_zap (m_up (m_zap (m_up (m_zap R (k + 1) none) k 2 (some (20, 6, (k + 1)))) (k + 2) none) k 3 (some (20, 6, (k + 2)))) (k + 3) none) k 4 (some (20, 36, (k + 3))))) (P := True ∧ (m_up (m_zap (m_up (m_zap (m_up (m_zap R (k + 1) none) k 2 (some (20, 6, (k + 1)))) (k + 2) none) k 3 (some (20, 6, (k + 2)))) (k + 3) none) k 4 (some (20, 36, (k + 3)))) k 4 = some (20, 36, (k + 3))) [(.putfield 18, (3, 4, 3, 0, 0)), (.aload_n 0, (0, 0, 0, 0, 0)), (.getfield 18, (3, 4, 3, 0, 0)), (.iconst (-1), (0, 0, 0, (-1), 0))] [some (20, 36, (k + 3))] (by decide +kernel) rfl ⟨trivial, up_e _ _ _ _⟩ ?_
  refine b_cS (as := [mR (20, 36, (k + 3)), mI (-1)]) (st := []) (by decide +kernel) k_3_21 n_Arrays_fill s_Arrays_fill (c_Arrays_fill (k + 3) 36 (-1 : Int32) (by decide)) (Nat.le_of_ble_eq_true rfl) (by decide) rfl rfl (fun _ h => h) ?_
  exact b_vret (by decide +kernel) rfl ⟨rfl, rfl⟩
def l_Log (L : List (Nat × Nat)) : List (Nat × Nat) := L ++ [(20, 40)]
def i_Log (I : MI) (k : Nat) : MI := m_zap I (k + 1) 0
def j_Log (J : MJ) (k : Nat) : MJ := m_zap J (k + 1) 0
def r_Log (R : MRR) (k : Nat) : MRR := m_up (m_zap R (k + 1) none) k 0 (some (20, 40, (k + 1)))
theorem len_Log {L : List (Nat × Nat)} {n : Nat} (h : L.length = n) : (l_Log L).length = n + 1 := by
  unfold l_Log
  simp only [List.length_append, List.length_cons, List.length_nil, len_Tape (L := _) rfl, len_Lay (L := _) rfl, h]
theorem ok_Log {L : List (Nat × Nat)} {v : MV} (h : m_ok L v) : m_ok (l_Log L) v := ok_ap (h)
theorem ko_Log : Cond.methodLink (m_cn 4) 3 objectInit ∈ tw := in_tw (ws := [Cond.methodLink (m_cn 4) 3 objectInit]) (by decide +kernel) _ List.mem_cons_self
set_option maxRecDepth 100000 in
set_option maxHeartbeats 4000000 in
theorem c_Log_init {G : MG} {L : List (Nat × Nat)} {I : MI} {J : MJ} {R : MRR} (k : Nat) (hL : L.length = k + 1) : m_met G 1 1 40 y_Log_init M_Log_init [mR (4, 0, k)] (L, I, J, R) (m_is none (l_Log L, i_Log I k, j_Log J k, r_Log R k)) := by
  refine m_met_in n_Log_init (plainFor_of_name (by decide)) (by decide) (Nat.le_of_ble_eq_true rfl) (ls := [some (mR (4, 0, k))]) rfl ?_
  refine b_blk (pc' := 1) (ls' := [some (mR (4, 0, k))]) (st' := [mR (4, 0, k)]) (S' := (L, I, J, R)) (P := True) [(.aload_n 0, (0, 0, 0, 0, 0))] [] (by decide +kernel) rfl trivial ?_
  refine b_obj (by decide +kernel) ko_Log (by decide) (by decide) ?_
  refine b_blk (pc' := 7) (ls' := [some (mR (4, 0, k))]) (st' := [mI 40, mR (4, 0, k)]) (S' := (L, I, J, R)) (P := True) [(.aload_n 0, (0, 0, 0, 0, 0)), (.bipush 40, (0, 0, 0, 40, 0))] [] (by decide +kernel) rfl trivial ?_
  refine b_newaT (t := .int) (N := 40) (n := k + 1) (by decide +kernel) m_arr_int (by decide) (by decide) (by decide) (by decide) hL (rc' := 0) (rs' := 0) rfl rfl ?_
  have hL1 : (L ++ [(20, 40)]).length = k + 2 := len_s hL
  refine b_blk (pc' := 12) (ls' := [some (mR (4, 0, k))]) (st' := []) (S' := (L ++ [(20, 40)], m_zap I (k + 1) 0, m_zap J (k + 1) 0, m_up (m_zap R (k + 1) none) k 0 (some (20, 40, (k + 1))))) (P := True) [(.putfield 9, (4, 0, 3, 0, 0))] [] (by decide +kernel) rfl trivial ?_
  exact b_vret (by decide +kernel) rfl ⟨rfl, rfl⟩
def l_Seen (L : List (Nat × Nat)) : List (Nat × Nat) := ((L ++ [(20, 16)]) ++ [(20, 16)]) ++ [(20, 16)]
def i_Seen (I : MI) (k : Nat) : MI := m_zap (m_zap (m_zap I (k + 1) 0) (k + 2) 0) (k + 3) 0
def j_Seen (J : MJ) (k : Nat) : MJ := m_zap (m_zap (m_zap J (k + 1) 0) (k + 2) 0) (k + 3) 0
def r_Seen (R : MRR) (k : Nat) : MRR := m_up (m_zap (m_up (m_zap (m_up (m_zap R (k + 1) none) k 0 (some (20, 16, (k + 1)))) (k + 2) none) k 1 (some (20, 16, (k + 2)))) (k + 3) none) k 2 (some (20, 16, (k + 3)))
theorem len_Seen {L : List (Nat × Nat)} {n : Nat} (h : L.length = n) : (l_Seen L).length = n + 3 := by
  unfold l_Seen
  simp only [List.length_append, List.length_cons, List.length_nil, len_Tape (L := _) rfl, len_Lay (L := _) rfl, len_Log (L := _) rfl, h]
theorem ok_Seen {L : List (Nat × Nat)} {v : MV} (h : m_ok L v) : m_ok (l_Seen L) v := ok_ap (ok_ap (ok_ap (h)))
theorem ko_Seen : Cond.methodLink (m_cn 7) 3 objectInit ∈ tw := in_tw (ws := [Cond.methodLink (m_cn 7) 3 objectInit]) (by decide +kernel) _ List.mem_cons_self
set_option maxRecDepth 100000 in
set_option maxHeartbeats 4000000 in
theorem c_Seen_init {G : MG} {L : List (Nat × Nat)} {I : MI} {J : MJ} {R : MRR} (k : Nat) (hL : L.length = k + 1) : m_met G 1 3 48 y_Seen_init M_Seen_init [mR (7, 0, k)] (L, I, J, R) (m_is none (l_Seen L, i_Seen I k, j_Seen J k, r_Seen R k)) := by
  refine m_met_in n_Seen_init (plainFor_of_name (by decide)) (by decide) (Nat.le_of_ble_eq_true rfl) (ls := [some (mR (7, 0, k))]) rfl ?_
  refine b_blk (pc' := 1) (ls' := [some (mR (7, 0, k))]) (st' := [mR (7, 0, k)]) (S' := (L, I, J, R)) (P := True) [(.aload_n 0, (0, 0, 0, 0, 0))] [] (by decide +kernel) rfl trivial ?_
  refine b_obj (by decide +kernel) ko_Seen (by decide) (by decide) ?_
  refine b_blk (pc' := 7) (ls' := [some (mR (7, 0, k))]) (st' := [mI 16, mR (7, 0, k)]) (S' := (L, I, J, R)) (P := True) [(.aload_n 0, (0, 0, 0, 0, 0)), (.bipush 16, (0, 0, 0, 16, 0))] [] (by decide +kernel) rfl trivial ?_
  refine b_newaT (t := .int) (N := 16) (n := k + 1) (by decide +kernel) m_arr_int (by decide) (by decide) (by decide) (by decide) hL (rc' := 2) (rs' := 32) rfl rfl ?_
  have hL1 : (L ++ [(20, 16)]).length = k + 2 := len_s hL
  refine b_blk (pc' := 15) (ls' := [some (mR (7, 0, k))]) (st' := [mI 16, mR (7, 0, k)]) (S' := (L ++ [(20, 16)], m_zap I (k + 1) 0, m_zap J (k + 1) 0, m_up (m_zap R (k + 1) none) k 0 (some (20, 16, (k + 1))))) (P := True) [(.putfield 9, (7, 0, 3, 0, 0)), (.aload_n 0, (0, 0, 0, 0, 0)), (.bipush 16, (0, 0, 0, 16, 0))] [] (by decide +kernel) rfl trivial ?_
  refine b_newaT (t := .int) (N := 16) (n := k + 2) (by decide +kernel) m_arr_int (by decide) (by decide) (by decide) (by decide) hL1 (rc' := 1) (rs' := 16) rfl rfl ?_
  have hL2 : ((L ++ [(20, 16)]) ++ [(20, 16)]).length = k + 3 := len_s hL1
  refine b_blk (pc' := 23) (ls' := [some (mR (7, 0, k))]) (st' := [mI 16, mR (7, 0, k)]) (S' := ((L ++ [(20, 16)]) ++ [(20, 16)], m_zap (m_zap I (k + 1) 0) (k + 2) 0, m_zap (m_zap J (k + 1) 0) (k + 2) 0, m_up (m_zap (m_up (m_zap R (k + 1) none) k 0 (some (20, 16, (k + 1)))) (k + 2) none) k 1 (some (20, 16, (k + 2))))) (P := True) [(.putfield 15, (7, 1, 3, 0, 0)), (.aload_n 0, (0, 0, 0, 0, 0)), (.bipush 16, (0, 0, 0, 16, 0))] [] (by decide +kernel) rfl trivial ?_
  refine b_newaT (t := .int) (N := 16) (n := k + 3) (by decide +kernel) m_arr_int (by decide) (by decide) (by decide) (by decide) hL2 (rc' := 0) (rs' := 0) rfl rfl ?_
  have hL3 : (((L ++ [(20, 16)]) ++ [(20, 16)]) ++ [(20, 16)]).length = k + 4 := len_s hL2
  refine b_blk (pc' := 28) (ls' := [some (mR (7, 0, k))]) (st' := []) (S' := (((L ++ [(20, 16)]) ++ [(20, 16)]) ++ [(20, 16)], m_zap (m_zap (m_zap I (k + 1) 0) (k + 2) 0) (k + 3) 0, m_zap (m_zap (m_zap J (k + 1) 0) (k + 2) 0) (k + 3) 0, m_up (m_zap (m_up (m_zap (m_up (m_zap R (k + 1) none) k 0 (some (20, 16, (k + 1)))) (k + 2) none) k 1 (some (20, 16, (k + 2)))) (k + 3) none) k 2 (some (20, 16, (k + 3))))) (P := True) [(.putfield 18, (7, 2, 3, 0, 0))] [] (by decide +kernel) rfl trivial ?_
  exact b_vret (by decide +kernel) rfl ⟨rfl, rfl⟩
def l_Image (L : List (Nat × Nat)) : List (Nat × Nat) := L ++ [(22, 100)]
def i_Image (I : MI) (k : Nat) : MI := m_zap I (k + 1) 0
def j_Image (J : MJ) (k : Nat) : MJ := m_zap J (k + 1) 0
def r_Image (R : MRR) (k : Nat) : MRR := m_up (m_zap R (k + 1) none) k 0 (some (22, 100, (k + 1)))
theorem len_Image {L : List (Nat × Nat)} {n : Nat} (h : L.length = n) : (l_Image L).length = n + 1 := by
  unfold l_Image
  simp only [List.length_append, List.length_cons, List.length_nil, len_Tape (L := _) rfl, len_Lay (L := _) rfl, len_Log (L := _) rfl, len_Seen (L := _) rfl, h]
theorem ok_Image {L : List (Nat × Nat)} {v : MV} (h : m_ok L v) : m_ok (l_Image L) v := ok_ap (h)
theorem ko_Image : Cond.methodLink (m_cn 2) 3 objectInit ∈ tw := in_tw (ws := [Cond.methodLink (m_cn 2) 3 objectInit]) (by decide +kernel) _ List.mem_cons_self
set_option maxRecDepth 100000 in
set_option maxHeartbeats 4000000 in
theorem c_Image_init {G : MG} {L : List (Nat × Nat)} {I : MI} {J : MJ} {R : MRR} (k : Nat) (hL : L.length = k + 1) : m_met G 1 1 100 y_Image_init M_Image_init [mR (2, 0, k)] (L, I, J, R) (m_is none (l_Image L, i_Image I k, j_Image J k, r_Image R k)) := by
  refine m_met_in n_Image_init (plainFor_of_name (by decide)) (by decide) (Nat.le_of_ble_eq_true rfl) (ls := [some (mR (2, 0, k))]) rfl ?_
  refine b_blk (pc' := 1) (ls' := [some (mR (2, 0, k))]) (st' := [mR (2, 0, k)]) (S' := (L, I, J, R)) (P := True) [(.aload_n 0, (0, 0, 0, 0, 0))] [] (by decide +kernel) rfl trivial ?_
  refine b_obj (by decide +kernel) ko_Image (by decide) (by decide) ?_
  refine b_blk (pc' := 7) (ls' := [some (mR (2, 0, k))]) (st' := [mI 100, mR (2, 0, k)]) (S' := (L, I, J, R)) (P := True) [(.aload_n 0, (0, 0, 0, 0, 0)), (.bipush 100, (0, 0, 0, 100, 0))] [] (by decide +kernel) rfl trivial ?_
  refine b_newaT (t := .byte) (N := 100) (n := k + 1) (by decide +kernel) m_arr_byte (by decide) (by decide) (by decide) (by decide) hL (rc' := 0) (rs' := 0) rfl rfl ?_
  have hL1 : (L ++ [(22, 100)]).length = k + 2 := len_s hL
  refine b_blk (pc' := 12) (ls' := [some (mR (2, 0, k))]) (st' := []) (S' := (L ++ [(22, 100)], m_zap I (k + 1) 0, m_zap J (k + 1) 0, m_up (m_zap R (k + 1) none) k 0 (some (22, 100, (k + 1))))) (P := True) [(.putfield 11, (2, 0, 3, 0, 0))] [] (by decide +kernel) rfl trivial ?_
  exact b_vret (by decide +kernel) rfl ⟨rfl, rfl⟩
def l_Reckoner (L : List (Nat × Nat)) : List (Nat × Nat) := (((L ++ [(20, 100)]) ++ [(20, 24)]) ++ [(20, 6)]) ++ [(20, 6)]
def i_Reckoner (I : MI) (k : Nat) : MI := m_zap (m_zap (m_zap (m_zap I (k + 1) 0) (k + 2) 0) (k + 3) 0) (k + 4) 0
def j_Reckoner (J : MJ) (k : Nat) : MJ := m_zap (m_zap (m_zap (m_zap J (k + 1) 0) (k + 2) 0) (k + 3) 0) (k + 4) 0
def r_Reckoner (R : MRR) (k : Nat) : MRR := m_up (m_zap (m_up (m_zap (m_up (m_zap (m_up (m_zap R (k + 1) none) k 0 (some (20, 100, (k + 1)))) (k + 2) none) k 1 (some (20, 24, (k + 2)))) (k + 3) none) k 2 (some (20, 6, (k + 3)))) (k + 4) none) k 3 (some (20, 6, (k + 4)))
theorem len_Reckoner {L : List (Nat × Nat)} {n : Nat} (h : L.length = n) : (l_Reckoner L).length = n + 4 := by
  unfold l_Reckoner
  simp only [List.length_append, List.length_cons, List.length_nil, len_Tape (L := _) rfl, len_Lay (L := _) rfl, len_Log (L := _) rfl, len_Seen (L := _) rfl, len_Image (L := _) rfl, h]
theorem ok_Reckoner {L : List (Nat × Nat)} {v : MV} (h : m_ok L v) : m_ok (l_Reckoner L) v := ok_ap (ok_ap (ok_ap (ok_ap (h))))
theorem ko_Reckoner : Cond.methodLink (m_cn 6) 3 objectInit ∈ tw := in_tw (ws := [Cond.methodLink (m_cn 6) 3 objectInit]) (by decide +kernel) _ List.mem_cons_self
set_option maxRecDepth 100000 in
set_option maxHeartbeats 4000000 in
theorem c_Reckoner_init {G : MG} {L : List (Nat × Nat)} {I : MI} {J : MJ} {R : MRR} (k : Nat) (hL : L.length = k + 1) : m_met G 1 4 136 y_Reckoner_init M_Reckoner_init [mR (6, 0, k)] (L, I, J, R) (m_is none (l_Reckoner L, i_Reckoner I k, j_Reckoner J k, r_Reckoner R k)) := by
  refine m_met_in n_Reckoner_init (plainFor_of_name (by decide)) (by decide) (Nat.le_of_ble_eq_true rfl) (ls := [some (mR (6, 0, k))]) rfl ?_
  refine b_blk (pc' := 1) (ls' := [some (mR (6, 0, k))]) (st' := [mR (6, 0, k)]) (S' := (L, I, J, R)) (P := True) [(.aload_n 0, (0, 0, 0, 0, 0))] [] (by decide +kernel) rfl trivial ?_
  refine b_obj (by decide +kernel) ko_Reckoner (by decide) (by decide) ?_
  refine b_blk (pc' := 7) (ls' := [some (mR (6, 0, k))]) (st' := [mI 100, mR (6, 0, k)]) (S' := (L, I, J, R)) (P := True) [(.aload_n 0, (0, 0, 0, 0, 0)), (.bipush 100, (0, 0, 0, 100, 0))] [] (by decide +kernel) rfl trivial ?_
  refine b_newaT (t := .int) (N := 100) (n := k + 1) (by decide +kernel) m_arr_int (by decide) (by decide) (by decide) (by decide) hL (rc' := 3) (rs' := 36) rfl rfl ?_
  have hL1 : (L ++ [(20, 100)]).length = k + 2 := len_s hL
  refine b_blk (pc' := 15) (ls' := [some (mR (6, 0, k))]) (st' := [mI 24, mR (6, 0, k)]) (S' := (L ++ [(20, 100)], m_zap I (k + 1) 0, m_zap J (k + 1) 0, m_up (m_zap R (k + 1) none) k 0 (some (20, 100, (k + 1))))) (P := True) [(.putfield 11, (6, 0, 3, 0, 0)), (.aload_n 0, (0, 0, 0, 0, 0)), (.bipush 24, (0, 0, 0, 24, 0))] [] (by decide +kernel) rfl trivial ?_
  refine b_newaT (t := .int) (N := 24) (n := k + 2) (by decide +kernel) m_arr_int (by decide) (by decide) (by decide) (by decide) hL1 (rc' := 2) (rs' := 12) rfl rfl ?_
  have hL2 : ((L ++ [(20, 100)]) ++ [(20, 24)]).length = k + 3 := len_s hL1
  refine b_blk (pc' := 23) (ls' := [some (mR (6, 0, k))]) (st' := [mI 6, mR (6, 0, k)]) (S' := ((L ++ [(20, 100)]) ++ [(20, 24)], m_zap (m_zap I (k + 1) 0) (k + 2) 0, m_zap (m_zap J (k + 1) 0) (k + 2) 0, m_up (m_zap (m_up (m_zap R (k + 1) none) k 0 (some (20, 100, (k + 1)))) (k + 2) none) k 1 (some (20, 24, (k + 2))))) (P := True) [(.putfield 15, (6, 1, 3, 0, 0)), (.aload_n 0, (0, 0, 0, 0, 0)), (.bipush 6, (0, 0, 0, 6, 0))] [] (by decide +kernel) rfl trivial ?_
  refine b_newaT (t := .int) (N := 6) (n := k + 3) (by decide +kernel) m_arr_int (by decide) (by decide) (by decide) (by decide) hL2 (rc' := 1) (rs' := 6) rfl rfl ?_
  have hL3 : (((L ++ [(20, 100)]) ++ [(20, 24)]) ++ [(20, 6)]).length = k + 4 := len_s hL2
  refine b_blk (pc' := 31) (ls' := [some (mR (6, 0, k))]) (st' := [mI 6, mR (6, 0, k)]) (S' := (((L ++ [(20, 100)]) ++ [(20, 24)]) ++ [(20, 6)], m_zap (m_zap (m_zap I (k + 1) 0) (k + 2) 0) (k + 3) 0, m_zap (m_zap (m_zap J (k + 1) 0) (k + 2) 0) (k + 3) 0, m_up (m_zap (m_up (m_zap (m_up (m_zap R (k + 1) none) k 0 (some (20, 100, (k + 1)))) (k + 2) none) k 1 (some (20, 24, (k + 2)))) (k + 3) none) k 2 (some (20, 6, (k + 3))))) (P := True) [(.putfield 18, (6, 2, 3, 0, 0)), (.aload_n 0, (0, 0, 0, 0, 0)), (.bipush 6, (0, 0, 0, 6, 0))] [] (by decide +kernel) rfl trivial ?_
  refine b_newaT (t := .int) (N := 6) (n := k + 4) (by decide +kernel) m_arr_int (by decide) (by decide) (by decide) (by decide) hL3 (rc' := 0) (rs' := 0) rfl rfl ?_
  have hL4 : ((((L ++ [(20, 100)]) ++ [(20, 24)]) ++ [(20, 6)]) ++ [(20, 6)]).length = k + 5 := len_s hL3
  refine b_blk (pc' := 36) (ls' := [some (mR (6, 0, k))]) (st' := []) (S' := ((((L ++ [(20, 100)]) ++ [(20, 24)]) ++ [(20, 6)]) ++ [(20, 6)], m_zap (m_zap (m_zap (m_zap I (k + 1) 0) (k + 2) 0) (k + 3) 0) (k + 4) 0, m_zap (m_zap (m_zap (m_zap J (k + 1) 0) (k + 2) 0) (k + 3) 0) (k + 4) 0, m_up (m_zap (m_up (m_zap (m_up (m_zap (m_up (m_zap R (k + 1) none) k 0 (some (20, 100, (k + 1)))) (k + 2) none) k 1 (some (20, 24, (k + 2)))) (k + 3) none) k 2 (some (20, 6, (k + 3)))) (k + 4) none) k 3 (some (20, 6, (k + 4))))) (P := True) [(.putfield 21, (6, 3, 3, 0, 0))] [] (by decide +kernel) rfl trivial ?_
  exact b_vret (by decide +kernel) rfl ⟨rfl, rfl⟩
def l_Slope (L : List (Nat × Nat)) : List (Nat × Nat) := (l_Lay (((L ++ [(20, 6)]) ++ [(20, 36)]) ++ [(3, 0)])) ++ [(20, 1600)]
def i_Slope (I : MI) (k : Nat) : MI := m_zap (i_Lay (m_zap (m_zap (m_zap I (k + 1) 0) (k + 2) 0) (k + 3) 0) (k + 3)) (k + 7) 0
def j_Slope (J : MJ) (k : Nat) : MJ := m_zap (j_Lay (m_zap (m_zap (m_zap J (k + 1) 0) (k + 2) 0) (k + 3) 0) (k + 3)) (k + 7) 0
def r_Slope (R : MRR) (k : Nat) : MRR := m_up (m_zap (m_up (r_Lay (m_zap (m_up (m_zap (m_up (m_zap R (k + 1) none) k 5 (some (20, 6, (k + 1)))) (k + 2) none) k 6 (some (20, 36, (k + 2)))) (k + 3) none) (k + 3)) k 7 (some (3, 0, (k + 3)))) (k + 7) none) k 8 (some (20, 1600, (k + 7)))
theorem len_Slope {L : List (Nat × Nat)} {n : Nat} (h : L.length = n) : (l_Slope L).length = n + 7 := by
  unfold l_Slope
  simp only [List.length_append, List.length_cons, List.length_nil, len_Tape (L := _) rfl, len_Lay (L := _) rfl, len_Log (L := _) rfl, len_Seen (L := _) rfl, len_Image (L := _) rfl, len_Reckoner (L := _) rfl, h]
theorem ok_Slope {L : List (Nat × Nat)} {v : MV} (h : m_ok L v) : m_ok (l_Slope L) v := ok_ap (ok_Lay (ok_ap (ok_ap (ok_ap (h)))))
theorem ko_Slope : Cond.methodLink (m_cn 8) 3 objectInit ∈ tw := in_tw (ws := [Cond.methodLink (m_cn 8) 3 objectInit]) (by decide +kernel) _ List.mem_cons_self
set_option maxRecDepth 100000 in
set_option maxHeartbeats 4000000 in
theorem c_Slope_init {G : MG} {L : List (Nat × Nat)} {I : MI} {J : MJ} {R : MRR} (k : Nat) (hL : L.length = k + 1) : m_met G 3 7 1695 y_Slope_init M_Slope_init [mR (8, 0, k)] (L, I, J, R) (m_is none (l_Slope L, i_Slope I k, j_Slope J k, r_Slope R k)) := by
  refine m_met_in n_Slope_init (plainFor_of_name (by decide)) (by decide) (Nat.le_of_ble_eq_true rfl) (ls := [some (mR (8, 0, k))]) rfl ?_
  refine b_blk (pc' := 1) (ls' := [some (mR (8, 0, k))]) (st' := [mR (8, 0, k)]) (S' := (L, I, J, R)) (P := True) [(.aload_n 0, (0, 0, 0, 0, 0))] [] (by decide +kernel) rfl trivial ?_
  refine b_obj (by decide +kernel) ko_Slope (by decide) (by decide) ?_
  refine b_blk (pc' := 7) (ls' := [some (mR (8, 0, k))]) (st' := [mI 6, mR (8, 0, k)]) (S' := (L, I, J, R)) (P := True) [(.aload_n 0, (0, 0, 0, 0, 0)), (.bipush 6, (0, 0, 0, 6, 0))] [] (by decide +kernel) rfl trivial ?_
  refine b_newaT (t := .int) (N := 6) (n := k + 1) (by decide +kernel) m_arr_int (by decide) (by decide) (by decide) (by decide) hL (rc' := 6) (rs' := 1689) rfl rfl ?_
  have hL1 : (L ++ [(20, 6)]).length = k + 2 := len_s hL
  refine b_blk (pc' := 15) (ls' := [some (mR (8, 0, k))]) (st' := [mI 36, mR (8, 0, k)]) (S' := (L ++ [(20, 6)], m_zap I (k + 1) 0, m_zap J (k + 1) 0, m_up (m_zap R (k + 1) none) k 5 (some (20, 6, (k + 1))))) (P := True) [(.putfield 9, (8, 5, 3, 0, 0)), (.aload_n 0, (0, 0, 0, 0, 0)), (.bipush 36, (0, 0, 0, 36, 0))] [] (by decide +kernel) rfl trivial ?_
  refine b_newaT (t := .int) (N := 36) (n := k + 2) (by decide +kernel) m_arr_int (by decide) (by decide) (by decide) (by decide) hL1 (rc' := 5) (rs' := 1653) rfl rfl ?_
  have hL2 : ((L ++ [(20, 6)]) ++ [(20, 36)]).length = k + 3 := len_s hL1
  refine b_blk (pc' := 21) (ls' := [some (mR (8, 0, k))]) (st' := [mR (8, 0, k)]) (S' := ((L ++ [(20, 6)]) ++ [(20, 36)], m_zap (m_zap I (k + 1) 0) (k + 2) 0, m_zap (m_zap J (k + 1) 0) (k + 2) 0, m_up (m_zap (m_up (m_zap R (k + 1) none) k 5 (some (20, 6, (k + 1)))) (k + 2) none) k 6 (some (20, 36, (k + 2))))) (P := True) [(.putfield 15, (8, 6, 3, 0, 0)), (.aload_n 0, (0, 0, 0, 0, 0))] [] (by decide +kernel) rfl trivial ?_
  refine b_newT (n := k + 3) (by decide +kernel) kc_8_18 m_inst3 (by decide) hL2 (rc' := 4) (rs' := 1648) rfl rfl ?_
  have hL3 : (((L ++ [(20, 6)]) ++ [(20, 36)]) ++ [(3, 0)]).length = k + 4 := len_s hL2
  refine b_blk (pc' := 25) (ls' := [some (mR (8, 0, k))]) (st' := [mR (3, 0, (k + 3)), mR (3, 0, (k + 3)), mR (8, 0, k)]) (S' := (((L ++ [(20, 6)]) ++ [(20, 36)]) ++ [(3, 0)], m_zap (m_zap (m_zap I (k + 1) 0) (k + 2) 0) (k + 3) 0, m_zap (m_zap (m_zap J (k + 1) 0) (k + 2) 0) (k + 3) 0, m_zap (m_up (m_zap (m_up (m_zap R (k + 1) none) k 5 (some (20, 6, (k + 1)))) (k + 2) none) k 6 (some (20, 36, (k + 2)))) (k + 3) none)) (P := True) [(.dup, (0, 0, 0, 0, 0))] [] (by decide +kernel) rfl trivial ?_
  refine b_cI (as := []) (st := [mR (3, 0, (k + 3)), mR (8, 0, k)]) (by decide +kernel) k_8_20 n_Lay_init rfl rfl i_Lay_init (c_Lay_init (k + 3) hL3) (Nat.le_of_ble_eq_true rfl) (by decide) (rc' := 1) (rs' := 1600) rfl rfl (fun v hv => ok_Lay hv) ?_
  have hL4 : (l_Lay (((L ++ [(20, 6)]) ++ [(20, 36)]) ++ [(3, 0)])).length = k + 7 := len_Lay hL3
  refine b_blk (pc' := 35) (ls' := [some (mR (8, 0, k))]) (st' := [mI 1600, mR (8, 0, k)]) (S' := (l_Lay (((L ++ [(20, 6)]) ++ [(20, 36)]) ++ [(3, 0)]), i_Lay (m_zap (m_zap (m_zap I (k + 1) 0) (k + 2) 0) (k + 3) 0) (k + 3), j_Lay (m_zap (m_zap (m_zap J (k + 1) 0) (k + 2) 0) (k + 3) 0) (k + 3), m_up (r_Lay (m_zap (m_up (m_zap (m_up (m_zap R (k + 1) none) k 5 (some (20, 6, (k + 1)))) (k + 2) none) k 6 (some (20, 36, (k + 2)))) (k + 3) none) (k + 3)) k 7 (some (3, 0, (k + 3))))) (P := True) [(.putfield 21, (8, 7, 3, 0, 0)), (.aload_n 0, (0, 0, 0, 0, 0)), (.sipush 1600, (0, 0, 0, 1600, 0))] [] (by decide +kernel) rfl trivial ?_
  refine b_newaT (t := .int) (N := 1600) (n := k + 7) (by decide +kernel) m_arr_int (by decide) (by decide) (by decide) (by decide) hL4 (rc' := 0) (rs' := 0) rfl rfl ?_
  have hL5 : ((l_Lay (((L ++ [(20, 6)]) ++ [(20, 36)]) ++ [(3, 0)])) ++ [(20, 1600)]).length = k + 8 := len_s hL4
  refine b_blk (pc' := 40) (ls' := [some (mR (8, 0, k))]) (st' := []) (S' := ((l_Lay (((L ++ [(20, 6)]) ++ [(20, 36)]) ++ [(3, 0)])) ++ [(20, 1600)], m_zap (i_Lay (m_zap (m_zap (m_zap I (k + 1) 0) (k + 2) 0) (k + 3) 0) (k + 3)) (k + 7) 0, m_zap (j_Lay (m_zap (m_zap (m_zap J (k + 1) 0) (k + 2) 0) (k + 3) 0) (k + 3)) (k + 7) 0, m_up (m_zap (m_up (r_Lay (m_zap (m_up (m_zap (m_up (m_zap R (k + 1) none) k 5 (some (20, 6, (k + 1)))) (k + 2) none) k 6 (some (20, 36, (k + 2)))) (k + 3) none) (k + 3)) k 7 (some (3, 0, (k + 3)))) (k + 7) none) k 8 (some (20, 1600, (k + 7))))) (P := True) [(.putfield 25, (8, 8, 3, 0, 0))] [] (by decide +kernel) rfl trivial ?_
  exact b_vret (by decide +kernel) rfl ⟨rfl, rfl⟩
def l_Walker (L : List (Nat × Nat)) : List (Nat × Nat) := l_Reckoner (L ++ [(6, 0)])
def i_Walker (I : MI) (k : Nat) : MI := i_Reckoner (m_zap I (k + 1) 0) (k + 1)
def j_Walker (J : MJ) (k : Nat) : MJ := j_Reckoner (m_zap J (k + 1) 0) (k + 1)
def r_Walker (R : MRR) (k : Nat) (a : Nat) : MRR := m_up (m_up (r_Reckoner (m_zap R (k + 1) none) (k + 1)) k 0 (some (6, 0, (k + 1)))) k 1 (some (8, 0, a))
theorem len_Walker {L : List (Nat × Nat)} {n : Nat} (h : L.length = n) : (l_Walker L).length = n + 5 := by
  unfold l_Walker
  simp only [List.length_append, List.length_cons, List.length_nil, len_Tape (L := _) rfl, len_Lay (L := _) rfl, len_Log (L := _) rfl, len_Seen (L := _) rfl, len_Image (L := _) rfl, len_Reckoner (L := _) rfl, len_Slope (L := _) rfl, h]
theorem ok_Walker {L : List (Nat × Nat)} {v : MV} (h : m_ok L v) : m_ok (l_Walker L) v := ok_Reckoner (ok_ap (h))
theorem ko_Walker : Cond.methodLink (m_cn 10) 3 objectInit ∈ tw := in_tw (ws := [Cond.methodLink (m_cn 10) 3 objectInit]) (by decide +kernel) _ List.mem_cons_self
set_option maxRecDepth 100000 in
set_option maxHeartbeats 4000000 in
theorem c_Walker_init {G : MG} {L : List (Nat × Nat)} {I : MI} {J : MJ} {R : MRR} (k : Nat) (a : Nat) (hL : L.length = k + 1) : m_met G 2 5 140 y_Walker_init M_Walker_init [mR (10, 0, k), mR (8, 0, a)] (L, I, J, R) (m_is none (l_Walker L, i_Walker I k, j_Walker J k, r_Walker R k a)) := by
  refine m_met_in n_Walker_init (plainFor_of_name (by decide)) (by decide) (Nat.le_of_ble_eq_true rfl) (ls := [some (mR (10, 0, k)), some (mR (8, 0, a))]) rfl ?_
  refine b_blk (pc' := 1) (ls' := [some (mR (10, 0, k)), some (mR (8, 0, a))]) (st' := [mR (10, 0, k)]) (S' := (L, I, J, R)) (P := True) [(.aload_n 0, (0, 0, 0, 0, 0))] [] (by decide +kernel) rfl trivial ?_
  refine b_obj (by decide +kernel) ko_Walker (by decide) (by decide) ?_
  refine b_blk (pc' := 5) (ls' := [some (mR (10, 0, k)), some (mR (8, 0, a))]) (st' := [mR (10, 0, k)]) (S' := (L, I, J, R)) (P := True) [(.aload_n 0, (0, 0, 0, 0, 0))] [] (by decide +kernel) rfl trivial ?_
  refine b_newT (n := k + 1) (by decide +kernel) kc_10_9 m_inst6 (by decide) hL (rc' := 4) (rs' := 136) rfl rfl ?_
  have hL1 : (L ++ [(6, 0)]).length = k + 2 := len_s hL
  refine b_blk (pc' := 9) (ls' := [some (mR (10, 0, k)), some (mR (8, 0, a))]) (st' := [mR (6, 0, (k + 1)), mR (6, 0, (k + 1)), mR (10, 0, k)]) (S' := (L ++ [(6, 0)], m_zap I (k + 1) 0, m_zap J (k + 1) 0, m_zap R (k + 1) none)) (P := True) [(.dup, (0, 0, 0, 0, 0))] [] (by decide +kernel) rfl trivial ?_
  refine b_cIN (as := []) (st := [mR (6, 0, (k + 1)), mR (10, 0, k)]) (by decide +kernel) k_10_11 n_Reckoner_init rfl rfl i_Reckoner_init (c_Reckoner_init (k + 1) hL1) (Nat.le_of_ble_eq_true rfl) (by decide) (rc' := 0) (rs' := 0) rfl rfl (fun v hv => ok_Reckoner hv) ?_
  have hL2 : (l_Reckoner (L ++ [(6, 0)])).length = k + 6 := len_Reckoner hL1
  refine b_blk (pc' := 20) (ls' := [some (mR (10, 0, k)), some (mR (8, 0, a))]) (st' := []) (S' := (l_Reckoner (L ++ [(6, 0)]), i_Reckoner (m_zap I (k + 1) 0) (k + 1), j_Reckoner (m_zap J (k + 1) 0) (k + 1), m_up (m_up (r_Reckoner (m_zap R (k + 1) none) (k + 1)) k 0 (some (6, 0, (k + 1)))) k 1 (some (8, 0, a)))) (P := True) [(.putfield 12, (10, 0, 3, 0, 0)), (.aload_n 0, (0, 0, 0, 0, 0)), (.aload_n 1, (0, 0, 0, 0, 0)), (.putfield 18, (10, 1, 3, 0, 0))] [] (by decide +kernel) rfl trivial ?_
  exact b_vret (by decide +kernel) rfl ⟨rfl, rfl⟩
def l_Reader (L : List (Nat × Nat)) : List (Nat × Nat) := L
def i_Reader (I : MI) (k : Nat) : MI := m_up I k 2 (-1)
def j_Reader (J : MJ) (k : Nat) : MJ := J
def r_Reader (R : MRR) (k : Nat) (a : Nat) (b : Nat) : MRR := m_up (m_up R k 0 (some (9, 0, a))) k 4 (some (8, 0, b))
theorem len_Reader {L : List (Nat × Nat)} {n : Nat} (h : L.length = n) : (l_Reader L).length = n + 0 := h
theorem ok_Reader {L : List (Nat × Nat)} {v : MV} (h : m_ok L v) : m_ok (l_Reader L) v := h
theorem ko_Reader : Cond.methodLink (m_cn 5) 3 objectInit ∈ tw := in_tw (ws := [Cond.methodLink (m_cn 5) 3 objectInit]) (by decide +kernel) _ List.mem_cons_self
set_option maxRecDepth 100000 in
set_option maxHeartbeats 4000000 in
theorem c_Reader_init {G : MG} {L : List (Nat × Nat)} {I : MI} {J : MJ} {R : MRR} (k : Nat) (a : Nat) (b : Nat) (hL : L.length = k + 1) : m_met G 1 0 0 y_Reader_init M_Reader_init [mR (5, 0, k), mR (9, 0, a), mR (8, 0, b)] (L, I, J, R) (m_is none (l_Reader L, i_Reader I k, j_Reader J k, r_Reader R k a b)) := by
  refine m_met_in n_Reader_init (plainFor_of_name (by decide)) (by decide) (Nat.le_of_ble_eq_true rfl) (ls := [some (mR (5, 0, k)), some (mR (9, 0, a)), some (mR (8, 0, b))]) rfl ?_
  refine b_blk (pc' := 1) (ls' := [some (mR (5, 0, k)), some (mR (9, 0, a)), some (mR (8, 0, b))]) (st' := [mR (5, 0, k)]) (S' := (L, I, J, R)) (P := True) [(.aload_n 0, (0, 0, 0, 0, 0))] [] (by decide +kernel) rfl trivial ?_
  refine b_obj (by decide +kernel) ko_Reader (by decide) (by decide) ?_
  refine b_blk (pc' := 19) (ls' := [some (mR (5, 0, k)), some (mR (9, 0, a)), some (mR (8, 0, b))]) (st' := []) (S' := (L, m_up I k 2 (-1), J, m_up (m_up R k 0 (some (9, 0, a))) k 4 (some (8, 0, b)))) (P := True) [(.aload_n 0, (0, 0, 0, 0, 0)), (.iconst (-1), (0, 0, 0, (-1), 0)), (.putfield 9, (5, 2, 0, 0, 0)), (.aload_n 0, (0, 0, 0, 0, 0)), (.aload_n 1, (0, 0, 0, 0, 0)), (.putfield 15, (5, 0, 3, 0, 0)), (.aload_n 0, (0, 0, 0, 0, 0)), (.aload_n 2, (0, 0, 0, 0, 0)), (.putfield 19, (5, 4, 3, 0, 0))] [] (by decide +kernel) rfl trivial ?_
  exact b_vret (by decide +kernel) rfl ⟨rfl, rfl⟩
def l_Foresight (L : List (Nat × Nat)) : List (Nat × Nat) := ((l_Lay ((l_Lay ((l_Lay (L ++ [(3, 0)])) ++ [(3, 0)])) ++ [(3, 0)])) ++ [(20, 6)]) ++ [(20, 1260)]
def i_Foresight (I : MI) (k : Nat) : MI := m_up (m_zap (m_zap (i_Lay (m_zap (i_Lay (m_zap (i_Lay (m_zap I (k + 1) 0) (k + 1)) (k + 5) 0) (k + 5)) (k + 9) 0) (k + 9)) (k + 13) 0) (k + 14) 0) k 7 (-1)
def j_Foresight (J : MJ) (k : Nat) : MJ := m_zap (m_zap (j_Lay (m_zap (j_Lay (m_zap (j_Lay (m_zap J (k + 1) 0) (k + 1)) (k + 5) 0) (k + 5)) (k + 9) 0) (k + 9)) (k + 13) 0) (k + 14) 0
def r_Foresight (R : MRR) (k : Nat) (a : Nat) (b : Nat) : MRR := m_up (m_up (m_up (m_zap (m_up (m_zap (m_up (r_Lay (m_zap (m_up (r_Lay (m_zap (m_up (r_Lay (m_zap R (k + 1) none) (k + 1)) k 2 (some (3, 0, (k + 1)))) (k + 5) none) (k + 5)) k 3 (some (3, 0, (k + 5)))) (k + 9) none) (k + 9)) k 4 (some (3, 0, (k + 9)))) (k + 13) none) k 5 (some (20, 6, (k + 13)))) (k + 14) none) k 6 (some (20, 1260, (k + 14)))) k 0 (some (3, 0, a))) k 1 (some (10, 0, b))
theorem len_Foresight {L : List (Nat × Nat)} {n : Nat} (h : L.length = n) : (l_Foresight L).length = n + 14 := by
  unfold l_Foresight
  simp only [List.length_append, List.length_cons, List.length_nil, len_Tape (L := _) rfl, len_Lay (L := _) rfl, len_Log (L := _) rfl, len_Seen (L := _) rfl, len_Image (L := _) rfl, len_Reckoner (L := _) rfl, len_Slope (L := _) rfl, len_Walker (L := _) rfl, len_Reader (L := _) rfl, h]
theorem ok_Foresight {L : List (Nat × Nat)} {v : MV} (h : m_ok L v) : m_ok (l_Foresight L) v := ok_ap (ok_ap (ok_Lay (ok_ap (ok_Lay (ok_ap (ok_Lay (ok_ap (h))))))))
theorem ko_Foresight : Cond.methodLink (m_cn 0) 3 objectInit ∈ tw := in_tw (ws := [Cond.methodLink (m_cn 0) 3 objectInit]) (by decide +kernel) _ List.mem_cons_self
set_option maxRecDepth 100000 in
set_option maxHeartbeats 4000000 in
theorem c_Foresight_init {G : MG} {L : List (Nat × Nat)} {I : MI} {J : MJ} {R : MRR} (k : Nat) (a : Nat) (b : Nat) (hL : L.length = k + 1) : m_met G 3 14 1425 y_Foresight_init M_Foresight_init [mR (0, 0, k), mR (3, 0, a), mR (10, 0, b)] (L, I, J, R) (m_is none (l_Foresight L, i_Foresight I k, j_Foresight J k, r_Foresight R k a b)) := by
  refine m_met_in n_Foresight_init (plainFor_of_name (by decide)) (by decide) (Nat.le_of_ble_eq_true rfl) (ls := [some (mR (0, 0, k)), some (mR (3, 0, a)), some (mR (10, 0, b))]) rfl ?_
  refine b_blk (pc' := 1) (ls' := [some (mR (0, 0, k)), some (mR (3, 0, a)), some (mR (10, 0, b))]) (st' := [mR (0, 0, k)]) (S' := (L, I, J, R)) (P := True) [(.aload_n 0, (0, 0, 0, 0, 0))] [] (by decide +kernel) rfl trivial ?_
  refine b_obj (by decide +kernel) ko_Foresight (by decide) (by decide) ?_
  refine b_blk (pc' := 5) (ls' := [some (mR (0, 0, k)), some (mR (3, 0, a)), some (mR (10, 0, b))]) (st' := [mR (0, 0, k)]) (S' := (L, I, J, R)) (P := True) [(.aload_n 0, (0, 0, 0, 0, 0))] [] (by decide +kernel) rfl trivial ?_
  refine b_newT (n := k + 1) (by decide +kernel) kc_0_9 m_inst3 (by decide) hL (rc' := 13) (rs' := 1420) rfl rfl ?_
  have hL1 : (L ++ [(3, 0)]).length = k + 2 := len_s hL
  refine b_blk (pc' := 9) (ls' := [some (mR (0, 0, k)), some (mR (3, 0, a)), some (mR (10, 0, b))]) (st' := [mR (3, 0, (k + 1)), mR (3, 0, (k + 1)), mR (0, 0, k)]) (S' := (L ++ [(3, 0)], m_zap I (k + 1) 0, m_zap J (k + 1) 0, m_zap R (k + 1) none)) (P := True) [(.dup, (0, 0, 0, 0, 0))] [] (by decide +kernel) rfl trivial ?_
  refine b_cI (as := []) (st := [mR (3, 0, (k + 1)), mR (0, 0, k)]) (by decide +kernel) k_0_11 n_Lay_init rfl rfl i_Lay_init (c_Lay_init (k + 1) hL1) (Nat.le_of_ble_eq_true rfl) (by decide) (rc' := 10) (rs' := 1372) rfl rfl (fun v hv => ok_Lay hv) ?_
  have hL2 : (l_Lay (L ++ [(3, 0)])).length = k + 5 := len_Lay hL1
  refine b_blk (pc' := 16) (ls' := [some (mR (0, 0, k)), some (mR (3, 0, a)), some (mR (10, 0, b))]) (st' := [mR (0, 0, k)]) (S' := (l_Lay (L ++ [(3, 0)]), i_Lay (m_zap I (k + 1) 0) (k + 1), j_Lay (m_zap J (k + 1) 0) (k + 1), m_up (r_Lay (m_zap R (k + 1) none) (k + 1)) k 2 (some (3, 0, (k + 1))))) (P := True) [(.putfield 12, (0, 2, 3, 0, 0)), (.aload_n 0, (0, 0, 0, 0, 0))] [] (by decide +kernel) rfl trivial ?_
  refine b_newT (n := k + 5) (by decide +kernel) kc_0_9 m_inst3 (by decide) hL2 (rc' := 9) (rs' := 1367) rfl rfl ?_
  have hL3 : ((l_Lay (L ++ [(3, 0)])) ++ [(3, 0)]).length = k + 6 := len_s hL2
  refine b_blk (pc' := 20) (ls' := [some (mR (0, 0, k)), some (mR (3, 0, a)), some (mR (10, 0, b))]) (st' := [mR (3, 0, (k + 5)), mR (3, 0, (k + 5)), mR (0, 0, k)]) (S' := ((l_Lay (L ++ [(3, 0)])) ++ [(3, 0)], m_zap (i_Lay (m_zap I (k + 1) 0) (k + 1)) (k + 5) 0, m_zap (j_Lay (m_zap J (k + 1) 0) (k + 1)) (k + 5) 0, m_zap (m_up (r_Lay (m_zap R (k + 1) none) (k + 1)) k 2 (some (3, 0, (k + 1)))) (k + 5) none)) (P := True) [(.dup, (0, 0, 0, 0, 0))] [] (by decide +kernel) rfl trivial ?_
  refine b_cI (as := []) (st := [mR (3, 0, (k + 5)), mR (0, 0, k)]) (by decide +kernel) k_0_11 n_Lay_init rfl rfl i_Lay_init (c_Lay_init (k + 5) hL3) (Nat.le_of_ble_eq_true rfl) (by decide) (rc' := 6) (rs' := 1319) rfl rfl (fun v hv => ok_Lay hv) ?_
  have hL4 : (l_Lay ((l_Lay (L ++ [(3, 0)])) ++ [(3, 0)])).length = k + 9 := len_Lay hL3
  refine b_blk (pc' := 27) (ls' := [some (mR (0, 0, k)), some (mR (3, 0, a)), some (mR (10, 0, b))]) (st' := [mR (0, 0, k)]) (S' := (l_Lay ((l_Lay (L ++ [(3, 0)])) ++ [(3, 0)]), i_Lay (m_zap (i_Lay (m_zap I (k + 1) 0) (k + 1)) (k + 5) 0) (k + 5), j_Lay (m_zap (j_Lay (m_zap J (k + 1) 0) (k + 1)) (k + 5) 0) (k + 5), m_up (r_Lay (m_zap (m_up (r_Lay (m_zap R (k + 1) none) (k + 1)) k 2 (some (3, 0, (k + 1)))) (k + 5) none) (k + 5)) k 3 (some (3, 0, (k + 5))))) (P := True) [(.putfield 18, (0, 3, 3, 0, 0)), (.aload_n 0, (0, 0, 0, 0, 0))] [] (by decide +kernel) rfl trivial ?_
  refine b_newT (n := k + 9) (by decide +kernel) kc_0_9 m_inst3 (by decide) hL4 (rc' := 5) (rs' := 1314) rfl rfl ?_
  have hL5 : ((l_Lay ((l_Lay (L ++ [(3, 0)])) ++ [(3, 0)])) ++ [(3, 0)]).length = k + 10 := len_s hL4
  refine b_blk (pc' := 31) (ls' := [some (mR (0, 0, k)), some (mR (3, 0, a)), some (mR (10, 0, b))]) (st' := [mR (3, 0, (k + 9)), mR (3, 0, (k + 9)), mR (0, 0, k)]) (S' := ((l_Lay ((l_Lay (L ++ [(3, 0)])) ++ [(3, 0)])) ++ [(3, 0)], m_zap (i_Lay (m_zap (i_Lay (m_zap I (k + 1) 0) (k + 1)) (k + 5) 0) (k + 5)) (k + 9) 0, m_zap (j_Lay (m_zap (j_Lay (m_zap J (k + 1) 0) (k + 1)) (k + 5) 0) (k + 5)) (k + 9) 0, m_zap (m_up (r_Lay (m_zap (m_up (r_Lay (m_zap R (k + 1) none) (k + 1)) k 2 (some (3, 0, (k + 1)))) (k + 5) none) (k + 5)) k 3 (some (3, 0, (k + 5)))) (k + 9) none)) (P := True) [(.dup, (0, 0, 0, 0, 0))] [] (by decide +kernel) rfl trivial ?_
  refine b_cI (as := []) (st := [mR (3, 0, (k + 9)), mR (0, 0, k)]) (by decide +kernel) k_0_11 n_Lay_init rfl rfl i_Lay_init (c_Lay_init (k + 9) hL5) (Nat.le_of_ble_eq_true rfl) (by decide) (rc' := 2) (rs' := 1266) rfl rfl (fun v hv => ok_Lay hv) ?_
  have hL6 : (l_Lay ((l_Lay ((l_Lay (L ++ [(3, 0)])) ++ [(3, 0)])) ++ [(3, 0)])).length = k + 13 := len_Lay hL5
  refine b_blk (pc' := 40) (ls' := [some (mR (0, 0, k)), some (mR (3, 0, a)), some (mR (10, 0, b))]) (st' := [mI 6, mR (0, 0, k)]) (S' := (l_Lay ((l_Lay ((l_Lay (L ++ [(3, 0)])) ++ [(3, 0)])) ++ [(3, 0)]), i_Lay (m_zap (i_Lay (m_zap (i_Lay (m_zap I (k + 1) 0) (k + 1)) (k + 5) 0) (k + 5)) (k + 9) 0) (k + 9), j_Lay (m_zap (j_Lay (m_zap (j_Lay (m_zap J (k + 1) 0) (k + 1)) (k + 5) 0) (k + 5)) (k + 9) 0) (k + 9), m_up (r_Lay (m_zap (m_up (r_Lay (m_zap (m_up (r_Lay (m_zap R (k + 1) none) (k + 1)) k 2 (some (3, 0, (k + 1)))) (k + 5) none) (k + 5)) k 3 (some (3, 0, (k + 5)))) (k + 9) none) (k + 9)) k 4 (some (3, 0, (k + 9))))) (P := True) [(.putfield 21, (0, 4, 3, 0, 0)), (.aload_n 0, (0, 0, 0, 0, 0)), (.bipush 6, (0, 0, 0, 6, 0))] [] (by decide +kernel) rfl trivial ?_
  refine b_newaT (t := .int) (N := 6) (n := k + 13) (by decide +kernel) m_arr_int (by decide) (by decide) (by decide) (by decide) hL6 (rc' := 1) (rs' := 1260) rfl rfl ?_
  have hL7 : ((l_Lay ((l_Lay ((l_Lay (L ++ [(3, 0)])) ++ [(3, 0)])) ++ [(3, 0)])) ++ [(20, 6)]).length = k + 14 := len_s hL6
  refine b_blk (pc' := 49) (ls' := [some (mR (0, 0, k)), some (mR (3, 0, a)), some (mR (10, 0, b))]) (st' := [mI 1260, mR (0, 0, k)]) (S' := ((l_Lay ((l_Lay ((l_Lay (L ++ [(3, 0)])) ++ [(3, 0)])) ++ [(3, 0)])) ++ [(20, 6)], m_zap (i_Lay (m_zap (i_Lay (m_zap (i_Lay (m_zap I (k + 1) 0) (k + 1)) (k + 5) 0) (k + 5)) (k + 9) 0) (k + 9)) (k + 13) 0, m_zap (j_Lay (m_zap (j_Lay (m_zap (j_Lay (m_zap J (k + 1) 0) (k + 1)) (k + 5) 0) (k + 5)) (k + 9) 0) (k + 9)) (k + 13) 0, m_up (m_zap (m_up (r_Lay (m_zap (m_up (r_Lay (m_zap (m_up (r_Lay (m_zap R (k + 1) none) (k + 1)) k 2 (some (3, 0, (k + 1)))) (k + 5) none) (k + 5)) k 3 (some (3, 0, (k + 5)))) (k + 9) none) (k + 9)) k 4 (some (3, 0, (k + 9)))) (k + 13) none) k 5 (some (20, 6, (k + 13))))) (P := True) [(.putfield 24, (0, 5, 3, 0, 0)), (.aload_n 0, (0, 0, 0, 0, 0)), (.sipush 1260, (0, 0, 0, 1260, 0))] [] (by decide +kernel) rfl trivial ?_
  refine b_newaT (t := .int) (N := 1260) (n := k + 14) (by decide +kernel) m_arr_int (by decide) (by decide) (by decide) (by decide) hL7 (rc' := 0) (rs' := 0) rfl rfl ?_
  have hL8 : (((l_Lay ((l_Lay ((l_Lay (L ++ [(3, 0)])) ++ [(3, 0)])) ++ [(3, 0)])) ++ [(20, 6)]) ++ [(20, 1260)]).length = k + 15 := len_s hL7
  refine b_blk (pc' := 69) (ls' := [some (mR (0, 0, k)), some (mR (3, 0, a)), some (mR (10, 0, b))]) (st' := []) (S' := (((l_Lay ((l_Lay ((l_Lay (L ++ [(3, 0)])) ++ [(3, 0)])) ++ [(3, 0)])) ++ [(20, 6)]) ++ [(20, 1260)], m_up (m_zap (m_zap (i_Lay (m_zap (i_Lay (m_zap (i_Lay (m_zap I (k + 1) 0) (k + 1)) (k + 5) 0) (k + 5)) (k + 9) 0) (k + 9)) (k + 13) 0) (k + 14) 0) k 7 (-1), m_zap (m_zap (j_Lay (m_zap (j_Lay (m_zap (j_Lay (m_zap J (k + 1) 0) (k + 1)) (k + 5) 0) (k + 5)) (k + 9) 0) (k + 9)) (k + 13) 0) (k + 14) 0, m_up (m_up (m_up (m_zap (m_up (m_zap (m_up (r_Lay (m_zap (m_up (r_Lay (m_zap (m_up (r_Lay (m_zap R (k + 1) none) (k + 1)) k 2 (some (3, 0, (k + 1)))) (k + 5) none) (k + 5)) k 3 (some (3, 0, (k + 5)))) (k + 9) none) (k + 9)) k 4 (some (3, 0, (k + 9)))) (k + 13) none) k 5 (some (20, 6, (k + 13)))) (k + 14) none) k 6 (some (20, 1260, (k + 14)))) k 0 (some (3, 0, a))) k 1 (some (10, 0, b)))) (P := True) [(.putfield 28, (0, 6, 3, 0, 0)), (.aload_n 0, (0, 0, 0, 0, 0)), (.iconst (-1), (0, 0, 0, (-1), 0)), (.putfield 31, (0, 7, 0, 0, 0)), (.aload_n 0, (0, 0, 0, 0, 0)), (.aload_n 1, (0, 0, 0, 0, 0)), (.putfield 35, (0, 0, 3, 0, 0)), (.aload_n 0, (0, 0, 0, 0, 0)), (.aload_n 2, (0, 0, 0, 0, 0)), (.putfield 38, (0, 1, 3, 0, 0))] [] (by decide +kernel) rfl trivial ?_
  exact b_vret (by decide +kernel) rfl ⟨rfl, rfl⟩
