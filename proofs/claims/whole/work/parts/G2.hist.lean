/-! History.<init> -/
def l_Hs (L : List (Nat × Nat)) : Nat → List (Nat × Nat)
  | 0 => (L ++ [(25, 20)]) ++ [(26, 20)]
  | i + 1 => l_Log (l_Lay (l_Hs L i ++ [(3, 0)]) ++ [(4, 0)])
def i_Hs (I : MI) (k : Nat) : Nat → MI
  | 0 => m_zap (m_zap I (k + 1) 0) (k + 2) 0
  | i + 1 => i_Log (m_zap (i_Lay (m_zap (i_Hs I k i) (k + 3 + 6 * i) 0) (k + 3 + 6 * i)) (k + 3 + 6 * i + 4) 0) (k + 3 + 6 * i + 4)
def j_Hs (J : MJ) (k : Nat) : Nat → MJ
  | 0 => m_zap (m_zap J (k + 1) 0) (k + 2) 0
  | i + 1 => j_Log (m_zap (j_Lay (m_zap (j_Hs J k i) (k + 3 + 6 * i) 0) (k + 3 + 6 * i)) (k + 3 + 6 * i + 4) 0) (k + 3 + 6 * i + 4)
def r_Hs (R : MRR) (k : Nat) : Nat → MRR
  | 0 => m_up (m_zap (m_up (m_zap R (k + 1) none) k 0 (some (25, 20, k + 1))) (k + 2) none) k 1 (some (26, 20, k + 2))
  | i + 1 => m_up (r_Log (m_zap (m_up (r_Lay (m_zap (r_Hs R k i) (k + 3 + 6 * i) none) (k + 3 + 6 * i)) (k + 1) i (some (3, 0, k + 3 + 6 * i))) (k + 3 + 6 * i + 4) none) (k + 3 + 6 * i + 4)) (k + 2) i (some (4, 0, k + 3 + 6 * i + 4))
def l_History (L : List (Nat × Nat)) : List (Nat × Nat) := l_Hs L 20
def i_History (I : MI) (k : Nat) : MI := i_Hs I k 20
def j_History (J : MJ) (k : Nat) : MJ := j_Hs J k 20
def r_History (R : MRR) (k : Nat) : MRR := r_Hs R k 20
section GI2
variable {G : MG} {R0 : Room} {Q : Option MV → MS → Prop} {L : List (Nat × Nat)} {I : MI} {J : MJ} {R : MRR} {k n i rc rs : Nat}
theorem len_Hs (h : L.length = n) : ∀ i, (l_Hs L i).length = n + 2 + 6 * i := by
  intro i
  induction i with
  | zero => exact len_s (len_s h)
  | succ i ih =>
    have := len_Log (len_s (q := (4, 0)) (len_Lay (len_s (q := (3, 0)) ih)))
    show (l_Log (l_Lay (l_Hs L i ++ [(3, 0)]) ++ [(4, 0)])).length = _
    rw [this]; omega
theorem len_History (h : L.length = n) : (l_History L).length = n + 122 := len_Hs h 20
theorem ok_Hs {v : MV} (h : m_ok L v) : ∀ i, m_ok (l_Hs L i) v := by
  intro i
  induction i with
  | zero => exact ok_ap (ok_ap h)
  | succ i ih => exact ok_Log (ok_ap (ok_Lay (ok_ap ih)))
theorem ok_History {v : MV} (h : m_ok L v) : m_ok (l_History L) v := ok_Hs h 20
theorem zp_k {α : Type} (f : Nat → Nat → α) (v : α) {a b : Nat} (h : a ≠ b) : m_zap f b v a = f a := m_zap_ne h
theorem rLay_k {x : Nat} (h : x < k) : r_Lay R k x = R x := by
  unfold r_Lay
  rw [up_k _ _ _ (by omega), zp_k _ _ (by omega), up_k _ _ _ (by omega), zp_k _ _ (by omega), up_k _ _ _ (by omega), zp_k _ _ (by omega)]
theorem rLog_k {x : Nat} (h : x < k) : r_Log R k x = R x := by
  unfold r_Log
  rw [up_k _ _ _ (by omega), zp_k _ _ (by omega)]
theorem rHs_k : ∀ i, r_Hs R k i k 0 = some (25, 20, k + 1) ∧ r_Hs R k i k 1 = some (26, 20, k + 2) := by
  intro i
  induction i with
  | zero =>
    refine ⟨?_, up_e _ _ _ _⟩
    unfold r_Hs
    rw [up_j _ _ _ (by decide), zp_k _ _ (by omega), up_e]
  | succ i ih =>
    have e : r_Hs R k (i + 1) k = r_Hs R k i k := by
      show m_up _ _ _ _ k = _
      rw [up_k _ _ _ (by omega), rLog_k (by omega), zp_k _ _ (by omega), up_k _ _ _ (by omega), rLay_k (by omega), zp_k _ _ (by omega)]
    rw [e]; exact ih
set_option maxRecDepth 100000 in
set_option maxHeartbeats 4000000 in
theorem his_it {d : Nat} (hi : i < 20) (hL : L.length = n) (hn : k + 2 < n) (h0 : R k 0 = some (25, 20, k + 1)) (h1 : R k 1 = some (26, 20, k + 2)) (h : m_B G (m_rm 3 122 1960) M_History_init Q rc rs 24 [some (mR (1, 0, k)), some (mI (nI (i + 1)))] [] (l_Log (l_Lay (L ++ [(3, 0)]) ++ [(4, 0)]), i_Log (m_zap (i_Lay (m_zap I n 0) n) (n + 4) 0) (n + 4), j_Log (m_zap (j_Lay (m_zap J n 0) n) (n + 4) 0) (n + 4), m_up (r_Log (m_zap (m_up (r_Lay (m_zap R n none) n) (k + 1) i (some (3, 0, n))) (n + 4) none) (n + 4)) (k + 2) i (some (4, 0, n + 4)))) :
    m_B G (m_rm 3 122 1960) M_History_init Q (rc + 6) (rs + 96) 24 [some (mR (1, 0, k)), some (mI (nI i))] [] (L, I, J, R) := by
  have c := nI_clamp (n := i) (by omega)
  have hv : vp_in (nI i) 20 := in_n (n := 20) (by decide) (nI_pos (by omega)) (nI_ge hi (by decide))
  refine b_blk (pc' := 27) (ls' := [some (mR (1, 0, k)), some (mI (nI i))]) (st' := [mI 20, mI (nI i)]) (S' := (L, I, J, R)) (P := True) [(.iload_n 1, (0, 0, 0, 0, 0)), (.bipush 20, (0, 0, 0, 20, 0))] [] (by decide +kernel) rfl trivial ?_
  refine b_icmp_ge (off := 35) (tgt := 62) (by decide +kernel) (by decide) (fun z => absurd z (show ¬ (20 : Int32) ≤ nI i from nI_ge (b := 20) hi (by decide))) (fun _ => ?_)
  refine b_blk (pc' := 35) (ls' := [some (mR (1, 0, k)), some (mI (nI i))]) (st' := [mI (nI i), mR (25, 20, k + 1)]) (S' := (L, I, J, R)) (P := True ∧ R k 0 = some (25, 20, k + 1)) [(.aload_n 0, (0, 0, 0, 0, 0)), (.getfield 11, (1, 0, 3, 0, 0)), (.iload_n 1, (0, 0, 0, 0, 0))] [some (25, 20, k + 1)] (by decide +kernel) rfl ⟨trivial, h0⟩ ?_
  refine b_newT (n := n) (by decide +kernel) kc_1_9 m_inst3 (by decide) hL (rc' := rc + 5) (rs' := rs + 91) rfl rfl ?_
  refine b_blk (pc' := 39) (ls' := [some (mR (1, 0, k)), some (mI (nI i))]) (st' := [mR (3, 0, n), mR (3, 0, n), mI (nI i), mR (25, 20, k + 1)]) (S' := (L ++ [(3, 0)], m_zap I n 0, m_zap J n 0, m_zap R n none)) (P := True) [(.dup, (0, 0, 0, 0, 0))] [] (by decide +kernel) rfl trivial ?_
  refine b_cI (as := []) (st := [mR (3, 0, n), mI (nI i), mR (25, 20, k + 1)]) (by decide +kernel) k_1_23 n_Lay_init rfl rfl i_Lay_init (c_Lay_init n (len_s hL)) (Nat.le_of_ble_eq_true rfl) (by decide) (rc' := rc + 2) (rs' := rs + 43) rfl rfl (fun v hv => ok_Lay hv) ?_
  refine b_blk (pc' := 48) (ls' := [some (mR (1, 0, k)), some (mI (nI i))]) (st' := [mI (nI i), mR (26, 20, k + 2)]) (S' := (l_Lay (L ++ [(3, 0)]), i_Lay (m_zap I n 0) n, j_Lay (m_zap J n 0) n, m_up (r_Lay (m_zap R n none) n) (k + 1) (nI i).toNatClampNeg (some (3, 0, n)))) (P := (True ∧ vp_in (nI i) 20) ∧ m_up (r_Lay (m_zap R n none) n) (k + 1) (nI i).toNatClampNeg (some (3, 0, n)) k 1 = some (26, 20, k + 2)) [(.aastore, (0, 0, 0, 0, 0)), (.aload_n 0, (0, 0, 0, 0, 0)), (.getfield 19, (1, 1, 3, 0, 0)), (.iload_n 1, (0, 0, 0, 0, 0))] [some (26, 20, k + 2)] (by decide +kernel) rfl ⟨⟨trivial, hv⟩, by rw [up_k _ _ _ (by omega), rLay_k (by omega), zp_k _ _ (by omega)]; exact h1⟩ ?_
  refine b_newT (n := n + 4) (by decide +kernel) kc_1_17 m_inst4 (by decide) (len_Lay (len_s hL)) (rc' := rc + 1) (rs' := rs + 40) rfl rfl ?_
  refine b_blk (pc' := 52) (ls' := [some (mR (1, 0, k)), some (mI (nI i))]) (st' := [mR (4, 0, n + 4), mR (4, 0, n + 4), mI (nI i), mR (26, 20, k + 2)]) (S' := (l_Lay (L ++ [(3, 0)]) ++ [(4, 0)], m_zap (i_Lay (m_zap I n 0) n) (n + 4) 0, m_zap (j_Lay (m_zap J n 0) n) (n + 4) 0, m_zap (m_up (r_Lay (m_zap R n none) n) (k + 1) (nI i).toNatClampNeg (some (3, 0, n))) (n + 4) none)) (P := True) [(.dup, (0, 0, 0, 0, 0))] [] (by decide +kernel) rfl trivial ?_
  refine b_cIN (as := []) (st := [mR (4, 0, n + 4), mI (nI i), mR (26, 20, k + 2)]) (by decide +kernel) k_1_24 n_Log_init rfl rfl i_Log_init (c_Log_init (n + 4) (len_s (len_Lay (len_s hL)))) (Nat.le_of_ble_eq_true rfl) (by decide) (rc' := rc) (rs' := rs) rfl rfl (fun v hv => ok_Log hv) ?_
  refine b_blk (pc' := 24) (ls' := [some (mR (1, 0, k)), some (mI (nI i + 1))]) (st' := []) (S' := (l_Log (l_Lay (L ++ [(3, 0)]) ++ [(4, 0)]), i_Log (m_zap (i_Lay (m_zap I n 0) n) (n + 4) 0) (n + 4), j_Log (m_zap (j_Lay (m_zap J n 0) n) (n + 4) 0) (n + 4), m_up (r_Log (m_zap (m_up (r_Lay (m_zap R n none) n) (k + 1) (nI i).toNatClampNeg (some (3, 0, n))) (n + 4) none) (n + 4)) (k + 2) (nI i).toNatClampNeg (some (4, 0, n + 4)))) (P := True ∧ vp_in (nI i) 20) [(.aastore, (0, 0, 0, 0, 0)), (.iinc 1 1, (0, 0, 0, 1, 0)), (.goto (-35), (0, 24, 0, 0, 0))] [] (by decide +kernel) rfl ⟨trivial, hv⟩ ?_
  rw [nI_s, c]
  exact h
theorem ko_History : Cond.methodLink (m_cn 1) 3 objectInit ∈ tw := in_tw (ws := [Cond.methodLink (m_cn 1) 3 objectInit]) (by decide +kernel) _ List.mem_cons_self
set_option maxRecDepth 100000 in
set_option maxHeartbeats 4000000 in
theorem c_History_init (k : Nat) (hL : L.length = k + 1) : m_met G 3 122 1960 y_History_init M_History_init [mR (1, 0, k)] (L, I, J, R) (m_is none (l_History L, i_History I k, j_History J k, r_History R k)) := by
  refine m_met_in n_History_init (plainFor_of_name (by decide)) (by decide) (Nat.le_of_ble_eq_true rfl) (ls := [some (mR (1, 0, k)), none]) rfl ?_
  refine b_blk (pc' := 1) (ls' := [some (mR (1, 0, k)), none]) (st' := [mR (1, 0, k)]) (S' := (L, I, J, R)) (P := True) [(.aload_n 0, (0, 0, 0, 0, 0))] [] (by decide +kernel) rfl trivial ?_
  refine b_obj (by decide +kernel) ko_History (by decide) (by decide) ?_
  refine b_blk (pc' := 7) (ls' := [some (mR (1, 0, k)), none]) (st' := [mI 20, mR (1, 0, k)]) (S' := (L, I, J, R)) (P := True) [(.aload_n 0, (0, 0, 0, 0, 0)), (.bipush 20, (0, 0, 0, 20, 0))] [] (by decide +kernel) rfl trivial ?_
  refine b_anewT (kd := 25) (c := 3) (N := 20) (n := k + 1) (by decide +kernel) kc_1_9 (Or.inl ⟨rfl, rfl⟩) (by decide) (by decide) (by decide) hL (rc' := 121) (rs' := 1940) rfl rfl ?_
  refine b_blk (pc' := 16) (ls' := [some (mR (1, 0, k)), none]) (st' := [mI 20, mR (1, 0, k)]) (S' := (L ++ [(25, 20)], m_zap I (k + 1) 0, m_zap J (k + 1) 0, m_up (m_zap R (k + 1) none) k 0 (some (25, 20, k + 1)))) (P := True) [(.putfield 11, (1, 0, 3, 0, 0)), (.aload_n 0, (0, 0, 0, 0, 0)), (.bipush 20, (0, 0, 0, 20, 0))] [] (by decide +kernel) rfl trivial ?_
  refine b_anewT (kd := 26) (c := 4) (N := 20) (n := k + 2) (by decide +kernel) kc_1_17 (Or.inr ⟨rfl, rfl⟩) (by decide) (by decide) (by decide) (len_s hL) (rc' := 120) (rs' := 1920) rfl rfl ?_
  refine b_blk (pc' := 24) (ls' := [some (mR (1, 0, k)), some (mI 0)]) (st' := []) (S' := ((L ++ [(25, 20)]) ++ [(26, 20)], m_zap (m_zap I (k + 1) 0) (k + 2) 0, m_zap (m_zap J (k + 1) 0) (k + 2) 0, m_up (m_zap (m_up (m_zap R (k + 1) none) k 0 (some (25, 20, k + 1))) (k + 2) none) k 1 (some (26, 20, k + 2)))) (P := True) [(.putfield 19, (1, 1, 3, 0, 0)), (.iconst 0, (0, 0, 0, 0, 0)), (.istore_n 1, (0, 0, 0, 0, 0))] [] (by decide +kernel) rfl trivial ?_
  have key : ∀ d i, i + d = 20 → m_B G (m_rm 3 122 1960) M_History_init (m_is none (l_History L, i_History I k, j_History J k, r_History R k)) (6 * d) (96 * d) 24 [some (mR (1, 0, k)), some (mI (nI i))] [] (l_Hs L i, i_Hs I k i, j_Hs J k i, r_Hs R k i) := by
    intro d
    induction d with
    | zero =>
      intro i hi
      have e : i = 20 := by omega
      subst e
      refine b_blk (pc' := 27) (ls' := [some (mR (1, 0, k)), some (mI (nI 20))]) (st' := [mI 20, mI (nI 20)]) (S' := (l_Hs L 20, i_Hs I k 20, j_Hs J k 20, r_Hs R k 20)) (P := True) [(.iload_n 1, (0, 0, 0, 0, 0)), (.bipush 20, (0, 0, 0, 20, 0))] [] (by decide +kernel) rfl trivial ?_
      refine b_icmp_ge (off := 35) (tgt := 62) (by decide +kernel) (by decide) (fun _ => ?_) (fun z => absurd (show (20 : Int32) ≤ nI 20 by decide) z)
      exact b_vret (by decide +kernel) rfl ⟨rfl, rfl⟩
    | succ d ih =>
      intro i hi
      have hk := rHs_k (R := R) (k := k) i
      exact his_it (d := d) (by omega) (len_Hs hL i) (by omega) hk.1 hk.2 (by
        have h := ih (i + 1) (by omega)
        have e : k + 1 + 2 + 6 * i = k + 3 + 6 * i := by omega
        rw [e]
        exact h)
  exact key 20 0 (by decide)
end GI2
