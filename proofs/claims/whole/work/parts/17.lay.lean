/-! Lay: the rest; Log -/
theorem b_cp {G : MG} {R : Room} {M : MM} {Q : Option MV → MS → Prop} {rc rs pc : Nat} {ls : ML} {st : List MV} {S : MS} {idx n0 n1 k0 k1 sp' dp' n' : Nat} {sp dp n : Int32} (hd : decode M.2.1 pc = .ok (.invokestatic idx, 3)) (hlk0 : Cond.methodLink (m_cn M.1) idx arraycopyName ∈ tw) (h1 : ¬ sp < 0) (h2 : ¬ dp < 0) (h3 : ¬ n < 0) (e1 : sp.toNatClampNeg = sp') (e2 : dp.toNatClampNeg = dp') (e3 : n.toNatClampNeg = n') (h4 : sp' + n' ≤ n0) (h5 : dp' + n' ≤ n1)
    (hf : 1 ≤ R.frames) (hst : m_cat st + (nativeFrameWords "java/lang/System" "arraycopy" 5 + 11) ≤ R.locals)
    (h : m_B G R M Q rc rs (pc + 3) ls st (S.1, m_cpI S.2.1 k0 k1 sp' dp' n', S.2.2.1, S.2.2.2)) : m_B G R M Q rc rs pc ls (mI n :: mI dp :: mR (20, n1, k1) :: mI sp :: mR (20, n0, k0) :: st) S := by
  subst e1; subst e2; subst e3
  exact b_copy hd hlk0 h1 h2 h3 h4 h5 hf hst h
def wl_ac : List Cond := [Cond.methodLink "WalkFence$Lay" 34 arraycopyName, Cond.methodLink "WalkFence$Log" 22 arraycopyName]
set_option maxRecDepth 100000 in
theorem wl_ac_ok : ∀ w ∈ wl_ac, w ∈ tw := tw_qs [829, 1180] (by decide +kernel) (by decide +kernel)
theorem k_3_34 : Cond.methodLink (m_cn 3) 34 arraycopyName ∈ tw := tw_c 0 wl_ac_ok rfl
theorem k_4_22 : Cond.methodLink (m_cn 4) 22 arraycopyName ∈ tw := tw_c 1 wl_ac_ok rfl
set_option maxRecDepth 100000 in
set_option maxHeartbeats 4000000 in
theorem c_Lay_takeFrom {G : MG} {L : List (Nat × Nat)} {I : Nat → Nat → Int32} {J : Nat → Nat → Int64} {R : Nat → Nat → Option MRef} (k : Nat) (o : Nat) (hk : LayR R k) (ho : LayR R o) : m_met G 2 0 0 y_Lay_takeFrom M_Lay_takeFrom [mR (3, 0, k), mR (3, 0, o)] (L, I, J, R) (m_is (none) (L, m_cpI (m_cpI (m_cpI (m_up (m_up I k 0 (I o 0)) k 1 ((m_up I k 0 (I o 0)) o 1)) (o + 1) (k + 1) 0 0 6) (o + 2) (k + 2) 0 0 6) (o + 3) (k + 3) 0 0 36, J, R)) := by
  refine m_met_in n_Lay_takeFrom (plainFor_of_name (by decide)) (by decide) (Nat.le_of_ble_eq_true rfl) (ls := [some (mR (3, 0, k)), some (mR (3, 0, o))]) rfl ?_
  refine b_blk (pc' := 28) (ls' := [some (mR (3, 0, k)), some (mR (3, 0, o))]) (st' := [mI 6, mI 0, mR (20, 6, k + 1), mI 0, mR (20, 6, o + 1)]) (S' := (L, m_up (m_up I k 0 (I o 0)) k 1 ((m_up I k 0 (I o 0)) o 1), J, R)) (P := ((True ∧ R o 2 = some (20, 6, o + 1)) ∧ R k 2 = some (20, 6, k + 1))) [(.aload_n 0, (0, 0, 0, 0, 0)), (.aload_n 1, (0, 0, 0, 0, 0)), (.getfield 27, (3, 0, 0, 0, 0)), (.putfield 27, (3, 0, 0, 0, 0)), (.aload_n 0, (0, 0, 0, 0, 0)), (.aload_n 1, (0, 0, 0, 0, 0)), (.getfield 31, (3, 1, 0, 0, 0)), (.putfield 31, (3, 1, 0, 0, 0)), (.aload_n 1, (0, 0, 0, 0, 0)), (.getfield 9, (3, 2, 3, 0, 0)), (.iconst 0, (0, 0, 0, 0, 0)), (.aload_n 0, (0, 0, 0, 0, 0)), (.getfield 9, (3, 2, 3, 0, 0)), (.iconst 0, (0, 0, 0, 0, 0)), (.bipush 6, (0, 0, 0, 6, 0))] [some (20, 6, o + 1), some (20, 6, k + 1)] (by decide +kernel) rfl ⟨⟨trivial, ho.1⟩, hk.1⟩ ?_
  refine b_cp (sp' := 0) (dp' := 0) (n' := 6) (by decide +kernel) k_3_34 (by decide) (by decide) (by decide) (by decide) (by decide) (by decide) (by decide) (by decide) (by decide) (Nat.le_of_ble_eq_true rfl) ?_
  show m_B _ _ _ _ _ _ 31 [some (mR (3, 0, k)), some (mR (3, 0, o))] [] (L, m_cpI (m_up (m_up I k 0 (I o 0)) k 1 ((m_up I k 0 (I o 0)) o 1)) (o + 1) (k + 1) 0 0 6, J, R)
  refine b_blk (pc' := 43) (ls' := [some (mR (3, 0, k)), some (mR (3, 0, o))]) (st' := [mI 6, mI 0, mR (20, 6, k + 2), mI 0, mR (20, 6, o + 2)]) (S' := (L, m_cpI (m_up (m_up I k 0 (I o 0)) k 1 ((m_up I k 0 (I o 0)) o 1)) (o + 1) (k + 1) 0 0 6, J, R)) (P := ((True ∧ R o 3 = some (20, 6, o + 2)) ∧ R k 3 = some (20, 6, k + 2))) [(.aload_n 1, (0, 0, 0, 0, 0)), (.getfield 15, (3, 3, 3, 0, 0)), (.iconst 0, (0, 0, 0, 0, 0)), (.aload_n 0, (0, 0, 0, 0, 0)), (.getfield 15, (3, 3, 3, 0, 0)), (.iconst 0, (0, 0, 0, 0, 0)), (.bipush 6, (0, 0, 0, 6, 0))] [some (20, 6, o + 2), some (20, 6, k + 2)] (by decide +kernel) rfl ⟨⟨trivial, ho.2.1⟩, hk.2.1⟩ ?_
  refine b_cp (sp' := 0) (dp' := 0) (n' := 6) (by decide +kernel) k_3_34 (by decide) (by decide) (by decide) (by decide) (by decide) (by decide) (by decide) (by decide) (by decide) (Nat.le_of_ble_eq_true rfl) ?_
  show m_B _ _ _ _ _ _ 46 [some (mR (3, 0, k)), some (mR (3, 0, o))] [] (L, m_cpI (m_cpI (m_up (m_up I k 0 (I o 0)) k 1 ((m_up I k 0 (I o 0)) o 1)) (o + 1) (k + 1) 0 0 6) (o + 2) (k + 2) 0 0 6, J, R)
  refine b_blk (pc' := 58) (ls' := [some (mR (3, 0, k)), some (mR (3, 0, o))]) (st' := [mI 36, mI 0, mR (20, 36, k + 3), mI 0, mR (20, 36, o + 3)]) (S' := (L, m_cpI (m_cpI (m_up (m_up I k 0 (I o 0)) k 1 ((m_up I k 0 (I o 0)) o 1)) (o + 1) (k + 1) 0 0 6) (o + 2) (k + 2) 0 0 6, J, R)) (P := ((True ∧ R o 4 = some (20, 36, o + 3)) ∧ R k 4 = some (20, 36, k + 3))) [(.aload_n 1, (0, 0, 0, 0, 0)), (.getfield 18, (3, 4, 3, 0, 0)), (.iconst 0, (0, 0, 0, 0, 0)), (.aload_n 0, (0, 0, 0, 0, 0)), (.getfield 18, (3, 4, 3, 0, 0)), (.iconst 0, (0, 0, 0, 0, 0)), (.bipush 36, (0, 0, 0, 36, 0))] [some (20, 36, o + 3), some (20, 36, k + 3)] (by decide +kernel) rfl ⟨⟨trivial, ho.2.2⟩, hk.2.2⟩ ?_
  refine b_cp (sp' := 0) (dp' := 0) (n' := 36) (by decide +kernel) k_3_34 (by decide) (by decide) (by decide) (by decide) (by decide) (by decide) (by decide) (by decide) (by decide) (Nat.le_of_ble_eq_true rfl) ?_
  show m_B _ _ _ _ _ _ 61 [some (mR (3, 0, k)), some (mR (3, 0, o))] [] (L, m_cpI (m_cpI (m_cpI (m_up (m_up I k 0 (I o 0)) k 1 ((m_up I k 0 (I o 0)) o 1)) (o + 1) (k + 1) 0 0 6) (o + 2) (k + 2) 0 0 6) (o + 3) (k + 3) 0 0 36, J, R)
  refine b_vret (by decide +kernel) rfl ⟨?_, ?_⟩
  · rfl
  · rfl
theorem ts_6 {f : Int32} (h1 : ¬ f < 0) (h2 : ¬ 6 ≤ f) : ¬ f * 6 < 0 ∧ (f * 6).toNatClampNeg = f.toNatClampNeg * 6 ∧ f.toNatClampNeg * 6 + 6 ≤ 36 := by
  obtain ⟨j, hj, rfl⟩ := ix_of (n := 6) (by decide) (Int32.not_lt.mp h1) (Int32.not_le.mp h2)
  rw [show (6 : Int32) = nI 6 from rfl, pk_mul, nI_clamp (by omega), nI_clamp (by omega)]
  exact ⟨nI_pos (by omega), rfl, by omega⟩
def gI_Lay_takeStakes (I : Nat → Nat → Int32) (k : Nat) (o : Nat) (f : Int32) : Nat → Nat → Int32 := if f < (0 : Int32) then I else (if (6 : Int32) ≤ f then I else m_cpI I (o + 3) (k + 3) (f.toNatClampNeg * 6) (f.toNatClampNeg * 6) 6)
set_option maxRecDepth 100000 in
set_option maxHeartbeats 4000000 in
theorem c_Lay_takeStakes {G : MG} {L : List (Nat × Nat)} {I : Nat → Nat → Int32} {J : Nat → Nat → Int64} {R : Nat → Nat → Option MRef} (k : Nat) (o : Nat) (f : Int32) (hk : LayR R k) (ho : LayR R o) : m_met G 2 0 0 y_Lay_takeStakes M_Lay_takeStakes [mR (3, 0, k), mR (3, 0, o), mI f] (L, I, J, R) (m_is (none) (L, gI_Lay_takeStakes I k o f, J, R)) := by
  refine m_met_in n_Lay_takeStakes (plainFor_of_name (by decide)) (by decide) (Nat.le_of_ble_eq_true rfl) (ls := [some (mR (3, 0, k)), some (mR (3, 0, o)), some (mI f)]) rfl ?_
  refine b_blk (pc' := 1) (ls' := [some (mR (3, 0, k)), some (mR (3, 0, o)), some (mI f)]) (st' := [mI f]) (S' := (L, I, J, R)) (P := True) [(.iload_n 2, (0, 0, 0, 0, 0))] [] (by decide +kernel) rfl trivial ?_
  refine b_if_lt (off := 30) (tgt := 31) (by decide +kernel) (by decide) (fun h1 => ?_) (fun h1 => ?_)
  · refine b_vret (by decide +kernel) rfl ⟨?_, ?_⟩
    · first | rfl | (rw [gI_Lay_takeStakes, if_pos h1]; done) | (simp only [gI_Lay_takeStakes]; simp only [*, if_true, if_false]; done) | (simp_all [gI_Lay_takeStakes]; done)
    · first | rfl | (rw [gI_Lay_takeStakes, if_pos h1]; done) | (simp only [gI_Lay_takeStakes]; simp only [*, if_true, if_false]; done) | (simp_all [gI_Lay_takeStakes]; done)
  · refine b_blk (pc' := 7) (ls' := [some (mR (3, 0, k)), some (mR (3, 0, o)), some (mI f)]) (st' := [mI 6, mI f]) (S' := (L, I, J, R)) (P := True) [(.iload_n 2, (0, 0, 0, 0, 0)), (.bipush 6, (0, 0, 0, 6, 0))] [] (by decide +kernel) rfl trivial ?_
    refine b_icmp_ge (off := 24) (tgt := 31) (by decide +kernel) (by decide) (fun h2 => ?_) (fun h2 => ?_)
    · refine b_vret (by decide +kernel) rfl ⟨?_, ?_⟩
      · first | rfl | (rw [gI_Lay_takeStakes, if_neg h1, if_pos h2]; done) | (simp only [gI_Lay_takeStakes]; simp only [*, if_true, if_false]; done) | (simp_all [gI_Lay_takeStakes]; done)
      · first | rfl | (rw [gI_Lay_takeStakes, if_neg h1, if_pos h2]; done) | (simp only [gI_Lay_takeStakes]; simp only [*, if_true, if_false]; done) | (simp_all [gI_Lay_takeStakes]; done)
    · refine b_blk (pc' := 28) (ls' := [some (mR (3, 0, k)), some (mR (3, 0, o)), some (mI f)]) (st' := [mI 6, mI (f * (6 : Int32)), mR (20, 36, k + 3), mI (f * (6 : Int32)), mR (20, 36, o + 3)]) (S' := (L, I, J, R)) (P := ((True ∧ R o 4 = some (20, 36, o + 3)) ∧ R k 4 = some (20, 36, k + 3))) [(.aload_n 1, (0, 0, 0, 0, 0)), (.getfield 18, (3, 4, 3, 0, 0)), (.iload_n 2, (0, 0, 0, 0, 0)), (.bipush 6, (0, 0, 0, 6, 0)), (.imul, (0, 0, 0, 0, 0)), (.aload_n 0, (0, 0, 0, 0, 0)), (.getfield 18, (3, 4, 3, 0, 0)), (.iload_n 2, (0, 0, 0, 0, 0)), (.bipush 6, (0, 0, 0, 6, 0)), (.imul, (0, 0, 0, 0, 0)), (.bipush 6, (0, 0, 0, 6, 0))] [some (20, 36, o + 3), some (20, 36, k + 3)] (by decide +kernel) rfl ⟨⟨trivial, ho.2.2⟩, hk.2.2⟩ ?_
      refine b_cp (sp' := (f.toNatClampNeg * 6)) (dp' := (f.toNatClampNeg * 6)) (n' := 6) (by decide +kernel) k_3_34 (ts_6 h1 h2).1 (ts_6 h1 h2).1 (by decide) (ts_6 h1 h2).2.1 (ts_6 h1 h2).2.1 (by decide) (ts_6 h1 h2).2.2 (ts_6 h1 h2).2.2 (by decide) (Nat.le_of_ble_eq_true rfl) ?_
      show m_B _ _ _ _ _ _ 31 [some (mR (3, 0, k)), some (mR (3, 0, o)), some (mI f)] [] (L, m_cpI I (o + 3) (k + 3) (f.toNatClampNeg * 6) (f.toNatClampNeg * 6) 6, J, R)
      refine b_vret (by decide +kernel) rfl ⟨?_, ?_⟩
      · first | rfl | (rw [gI_Lay_takeStakes, if_neg h1, if_neg h2]; done) | (simp only [gI_Lay_takeStakes]; simp only [*, if_true, if_false]; done) | (simp_all [gI_Lay_takeStakes]; done)
      · first | rfl | (rw [gI_Lay_takeStakes, if_neg h1, if_neg h2]; done) | (simp only [gI_Lay_takeStakes]; simp only [*, if_true, if_false]; done) | (simp_all [gI_Lay_takeStakes]; done)
set_option maxRecDepth 100000 in
set_option maxHeartbeats 4000000 in
theorem c_Lay_clear {G : MG} {L : List (Nat × Nat)} {I : Nat → Nat → Int32} {J : Nat → Nat → Int64} {R : Nat → Nat → Option MRef} (k : Nat) (h : LayR R k) : m_met G 2 0 0 y_Lay_clear M_Lay_clear [mR (3, 0, k)] (L, I, J, R) (m_is (none) (L, m_fil (m_fil (m_fil (m_up (m_up I k 0 (0 : Int32)) k 1 (0 : Int32)) (k + 1) (0 : Int32) 6) (k + 2) (0 : Int32) 6) (k + 3) (-1 : Int32) 36, J, R)) := by
  refine m_met_in n_Lay_clear (plainFor_of_name (by decide)) (by decide) (Nat.le_of_ble_eq_true rfl) (ls := [some (mR (3, 0, k))]) rfl ?_
  refine b_blk (pc' := 15) (ls' := [some (mR (3, 0, k))]) (st' := [mI 0, mR (20, 6, k + 1)]) (S' := (L, m_up (m_up I k 0 (0 : Int32)) k 1 (0 : Int32), J, R)) (P := (True ∧ R k 2 = some (20, 6, k + 1))) [(.aload_n 0, (0, 0, 0, 0, 0)), (.iconst 0, (0, 0, 0, 0, 0)), (.putfield 27, (3, 0, 0, 0, 0)), (.aload_n 0, (0, 0, 0, 0, 0)), (.iconst 0, (0, 0, 0, 0, 0)), (.putfield 31, (3, 1, 0, 0, 0)), (.aload_n 0, (0, 0, 0, 0, 0)), (.getfield 9, (3, 2, 3, 0, 0)), (.iconst 0, (0, 0, 0, 0, 0))] [some (20, 6, k + 1)] (by decide +kernel) rfl ⟨trivial, h.1⟩ ?_
  refine b_cS (as := [mR (20, 6, k + 1), mI 0]) (st := []) (by decide +kernel) k_3_21 n_Arrays_fill s_Arrays_fill (c_Arrays_fill (k + 1) 6 (0 : Int32) (by decide)) (Nat.le_of_ble_eq_true rfl) (by decide) rfl rfl (fun _ h => h) ?_
  show m_B _ _ _ _ _ _ 18 [some (mR (3, 0, k))] [] (L, m_fil (m_up (m_up I k 0 (0 : Int32)) k 1 (0 : Int32)) (k + 1) (0 : Int32) 6, J, R)
  refine b_blk (pc' := 23) (ls' := [some (mR (3, 0, k))]) (st' := [mI 0, mR (20, 6, k + 2)]) (S' := (L, m_fil (m_up (m_up I k 0 (0 : Int32)) k 1 (0 : Int32)) (k + 1) (0 : Int32) 6, J, R)) (P := (True ∧ R k 3 = some (20, 6, k + 2))) [(.aload_n 0, (0, 0, 0, 0, 0)), (.getfield 15, (3, 3, 3, 0, 0)), (.iconst 0, (0, 0, 0, 0, 0))] [some (20, 6, k + 2)] (by decide +kernel) rfl ⟨trivial, h.2.1⟩ ?_
  refine b_cS (as := [mR (20, 6, k + 2), mI 0]) (st := []) (by decide +kernel) k_3_21 n_Arrays_fill s_Arrays_fill (c_Arrays_fill (k + 2) 6 (0 : Int32) (by decide)) (Nat.le_of_ble_eq_true rfl) (by decide) rfl rfl (fun _ h => h) ?_
  show m_B _ _ _ _ _ _ 26 [some (mR (3, 0, k))] [] (L, m_fil (m_fil (m_up (m_up I k 0 (0 : Int32)) k 1 (0 : Int32)) (k + 1) (0 : Int32) 6) (k + 2) (0 : Int32) 6, J, R)
  refine b_blk (pc' := 31) (ls' := [some (mR (3, 0, k))]) (st' := [mI (-1), mR (20, 36, k + 3)]) (S' := (L, m_fil (m_fil (m_up (m_up I k 0 (0 : Int32)) k 1 (0 : Int32)) (k + 1) (0 : Int32) 6) (k + 2) (0 : Int32) 6, J, R)) (P := (True ∧ R k 4 = some (20, 36, k + 3))) [(.aload_n 0, (0, 0, 0, 0, 0)), (.getfield 18, (3, 4, 3, 0, 0)), (.iconst (-1), (0, 0, 0, (-1), 0))] [some (20, 36, k + 3)] (by decide +kernel) rfl ⟨trivial, h.2.2⟩ ?_
  refine b_cS (as := [mR (20, 36, k + 3), mI (-1)]) (st := []) (by decide +kernel) k_3_21 n_Arrays_fill s_Arrays_fill (c_Arrays_fill (k + 3) 36 (-1 : Int32) (by decide)) (Nat.le_of_ble_eq_true rfl) (by decide) rfl rfl (fun _ h => h) ?_
  show m_B _ _ _ _ _ _ 34 [some (mR (3, 0, k))] [] (L, m_fil (m_fil (m_fil (m_up (m_up I k 0 (0 : Int32)) k 1 (0 : Int32)) (k + 1) (0 : Int32) 6) (k + 2) (0 : Int32) 6) (k + 3) (-1 : Int32) 36, J, R)
  refine b_vret (by decide +kernel) rfl ⟨?_, ?_⟩
  · rfl
  · rfl
def l_posts (I : Nat → Nat → Int32) (k : Nat) : Nat → Int32
  | 0 => 0
  | n + 1 => l_posts I k n + f_Integer_bitCount (I (k + 2) n)
set_option maxRecDepth 100000 in
set_option maxHeartbeats 4000000 in
theorem c_Lay_countPosts {G : MG} {L : List (Nat × Nat)} {I : Nat → Nat → Int32} {J : Nat → Nat → Int64} {R : Nat → Nat → Option MRef} (k : Nat) (h : LayR R k) : m_met G 2 0 0 y_Lay_countPosts M_Lay_countPosts [mR (3, 0, k)] (L, I, J, R) (m_is (some (mI (l_posts I k 6))) (L, I, J, R)) := by
  refine m_met_in n_Lay_countPosts (plainFor_of_name (by decide)) (by decide) (Nat.le_of_ble_eq_true rfl) (ls := [some (mR (3, 0, k)), none, none]) rfl ?_
  refine b_blk (pc' := 4) (ls' := [some (mR (3, 0, k)), some (mI 0), some (mI 0)]) (st' := []) (S' := (L, I, J, R)) (P := True) [(.iconst 0, (0, 0, 0, 0, 0)), (.istore_n 1, (0, 0, 0, 0, 0)), (.iconst 0, (0, 0, 0, 0, 0)), (.istore_n 2, (0, 0, 0, 0, 0))] [] (by decide +kernel) rfl trivial ?_
  suffices hx : m_B G (m_rm 2 0 0) M_Lay_countPosts (m_is (some (mI (l_posts I k 6))) (L, I, J, R)) 0 0 28 [some (mR (3, 0, k)), some (mI (l_posts I k 6)), some (mI (nI 6))] [] (L, I, J, R) by
    refine m_B_cg ?_ rfl ?_ (loop_up 6 (fun n => m_B G (m_rm 2 0 0) M_Lay_countPosts (m_is (some (mI (l_posts I k 6))) (L, I, J, R)) 0 0 4 [some (mR (3, 0, k)), some (mI (l_posts I k n)), some (mI (nI n))] [] (L, I, J, R)) ?_ ?_ 0 (Nat.zero_le _))
    · first | rfl | (simp [nI_succ, nI_0, l_posts]; done) | (simp [l_posts, nI_succ, nI_clamp (show n < 2 ^ 31 by omega)])
    · rfl
    · refine b_blk (pc' := 7) (ls' := [some (mR (3, 0, k)), some (mI (l_posts I k 6)), some (mI (nI 6))]) (st' := [mI 6, mI (nI 6)]) (S' := (L, I, J, R)) (P := True) [(.iload_n 2, (0, 0, 0, 0, 0)), (.bipush 6, (0, 0, 0, 6, 0))] [] (by decide +kernel) rfl trivial ?_
      refine b_icmp_ge (off := 21) (tgt := 28) (by decide +kernel) (by decide) (fun h1 => ?_) (fun h1 => ?_)
      · exact hx
      · exact absurd (Int32.le_refl _) h1
    · intro n hn ih
      refine b_blk (pc' := 7) (ls' := [some (mR (3, 0, k)), some (mI (l_posts I k n)), some (mI (nI n))]) (st' := [mI 6, mI (nI n)]) (S' := (L, I, J, R)) (P := True) [(.iload_n 2, (0, 0, 0, 0, 0)), (.bipush 6, (0, 0, 0, 6, 0))] [] (by decide +kernel) rfl trivial ?_
      refine b_icmp_ge (off := 21) (tgt := 28) (by decide +kernel) (by decide) (fun h2 => ?_) (fun h2 => ?_)
      · exact absurd h2 (nI_ge hn (by decide))
      · refine b_blk (pc' := 17) (ls' := [some (mR (3, 0, k)), some (mI (l_posts I k n)), some (mI (nI n))]) (st' := [mI (I (k + 2) (nI n).toNatClampNeg), mI (l_posts I k n)]) (S' := (L, I, J, R)) (P := ((True ∧ R k 3 = some (20, 6, k + 2)) ∧ vp_in (nI n) 6)) [(.iload_n 1, (0, 0, 0, 0, 0)), (.aload_n 0, (0, 0, 0, 0, 0)), (.getfield 15, (3, 3, 3, 0, 0)), (.iload_n 2, (0, 0, 0, 0, 0)), (.iaload, (0, 0, 0, 0, 0))] [some (20, 6, k + 2)] (by decide +kernel) rfl ⟨⟨trivial, h.2.1⟩, (vp_in_nI (N := 6) hn (by decide))⟩ ?_
        refine b_cS (as := [mI (I (k + 2) (nI n).toNatClampNeg)]) (st := [mI (l_posts I k n)]) (by decide +kernel) k_3_56 n_Integer_bitCount s_Integer_bitCount (c_Integer_bitCount (I (k + 2) (nI n).toNatClampNeg) ) (Nat.le_of_ble_eq_true rfl) (by decide) rfl rfl (fun _ h => h) ?_
        show m_B _ _ _ _ _ _ 20 [some (mR (3, 0, k)), some (mI (l_posts I k n)), some (mI (nI n))] [mI (f_Integer_bitCount (I (k + 2) (nI n).toNatClampNeg)), mI (l_posts I k n)] (L, I, J, R)
        refine b_blk (pc' := 4) (ls' := [some (mR (3, 0, k)), some (mI ((l_posts I k n) + (f_Integer_bitCount (I (k + 2) (nI n).toNatClampNeg)))), some (mI ((nI n) + 1))]) (st' := []) (S' := (L, I, J, R)) (P := True) [(.iadd, (0, 0, 0, 0, 0)), (.istore_n 1, (0, 0, 0, 0, 0)), (.iinc 2 1, (0, 0, 0, 1, 0)), (.goto (-21), (0, 4, 0, 0, 0))] [] (by decide +kernel) rfl trivial ?_
        refine m_B_cg ?_ rfl ?_ ih
        · first | rfl | (simp [nI_succ, nI_0, l_posts]; done) | (simp [l_posts, nI_succ, nI_clamp (show n < 2 ^ 31 by omega)])
        · rfl
  refine b_blk (pc' := 29) (ls' := [some (mR (3, 0, k)), some (mI (l_posts I k 6)), some (mI (nI 6))]) (st' := [mI (l_posts I k 6)]) (S' := (L, I, J, R)) (P := True) [(.iload_n 1, (0, 0, 0, 0, 0))] [] (by decide +kernel) rfl trivial ?_
  refine b_iret (by decide +kernel) rfl ⟨?_, ?_⟩
  · simp_all
  · simp_all
def LogR (R : Nat → Nat → Option MRef) (g : Nat) : Prop := R g 0 = some (20, 40, g + 1)
set_option maxRecDepth 100000 in
set_option maxHeartbeats 4000000 in
theorem c_Log_clear {G : MG} {L : List (Nat × Nat)} {I : Nat → Nat → Int32} {J : Nat → Nat → Int64} {R : Nat → Nat → Option MRef} (g : Nat)  : m_met G 1 0 0 y_Log_clear M_Log_clear [mR (4, 0, g)] (L, I, J, R) (m_is (none) (L, m_up (m_up I g 1 (0 : Int32)) g 2 (0 : Int32), J, R)) := by
  refine m_met_in n_Log_clear (plainFor_of_name (by decide)) (by decide) (Nat.le_of_ble_eq_true rfl) (ls := [some (mR (4, 0, g))]) rfl ?_
  refine b_blk (pc' := 10) (ls' := [some (mR (4, 0, g))]) (st' := []) (S' := (L, m_up (m_up I g 1 (0 : Int32)) g 2 (0 : Int32), J, R)) (P := True) [(.aload_n 0, (0, 0, 0, 0, 0)), (.iconst 0, (0, 0, 0, 0, 0)), (.putfield 15, (4, 1, 0, 0, 0)), (.aload_n 0, (0, 0, 0, 0, 0)), (.iconst 0, (0, 0, 0, 0, 0)), (.putfield 19, (4, 2, 0, 0, 0))] [] (by decide +kernel) rfl trivial ?_
  refine b_vret (by decide +kernel) rfl ⟨?_, ?_⟩
  · rfl
  · rfl
set_option maxRecDepth 100000 in
set_option maxHeartbeats 4000000 in
theorem c_Log_takeFrom {G : MG} {L : List (Nat × Nat)} {I : Nat → Nat → Int32} {J : Nat → Nat → Int64} {R : Nat → Nat → Option MRef} (g : Nat) (o : Nat) (hg : LogR R g) (ho : LogR R o) : m_met G 2 0 0 y_Log_takeFrom M_Log_takeFrom [mR (4, 0, g), mR (4, 0, o)] (L, I, J, R) (m_is (none) (L, m_cpI (m_up (m_up I g 1 (I o 1)) g 2 ((m_up I g 1 (I o 1)) o 2)) (o + 1) (g + 1) 0 0 40, J, R)) := by
  refine m_met_in n_Log_takeFrom (plainFor_of_name (by decide)) (by decide) (Nat.le_of_ble_eq_true rfl) (ls := [some (mR (4, 0, g)), some (mR (4, 0, o))]) rfl ?_
  refine b_blk (pc' := 28) (ls' := [some (mR (4, 0, g)), some (mR (4, 0, o))]) (st' := [mI 40, mI 0, mR (20, 40, g + 1), mI 0, mR (20, 40, o + 1)]) (S' := (L, m_up (m_up I g 1 (I o 1)) g 2 ((m_up I g 1 (I o 1)) o 2), J, R)) (P := ((True ∧ R o 0 = some (20, 40, o + 1)) ∧ R g 0 = some (20, 40, g + 1))) [(.aload_n 0, (0, 0, 0, 0, 0)), (.aload_n 1, (0, 0, 0, 0, 0)), (.getfield 15, (4, 1, 0, 0, 0)), (.putfield 15, (4, 1, 0, 0, 0)), (.aload_n 0, (0, 0, 0, 0, 0)), (.aload_n 1, (0, 0, 0, 0, 0)), (.getfield 19, (4, 2, 0, 0, 0)), (.putfield 19, (4, 2, 0, 0, 0)), (.aload_n 1, (0, 0, 0, 0, 0)), (.getfield 9, (4, 0, 3, 0, 0)), (.iconst 0, (0, 0, 0, 0, 0)), (.aload_n 0, (0, 0, 0, 0, 0)), (.getfield 9, (4, 0, 3, 0, 0)), (.iconst 0, (0, 0, 0, 0, 0)), (.bipush 40, (0, 0, 0, 40, 0))] [some (20, 40, o + 1), some (20, 40, g + 1)] (by decide +kernel) rfl ⟨⟨trivial, ho⟩, hg⟩ ?_
  refine b_cp (sp' := 0) (dp' := 0) (n' := 40) (by decide +kernel) k_4_22 (by decide) (by decide) (by decide) (by decide) (by decide) (by decide) (by decide) (by decide) (by decide) (Nat.le_of_ble_eq_true rfl) ?_
  show m_B _ _ _ _ _ _ 31 [some (mR (4, 0, g)), some (mR (4, 0, o))] [] (L, m_cpI (m_up (m_up I g 1 (I o 1)) g 2 ((m_up I g 1 (I o 1)) o 2)) (o + 1) (g + 1) 0 0 40, J, R)
  refine b_vret (by decide +kernel) rfl ⟨?_, ?_⟩
  · rfl
  · rfl
