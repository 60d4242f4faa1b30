/-! Lay: reads -/
/-- a Lay's rows lie behind it -/
def LayR (R : Nat → Nat → Option MRef) (k : Nat) : Prop := R k 2 = some (20, 6, k + 1) ∧ R k 3 = some (20, 6, k + 2) ∧ R k 4 = some (20, 36, k + 3)
def v_isStake (f c : Int32) : Bool := decide (0 ≤ f ∧ f < 6 ∧ 0 ≤ c ∧ c < 6)
def v_rowOf (I : Nat → Nat → Int32) (k : Nat) (f c : Int32) : Int32 := if v_isStake f c = true then I (k + 3) (f * 6 + c).toNatClampNeg else -1
theorem isStake_of {f c : Int32} (h : v_isStake f c = true) : ∃ a b : Nat, a < 6 ∧ b < 6 ∧ f = nI a ∧ c = nI b ∧ f * 6 + c = nI (a * 6 + b) := by
  simp only [v_isStake, decide_eq_true_eq] at h
  obtain ⟨h1, h2, h3, h4⟩ := h
  obtain ⟨a, ha, rfl⟩ := ix_of (n := 6) (by decide) h1 h2
  obtain ⟨b, hb, rfl⟩ := ix_of (n := 6) (by decide) h3 h4
  refine ⟨a, b, ha, hb, rfl, rfl, ?_⟩
  rw [show (6 : Int32) = nI 6 from rfl, pk_mul, nI_add]
theorem isStake_in {f c : Int32} (h : v_isStake f c = true) : vp_in (f * 6 + c) 36 := by
  obtain ⟨a, b, ha, hb, -, -, e⟩ := isStake_of h
  rw [e]
  exact vp_in_nI (by omega) (by decide)
set_option maxRecDepth 100000 in
set_option maxHeartbeats 4000000 in
theorem c_Lay_isStake {G : MG} {L : List (Nat × Nat)} {I : Nat → Nat → Int32} {J : Nat → Nat → Int64} {R : Nat → Nat → Option MRef} (f : Int32) (c : Int32)  : m_met G 1 0 0 y_Lay_isStake M_Lay_isStake [mI f, mI c] (L, I, J, R) (m_is (some (mI (bI (v_isStake f c)))) (L, I, J, R)) := by
  refine m_met_in n_Lay_isStake (plainFor_of_name (by decide)) (by decide) (Nat.le_of_ble_eq_true rfl) (ls := [some (mI f), some (mI c)]) rfl ?_
  refine b_blk (pc' := 1) (ls' := [some (mI f), some (mI c)]) (st' := [mI f]) (S' := (L, I, J, R)) (P := True) [(.iload_n 0, (0, 0, 0, 0, 0))] [] (by decide +kernel) rfl trivial ?_
  refine b_if_lt (off := 23) (tgt := 24) (by decide +kernel) (by decide) (fun h1 => ?_) (fun h1 => ?_)
  · refine b_blk (pc' := 25) (ls' := [some (mI f), some (mI c)]) (st' := [mI 0]) (S' := (L, I, J, R)) (P := True) [(.iconst 0, (0, 0, 0, 0, 0))] [] (by decide +kernel) rfl trivial ?_
    refine b_zret (by decide +kernel) rfl (by decide) ⟨?_, ?_⟩
    · first | rfl | (simp [bI, v_isStake, Int32.lt_iff_toInt_lt, Int32.le_iff_toInt_le] at *; omega)
    · first | rfl | (simp [bI, v_isStake, Int32.lt_iff_toInt_lt, Int32.le_iff_toInt_le] at *; omega)
  · refine b_blk (pc' := 7) (ls' := [some (mI f), some (mI c)]) (st' := [mI 6, mI f]) (S' := (L, I, J, R)) (P := True) [(.iload_n 0, (0, 0, 0, 0, 0)), (.bipush 6, (0, 0, 0, 6, 0))] [] (by decide +kernel) rfl trivial ?_
    refine b_icmp_ge (off := 17) (tgt := 24) (by decide +kernel) (by decide) (fun h2 => ?_) (fun h2 => ?_)
    · refine b_blk (pc' := 25) (ls' := [some (mI f), some (mI c)]) (st' := [mI 0]) (S' := (L, I, J, R)) (P := True) [(.iconst 0, (0, 0, 0, 0, 0))] [] (by decide +kernel) rfl trivial ?_
      refine b_zret (by decide +kernel) rfl (by decide) ⟨?_, ?_⟩
      · first | rfl | (simp [bI, v_isStake, Int32.lt_iff_toInt_lt, Int32.le_iff_toInt_le] at *; omega)
      · first | rfl | (simp [bI, v_isStake, Int32.lt_iff_toInt_lt, Int32.le_iff_toInt_le] at *; omega)
    · refine b_blk (pc' := 11) (ls' := [some (mI f), some (mI c)]) (st' := [mI c]) (S' := (L, I, J, R)) (P := True) [(.iload_n 1, (0, 0, 0, 0, 0))] [] (by decide +kernel) rfl trivial ?_
      refine b_if_lt (off := 13) (tgt := 24) (by decide +kernel) (by decide) (fun h3 => ?_) (fun h3 => ?_)
      · refine b_blk (pc' := 25) (ls' := [some (mI f), some (mI c)]) (st' := [mI 0]) (S' := (L, I, J, R)) (P := True) [(.iconst 0, (0, 0, 0, 0, 0))] [] (by decide +kernel) rfl trivial ?_
        refine b_zret (by decide +kernel) rfl (by decide) ⟨?_, ?_⟩
        · first | rfl | (simp [bI, v_isStake, Int32.lt_iff_toInt_lt, Int32.le_iff_toInt_le] at *; omega)
        · first | rfl | (simp [bI, v_isStake, Int32.lt_iff_toInt_lt, Int32.le_iff_toInt_le] at *; omega)
      · refine b_blk (pc' := 17) (ls' := [some (mI f), some (mI c)]) (st' := [mI 6, mI c]) (S' := (L, I, J, R)) (P := True) [(.iload_n 1, (0, 0, 0, 0, 0)), (.bipush 6, (0, 0, 0, 6, 0))] [] (by decide +kernel) rfl trivial ?_
        refine b_icmp_ge (off := 7) (tgt := 24) (by decide +kernel) (by decide) (fun h4 => ?_) (fun h4 => ?_)
        · refine b_blk (pc' := 25) (ls' := [some (mI f), some (mI c)]) (st' := [mI 0]) (S' := (L, I, J, R)) (P := True) [(.iconst 0, (0, 0, 0, 0, 0))] [] (by decide +kernel) rfl trivial ?_
          refine b_zret (by decide +kernel) rfl (by decide) ⟨?_, ?_⟩
          · first | rfl | (simp [bI, v_isStake, Int32.lt_iff_toInt_lt, Int32.le_iff_toInt_le] at *; omega)
          · first | rfl | (simp [bI, v_isStake, Int32.lt_iff_toInt_lt, Int32.le_iff_toInt_le] at *; omega)
        · refine b_blk (pc' := 25) (ls' := [some (mI f), some (mI c)]) (st' := [mI 1]) (S' := (L, I, J, R)) (P := True) [(.iconst 1, (0, 0, 0, 1, 0)), (.goto 4, (0, 25, 0, 0, 0))] [] (by decide +kernel) rfl trivial ?_
          refine b_zret (by decide +kernel) rfl (by decide) ⟨?_, ?_⟩
          · first | rfl | (simp [bI, v_isStake, Int32.lt_iff_toInt_lt, Int32.le_iff_toInt_le] at *; omega)
          · first | rfl | (simp [bI, v_isStake, Int32.lt_iff_toInt_lt, Int32.le_iff_toInt_le] at *; omega)
set_option maxRecDepth 100000 in
set_option maxHeartbeats 4000000 in
theorem c_Lay_rowOf {G : MG} {L : List (Nat × Nat)} {I : Nat → Nat → Int32} {J : Nat → Nat → Int64} {R : Nat → Nat → Option MRef} (k : Nat) (f : Int32) (c : Int32) (h : LayR R k) : m_met G 2 0 0 y_Lay_rowOf M_Lay_rowOf [mR (3, 0, k), mI f, mI c] (L, I, J, R) (m_is (some (mI (v_rowOf I k f c))) (L, I, J, R)) := by
  refine m_met_in n_Lay_rowOf (plainFor_of_name (by decide)) (by decide) (Nat.le_of_ble_eq_true rfl) (ls := [some (mR (3, 0, k)), some (mI f), some (mI c)]) rfl ?_
  refine b_blk (pc' := 2) (ls' := [some (mR (3, 0, k)), some (mI f), some (mI c)]) (st' := [mI c, mI f]) (S' := (L, I, J, R)) (P := True) [(.iload_n 1, (0, 0, 0, 0, 0)), (.iload_n 2, (0, 0, 0, 0, 0))] [] (by decide +kernel) rfl trivial ?_
  refine b_cS (as := [mI f, mI c]) (st := []) (by decide +kernel) k_3_40 n_Lay_isStake s_Lay_isStake (c_Lay_isStake f c ) (Nat.le_of_ble_eq_true rfl) (by decide) rfl rfl (fun _ h => h) ?_
  show m_B _ _ _ _ _ _ 5 [some (mR (3, 0, k)), some (mI f), some (mI c)] [mI (bI (v_isStake f c))] (L, I, J, R)
  refine b_if_eq (off := 17) (tgt := 22) (by decide +kernel) (by decide) (fun h1 => ?_) (fun h1 => ?_)
  · refine b_blk (pc' := 23) (ls' := [some (mR (3, 0, k)), some (mI f), some (mI c)]) (st' := [mI (-1)]) (S' := (L, I, J, R)) (P := True) [(.iconst (-1), (0, 0, 0, (-1), 0))] [] (by decide +kernel) rfl trivial ?_
    refine b_iret (by decide +kernel) rfl ⟨?_, ?_⟩
    · first | rfl | (simp only [bI_eq0, bI_ne0] at h1; simp [v_rowOf, h1])
    · first | rfl | (simp only [bI_eq0, bI_ne0] at h1; simp [v_rowOf, h1])
  · refine b_blk (pc' := 23) (ls' := [some (mR (3, 0, k)), some (mI f), some (mI c)]) (st' := [mI (I (k + 3) ((f * (6 : Int32)) + c).toNatClampNeg)]) (S' := (L, I, J, R)) (P := ((True ∧ R k 4 = some (20, 36, k + 3)) ∧ vp_in ((f * (6 : Int32)) + c) 36)) [(.aload_n 0, (0, 0, 0, 0, 0)), (.getfield 18, (3, 4, 3, 0, 0)), (.iload_n 1, (0, 0, 0, 0, 0)), (.bipush 6, (0, 0, 0, 6, 0)), (.imul, (0, 0, 0, 0, 0)), (.iload_n 2, (0, 0, 0, 0, 0)), (.iadd, (0, 0, 0, 0, 0)), (.iaload, (0, 0, 0, 0, 0)), (.goto 4, (0, 23, 0, 0, 0))] [some (20, 36, k + 3)] (by decide +kernel) rfl ⟨⟨trivial, h.2.2⟩, (isStake_in (bI_ne0.mp h1))⟩ ?_
    refine b_iret (by decide +kernel) rfl ⟨?_, ?_⟩
    · first | rfl | (simp only [bI_eq0, bI_ne0] at h1; simp [v_rowOf, h1])
    · first | rfl | (simp only [bI_eq0, bI_ne0] at h1; simp [v_rowOf, h1])
def f_Lay_ageOf (I : Nat → Nat → Int32) (k : Nat) (f : Int32) : Int32 := if f < (0 : Int32) then 0 else (if (6 : Int32) ≤ f then 0 else I (k + 1) f.toNatClampNeg)
set_option maxRecDepth 100000 in
set_option maxHeartbeats 4000000 in
theorem c_Lay_ageOf {G : MG} {L : List (Nat × Nat)} {I : Nat → Nat → Int32} {J : Nat → Nat → Int64} {R : Nat → Nat → Option MRef} (k : Nat) (f : Int32) (h : LayR R k) : m_met G 1 0 0 y_Lay_ageOf M_Lay_ageOf [mR (3, 0, k), mI f] (L, I, J, R) (m_is (some (mI (f_Lay_ageOf I k f))) (L, I, J, R)) := by
  refine m_met_in n_Lay_ageOf (plainFor_of_name (by decide)) (by decide) (Nat.le_of_ble_eq_true rfl) (ls := [some (mR (3, 0, k)), some (mI f)]) rfl ?_
  refine b_blk (pc' := 1) (ls' := [some (mR (3, 0, k)), some (mI f)]) (st' := [mI f]) (S' := (L, I, J, R)) (P := True) [(.iload_n 1, (0, 0, 0, 0, 0))] [] (by decide +kernel) rfl trivial ?_
  refine b_if_lt (off := 18) (tgt := 19) (by decide +kernel) (by decide) (fun h1 => ?_) (fun h1 => ?_)
  · refine b_blk (pc' := 20) (ls' := [some (mR (3, 0, k)), some (mI f)]) (st' := [mI 0]) (S' := (L, I, J, R)) (P := True) [(.iconst 0, (0, 0, 0, 0, 0))] [] (by decide +kernel) rfl trivial ?_
    refine b_iret (by decide +kernel) rfl ⟨?_, ?_⟩
    · first | rfl | (rw [f_Lay_ageOf, if_pos h1]; done) | (simp only [f_Lay_ageOf]; simp only [*, if_true, if_false]; done) | (simp_all [f_Lay_ageOf]; done)
    · first | rfl | (rw [f_Lay_ageOf, if_pos h1]; done) | (simp only [f_Lay_ageOf]; simp only [*, if_true, if_false]; done) | (simp_all [f_Lay_ageOf]; done)
  · refine b_blk (pc' := 7) (ls' := [some (mR (3, 0, k)), some (mI f)]) (st' := [mI 6, mI f]) (S' := (L, I, J, R)) (P := True) [(.iload_n 1, (0, 0, 0, 0, 0)), (.bipush 6, (0, 0, 0, 6, 0))] [] (by decide +kernel) rfl trivial ?_
    refine b_icmp_ge (off := 12) (tgt := 19) (by decide +kernel) (by decide) (fun h2 => ?_) (fun h2 => ?_)
    · refine b_blk (pc' := 20) (ls' := [some (mR (3, 0, k)), some (mI f)]) (st' := [mI 0]) (S' := (L, I, J, R)) (P := True) [(.iconst 0, (0, 0, 0, 0, 0))] [] (by decide +kernel) rfl trivial ?_
      refine b_iret (by decide +kernel) rfl ⟨?_, ?_⟩
      · first | rfl | (rw [f_Lay_ageOf, if_neg h1, if_pos h2]; done) | (simp only [f_Lay_ageOf]; simp only [*, if_true, if_false]; done) | (simp_all [f_Lay_ageOf]; done)
      · first | rfl | (rw [f_Lay_ageOf, if_neg h1, if_pos h2]; done) | (simp only [f_Lay_ageOf]; simp only [*, if_true, if_false]; done) | (simp_all [f_Lay_ageOf]; done)
    · refine b_blk (pc' := 20) (ls' := [some (mR (3, 0, k)), some (mI f)]) (st' := [mI (I (k + 1) f.toNatClampNeg)]) (S' := (L, I, J, R)) (P := ((True ∧ R k 2 = some (20, 6, k + 1)) ∧ vp_in f 6)) [(.aload_n 0, (0, 0, 0, 0, 0)), (.getfield 9, (3, 2, 3, 0, 0)), (.iload_n 1, (0, 0, 0, 0, 0)), (.iaload, (0, 0, 0, 0, 0)), (.goto 4, (0, 20, 0, 0, 0))] [some (20, 6, k + 1)] (by decide +kernel) rfl ⟨⟨trivial, h.1⟩, (in_6 (by assumption) (by assumption))⟩ ?_
      refine b_iret (by decide +kernel) rfl ⟨?_, ?_⟩
      · first | rfl | (rw [f_Lay_ageOf, if_neg h1, if_neg h2]; done) | (simp only [f_Lay_ageOf]; simp only [*, if_true, if_false]; done) | (simp_all [f_Lay_ageOf]; done)
      · first | rfl | (rw [f_Lay_ageOf, if_neg h1, if_neg h2]; done) | (simp only [f_Lay_ageOf]; simp only [*, if_true, if_false]; done) | (simp_all [f_Lay_ageOf]; done)
def f_Lay_postsOf (I : Nat → Nat → Int32) (k : Nat) (c : Int32) : Int32 := if c < (0 : Int32) then 0 else (if (6 : Int32) ≤ c then 0 else I (k + 2) c.toNatClampNeg)
set_option maxRecDepth 100000 in
set_option maxHeartbeats 4000000 in
theorem c_Lay_postsOf {G : MG} {L : List (Nat × Nat)} {I : Nat → Nat → Int32} {J : Nat → Nat → Int64} {R : Nat → Nat → Option MRef} (k : Nat) (c : Int32) (h : LayR R k) : m_met G 1 0 0 y_Lay_postsOf M_Lay_postsOf [mR (3, 0, k), mI c] (L, I, J, R) (m_is (some (mI (f_Lay_postsOf I k c))) (L, I, J, R)) := by
  refine m_met_in n_Lay_postsOf (plainFor_of_name (by decide)) (by decide) (Nat.le_of_ble_eq_true rfl) (ls := [some (mR (3, 0, k)), some (mI c)]) rfl ?_
  refine b_blk (pc' := 1) (ls' := [some (mR (3, 0, k)), some (mI c)]) (st' := [mI c]) (S' := (L, I, J, R)) (P := True) [(.iload_n 1, (0, 0, 0, 0, 0))] [] (by decide +kernel) rfl trivial ?_
  refine b_if_lt (off := 18) (tgt := 19) (by decide +kernel) (by decide) (fun h1 => ?_) (fun h1 => ?_)
  · refine b_blk (pc' := 20) (ls' := [some (mR (3, 0, k)), some (mI c)]) (st' := [mI 0]) (S' := (L, I, J, R)) (P := True) [(.iconst 0, (0, 0, 0, 0, 0))] [] (by decide +kernel) rfl trivial ?_
    refine b_iret (by decide +kernel) rfl ⟨?_, ?_⟩
    · first | rfl | (rw [f_Lay_postsOf, if_pos h1]; done) | (simp only [f_Lay_postsOf]; simp only [*, if_true, if_false]; done) | (simp_all [f_Lay_postsOf]; done)
    · first | rfl | (rw [f_Lay_postsOf, if_pos h1]; done) | (simp only [f_Lay_postsOf]; simp only [*, if_true, if_false]; done) | (simp_all [f_Lay_postsOf]; done)
  · refine b_blk (pc' := 7) (ls' := [some (mR (3, 0, k)), some (mI c)]) (st' := [mI 6, mI c]) (S' := (L, I, J, R)) (P := True) [(.iload_n 1, (0, 0, 0, 0, 0)), (.bipush 6, (0, 0, 0, 6, 0))] [] (by decide +kernel) rfl trivial ?_
    refine b_icmp_ge (off := 12) (tgt := 19) (by decide +kernel) (by decide) (fun h2 => ?_) (fun h2 => ?_)
    · refine b_blk (pc' := 20) (ls' := [some (mR (3, 0, k)), some (mI c)]) (st' := [mI 0]) (S' := (L, I, J, R)) (P := True) [(.iconst 0, (0, 0, 0, 0, 0))] [] (by decide +kernel) rfl trivial ?_
      refine b_iret (by decide +kernel) rfl ⟨?_, ?_⟩
      · first | rfl | (rw [f_Lay_postsOf, if_neg h1, if_pos h2]; done) | (simp only [f_Lay_postsOf]; simp only [*, if_true, if_false]; done) | (simp_all [f_Lay_postsOf]; done)
      · first | rfl | (rw [f_Lay_postsOf, if_neg h1, if_pos h2]; done) | (simp only [f_Lay_postsOf]; simp only [*, if_true, if_false]; done) | (simp_all [f_Lay_postsOf]; done)
    · refine b_blk (pc' := 20) (ls' := [some (mR (3, 0, k)), some (mI c)]) (st' := [mI (I (k + 2) c.toNatClampNeg)]) (S' := (L, I, J, R)) (P := ((True ∧ R k 3 = some (20, 6, k + 2)) ∧ vp_in c 6)) [(.aload_n 0, (0, 0, 0, 0, 0)), (.getfield 15, (3, 3, 3, 0, 0)), (.iload_n 1, (0, 0, 0, 0, 0)), (.iaload, (0, 0, 0, 0, 0)), (.goto 4, (0, 20, 0, 0, 0))] [some (20, 6, k + 2)] (by decide +kernel) rfl ⟨⟨trivial, h.2.1⟩, (in_6 (by assumption) (by assumption))⟩ ?_
      refine b_iret (by decide +kernel) rfl ⟨?_, ?_⟩
      · first | rfl | (rw [f_Lay_postsOf, if_neg h1, if_neg h2]; done) | (simp only [f_Lay_postsOf]; simp only [*, if_true, if_false]; done) | (simp_all [f_Lay_postsOf]; done)
      · first | rfl | (rw [f_Lay_postsOf, if_neg h1, if_neg h2]; done) | (simp only [f_Lay_postsOf]; simp only [*, if_true, if_false]; done) | (simp_all [f_Lay_postsOf]; done)
def f_Lay_isCut (I : Nat → Nat → Int32) (k : Nat) (f : Int32) : Int32 := if f < (0 : Int32) then 0 else (if (6 : Int32) ≤ f then 0 else (if (((I k 1) >>> (f &&& 31)) &&& (1 : Int32)) = (0 : Int32) then 0 else 1))
theorem z_Lay_isCut {I : Nat → Nat → Int32} {k : Nat} {f : Int32} : f_Lay_isCut I k f = 0 ∨ f_Lay_isCut I k f = 1 := by
  unfold f_Lay_isCut
  repeat' split
  all_goals first | exact Or.inl rfl | exact Or.inr rfl | assumption
set_option maxRecDepth 100000 in
set_option maxHeartbeats 4000000 in
theorem c_Lay_isCut {G : MG} {L : List (Nat × Nat)} {I : Nat → Nat → Int32} {J : Nat → Nat → Int64} {R : Nat → Nat → Option MRef} (k : Nat) (f : Int32)  : m_met G 1 0 0 y_Lay_isCut M_Lay_isCut [mR (3, 0, k), mI f] (L, I, J, R) (m_is (some (mI (f_Lay_isCut I k f))) (L, I, J, R)) := by
  refine m_met_in n_Lay_isCut (plainFor_of_name (by decide)) (by decide) (Nat.le_of_ble_eq_true rfl) (ls := [some (mR (3, 0, k)), some (mI f)]) rfl ?_
  refine b_blk (pc' := 1) (ls' := [some (mR (3, 0, k)), some (mI f)]) (st' := [mI f]) (S' := (L, I, J, R)) (P := True) [(.iload_n 1, (0, 0, 0, 0, 0))] [] (by decide +kernel) rfl trivial ?_
  refine b_if_lt (off := 24) (tgt := 25) (by decide +kernel) (by decide) (fun h1 => ?_) (fun h1 => ?_)
  · refine b_blk (pc' := 26) (ls' := [some (mR (3, 0, k)), some (mI f)]) (st' := [mI 0]) (S' := (L, I, J, R)) (P := True) [(.iconst 0, (0, 0, 0, 0, 0))] [] (by decide +kernel) rfl trivial ?_
    refine b_zret (by decide +kernel) rfl (by decide) ⟨?_, ?_⟩
    · first | rfl | (rw [f_Lay_isCut, if_pos h1]; done) | (simp only [f_Lay_isCut]; simp only [*, if_true, if_false]; done) | (simp_all [f_Lay_isCut]; done)
    · first | rfl | (rw [f_Lay_isCut, if_pos h1]; done) | (simp only [f_Lay_isCut]; simp only [*, if_true, if_false]; done) | (simp_all [f_Lay_isCut]; done)
  · refine b_blk (pc' := 7) (ls' := [some (mR (3, 0, k)), some (mI f)]) (st' := [mI 6, mI f]) (S' := (L, I, J, R)) (P := True) [(.iload_n 1, (0, 0, 0, 0, 0)), (.bipush 6, (0, 0, 0, 6, 0))] [] (by decide +kernel) rfl trivial ?_
    refine b_icmp_ge (off := 18) (tgt := 25) (by decide +kernel) (by decide) (fun h2 => ?_) (fun h2 => ?_)
    · refine b_blk (pc' := 26) (ls' := [some (mR (3, 0, k)), some (mI f)]) (st' := [mI 0]) (S' := (L, I, J, R)) (P := True) [(.iconst 0, (0, 0, 0, 0, 0))] [] (by decide +kernel) rfl trivial ?_
      refine b_zret (by decide +kernel) rfl (by decide) ⟨?_, ?_⟩
      · first | rfl | (rw [f_Lay_isCut, if_neg h1, if_pos h2]; done) | (simp only [f_Lay_isCut]; simp only [*, if_true, if_false]; done) | (simp_all [f_Lay_isCut]; done)
      · first | rfl | (rw [f_Lay_isCut, if_neg h1, if_pos h2]; done) | (simp only [f_Lay_isCut]; simp only [*, if_true, if_false]; done) | (simp_all [f_Lay_isCut]; done)
    · refine b_blk (pc' := 18) (ls' := [some (mR (3, 0, k)), some (mI f)]) (st' := [mI (((I k 1) >>> (f &&& 31)) &&& (1 : Int32))]) (S' := (L, I, J, R)) (P := True) [(.aload_n 0, (0, 0, 0, 0, 0)), (.getfield 31, (3, 1, 0, 0, 0)), (.iload_n 1, (0, 0, 0, 0, 0)), (.ishr, (0, 0, 0, 0, 0)), (.iconst 1, (0, 0, 0, 1, 0)), (.iand, (0, 0, 0, 0, 0))] [] (by decide +kernel) rfl trivial ?_
      refine b_if_eq (off := 7) (tgt := 25) (by decide +kernel) (by decide) (fun h3 => ?_) (fun h3 => ?_)
      · refine b_blk (pc' := 26) (ls' := [some (mR (3, 0, k)), some (mI f)]) (st' := [mI 0]) (S' := (L, I, J, R)) (P := True) [(.iconst 0, (0, 0, 0, 0, 0))] [] (by decide +kernel) rfl trivial ?_
        refine b_zret (by decide +kernel) rfl (by decide) ⟨?_, ?_⟩
        · first | rfl | (rw [f_Lay_isCut, if_neg h1, if_neg h2, if_pos h3]; done) | (simp only [f_Lay_isCut]; simp only [*, if_true, if_false]; done) | (simp_all [f_Lay_isCut]; done)
        · first | rfl | (rw [f_Lay_isCut, if_neg h1, if_neg h2, if_pos h3]; done) | (simp only [f_Lay_isCut]; simp only [*, if_true, if_false]; done) | (simp_all [f_Lay_isCut]; done)
      · refine b_blk (pc' := 26) (ls' := [some (mR (3, 0, k)), some (mI f)]) (st' := [mI 1]) (S' := (L, I, J, R)) (P := True) [(.iconst 1, (0, 0, 0, 1, 0)), (.goto 4, (0, 26, 0, 0, 0))] [] (by decide +kernel) rfl trivial ?_
        refine b_zret (by decide +kernel) rfl (by decide) ⟨?_, ?_⟩
        · first | rfl | (rw [f_Lay_isCut, if_neg h1, if_neg h2, if_neg h3]; done) | (simp only [f_Lay_isCut]; simp only [*, if_true, if_false]; done) | (simp_all [f_Lay_isCut]; done)
        · first | rfl | (rw [f_Lay_isCut, if_neg h1, if_neg h2, if_neg h3]; done) | (simp only [f_Lay_isCut]; simp only [*, if_true, if_false]; done) | (simp_all [f_Lay_isCut]; done)
def f_Lay_hasPost (I : Nat → Nat → Int32) (k : Nat) (c : Int32) (r : Int32) : Int32 := if r < (0 : Int32) then 0 else (if (30 : Int32) ≤ r then 0 else (if (((f_Lay_postsOf I k c) >>> (r &&& 31)) &&& (1 : Int32)) = (0 : Int32) then 0 else 1))
theorem z_Lay_hasPost {I : Nat → Nat → Int32} {k : Nat} {c : Int32} {r : Int32} : f_Lay_hasPost I k c r = 0 ∨ f_Lay_hasPost I k c r = 1 := by
  unfold f_Lay_hasPost
  repeat' split
  all_goals first | exact Or.inl rfl | exact Or.inr rfl | assumption | exact z_Lay_isCut
set_option maxRecDepth 100000 in
set_option maxHeartbeats 4000000 in
theorem c_Lay_hasPost {G : MG} {L : List (Nat × Nat)} {I : Nat → Nat → Int32} {J : Nat → Nat → Int64} {R : Nat → Nat → Option MRef} (k : Nat) (c : Int32) (r : Int32) (h : LayR R k) : m_met G 2 0 0 y_Lay_hasPost M_Lay_hasPost [mR (3, 0, k), mI c, mI r] (L, I, J, R) (m_is (some (mI (f_Lay_hasPost I k c r))) (L, I, J, R)) := by
  refine m_met_in n_Lay_hasPost (plainFor_of_name (by decide)) (by decide) (Nat.le_of_ble_eq_true rfl) (ls := [some (mR (3, 0, k)), some (mI c), some (mI r)]) rfl ?_
  refine b_blk (pc' := 1) (ls' := [some (mR (3, 0, k)), some (mI c), some (mI r)]) (st' := [mI r]) (S' := (L, I, J, R)) (P := True) [(.iload_n 2, (0, 0, 0, 0, 0))] [] (by decide +kernel) rfl trivial ?_
  refine b_if_lt (off := 25) (tgt := 26) (by decide +kernel) (by decide) (fun h1 => ?_) (fun h1 => ?_)
  · refine b_blk (pc' := 27) (ls' := [some (mR (3, 0, k)), some (mI c), some (mI r)]) (st' := [mI 0]) (S' := (L, I, J, R)) (P := True) [(.iconst 0, (0, 0, 0, 0, 0))] [] (by decide +kernel) rfl trivial ?_
    refine b_zret (by decide +kernel) rfl (by decide) ⟨?_, ?_⟩
    · first | rfl | (rw [f_Lay_hasPost, if_pos h1]; done) | (simp only [f_Lay_hasPost]; simp only [*, if_true, if_false]; done) | (simp_all [f_Lay_hasPost]; done)
    · first | rfl | (rw [f_Lay_hasPost, if_pos h1]; done) | (simp only [f_Lay_hasPost]; simp only [*, if_true, if_false]; done) | (simp_all [f_Lay_hasPost]; done)
  · refine b_blk (pc' := 7) (ls' := [some (mR (3, 0, k)), some (mI c), some (mI r)]) (st' := [mI 30, mI r]) (S' := (L, I, J, R)) (P := True) [(.iload_n 2, (0, 0, 0, 0, 0)), (.bipush 30, (0, 0, 0, 30, 0))] [] (by decide +kernel) rfl trivial ?_
    refine b_icmp_ge (off := 19) (tgt := 26) (by decide +kernel) (by decide) (fun h2 => ?_) (fun h2 => ?_)
    · refine b_blk (pc' := 27) (ls' := [some (mR (3, 0, k)), some (mI c), some (mI r)]) (st' := [mI 0]) (S' := (L, I, J, R)) (P := True) [(.iconst 0, (0, 0, 0, 0, 0))] [] (by decide +kernel) rfl trivial ?_
      refine b_zret (by decide +kernel) rfl (by decide) ⟨?_, ?_⟩
      · first | rfl | (rw [f_Lay_hasPost, if_neg h1, if_pos h2]; done) | (simp only [f_Lay_hasPost]; simp only [*, if_true, if_false]; done) | (simp_all [f_Lay_hasPost]; done)
      · first | rfl | (rw [f_Lay_hasPost, if_neg h1, if_pos h2]; done) | (simp only [f_Lay_hasPost]; simp only [*, if_true, if_false]; done) | (simp_all [f_Lay_hasPost]; done)
    · refine b_blk (pc' := 12) (ls' := [some (mR (3, 0, k)), some (mI c), some (mI r)]) (st' := [mI c, mR (3, 0, k)]) (S' := (L, I, J, R)) (P := True) [(.aload_n 0, (0, 0, 0, 0, 0)), (.iload_n 1, (0, 0, 0, 0, 0))] [] (by decide +kernel) rfl trivial ?_
      refine b_cV (as := [mI c]) (st := []) (by decide +kernel) k_3_52 n_Lay_postsOf rfl (by decide) v_Lay_postsOf (c_Lay_postsOf k c (by assumption)) (Nat.le_of_ble_eq_true rfl) (by decide) rfl rfl (fun _ h => h) ?_
      show m_B _ _ _ _ _ _ 15 [some (mR (3, 0, k)), some (mI c), some (mI r)] [mI (f_Lay_postsOf I k c)] (L, I, J, R)
      refine b_blk (pc' := 19) (ls' := [some (mR (3, 0, k)), some (mI c), some (mI r)]) (st' := [mI (((f_Lay_postsOf I k c) >>> (r &&& 31)) &&& (1 : Int32))]) (S' := (L, I, J, R)) (P := True) [(.iload_n 2, (0, 0, 0, 0, 0)), (.ishr, (0, 0, 0, 0, 0)), (.iconst 1, (0, 0, 0, 1, 0)), (.iand, (0, 0, 0, 0, 0))] [] (by decide +kernel) rfl trivial ?_
      refine b_if_eq (off := 7) (tgt := 26) (by decide +kernel) (by decide) (fun h3 => ?_) (fun h3 => ?_)
      · refine b_blk (pc' := 27) (ls' := [some (mR (3, 0, k)), some (mI c), some (mI r)]) (st' := [mI 0]) (S' := (L, I, J, R)) (P := True) [(.iconst 0, (0, 0, 0, 0, 0))] [] (by decide +kernel) rfl trivial ?_
        refine b_zret (by decide +kernel) rfl (by decide) ⟨?_, ?_⟩
        · first | rfl | (rw [f_Lay_hasPost, if_neg h1, if_neg h2, if_pos h3]; done) | (simp only [f_Lay_hasPost]; simp only [*, if_true, if_false]; done) | (simp_all [f_Lay_hasPost]; done)
        · first | rfl | (rw [f_Lay_hasPost, if_neg h1, if_neg h2, if_pos h3]; done) | (simp only [f_Lay_hasPost]; simp only [*, if_true, if_false]; done) | (simp_all [f_Lay_hasPost]; done)
      · refine b_blk (pc' := 27) (ls' := [some (mR (3, 0, k)), some (mI c), some (mI r)]) (st' := [mI 1]) (S' := (L, I, J, R)) (P := True) [(.iconst 1, (0, 0, 0, 1, 0)), (.goto 4, (0, 27, 0, 0, 0))] [] (by decide +kernel) rfl trivial ?_
        refine b_zret (by decide +kernel) rfl (by decide) ⟨?_, ?_⟩
        · first | rfl | (rw [f_Lay_hasPost, if_neg h1, if_neg h2, if_neg h3]; done) | (simp only [f_Lay_hasPost]; simp only [*, if_true, if_false]; done) | (simp_all [f_Lay_hasPost]; done)
        · first | rfl | (rw [f_Lay_hasPost, if_neg h1, if_neg h2, if_neg h3]; done) | (simp only [f_Lay_hasPost]; simp only [*, if_true, if_false]; done) | (simp_all [f_Lay_hasPost]; done)
def gI_Lay_putAge (I : Nat → Nat → Int32) (k : Nat) (f : Int32) (a : Int32) : Nat → Nat → Int32 := if f < (0 : Int32) then I else (if (6 : Int32) ≤ f then I else m_up I (k + 1) (f.toNatClampNeg) a)
set_option maxRecDepth 100000 in
set_option maxHeartbeats 4000000 in
theorem c_Lay_putAge {G : MG} {L : List (Nat × Nat)} {I : Nat → Nat → Int32} {J : Nat → Nat → Int64} {R : Nat → Nat → Option MRef} (k : Nat) (f : Int32) (a : Int32) (h : LayR R k) : m_met G 1 0 0 y_Lay_putAge M_Lay_putAge [mR (3, 0, k), mI f, mI a] (L, I, J, R) (m_is (none) (L, gI_Lay_putAge I k f a, J, R)) := by
  refine m_met_in n_Lay_putAge (plainFor_of_name (by decide)) (by decide) (Nat.le_of_ble_eq_true rfl) (ls := [some (mR (3, 0, k)), some (mI f), some (mI a)]) rfl ?_
  refine b_blk (pc' := 1) (ls' := [some (mR (3, 0, k)), some (mI f), some (mI a)]) (st' := [mI f]) (S' := (L, I, J, R)) (P := True) [(.iload_n 1, (0, 0, 0, 0, 0))] [] (by decide +kernel) rfl trivial ?_
  refine b_if_lt (off := 16) (tgt := 17) (by decide +kernel) (by decide) (fun h1 => ?_) (fun h1 => ?_)
  · refine b_vret (by decide +kernel) rfl ⟨?_, ?_⟩
    · first | rfl | (rw [gI_Lay_putAge, if_pos h1]; done) | (simp only [gI_Lay_putAge]; simp only [*, if_true, if_false]; done) | (simp_all [gI_Lay_putAge]; done)
    · first | rfl | (rw [gI_Lay_putAge, if_pos h1]; done) | (simp only [gI_Lay_putAge]; simp only [*, if_true, if_false]; done) | (simp_all [gI_Lay_putAge]; done)
  · refine b_blk (pc' := 7) (ls' := [some (mR (3, 0, k)), some (mI f), some (mI a)]) (st' := [mI 6, mI f]) (S' := (L, I, J, R)) (P := True) [(.iload_n 1, (0, 0, 0, 0, 0)), (.bipush 6, (0, 0, 0, 6, 0))] [] (by decide +kernel) rfl trivial ?_
    refine b_icmp_ge (off := 10) (tgt := 17) (by decide +kernel) (by decide) (fun h2 => ?_) (fun h2 => ?_)
    · refine b_vret (by decide +kernel) rfl ⟨?_, ?_⟩
      · first | rfl | (rw [gI_Lay_putAge, if_neg h1, if_pos h2]; done) | (simp only [gI_Lay_putAge]; simp only [*, if_true, if_false]; done) | (simp_all [gI_Lay_putAge]; done)
      · first | rfl | (rw [gI_Lay_putAge, if_neg h1, if_pos h2]; done) | (simp only [gI_Lay_putAge]; simp only [*, if_true, if_false]; done) | (simp_all [gI_Lay_putAge]; done)
    · refine b_blk (pc' := 17) (ls' := [some (mR (3, 0, k)), some (mI f), some (mI a)]) (st' := []) (S' := (L, m_up I (k + 1) (f.toNatClampNeg) a, J, R)) (P := ((True ∧ R k 2 = some (20, 6, k + 1)) ∧ vp_in f 6)) [(.aload_n 0, (0, 0, 0, 0, 0)), (.getfield 9, (3, 2, 3, 0, 0)), (.iload_n 1, (0, 0, 0, 0, 0)), (.iload_n 2, (0, 0, 0, 0, 0)), (.iastore, (0, 0, 0, 0, 0))] [some (20, 6, k + 1)] (by decide +kernel) rfl ⟨⟨trivial, h.1⟩, (in_6 (by assumption) (by assumption))⟩ ?_
      refine b_vret (by decide +kernel) rfl ⟨?_, ?_⟩
      · first | rfl | (rw [gI_Lay_putAge, if_neg h1, if_neg h2]; done) | (simp only [gI_Lay_putAge]; simp only [*, if_true, if_false]; done) | (simp_all [gI_Lay_putAge]; done)
      · first | rfl | (rw [gI_Lay_putAge, if_neg h1, if_neg h2]; done) | (simp only [gI_Lay_putAge]; simp only [*, if_true, if_false]; done) | (simp_all [gI_Lay_putAge]; done)
def gI_Lay_drive (I : Nat → Nat → Int32) (k : Nat) (c : Int32) (r : Int32) : Nat → Nat → Int32 := if c < (0 : Int32) then I else (if (6 : Int32) ≤ c then I else (if r < (0 : Int32) then I else (if (30 : Int32) ≤ r then I else m_up I (k + 2) (c.toNatClampNeg) ((I (k + 2) c.toNatClampNeg) ||| ((1 : Int32) <<< (r &&& 31))))))
set_option maxRecDepth 100000 in
set_option maxHeartbeats 4000000 in
theorem c_Lay_drive {G : MG} {L : List (Nat × Nat)} {I : Nat → Nat → Int32} {J : Nat → Nat → Int64} {R : Nat → Nat → Option MRef} (k : Nat) (c : Int32) (r : Int32) (h : LayR R k) : m_met G 1 0 0 y_Lay_drive M_Lay_drive [mR (3, 0, k), mI c, mI r] (L, I, J, R) (m_is (none) (L, gI_Lay_drive I k c r, J, R)) := by
  refine m_met_in n_Lay_drive (plainFor_of_name (by decide)) (by decide) (Nat.le_of_ble_eq_true rfl) (ls := [some (mR (3, 0, k)), some (mI c), some (mI r)]) rfl ?_
  refine b_blk (pc' := 1) (ls' := [some (mR (3, 0, k)), some (mI c), some (mI r)]) (st' := [mI c]) (S' := (L, I, J, R)) (P := True) [(.iload_n 1, (0, 0, 0, 0, 0))] [] (by decide +kernel) rfl trivial ?_
  refine b_if_lt (off := 31) (tgt := 32) (by decide +kernel) (by decide) (fun h1 => ?_) (fun h1 => ?_)
  · refine b_vret (by decide +kernel) rfl ⟨?_, ?_⟩
    · first | rfl | (rw [gI_Lay_drive, if_pos h1]; done) | (simp only [gI_Lay_drive]; simp only [*, if_true, if_false]; done) | (simp_all [gI_Lay_drive]; done)
    · first | rfl | (rw [gI_Lay_drive, if_pos h1]; done) | (simp only [gI_Lay_drive]; simp only [*, if_true, if_false]; done) | (simp_all [gI_Lay_drive]; done)
  · refine b_blk (pc' := 7) (ls' := [some (mR (3, 0, k)), some (mI c), some (mI r)]) (st' := [mI 6, mI c]) (S' := (L, I, J, R)) (P := True) [(.iload_n 1, (0, 0, 0, 0, 0)), (.bipush 6, (0, 0, 0, 6, 0))] [] (by decide +kernel) rfl trivial ?_
    refine b_icmp_ge (off := 25) (tgt := 32) (by decide +kernel) (by decide) (fun h2 => ?_) (fun h2 => ?_)
    · refine b_vret (by decide +kernel) rfl ⟨?_, ?_⟩
      · first | rfl | (rw [gI_Lay_drive, if_neg h1, if_pos h2]; done) | (simp only [gI_Lay_drive]; simp only [*, if_true, if_false]; done) | (simp_all [gI_Lay_drive]; done)
      · first | rfl | (rw [gI_Lay_drive, if_neg h1, if_pos h2]; done) | (simp only [gI_Lay_drive]; simp only [*, if_true, if_false]; done) | (simp_all [gI_Lay_drive]; done)
    · refine b_blk (pc' := 11) (ls' := [some (mR (3, 0, k)), some (mI c), some (mI r)]) (st' := [mI r]) (S' := (L, I, J, R)) (P := True) [(.iload_n 2, (0, 0, 0, 0, 0))] [] (by decide +kernel) rfl trivial ?_
      refine b_if_lt (off := 21) (tgt := 32) (by decide +kernel) (by decide) (fun h3 => ?_) (fun h3 => ?_)
      · refine b_vret (by decide +kernel) rfl ⟨?_, ?_⟩
        · first | rfl | (rw [gI_Lay_drive, if_neg h1, if_neg h2, if_pos h3]; done) | (simp only [gI_Lay_drive]; simp only [*, if_true, if_false]; done) | (simp_all [gI_Lay_drive]; done)
        · first | rfl | (rw [gI_Lay_drive, if_neg h1, if_neg h2, if_pos h3]; done) | (simp only [gI_Lay_drive]; simp only [*, if_true, if_false]; done) | (simp_all [gI_Lay_drive]; done)
      · refine b_blk (pc' := 17) (ls' := [some (mR (3, 0, k)), some (mI c), some (mI r)]) (st' := [mI 30, mI r]) (S' := (L, I, J, R)) (P := True) [(.iload_n 2, (0, 0, 0, 0, 0)), (.bipush 30, (0, 0, 0, 30, 0))] [] (by decide +kernel) rfl trivial ?_
        refine b_icmp_ge (off := 15) (tgt := 32) (by decide +kernel) (by decide) (fun h4 => ?_) (fun h4 => ?_)
        · refine b_vret (by decide +kernel) rfl ⟨?_, ?_⟩
          · first | rfl | (rw [gI_Lay_drive, if_neg h1, if_neg h2, if_neg h3, if_pos h4]; done) | (simp only [gI_Lay_drive]; simp only [*, if_true, if_false]; done) | (simp_all [gI_Lay_drive]; done)
          · first | rfl | (rw [gI_Lay_drive, if_neg h1, if_neg h2, if_neg h3, if_pos h4]; done) | (simp only [gI_Lay_drive]; simp only [*, if_true, if_false]; done) | (simp_all [gI_Lay_drive]; done)
        · refine b_blk (pc' := 32) (ls' := [some (mR (3, 0, k)), some (mI c), some (mI r)]) (st' := []) (S' := (L, m_up I (k + 2) (c.toNatClampNeg) ((I (k + 2) c.toNatClampNeg) ||| ((1 : Int32) <<< (r &&& 31))), J, R)) (P := (((True ∧ R k 3 = some (20, 6, k + 2)) ∧ vp_in c 6) ∧ vp_in c 6)) [(.aload_n 0, (0, 0, 0, 0, 0)), (.getfield 15, (3, 3, 3, 0, 0)), (.iload_n 1, (0, 0, 0, 0, 0)), (.dup2, (0, 0, 0, 0, 0)), (.iaload, (0, 0, 0, 0, 0)), (.iconst 1, (0, 0, 0, 1, 0)), (.iload_n 2, (0, 0, 0, 0, 0)), (.ishl, (0, 0, 0, 0, 0)), (.ior, (0, 0, 0, 0, 0)), (.iastore, (0, 0, 0, 0, 0))] [some (20, 6, k + 2)] (by decide +kernel) rfl ⟨⟨⟨trivial, h.2.1⟩, (in_6 (by assumption) (by assumption))⟩, (in_6 (by assumption) (by assumption))⟩ ?_
          refine b_vret (by decide +kernel) rfl ⟨?_, ?_⟩
          · first | rfl | (rw [gI_Lay_drive, if_neg h1, if_neg h2, if_neg h3, if_neg h4]; done) | (simp only [gI_Lay_drive]; simp only [*, if_true, if_false]; done) | (simp_all [gI_Lay_drive]; done)
          · first | rfl | (rw [gI_Lay_drive, if_neg h1, if_neg h2, if_neg h3, if_neg h4]; done) | (simp only [gI_Lay_drive]; simp only [*, if_true, if_false]; done) | (simp_all [gI_Lay_drive]; done)
def w_putStake (I : Nat → Nat → Int32) (k : Nat) (f c r : Int32) : Nat → Nat → Int32 := if v_isStake f c = true then m_up I (k + 3) (f * 6 + c).toNatClampNeg r else I
set_option maxRecDepth 100000 in
set_option maxHeartbeats 4000000 in
theorem c_Lay_putStake {G : MG} {L : List (Nat × Nat)} {I : Nat → Nat → Int32} {J : Nat → Nat → Int64} {R : Nat → Nat → Option MRef} (k : Nat) (f : Int32) (c : Int32) (r : Int32) (h : LayR R k) : m_met G 2 0 0 y_Lay_putStake M_Lay_putStake [mR (3, 0, k), mI f, mI c, mI r] (L, I, J, R) (m_is (none) (L, w_putStake I k f c r, J, R)) := by
  refine m_met_in n_Lay_putStake (plainFor_of_name (by decide)) (by decide) (Nat.le_of_ble_eq_true rfl) (ls := [some (mR (3, 0, k)), some (mI f), some (mI c), some (mI r)]) rfl ?_
  refine b_blk (pc' := 2) (ls' := [some (mR (3, 0, k)), some (mI f), some (mI c), some (mI r)]) (st' := [mI c, mI f]) (S' := (L, I, J, R)) (P := True) [(.iload_n 1, (0, 0, 0, 0, 0)), (.iload_n 2, (0, 0, 0, 0, 0))] [] (by decide +kernel) rfl trivial ?_
  refine b_cS (as := [mI f, mI c]) (st := []) (by decide +kernel) k_3_40 n_Lay_isStake s_Lay_isStake (c_Lay_isStake f c ) (Nat.le_of_ble_eq_true rfl) (by decide) rfl rfl (fun _ h => h) ?_
  show m_B _ _ _ _ _ _ 5 [some (mR (3, 0, k)), some (mI f), some (mI c), some (mI r)] [mI (bI (v_isStake f c))] (L, I, J, R)
  refine b_if_eq (off := 15) (tgt := 20) (by decide +kernel) (by decide) (fun h1 => ?_) (fun h1 => ?_)
  · refine b_vret (by decide +kernel) rfl ⟨?_, ?_⟩
    · first | rfl | (simp only [bI_eq0, bI_ne0] at h1; simp [w_putStake, h1])
    · first | rfl | (simp only [bI_eq0, bI_ne0] at h1; simp [w_putStake, h1])
  · refine b_blk (pc' := 20) (ls' := [some (mR (3, 0, k)), some (mI f), some (mI c), some (mI r)]) (st' := []) (S' := (L, m_up I (k + 3) (((f * (6 : Int32)) + c).toNatClampNeg) r, J, R)) (P := ((True ∧ R k 4 = some (20, 36, k + 3)) ∧ vp_in ((f * (6 : Int32)) + c) 36)) [(.aload_n 0, (0, 0, 0, 0, 0)), (.getfield 18, (3, 4, 3, 0, 0)), (.iload_n 1, (0, 0, 0, 0, 0)), (.bipush 6, (0, 0, 0, 6, 0)), (.imul, (0, 0, 0, 0, 0)), (.iload_n 2, (0, 0, 0, 0, 0)), (.iadd, (0, 0, 0, 0, 0)), (.iload_n 3, (0, 0, 0, 0, 0)), (.iastore, (0, 0, 0, 0, 0))] [some (20, 36, k + 3)] (by decide +kernel) rfl ⟨⟨trivial, h.2.2⟩, (isStake_in (bI_ne0.mp h1))⟩ ?_
    refine b_vret (by decide +kernel) rfl ⟨?_, ?_⟩
    · first | rfl | (simp only [bI_eq0, bI_ne0] at h1; simp [w_putStake, h1])
    · first | rfl | (simp only [bI_eq0, bI_ne0] at h1; simp [w_putStake, h1])
def l_left (I : Nat → Nat → Int32) (k : Nat) (f : Int32) : Nat → Int32
  | 0 => 0
  | n + 1 => l_left I k f n + (if v_rowOf I k f (nI n) = -1 then 0 else 1)
set_option maxRecDepth 100000 in
set_option maxHeartbeats 4000000 in
theorem c_Lay_leftOf {G : MG} {L : List (Nat × Nat)} {I : Nat → Nat → Int32} {J : Nat → Nat → Int64} {R : Nat → Nat → Option MRef} (k : Nat) (f : Int32) (h : LayR R k) : m_met G 3 0 0 y_Lay_leftOf M_Lay_leftOf [mR (3, 0, k), mI f] (L, I, J, R) (m_is (some (mI (l_left I k f 6))) (L, I, J, R)) := by
  refine m_met_in n_Lay_leftOf (plainFor_of_name (by decide)) (by decide) (Nat.le_of_ble_eq_true rfl) (ls := [some (mR (3, 0, k)), some (mI f), none, none]) rfl ?_
  refine b_blk (pc' := 4) (ls' := [some (mR (3, 0, k)), some (mI f), some (mI 0), some (mI 0)]) (st' := []) (S' := (L, I, J, R)) (P := True) [(.iconst 0, (0, 0, 0, 0, 0)), (.istore_n 2, (0, 0, 0, 0, 0)), (.iconst 0, (0, 0, 0, 0, 0)), (.istore_n 3, (0, 0, 0, 0, 0))] [] (by decide +kernel) rfl trivial ?_
  suffices hx : m_B G (m_rm 3 0 0) M_Lay_leftOf (m_is (some (mI (l_left I k f 6))) (L, I, J, R)) 0 0 34 [some (mR (3, 0, k)), some (mI f), some (mI (l_left I k f 6)), some (mI (nI 6))] [] (L, I, J, R) by
    refine m_B_cg ?_ rfl ?_ (loop_up 6 (fun n => m_B G (m_rm 3 0 0) M_Lay_leftOf (m_is (some (mI (l_left I k f 6))) (L, I, J, R)) 0 0 4 [some (mR (3, 0, k)), some (mI f), some (mI (l_left I k f n)), some (mI (nI n))] [] (L, I, J, R)) ?_ ?_ 0 (Nat.zero_le _))
    · simp [l_left, nI_succ, nI_0, m_clr, *]
    · rfl
    · refine b_blk (pc' := 7) (ls' := [some (mR (3, 0, k)), some (mI f), some (mI (l_left I k f 6)), some (mI (nI 6))]) (st' := [mI 6, mI (nI 6)]) (S' := (L, I, J, R)) (P := True) [(.iload_n 3, (0, 0, 0, 0, 0)), (.bipush 6, (0, 0, 0, 6, 0))] [] (by decide +kernel) rfl trivial ?_
      refine b_icmp_ge (off := 27) (tgt := 34) (by decide +kernel) (by decide) (fun h1 => ?_) (fun h1 => ?_)
      · exact hx
      · exact absurd (Int32.le_refl _) h1
    · intro n hn ih
      refine b_blk (pc' := 7) (ls' := [some (mR (3, 0, k)), some (mI f), some (mI (l_left I k f n)), some (mI (nI n))]) (st' := [mI 6, mI (nI n)]) (S' := (L, I, J, R)) (P := True) [(.iload_n 3, (0, 0, 0, 0, 0)), (.bipush 6, (0, 0, 0, 6, 0))] [] (by decide +kernel) rfl trivial ?_
      refine b_icmp_ge (off := 27) (tgt := 34) (by decide +kernel) (by decide) (fun h2 => ?_) (fun h2 => ?_)
      · exact absurd h2 (nI_ge hn (by decide))
      · refine b_blk (pc' := 14) (ls' := [some (mR (3, 0, k)), some (mI f), some (mI (l_left I k f n)), some (mI (nI n))]) (st' := [mI (nI n), mI f, mR (3, 0, k), mI (l_left I k f n)]) (S' := (L, I, J, R)) (P := True) [(.iload_n 2, (0, 0, 0, 0, 0)), (.aload_n 0, (0, 0, 0, 0, 0)), (.iload_n 1, (0, 0, 0, 0, 0)), (.iload_n 3, (0, 0, 0, 0, 0))] [] (by decide +kernel) rfl trivial ?_
        refine b_cV (as := [mI f, mI (nI n)]) (st := [mI (l_left I k f n)]) (by decide +kernel) k_3_61 n_Lay_rowOf rfl (by decide) v_Lay_rowOf (c_Lay_rowOf k f (nI n) (by assumption)) (Nat.le_of_ble_eq_true rfl) (by decide) rfl rfl (fun _ h => h) ?_
        show m_B _ _ _ _ _ _ 17 [some (mR (3, 0, k)), some (mI f), some (mI (l_left I k f n)), some (mI (nI n))] [mI (v_rowOf I k f (nI n)), mI (l_left I k f n)] (L, I, J, R)
        refine b_blk (pc' := 18) (ls' := [some (mR (3, 0, k)), some (mI f), some (mI (l_left I k f n)), some (mI (nI n))]) (st' := [mI (-1), mI (v_rowOf I k f (nI n)), mI (l_left I k f n)]) (S' := (L, I, J, R)) (P := True) [(.iconst (-1), (0, 0, 0, (-1), 0))] [] (by decide +kernel) rfl trivial ?_
        refine b_icmp_ne (off := 7) (tgt := 25) (by decide +kernel) (by decide) (fun h3 => ?_) (fun h3 => ?_)
        · refine b_blk (pc' := 4) (ls' := [some (mR (3, 0, k)), some (mI f), some (mI ((l_left I k f n) + (1 : Int32))), some (mI ((nI n) + 1))]) (st' := []) (S' := (L, I, J, R)) (P := True) [(.iconst 1, (0, 0, 0, 1, 0)), (.iadd, (0, 0, 0, 0, 0)), (.istore_n 2, (0, 0, 0, 0, 0)), (.iinc 3 1, (0, 0, 0, 1, 0)), (.goto (-27), (0, 4, 0, 0, 0))] [] (by decide +kernel) rfl trivial ?_
          refine m_B_cg ?_ rfl ?_ ih
          · simp [l_left, nI_succ, nI_0, m_clr, *]
          · rfl
        · refine b_blk (pc' := 26) (ls' := [some (mR (3, 0, k)), some (mI f), some (mI (l_left I k f n)), some (mI (nI n))]) (st' := [mI 0, mI (l_left I k f n)]) (S' := (L, I, J, R)) (P := True) [(.iconst 0, (0, 0, 0, 0, 0)), (.goto 4, (0, 26, 0, 0, 0))] [] (by decide +kernel) rfl trivial ?_
          refine b_blk (pc' := 4) (ls' := [some (mR (3, 0, k)), some (mI f), some (mI ((l_left I k f n) + (0 : Int32))), some (mI ((nI n) + 1))]) (st' := []) (S' := (L, I, J, R)) (P := True) [(.iadd, (0, 0, 0, 0, 0)), (.istore_n 2, (0, 0, 0, 0, 0)), (.iinc 3 1, (0, 0, 0, 1, 0)), (.goto (-27), (0, 4, 0, 0, 0))] [] (by decide +kernel) rfl trivial ?_
          refine m_B_cg ?_ rfl ?_ ih
          · simp [l_left, nI_succ, nI_0, m_clr, *]
          · rfl
  refine b_blk (pc' := 35) (ls' := [some (mR (3, 0, k)), some (mI f), some (mI (l_left I k f 6)), some (mI (nI 6))]) (st' := [mI (l_left I k f 6)]) (S' := (L, I, J, R)) (P := True) [(.iload_n 2, (0, 0, 0, 0, 0))] [] (by decide +kernel) rfl trivial ?_
  refine b_iret (by decide +kernel) rfl ⟨?_, ?_⟩
  · simp_all
  · simp_all
def l_stakesAt (I : Nat → Nat → Int32) (k : Nat) (c r : Int32) : Nat → Int32
  | 0 => 0
  | n + 1 => l_stakesAt I k c r n + (if v_rowOf I k (nI n) c = r then 1 else 0)
set_option maxRecDepth 100000 in
set_option maxHeartbeats 4000000 in
theorem c_Lay_stakesAt {G : MG} {L : List (Nat × Nat)} {I : Nat → Nat → Int32} {J : Nat → Nat → Int64} {R : Nat → Nat → Option MRef} (k : Nat) (c : Int32) (r : Int32) (h : LayR R k) : m_met G 3 0 0 y_Lay_stakesAt M_Lay_stakesAt [mR (3, 0, k), mI c, mI r] (L, I, J, R) (m_is (some (mI (l_stakesAt I k c r 6))) (L, I, J, R)) := by
  refine m_met_in n_Lay_stakesAt (plainFor_of_name (by decide)) (by decide) (Nat.le_of_ble_eq_true rfl) (ls := [some (mR (3, 0, k)), some (mI c), some (mI r), none, none]) rfl ?_
  refine b_blk (pc' := 5) (ls' := [some (mR (3, 0, k)), some (mI c), some (mI r), some (mI 0), some (mI 0)]) (st' := []) (S' := (L, I, J, R)) (P := True) [(.iconst 0, (0, 0, 0, 0, 0)), (.istore_n 3, (0, 0, 0, 0, 0)), (.iconst 0, (0, 0, 0, 0, 0)), (.istore 4, (0, 0, 0, 0, 0))] [] (by decide +kernel) rfl trivial ?_
  suffices hx : m_B G (m_rm 3 0 0) M_Lay_stakesAt (m_is (some (mI (l_stakesAt I k c r 6))) (L, I, J, R)) 0 0 37 [some (mR (3, 0, k)), some (mI c), some (mI r), some (mI (l_stakesAt I k c r 6)), some (mI (nI 6))] [] (L, I, J, R) by
    refine m_B_cg ?_ rfl ?_ (loop_up 6 (fun n => m_B G (m_rm 3 0 0) M_Lay_stakesAt (m_is (some (mI (l_stakesAt I k c r 6))) (L, I, J, R)) 0 0 5 [some (mR (3, 0, k)), some (mI c), some (mI r), some (mI (l_stakesAt I k c r n)), some (mI (nI n))] [] (L, I, J, R)) ?_ ?_ 0 (Nat.zero_le _))
    · simp [l_stakesAt, nI_succ, nI_0, m_clr, *]
    · rfl
    · refine b_blk (pc' := 9) (ls' := [some (mR (3, 0, k)), some (mI c), some (mI r), some (mI (l_stakesAt I k c r 6)), some (mI (nI 6))]) (st' := [mI 6, mI (nI 6)]) (S' := (L, I, J, R)) (P := True) [(.iload 4, (0, 0, 0, 0, 0)), (.bipush 6, (0, 0, 0, 6, 0))] [] (by decide +kernel) rfl trivial ?_
      refine b_icmp_ge (off := 28) (tgt := 37) (by decide +kernel) (by decide) (fun h1 => ?_) (fun h1 => ?_)
      · exact hx
      · exact absurd (Int32.le_refl _) h1
    · intro n hn ih
      refine b_blk (pc' := 9) (ls' := [some (mR (3, 0, k)), some (mI c), some (mI r), some (mI (l_stakesAt I k c r n)), some (mI (nI n))]) (st' := [mI 6, mI (nI n)]) (S' := (L, I, J, R)) (P := True) [(.iload 4, (0, 0, 0, 0, 0)), (.bipush 6, (0, 0, 0, 6, 0))] [] (by decide +kernel) rfl trivial ?_
      refine b_icmp_ge (off := 28) (tgt := 37) (by decide +kernel) (by decide) (fun h2 => ?_) (fun h2 => ?_)
      · exact absurd h2 (nI_ge hn (by decide))
      · refine b_blk (pc' := 17) (ls' := [some (mR (3, 0, k)), some (mI c), some (mI r), some (mI (l_stakesAt I k c r n)), some (mI (nI n))]) (st' := [mI c, mI (nI n), mR (3, 0, k), mI (l_stakesAt I k c r n)]) (S' := (L, I, J, R)) (P := True) [(.iload_n 3, (0, 0, 0, 0, 0)), (.aload_n 0, (0, 0, 0, 0, 0)), (.iload 4, (0, 0, 0, 0, 0)), (.iload_n 1, (0, 0, 0, 0, 0))] [] (by decide +kernel) rfl trivial ?_
        refine b_cV (as := [mI (nI n), mI c]) (st := [mI (l_stakesAt I k c r n)]) (by decide +kernel) k_3_61 n_Lay_rowOf rfl (by decide) v_Lay_rowOf (c_Lay_rowOf k (nI n) c (by assumption)) (Nat.le_of_ble_eq_true rfl) (by decide) rfl rfl (fun _ h => h) ?_
        show m_B _ _ _ _ _ _ 20 [some (mR (3, 0, k)), some (mI c), some (mI r), some (mI (l_stakesAt I k c r n)), some (mI (nI n))] [mI (v_rowOf I k (nI n) c), mI (l_stakesAt I k c r n)] (L, I, J, R)
        refine b_blk (pc' := 21) (ls' := [some (mR (3, 0, k)), some (mI c), some (mI r), some (mI (l_stakesAt I k c r n)), some (mI (nI n))]) (st' := [mI r, mI (v_rowOf I k (nI n) c), mI (l_stakesAt I k c r n)]) (S' := (L, I, J, R)) (P := True) [(.iload_n 2, (0, 0, 0, 0, 0))] [] (by decide +kernel) rfl trivial ?_
        refine b_icmp_ne (off := 7) (tgt := 28) (by decide +kernel) (by decide) (fun h3 => ?_) (fun h3 => ?_)
        · refine b_blk (pc' := 5) (ls' := [some (mR (3, 0, k)), some (mI c), some (mI r), some (mI ((l_stakesAt I k c r n) + (0 : Int32))), some (mI ((nI n) + 1))]) (st' := []) (S' := (L, I, J, R)) (P := True) [(.iconst 0, (0, 0, 0, 0, 0)), (.iadd, (0, 0, 0, 0, 0)), (.istore_n 3, (0, 0, 0, 0, 0)), (.iinc 4 1, (0, 0, 0, 1, 0)), (.goto (-29), (0, 5, 0, 0, 0))] [] (by decide +kernel) rfl trivial ?_
          refine m_B_cg ?_ rfl ?_ ih
          · simp [l_stakesAt, nI_succ, nI_0, m_clr, *]
          · rfl
        · refine b_blk (pc' := 29) (ls' := [some (mR (3, 0, k)), some (mI c), some (mI r), some (mI (l_stakesAt I k c r n)), some (mI (nI n))]) (st' := [mI 1, mI (l_stakesAt I k c r n)]) (S' := (L, I, J, R)) (P := True) [(.iconst 1, (0, 0, 0, 1, 0)), (.goto 4, (0, 29, 0, 0, 0))] [] (by decide +kernel) rfl trivial ?_
          refine b_blk (pc' := 5) (ls' := [some (mR (3, 0, k)), some (mI c), some (mI r), some (mI ((l_stakesAt I k c r n) + (1 : Int32))), some (mI ((nI n) + 1))]) (st' := []) (S' := (L, I, J, R)) (P := True) [(.iadd, (0, 0, 0, 0, 0)), (.istore_n 3, (0, 0, 0, 0, 0)), (.iinc 4 1, (0, 0, 0, 1, 0)), (.goto (-29), (0, 5, 0, 0, 0))] [] (by decide +kernel) rfl trivial ?_
          refine m_B_cg ?_ rfl ?_ ih
          · simp [l_stakesAt, nI_succ, nI_0, m_clr, *]
          · rfl
  refine b_blk (pc' := 38) (ls' := [some (mR (3, 0, k)), some (mI c), some (mI r), some (mI (l_stakesAt I k c r 6)), some (mI (nI 6))]) (st' := [mI (l_stakesAt I k c r 6)]) (S' := (L, I, J, R)) (P := True) [(.iload_n 3, (0, 0, 0, 0, 0))] [] (by decide +kernel) rfl trivial ?_
  refine b_iret (by decide +kernel) rfl ⟨?_, ?_⟩
  · simp_all
  · simp_all
/-- owner and the row nearest, of the first n fences -/
def l_owner (I : Nat → Nat → Int32) (k : Nat) (c r : Int32) : Nat → Int32 × Int32
  | 0 => (-1, -1)
  | n + 1 => if r < v_rowOf I k (nI n) c then l_owner I k c r n else if v_rowOf I k (nI n) c ≤ (l_owner I k c r n).2 then l_owner I k c r n else (nI n, v_rowOf I k (nI n) c)
set_option maxRecDepth 100000 in
set_option maxHeartbeats 4000000 in
theorem c_Lay_ownerOf {G : MG} {L : List (Nat × Nat)} {I : Nat → Nat → Int32} {J : Nat → Nat → Int64} {R : Nat → Nat → Option MRef} (k : Nat) (c : Int32) (r : Int32) (h : LayR R k) : m_met G 3 0 0 y_Lay_ownerOf M_Lay_ownerOf [mR (3, 0, k), mI c, mI r] (L, I, J, R) (m_is (some (mI ((l_owner I k c r 6).1))) (L, I, J, R)) := by
  refine m_met_in n_Lay_ownerOf (plainFor_of_name (by decide)) (by decide) (Nat.le_of_ble_eq_true rfl) (ls := [some (mR (3, 0, k)), some (mI c), some (mI r), none, none, none, none]) rfl ?_
  refine b_blk (pc' := 8) (ls' := [some (mR (3, 0, k)), some (mI c), some (mI r), some (mI (-1)), some (mI (-1)), some (mI 0), none]) (st' := []) (S' := (L, I, J, R)) (P := True) [(.iconst (-1), (0, 0, 0, (-1), 0)), (.istore_n 3, (0, 0, 0, 0, 0)), (.iconst (-1), (0, 0, 0, (-1), 0)), (.istore 4, (0, 0, 0, 0, 0)), (.iconst 0, (0, 0, 0, 0, 0)), (.istore 5, (0, 0, 0, 0, 0))] [] (by decide +kernel) rfl trivial ?_
  suffices hx : m_B G (m_rm 3 0 0) M_Lay_ownerOf (m_is (some (mI ((l_owner I k c r 6).1))) (L, I, J, R)) 0 0 50 [some (mR (3, 0, k)), some (mI c), some (mI r), some (mI ((l_owner I k c r 6).1)), some (mI ((l_owner I k c r 6).2)), some (mI (nI 6)), none] [] (L, I, J, R) by
    refine m_B_cg ?_ rfl ?_ (loop_up 6 (fun n => m_B G (m_rm 3 0 0) M_Lay_ownerOf (m_is (some (mI ((l_owner I k c r 6).1))) (L, I, J, R)) 0 0 8 [some (mR (3, 0, k)), some (mI c), some (mI r), some (mI ((l_owner I k c r n).1)), some (mI ((l_owner I k c r n).2)), some (mI (nI n)), none] [] (L, I, J, R)) ?_ ?_ 0 (Nat.zero_le _))
    · simp [l_owner, nI_succ, nI_0, m_clr, *]
    · rfl
    · refine b_blk (pc' := 12) (ls' := [some (mR (3, 0, k)), some (mI c), some (mI r), some (mI ((l_owner I k c r 6).1)), some (mI ((l_owner I k c r 6).2)), some (mI (nI 6)), none]) (st' := [mI 6, mI (nI 6)]) (S' := (L, I, J, R)) (P := True) [(.iload 5, (0, 0, 0, 0, 0)), (.bipush 6, (0, 0, 0, 6, 0))] [] (by decide +kernel) rfl trivial ?_
      refine b_icmp_ge (off := 38) (tgt := 50) (by decide +kernel) (by decide) (fun h1 => ?_) (fun h1 => ?_)
      · exact hx
      · exact absurd (Int32.le_refl _) h1
    · intro n hn ih
      refine b_blk (pc' := 12) (ls' := [some (mR (3, 0, k)), some (mI c), some (mI r), some (mI ((l_owner I k c r n).1)), some (mI ((l_owner I k c r n).2)), some (mI (nI n)), none]) (st' := [mI 6, mI (nI n)]) (S' := (L, I, J, R)) (P := True) [(.iload 5, (0, 0, 0, 0, 0)), (.bipush 6, (0, 0, 0, 6, 0))] [] (by decide +kernel) rfl trivial ?_
      refine b_icmp_ge (off := 38) (tgt := 50) (by decide +kernel) (by decide) (fun h2 => ?_) (fun h2 => ?_)
      · exact absurd h2 (nI_ge hn (by decide))
      · refine b_blk (pc' := 19) (ls' := [some (mR (3, 0, k)), some (mI c), some (mI r), some (mI ((l_owner I k c r n).1)), some (mI ((l_owner I k c r n).2)), some (mI (nI n)), none]) (st' := [mI c, mI (nI n), mR (3, 0, k)]) (S' := (L, I, J, R)) (P := True) [(.aload_n 0, (0, 0, 0, 0, 0)), (.iload 5, (0, 0, 0, 0, 0)), (.iload_n 1, (0, 0, 0, 0, 0))] [] (by decide +kernel) rfl trivial ?_
        refine b_cV (as := [mI (nI n), mI c]) (st := []) (by decide +kernel) k_3_61 n_Lay_rowOf rfl (by decide) v_Lay_rowOf (c_Lay_rowOf k (nI n) c (by assumption)) (Nat.le_of_ble_eq_true rfl) (by decide) rfl rfl (fun _ h => h) ?_
        show m_B _ _ _ _ _ _ 22 [some (mR (3, 0, k)), some (mI c), some (mI r), some (mI ((l_owner I k c r n).1)), some (mI ((l_owner I k c r n).2)), some (mI (nI n)), none] [mI (v_rowOf I k (nI n) c)] (L, I, J, R)
        refine b_blk (pc' := 27) (ls' := [some (mR (3, 0, k)), some (mI c), some (mI r), some (mI ((l_owner I k c r n).1)), some (mI ((l_owner I k c r n).2)), some (mI (nI n)), some (mI (v_rowOf I k (nI n) c))]) (st' := [mI r, mI (v_rowOf I k (nI n) c)]) (S' := (L, I, J, R)) (P := True) [(.istore 6, (0, 0, 0, 0, 0)), (.iload 6, (0, 0, 0, 0, 0)), (.iload_n 2, (0, 0, 0, 0, 0))] [] (by decide +kernel) rfl trivial ?_
        refine b_icmp_gt (off := 17) (tgt := 44) (by decide +kernel) (by decide) (fun h3 => ?_) (fun h3 => ?_)
        · refine b_blk (pc' := 8) (ls' := [some (mR (3, 0, k)), some (mI c), some (mI r), some (mI ((l_owner I k c r n).1)), some (mI ((l_owner I k c r n).2)), some (mI ((nI n) + 1)), some (mI (v_rowOf I k (nI n) c))]) (st' := []) (S' := (L, I, J, R)) (P := True) [(.iinc 5 1, (0, 0, 0, 1, 0)), (.goto (-39), (0, 8, 0, 0, 0))] [] (by decide +kernel) rfl trivial ?_
          refine b_frg 6 ?_
          refine m_B_cg ?_ rfl ?_ ih
          · simp [l_owner, nI_succ, nI_0, m_clr, *]
          · rfl
        · refine b_blk (pc' := 34) (ls' := [some (mR (3, 0, k)), some (mI c), some (mI r), some (mI ((l_owner I k c r n).1)), some (mI ((l_owner I k c r n).2)), some (mI (nI n)), some (mI (v_rowOf I k (nI n) c))]) (st' := [mI ((l_owner I k c r n).2), mI (v_rowOf I k (nI n) c)]) (S' := (L, I, J, R)) (P := True) [(.iload 6, (0, 0, 0, 0, 0)), (.iload 4, (0, 0, 0, 0, 0))] [] (by decide +kernel) rfl trivial ?_
          refine b_icmp_le (off := 10) (tgt := 44) (by decide +kernel) (by decide) (fun h4 => ?_) (fun h4 => ?_)
          · refine b_blk (pc' := 8) (ls' := [some (mR (3, 0, k)), some (mI c), some (mI r), some (mI ((l_owner I k c r n).1)), some (mI ((l_owner I k c r n).2)), some (mI ((nI n) + 1)), some (mI (v_rowOf I k (nI n) c))]) (st' := []) (S' := (L, I, J, R)) (P := True) [(.iinc 5 1, (0, 0, 0, 1, 0)), (.goto (-39), (0, 8, 0, 0, 0))] [] (by decide +kernel) rfl trivial ?_
            refine b_frg 6 ?_
            refine m_B_cg ?_ rfl ?_ ih
            · simp [l_owner, nI_succ, nI_0, m_clr, *]
            · rfl
          · refine b_blk (pc' := 8) (ls' := [some (mR (3, 0, k)), some (mI c), some (mI r), some (mI (nI n)), some (mI (v_rowOf I k (nI n) c)), some (mI ((nI n) + 1)), some (mI (v_rowOf I k (nI n) c))]) (st' := []) (S' := (L, I, J, R)) (P := True) [(.iload 6, (0, 0, 0, 0, 0)), (.istore 4, (0, 0, 0, 0, 0)), (.iload 5, (0, 0, 0, 0, 0)), (.istore_n 3, (0, 0, 0, 0, 0)), (.iinc 5 1, (0, 0, 0, 1, 0)), (.goto (-39), (0, 8, 0, 0, 0))] [] (by decide +kernel) rfl trivial ?_
            refine b_frg 6 ?_
            refine m_B_cg ?_ rfl ?_ ih
            · simp [l_owner, nI_succ, nI_0, m_clr, *]
            · rfl
  refine b_blk (pc' := 51) (ls' := [some (mR (3, 0, k)), some (mI c), some (mI r), some (mI ((l_owner I k c r 6).1)), some (mI ((l_owner I k c r 6).2)), some (mI (nI 6)), none]) (st' := [mI ((l_owner I k c r 6).1)]) (S' := (L, I, J, R)) (P := True) [(.iload_n 3, (0, 0, 0, 0, 0))] [] (by decide +kernel) rfl trivial ?_
  refine b_iret (by decide +kernel) rfl ⟨?_, ?_⟩
  · simp_all
  · simp_all
def l_below (I : Nat → Nat → Int32) (k : Nat) (a b : Int32) : Nat → Int32
  | 0 => 0
  | n + 1 => l_below I k a b n + (if v_rowOf I k b (nI n) = -1 then 0 else if v_rowOf I k a (nI n) ≤ v_rowOf I k b (nI n) then 0 else 1)
set_option maxRecDepth 100000 in
set_option maxHeartbeats 4000000 in
theorem c_Lay_columnsBelow {G : MG} {L : List (Nat × Nat)} {I : Nat → Nat → Int32} {J : Nat → Nat → Int64} {R : Nat → Nat → Option MRef} (k : Nat) (a : Int32) (b : Int32) (h : LayR R k) : m_met G 3 0 0 y_Lay_columnsBelow M_Lay_columnsBelow [mR (3, 0, k), mI a, mI b] (L, I, J, R) (m_is (some (mI (l_below I k a b 6))) (L, I, J, R)) := by
  refine m_met_in n_Lay_columnsBelow (plainFor_of_name (by decide)) (by decide) (Nat.le_of_ble_eq_true rfl) (ls := [some (mR (3, 0, k)), some (mI a), some (mI b), none, none, none]) rfl ?_
  refine b_blk (pc' := 5) (ls' := [some (mR (3, 0, k)), some (mI a), some (mI b), some (mI 0), some (mI 0), none]) (st' := []) (S' := (L, I, J, R)) (P := True) [(.iconst 0, (0, 0, 0, 0, 0)), (.istore_n 3, (0, 0, 0, 0, 0)), (.iconst 0, (0, 0, 0, 0, 0)), (.istore 4, (0, 0, 0, 0, 0))] [] (by decide +kernel) rfl trivial ?_
  suffices hx : m_B G (m_rm 3 0 0) M_Lay_columnsBelow (m_is (some (mI (l_below I k a b 6))) (L, I, J, R)) 0 0 53 [some (mR (3, 0, k)), some (mI a), some (mI b), some (mI (l_below I k a b 6)), some (mI (nI 6)), none] [] (L, I, J, R) by
    refine m_B_cg ?_ rfl ?_ (loop_up 6 (fun n => m_B G (m_rm 3 0 0) M_Lay_columnsBelow (m_is (some (mI (l_below I k a b 6))) (L, I, J, R)) 0 0 5 [some (mR (3, 0, k)), some (mI a), some (mI b), some (mI (l_below I k a b n)), some (mI (nI n)), none] [] (L, I, J, R)) ?_ ?_ 0 (Nat.zero_le _))
    · simp [l_below, nI_succ, nI_0, m_clr, *]
    · rfl
    · refine b_blk (pc' := 9) (ls' := [some (mR (3, 0, k)), some (mI a), some (mI b), some (mI (l_below I k a b 6)), some (mI (nI 6)), none]) (st' := [mI 6, mI (nI 6)]) (S' := (L, I, J, R)) (P := True) [(.iload 4, (0, 0, 0, 0, 0)), (.bipush 6, (0, 0, 0, 6, 0))] [] (by decide +kernel) rfl trivial ?_
      refine b_icmp_ge (off := 44) (tgt := 53) (by decide +kernel) (by decide) (fun h1 => ?_) (fun h1 => ?_)
      · exact hx
      · exact absurd (Int32.le_refl _) h1
    · intro n hn ih
      refine b_blk (pc' := 9) (ls' := [some (mR (3, 0, k)), some (mI a), some (mI b), some (mI (l_below I k a b n)), some (mI (nI n)), none]) (st' := [mI 6, mI (nI n)]) (S' := (L, I, J, R)) (P := True) [(.iload 4, (0, 0, 0, 0, 0)), (.bipush 6, (0, 0, 0, 6, 0))] [] (by decide +kernel) rfl trivial ?_
      refine b_icmp_ge (off := 44) (tgt := 53) (by decide +kernel) (by decide) (fun h2 => ?_) (fun h2 => ?_)
      · exact absurd h2 (nI_ge hn (by decide))
      · refine b_blk (pc' := 16) (ls' := [some (mR (3, 0, k)), some (mI a), some (mI b), some (mI (l_below I k a b n)), some (mI (nI n)), none]) (st' := [mI (nI n), mI b, mR (3, 0, k)]) (S' := (L, I, J, R)) (P := True) [(.aload_n 0, (0, 0, 0, 0, 0)), (.iload_n 2, (0, 0, 0, 0, 0)), (.iload 4, (0, 0, 0, 0, 0))] [] (by decide +kernel) rfl trivial ?_
        refine b_cV (as := [mI b, mI (nI n)]) (st := []) (by decide +kernel) k_3_61 n_Lay_rowOf rfl (by decide) v_Lay_rowOf (c_Lay_rowOf k b (nI n) (by assumption)) (Nat.le_of_ble_eq_true rfl) (by decide) rfl rfl (fun _ h => h) ?_
        show m_B _ _ _ _ _ _ 19 [some (mR (3, 0, k)), some (mI a), some (mI b), some (mI (l_below I k a b n)), some (mI (nI n)), none] [mI (v_rowOf I k b (nI n))] (L, I, J, R)
        refine b_blk (pc' := 25) (ls' := [some (mR (3, 0, k)), some (mI a), some (mI b), some (mI (l_below I k a b n)), some (mI (nI n)), some (mI (v_rowOf I k b (nI n)))]) (st' := [mI (-1), mI (v_rowOf I k b (nI n)), mI (l_below I k a b n)]) (S' := (L, I, J, R)) (P := True) [(.istore 5, (0, 0, 0, 0, 0)), (.iload_n 3, (0, 0, 0, 0, 0)), (.iload 5, (0, 0, 0, 0, 0)), (.iconst (-1), (0, 0, 0, (-1), 0))] [] (by decide +kernel) rfl trivial ?_
        refine b_icmp_eq (off := 19) (tgt := 44) (by decide +kernel) (by decide) (fun h3 => ?_) (fun h3 => ?_)
        · refine b_blk (pc' := 5) (ls' := [some (mR (3, 0, k)), some (mI a), some (mI b), some (mI ((l_below I k a b n) + (0 : Int32))), some (mI ((nI n) + 1)), some (mI (v_rowOf I k b (nI n)))]) (st' := []) (S' := (L, I, J, R)) (P := True) [(.iconst 0, (0, 0, 0, 0, 0)), (.iadd, (0, 0, 0, 0, 0)), (.istore_n 3, (0, 0, 0, 0, 0)), (.iinc 4 1, (0, 0, 0, 1, 0)), (.goto (-45), (0, 5, 0, 0, 0))] [] (by decide +kernel) rfl trivial ?_
          refine b_frg 5 ?_
          refine m_B_cg ?_ rfl ?_ ih
          · simp [l_below, nI_succ, nI_0, m_clr, *]
          · rfl
        · refine b_blk (pc' := 32) (ls' := [some (mR (3, 0, k)), some (mI a), some (mI b), some (mI (l_below I k a b n)), some (mI (nI n)), some (mI (v_rowOf I k b (nI n)))]) (st' := [mI (nI n), mI a, mR (3, 0, k), mI (l_below I k a b n)]) (S' := (L, I, J, R)) (P := True) [(.aload_n 0, (0, 0, 0, 0, 0)), (.iload_n 1, (0, 0, 0, 0, 0)), (.iload 4, (0, 0, 0, 0, 0))] [] (by decide +kernel) rfl trivial ?_
          refine b_cV (as := [mI a, mI (nI n)]) (st := [mI (l_below I k a b n)]) (by decide +kernel) k_3_61 n_Lay_rowOf rfl (by decide) v_Lay_rowOf (c_Lay_rowOf k a (nI n) (by assumption)) (Nat.le_of_ble_eq_true rfl) (by decide) rfl rfl (fun _ h => h) ?_
          show m_B _ _ _ _ _ _ 35 [some (mR (3, 0, k)), some (mI a), some (mI b), some (mI (l_below I k a b n)), some (mI (nI n)), some (mI (v_rowOf I k b (nI n)))] [mI (v_rowOf I k a (nI n)), mI (l_below I k a b n)] (L, I, J, R)
          refine b_blk (pc' := 37) (ls' := [some (mR (3, 0, k)), some (mI a), some (mI b), some (mI (l_below I k a b n)), some (mI (nI n)), some (mI (v_rowOf I k b (nI n)))]) (st' := [mI (v_rowOf I k b (nI n)), mI (v_rowOf I k a (nI n)), mI (l_below I k a b n)]) (S' := (L, I, J, R)) (P := True) [(.iload 5, (0, 0, 0, 0, 0))] [] (by decide +kernel) rfl trivial ?_
          refine b_icmp_le (off := 7) (tgt := 44) (by decide +kernel) (by decide) (fun h4 => ?_) (fun h4 => ?_)
          · refine b_blk (pc' := 5) (ls' := [some (mR (3, 0, k)), some (mI a), some (mI b), some (mI ((l_below I k a b n) + (0 : Int32))), some (mI ((nI n) + 1)), some (mI (v_rowOf I k b (nI n)))]) (st' := []) (S' := (L, I, J, R)) (P := True) [(.iconst 0, (0, 0, 0, 0, 0)), (.iadd, (0, 0, 0, 0, 0)), (.istore_n 3, (0, 0, 0, 0, 0)), (.iinc 4 1, (0, 0, 0, 1, 0)), (.goto (-45), (0, 5, 0, 0, 0))] [] (by decide +kernel) rfl trivial ?_
            refine b_frg 5 ?_
            refine m_B_cg ?_ rfl ?_ ih
            · simp [l_below, nI_succ, nI_0, m_clr, *]
            · rfl
          · refine b_blk (pc' := 45) (ls' := [some (mR (3, 0, k)), some (mI a), some (mI b), some (mI (l_below I k a b n)), some (mI (nI n)), some (mI (v_rowOf I k b (nI n)))]) (st' := [mI 1, mI (l_below I k a b n)]) (S' := (L, I, J, R)) (P := True) [(.iconst 1, (0, 0, 0, 1, 0)), (.goto 4, (0, 45, 0, 0, 0))] [] (by decide +kernel) rfl trivial ?_
            refine b_blk (pc' := 5) (ls' := [some (mR (3, 0, k)), some (mI a), some (mI b), some (mI ((l_below I k a b n) + (1 : Int32))), some (mI ((nI n) + 1)), some (mI (v_rowOf I k b (nI n)))]) (st' := []) (S' := (L, I, J, R)) (P := True) [(.iadd, (0, 0, 0, 0, 0)), (.istore_n 3, (0, 0, 0, 0, 0)), (.iinc 4 1, (0, 0, 0, 1, 0)), (.goto (-45), (0, 5, 0, 0, 0))] [] (by decide +kernel) rfl trivial ?_
            refine b_frg 5 ?_
            refine m_B_cg ?_ rfl ?_ ih
            · simp [l_below, nI_succ, nI_0, m_clr, *]
            · rfl
  refine b_blk (pc' := 54) (ls' := [some (mR (3, 0, k)), some (mI a), some (mI b), some (mI (l_below I k a b 6)), some (mI (nI 6)), none]) (st' := [mI (l_below I k a b 6)]) (S' := (L, I, J, R)) (P := True) [(.iload_n 3, (0, 0, 0, 0, 0))] [] (by decide +kernel) rfl trivial ?_
  refine b_iret (by decide +kernel) rfl ⟨?_, ?_⟩
  · simp_all
  · simp_all
def l_plant (I : Nat → Nat → Int32) (k : Nat) (f : Int32) : Nat → Nat → Nat → Int32
  | 0 => I
  | n + 1 => w_putStake (l_plant I k f n) k f (nI n) 0
def w_plant (I : Nat → Nat → Int32) (k : Nat) (f b : Int32) : Nat → Nat → Int32 := gI_Lay_putAge (l_plant I k f b.toNatClampNeg) k f 0
set_option maxRecDepth 100000 in
set_option maxHeartbeats 4000000 in
theorem c_Lay_plant {G : MG} {L : List (Nat × Nat)} {I : Nat → Nat → Int32} {J : Nat → Nat → Int64} {R : Nat → Nat → Option MRef} (k : Nat) (f : Int32) (b : Int32) (h : LayR R k) : m_met G 3 0 0 y_Lay_plant M_Lay_plant [mR (3, 0, k), mI f, mI b] (L, I, J, R) (m_is (none) (L, w_plant I k f b, J, R)) := by
  refine m_met_in n_Lay_plant (plainFor_of_name (by decide)) (by decide) (Nat.le_of_ble_eq_true rfl) (ls := [some (mR (3, 0, k)), some (mI f), some (mI b), none]) rfl ?_
  refine b_blk (pc' := 2) (ls' := [some (mR (3, 0, k)), some (mI f), some (mI b), some (mI 0)]) (st' := []) (S' := (L, I, J, R)) (P := True) [(.iconst 0, (0, 0, 0, 0, 0)), (.istore_n 3, (0, 0, 0, 0, 0))] [] (by decide +kernel) rfl trivial ?_
  suffices hx : m_B G (m_rm 3 0 0) M_Lay_plant (m_is (none) (L, w_plant I k f b, J, R)) 0 0 20 [some (mR (3, 0, k)), some (mI f), some (mI b), some (mI (nI b.toNatClampNeg))] [] (L, l_plant I k f b.toNatClampNeg, J, R) by
    refine m_B_cg ?_ rfl ?_ (loop_up b.toNatClampNeg (fun n => m_B G (m_rm 3 0 0) M_Lay_plant (m_is (none) (L, w_plant I k f b, J, R)) 0 0 2 [some (mR (3, 0, k)), some (mI f), some (mI b), some (mI (nI n))] [] (L, l_plant I k f n, J, R)) ?_ ?_ 0 (Nat.zero_le _))
    · simp [l_plant, nI_succ, nI_0, m_clr, *]
    · simp [l_plant, nI_succ, nI_0, m_clr, *]
    · refine b_blk (pc' := 4) (ls' := [some (mR (3, 0, k)), some (mI f), some (mI b), some (mI (nI b.toNatClampNeg))]) (st' := [mI b, mI (nI b.toNatClampNeg)]) (S' := (L, l_plant I k f b.toNatClampNeg, J, R)) (P := True) [(.iload_n 3, (0, 0, 0, 0, 0)), (.iload_n 2, (0, 0, 0, 0, 0))] [] (by decide +kernel) rfl trivial ?_
      refine b_icmp_ge (off := 16) (tgt := 20) (by decide +kernel) (by decide) (fun h1 => ?_) (fun h1 => ?_)
      · exact hx
      · exact absurd (ge_clN _) h1
    · intro n hn ih
      refine b_blk (pc' := 4) (ls' := [some (mR (3, 0, k)), some (mI f), some (mI b), some (mI (nI n))]) (st' := [mI b, mI (nI n)]) (S' := (L, l_plant I k f n, J, R)) (P := True) [(.iload_n 3, (0, 0, 0, 0, 0)), (.iload_n 2, (0, 0, 0, 0, 0))] [] (by decide +kernel) rfl trivial ?_
      refine b_icmp_ge (off := 16) (tgt := 20) (by decide +kernel) (by decide) (fun h2 => ?_) (fun h2 => ?_)
      · exact absurd ((ge_cl (by have := cl_lt b; omega)).mp h2) (by omega)
      · refine b_blk (pc' := 11) (ls' := [some (mR (3, 0, k)), some (mI f), some (mI b), some (mI (nI n))]) (st' := [mI 0, mI (nI n), mI f, mR (3, 0, k)]) (S' := (L, l_plant I k f n, J, R)) (P := True) [(.aload_n 0, (0, 0, 0, 0, 0)), (.iload_n 1, (0, 0, 0, 0, 0)), (.iload_n 3, (0, 0, 0, 0, 0)), (.iconst 0, (0, 0, 0, 0, 0))] [] (by decide +kernel) rfl trivial ?_
        refine b_cV (as := [mI f, mI (nI n), mI 0]) (st := []) (by decide +kernel) k_3_44 n_Lay_putStake rfl (by decide) v_Lay_putStake (c_Lay_putStake k f (nI n) (0 : Int32) (by assumption)) (Nat.le_of_ble_eq_true rfl) (by decide) rfl rfl (fun _ h => h) ?_
        show m_B _ _ _ _ _ _ 14 [some (mR (3, 0, k)), some (mI f), some (mI b), some (mI (nI n))] [] (L, w_putStake (l_plant I k f n) k f (nI n) (0 : Int32), J, R)
        refine b_blk (pc' := 2) (ls' := [some (mR (3, 0, k)), some (mI f), some (mI b), some (mI ((nI n) + 1))]) (st' := []) (S' := (L, w_putStake (l_plant I k f n) k f (nI n) (0 : Int32), J, R)) (P := True) [(.iinc 3 1, (0, 0, 0, 1, 0)), (.goto (-15), (0, 2, 0, 0, 0))] [] (by decide +kernel) rfl trivial ?_
        refine m_B_cg ?_ rfl ?_ ih
        · simp [l_plant, nI_succ, nI_0, m_clr, *]
        · simp [l_plant, nI_succ, nI_0, m_clr, *]
  refine b_blk (pc' := 23) (ls' := [some (mR (3, 0, k)), some (mI f), some (mI b), some (mI (nI b.toNatClampNeg))]) (st' := [mI 0, mI f, mR (3, 0, k)]) (S' := (L, l_plant I k f b.toNatClampNeg, J, R)) (P := True) [(.aload_n 0, (0, 0, 0, 0, 0)), (.iload_n 1, (0, 0, 0, 0, 0)), (.iconst 0, (0, 0, 0, 0, 0))] [] (by decide +kernel) rfl trivial ?_
  refine b_cV (as := [mI f, mI 0]) (st := []) (by decide +kernel) k_3_48 n_Lay_putAge rfl (by decide) v_Lay_putAge (c_Lay_putAge k f (0 : Int32) (by assumption)) (Nat.le_of_ble_eq_true rfl) (by decide) rfl rfl (fun _ h => h) ?_
  show m_B _ _ _ _ _ _ 26 [some (mR (3, 0, k)), some (mI f), some (mI b), some (mI (nI b.toNatClampNeg))] [] (L, gI_Lay_putAge (l_plant I k f b.toNatClampNeg) k f (0 : Int32), J, R)
  refine b_vret (by decide +kernel) rfl ⟨?_, ?_⟩
  · rfl
  · rfl
/-- the end of a fence's places in a column, by the first n fences; none: another one's -/
def l_fieldIn (I : Nat → Nat → Int32) (k : Nat) (c f rows : Int32) : Nat → Option Int32
  | 0 => some rows
  | n + 1 => match l_fieldIn I k c f rows n with
    | none => none
    | some e => if v_rowOf I k (nI n) c = v_rowOf I k f c ∧ ¬ f ≤ nI n then none else if v_rowOf I k (nI n) c ≤ v_rowOf I k f c then some e else if e ≤ v_rowOf I k (nI n) c then some e else some (v_rowOf I k (nI n) c)
theorem l_fieldIn_no {I : Nat → Nat → Int32} {k : Nat} {c f rows : Int32} {n : Nat} (h : l_fieldIn I k c f rows n = none) {m : Nat} (hm : n ≤ m) : l_fieldIn I k c f rows m = none := by
  induction hm with
  | refl => exact h
  | step _ ih => simp [l_fieldIn, ih]
def v_fieldIn (I : Nat → Nat → Int32) (k : Nat) (c f rows : Int32) : Int32 := if v_rowOf I k f c = -1 then 0 else match l_fieldIn I k c f rows 6 with
  | none => 0
  | some e => e - v_rowOf I k f c
set_option maxRecDepth 100000 in
set_option maxHeartbeats 4000000 in
theorem c_Lay_fieldIn {G : MG} {L : List (Nat × Nat)} {I : Nat → Nat → Int32} {J : Nat → Nat → Int64} {R : Nat → Nat → Option MRef} (k : Nat) (c : Int32) (f : Int32) (rows : Int32) (h : LayR R k) : m_met G 3 0 0 y_Lay_fieldIn M_Lay_fieldIn [mR (3, 0, k), mI c, mI f, mI rows] (L, I, J, R) (m_is (some (mI (v_fieldIn I k c f rows))) (L, I, J, R)) := by
  refine m_met_in n_Lay_fieldIn (plainFor_of_name (by decide)) (by decide) (Nat.le_of_ble_eq_true rfl) (ls := [some (mR (3, 0, k)), some (mI c), some (mI f), some (mI rows), none, none, none, none]) rfl ?_
  refine b_blk (pc' := 3) (ls' := [some (mR (3, 0, k)), some (mI c), some (mI f), some (mI rows), none, none, none, none]) (st' := [mI c, mI f, mR (3, 0, k)]) (S' := (L, I, J, R)) (P := True) [(.aload_n 0, (0, 0, 0, 0, 0)), (.iload_n 2, (0, 0, 0, 0, 0)), (.iload_n 1, (0, 0, 0, 0, 0))] [] (by decide +kernel) rfl trivial ?_
  refine b_cV (as := [mI f, mI c]) (st := []) (by decide +kernel) k_3_61 n_Lay_rowOf rfl (by decide) v_Lay_rowOf (c_Lay_rowOf k f c (by assumption)) (Nat.le_of_ble_eq_true rfl) (by decide) rfl rfl (fun _ h => h) ?_
  show m_B _ _ _ _ _ _ 6 [some (mR (3, 0, k)), some (mI c), some (mI f), some (mI rows), none, none, none, none] [mI (v_rowOf I k f c)] (L, I, J, R)
  refine b_blk (pc' := 11) (ls' := [some (mR (3, 0, k)), some (mI c), some (mI f), some (mI rows), some (mI (v_rowOf I k f c)), none, none, none]) (st' := [mI (-1), mI (v_rowOf I k f c)]) (S' := (L, I, J, R)) (P := True) [(.istore 4, (0, 0, 0, 0, 0)), (.iload 4, (0, 0, 0, 0, 0)), (.iconst (-1), (0, 0, 0, (-1), 0))] [] (by decide +kernel) rfl trivial ?_
  refine b_icmp_ne (off := 5) (tgt := 16) (by decide +kernel) (by decide) (fun h1 => ?_) (fun h1 => ?_)
  · refine b_blk (pc' := 22) (ls' := [some (mR (3, 0, k)), some (mI c), some (mI f), some (mI rows), some (mI (v_rowOf I k f c)), some (mI rows), some (mI 0), none]) (st' := []) (S' := (L, I, J, R)) (P := True) [(.iload_n 3, (0, 0, 0, 0, 0)), (.istore 5, (0, 0, 0, 0, 0)), (.iconst 0, (0, 0, 0, 0, 0)), (.istore 6, (0, 0, 0, 0, 0))] [] (by decide +kernel) rfl trivial ?_
    suffices hx : ∀ (e : Int32), l_fieldIn I k c f rows 6 = some e → m_B G (m_rm 3 0 0) M_Lay_fieldIn (m_is (some (mI (v_fieldIn I k c f rows))) (L, I, J, R)) 0 0 77 [some (mR (3, 0, k)), some (mI c), some (mI f), some (mI rows), some (mI (v_rowOf I k f c)), some (mI e), some (mI (nI 6)), none] [] (L, I, J, R) by
      refine m_B_cg ?_ rfl ?_ (loop_up 6 (fun n => ∀ (e : Int32), l_fieldIn I k c f rows n = some e → m_B G (m_rm 3 0 0) M_Lay_fieldIn (m_is (some (mI (v_fieldIn I k c f rows))) (L, I, J, R)) 0 0 22 [some (mR (3, 0, k)), some (mI c), some (mI f), some (mI rows), some (mI (v_rowOf I k f c)), some (mI e), some (mI (nI n)), none] [] (L, I, J, R)) ?_ ?_ 0 (Nat.zero_le _) rows ?_)
      · simp [l_fieldIn, nI_succ, nI_0, m_clr, *]
      · rfl
      · intro e hh
        refine b_blk (pc' := 26) (ls' := [some (mR (3, 0, k)), some (mI c), some (mI f), some (mI rows), some (mI (v_rowOf I k f c)), some (mI e), some (mI (nI 6)), none]) (st' := [mI 6, mI (nI 6)]) (S' := (L, I, J, R)) (P := True) [(.iload 6, (0, 0, 0, 0, 0)), (.bipush 6, (0, 0, 0, 6, 0))] [] (by decide +kernel) rfl trivial ?_
        refine b_icmp_ge (off := 51) (tgt := 77) (by decide +kernel) (by decide) (fun h2 => ?_) (fun h2 => ?_)
        · exact hx e hh
        · exact absurd (Int32.le_refl _) h2
      · intro n hn ih e hh
        refine b_blk (pc' := 26) (ls' := [some (mR (3, 0, k)), some (mI c), some (mI f), some (mI rows), some (mI (v_rowOf I k f c)), some (mI e), some (mI (nI n)), none]) (st' := [mI 6, mI (nI n)]) (S' := (L, I, J, R)) (P := True) [(.iload 6, (0, 0, 0, 0, 0)), (.bipush 6, (0, 0, 0, 6, 0))] [] (by decide +kernel) rfl trivial ?_
        refine b_icmp_ge (off := 51) (tgt := 77) (by decide +kernel) (by decide) (fun h3 => ?_) (fun h3 => ?_)
        · exact absurd h3 (nI_ge hn (by decide))
        · refine b_blk (pc' := 33) (ls' := [some (mR (3, 0, k)), some (mI c), some (mI f), some (mI rows), some (mI (v_rowOf I k f c)), some (mI e), some (mI (nI n)), none]) (st' := [mI c, mI (nI n), mR (3, 0, k)]) (S' := (L, I, J, R)) (P := True) [(.aload_n 0, (0, 0, 0, 0, 0)), (.iload 6, (0, 0, 0, 0, 0)), (.iload_n 1, (0, 0, 0, 0, 0))] [] (by decide +kernel) rfl trivial ?_
          refine b_cV (as := [mI (nI n), mI c]) (st := []) (by decide +kernel) k_3_61 n_Lay_rowOf rfl (by decide) v_Lay_rowOf (c_Lay_rowOf k (nI n) c (by assumption)) (Nat.le_of_ble_eq_true rfl) (by decide) rfl rfl (fun _ h => h) ?_
          show m_B _ _ _ _ _ _ 36 [some (mR (3, 0, k)), some (mI c), some (mI f), some (mI rows), some (mI (v_rowOf I k f c)), some (mI e), some (mI (nI n)), none] [mI (v_rowOf I k (nI n) c)] (L, I, J, R)
          refine b_blk (pc' := 42) (ls' := [some (mR (3, 0, k)), some (mI c), some (mI f), some (mI rows), some (mI (v_rowOf I k f c)), some (mI e), some (mI (nI n)), some (mI (v_rowOf I k (nI n) c))]) (st' := [mI (v_rowOf I k f c), mI (v_rowOf I k (nI n) c)]) (S' := (L, I, J, R)) (P := True) [(.istore 7, (0, 0, 0, 0, 0)), (.iload 7, (0, 0, 0, 0, 0)), (.iload 4, (0, 0, 0, 0, 0))] [] (by decide +kernel) rfl trivial ?_
          refine b_icmp_ne (off := 11) (tgt := 53) (by decide +kernel) (by decide) (fun h4 => ?_) (fun h4 => ?_)
          · refine b_blk (pc' := 57) (ls' := [some (mR (3, 0, k)), some (mI c), some (mI f), some (mI rows), some (mI (v_rowOf I k f c)), some (mI e), some (mI (nI n)), some (mI (v_rowOf I k (nI n) c))]) (st' := [mI (v_rowOf I k f c), mI (v_rowOf I k (nI n) c)]) (S' := (L, I, J, R)) (P := True) [(.iload 7, (0, 0, 0, 0, 0)), (.iload 4, (0, 0, 0, 0, 0))] [] (by decide +kernel) rfl trivial ?_
            refine b_icmp_le (off := 14) (tgt := 71) (by decide +kernel) (by decide) (fun h5 => ?_) (fun h5 => ?_)
            · refine b_blk (pc' := 22) (ls' := [some (mR (3, 0, k)), some (mI c), some (mI f), some (mI rows), some (mI (v_rowOf I k f c)), some (mI e), some (mI ((nI n) + 1)), some (mI (v_rowOf I k (nI n) c))]) (st' := []) (S' := (L, I, J, R)) (P := True) [(.iinc 6 1, (0, 0, 0, 1, 0)), (.goto (-52), (0, 22, 0, 0, 0))] [] (by decide +kernel) rfl trivial ?_
              refine b_frg 7 ?_
              refine m_B_cg ?_ rfl ?_ (ih e ?_)
              · simp [l_fieldIn, nI_succ, nI_0, m_clr, *]
              · rfl
              · first | (simp [l_fieldIn, hh, *]; done) | (rw [h4] at h8; exact absurd (Int32.le_refl _) h8)
            · refine b_blk (pc' := 64) (ls' := [some (mR (3, 0, k)), some (mI c), some (mI f), some (mI rows), some (mI (v_rowOf I k f c)), some (mI e), some (mI (nI n)), some (mI (v_rowOf I k (nI n) c))]) (st' := [mI e, mI (v_rowOf I k (nI n) c)]) (S' := (L, I, J, R)) (P := True) [(.iload 7, (0, 0, 0, 0, 0)), (.iload 5, (0, 0, 0, 0, 0))] [] (by decide +kernel) rfl trivial ?_
              refine b_icmp_ge (off := 7) (tgt := 71) (by decide +kernel) (by decide) (fun h6 => ?_) (fun h6 => ?_)
              · refine b_blk (pc' := 22) (ls' := [some (mR (3, 0, k)), some (mI c), some (mI f), some (mI rows), some (mI (v_rowOf I k f c)), some (mI e), some (mI ((nI n) + 1)), some (mI (v_rowOf I k (nI n) c))]) (st' := []) (S' := (L, I, J, R)) (P := True) [(.iinc 6 1, (0, 0, 0, 1, 0)), (.goto (-52), (0, 22, 0, 0, 0))] [] (by decide +kernel) rfl trivial ?_
                refine b_frg 7 ?_
                refine m_B_cg ?_ rfl ?_ (ih e ?_)
                · simp [l_fieldIn, nI_succ, nI_0, m_clr, *]
                · rfl
                · first | (simp [l_fieldIn, hh, *]; done) | (rw [h4] at h8; exact absurd (Int32.le_refl _) h8)
              · refine b_blk (pc' := 22) (ls' := [some (mR (3, 0, k)), some (mI c), some (mI f), some (mI rows), some (mI (v_rowOf I k f c)), some (mI (v_rowOf I k (nI n) c)), some (mI ((nI n) + 1)), some (mI (v_rowOf I k (nI n) c))]) (st' := []) (S' := (L, I, J, R)) (P := True) [(.iload 7, (0, 0, 0, 0, 0)), (.istore 5, (0, 0, 0, 0, 0)), (.iinc 6 1, (0, 0, 0, 1, 0)), (.goto (-52), (0, 22, 0, 0, 0))] [] (by decide +kernel) rfl trivial ?_
                refine b_frg 7 ?_
                refine m_B_cg ?_ rfl ?_ (ih (v_rowOf I k (nI n) c) ?_)
                · simp [l_fieldIn, nI_succ, nI_0, m_clr, *]
                · rfl
                · first | (simp [l_fieldIn, hh, *]; done) | (rw [h4] at h8; exact absurd (Int32.le_refl _) h8)
          · refine b_blk (pc' := 48) (ls' := [some (mR (3, 0, k)), some (mI c), some (mI f), some (mI rows), some (mI (v_rowOf I k f c)), some (mI e), some (mI (nI n)), some (mI (v_rowOf I k (nI n) c))]) (st' := [mI f, mI (nI n)]) (S' := (L, I, J, R)) (P := True) [(.iload 6, (0, 0, 0, 0, 0)), (.iload_n 2, (0, 0, 0, 0, 0))] [] (by decide +kernel) rfl trivial ?_
            refine b_icmp_ge (off := 5) (tgt := 53) (by decide +kernel) (by decide) (fun h7 => ?_) (fun h7 => ?_)
            · refine b_blk (pc' := 57) (ls' := [some (mR (3, 0, k)), some (mI c), some (mI f), some (mI rows), some (mI (v_rowOf I k f c)), some (mI e), some (mI (nI n)), some (mI (v_rowOf I k (nI n) c))]) (st' := [mI (v_rowOf I k f c), mI (v_rowOf I k (nI n) c)]) (S' := (L, I, J, R)) (P := True) [(.iload 7, (0, 0, 0, 0, 0)), (.iload 4, (0, 0, 0, 0, 0))] [] (by decide +kernel) rfl trivial ?_
              refine b_icmp_le (off := 14) (tgt := 71) (by decide +kernel) (by decide) (fun h8 => ?_) (fun h8 => ?_)
              · refine b_blk (pc' := 22) (ls' := [some (mR (3, 0, k)), some (mI c), some (mI f), some (mI rows), some (mI (v_rowOf I k f c)), some (mI e), some (mI ((nI n) + 1)), some (mI (v_rowOf I k (nI n) c))]) (st' := []) (S' := (L, I, J, R)) (P := True) [(.iinc 6 1, (0, 0, 0, 1, 0)), (.goto (-52), (0, 22, 0, 0, 0))] [] (by decide +kernel) rfl trivial ?_
                refine b_frg 7 ?_
                refine m_B_cg ?_ rfl ?_ (ih e ?_)
                · simp [l_fieldIn, nI_succ, nI_0, m_clr, *]
                · rfl
                · first | (simp [l_fieldIn, hh, *]; done) | (rw [h4] at h8; exact absurd (Int32.le_refl _) h8)
              · refine b_blk (pc' := 64) (ls' := [some (mR (3, 0, k)), some (mI c), some (mI f), some (mI rows), some (mI (v_rowOf I k f c)), some (mI e), some (mI (nI n)), some (mI (v_rowOf I k (nI n) c))]) (st' := [mI e, mI (v_rowOf I k (nI n) c)]) (S' := (L, I, J, R)) (P := True) [(.iload 7, (0, 0, 0, 0, 0)), (.iload 5, (0, 0, 0, 0, 0))] [] (by decide +kernel) rfl trivial ?_
                refine b_icmp_ge (off := 7) (tgt := 71) (by decide +kernel) (by decide) (fun h9 => ?_) (fun h9 => ?_)
                · refine b_blk (pc' := 22) (ls' := [some (mR (3, 0, k)), some (mI c), some (mI f), some (mI rows), some (mI (v_rowOf I k f c)), some (mI e), some (mI ((nI n) + 1)), some (mI (v_rowOf I k (nI n) c))]) (st' := []) (S' := (L, I, J, R)) (P := True) [(.iinc 6 1, (0, 0, 0, 1, 0)), (.goto (-52), (0, 22, 0, 0, 0))] [] (by decide +kernel) rfl trivial ?_
                  refine b_frg 7 ?_
                  refine m_B_cg ?_ rfl ?_ (ih e ?_)
                  · simp [l_fieldIn, nI_succ, nI_0, m_clr, *]
                  · rfl
                  · first | (simp [l_fieldIn, hh, *]; done) | (rw [h4] at h8; exact absurd (Int32.le_refl _) h8)
                · refine b_blk (pc' := 22) (ls' := [some (mR (3, 0, k)), some (mI c), some (mI f), some (mI rows), some (mI (v_rowOf I k f c)), some (mI (v_rowOf I k (nI n) c)), some (mI ((nI n) + 1)), some (mI (v_rowOf I k (nI n) c))]) (st' := []) (S' := (L, I, J, R)) (P := True) [(.iload 7, (0, 0, 0, 0, 0)), (.istore 5, (0, 0, 0, 0, 0)), (.iinc 6 1, (0, 0, 0, 1, 0)), (.goto (-52), (0, 22, 0, 0, 0))] [] (by decide +kernel) rfl trivial ?_
                  refine b_frg 7 ?_
                  refine m_B_cg ?_ rfl ?_ (ih (v_rowOf I k (nI n) c) ?_)
                  · simp [l_fieldIn, nI_succ, nI_0, m_clr, *]
                  · rfl
                  · first | (simp [l_fieldIn, hh, *]; done) | (rw [h4] at h8; exact absurd (Int32.le_refl _) h8)
            · refine b_blk (pc' := 52) (ls' := [some (mR (3, 0, k)), some (mI c), some (mI f), some (mI rows), some (mI (v_rowOf I k f c)), some (mI e), some (mI (nI n)), some (mI (v_rowOf I k (nI n) c))]) (st' := [mI 0]) (S' := (L, I, J, R)) (P := True) [(.iconst 0, (0, 0, 0, 0, 0))] [] (by decide +kernel) rfl trivial ?_
              refine b_iret (by decide +kernel) rfl ⟨?_, ?_⟩
              · first | (simp [v_fieldIn, *]; done) | (rw [v_fieldIn, if_neg h1, l_fieldIn_no (n := n + 1) (by simp [l_fieldIn, hh, *]) (by omega)])
              · rfl
      · rfl
    intro e hh
    refine b_blk (pc' := 82) (ls' := [some (mR (3, 0, k)), some (mI c), some (mI f), some (mI rows), some (mI (v_rowOf I k f c)), some (mI e), some (mI (nI 6)), none]) (st' := [mI (e - (v_rowOf I k f c))]) (S' := (L, I, J, R)) (P := True) [(.iload 5, (0, 0, 0, 0, 0)), (.iload 4, (0, 0, 0, 0, 0)), (.isub, (0, 0, 0, 0, 0))] [] (by decide +kernel) rfl trivial ?_
    refine b_iret (by decide +kernel) rfl ⟨?_, ?_⟩
    · first | (simp [v_fieldIn, *]; done) | (rw [v_fieldIn, if_neg h1, l_fieldIn_no (n := n + 1) (by simp [l_fieldIn, hh, *]) (by omega)])
    · rfl
  · refine b_blk (pc' := 15) (ls' := [some (mR (3, 0, k)), some (mI c), some (mI f), some (mI rows), some (mI (v_rowOf I k f c)), none, none, none]) (st' := [mI 0]) (S' := (L, I, J, R)) (P := True) [(.iconst 0, (0, 0, 0, 0, 0))] [] (by decide +kernel) rfl trivial ?_
    refine b_iret (by decide +kernel) rfl ⟨?_, ?_⟩
    · first | (simp [v_fieldIn, *]; done) | (rw [v_fieldIn, if_neg h1, l_fieldIn_no (n := n + 1) (by simp [l_fieldIn, hh, *]) (by omega)])
    · rfl
def l_field (I : Nat → Nat → Int32) (k : Nat) (f rows : Int32) : Nat → Int32
  | 0 => 0
  | n + 1 => l_field I k f rows n + v_fieldIn I k (nI n) f rows
set_option maxRecDepth 100000 in
set_option maxHeartbeats 4000000 in
theorem c_Lay_fieldOf {G : MG} {L : List (Nat × Nat)} {I : Nat → Nat → Int32} {J : Nat → Nat → Int64} {R : Nat → Nat → Option MRef} (k : Nat) (f : Int32) (rows : Int32) (h : LayR R k) : m_met G 4 0 0 y_Lay_fieldOf M_Lay_fieldOf [mR (3, 0, k), mI f, mI rows] (L, I, J, R) (m_is (some (mI (l_field I k f rows 6))) (L, I, J, R)) := by
  refine m_met_in n_Lay_fieldOf (plainFor_of_name (by decide)) (by decide) (Nat.le_of_ble_eq_true rfl) (ls := [some (mR (3, 0, k)), some (mI f), some (mI rows), none, none]) rfl ?_
  refine b_blk (pc' := 5) (ls' := [some (mR (3, 0, k)), some (mI f), some (mI rows), some (mI 0), some (mI 0)]) (st' := []) (S' := (L, I, J, R)) (P := True) [(.iconst 0, (0, 0, 0, 0, 0)), (.istore_n 3, (0, 0, 0, 0, 0)), (.iconst 0, (0, 0, 0, 0, 0)), (.istore 4, (0, 0, 0, 0, 0))] [] (by decide +kernel) rfl trivial ?_
  suffices hx : m_B G (m_rm 4 0 0) M_Lay_fieldOf (m_is (some (mI (l_field I k f rows 6))) (L, I, J, R)) 0 0 29 [some (mR (3, 0, k)), some (mI f), some (mI rows), some (mI (l_field I k f rows 6)), some (mI (nI 6))] [] (L, I, J, R) by
    refine m_B_cg ?_ rfl ?_ (loop_up 6 (fun n => m_B G (m_rm 4 0 0) M_Lay_fieldOf (m_is (some (mI (l_field I k f rows 6))) (L, I, J, R)) 0 0 5 [some (mR (3, 0, k)), some (mI f), some (mI rows), some (mI (l_field I k f rows n)), some (mI (nI n))] [] (L, I, J, R)) ?_ ?_ 0 (Nat.zero_le _))
    · simp [l_field, nI_succ, nI_0, m_clr, *]
    · rfl
    · refine b_blk (pc' := 9) (ls' := [some (mR (3, 0, k)), some (mI f), some (mI rows), some (mI (l_field I k f rows 6)), some (mI (nI 6))]) (st' := [mI 6, mI (nI 6)]) (S' := (L, I, J, R)) (P := True) [(.iload 4, (0, 0, 0, 0, 0)), (.bipush 6, (0, 0, 0, 6, 0))] [] (by decide +kernel) rfl trivial ?_
      refine b_icmp_ge (off := 20) (tgt := 29) (by decide +kernel) (by decide) (fun h1 => ?_) (fun h1 => ?_)
      · exact hx
      · exact absurd (Int32.le_refl _) h1
    · intro n hn ih
      refine b_blk (pc' := 9) (ls' := [some (mR (3, 0, k)), some (mI f), some (mI rows), some (mI (l_field I k f rows n)), some (mI (nI n))]) (st' := [mI 6, mI (nI n)]) (S' := (L, I, J, R)) (P := True) [(.iload 4, (0, 0, 0, 0, 0)), (.bipush 6, (0, 0, 0, 6, 0))] [] (by decide +kernel) rfl trivial ?_
      refine b_icmp_ge (off := 20) (tgt := 29) (by decide +kernel) (by decide) (fun h2 => ?_) (fun h2 => ?_)
      · exact absurd h2 (nI_ge hn (by decide))
      · refine b_blk (pc' := 18) (ls' := [some (mR (3, 0, k)), some (mI f), some (mI rows), some (mI (l_field I k f rows n)), some (mI (nI n))]) (st' := [mI rows, mI f, mI (nI n), mR (3, 0, k), mI (l_field I k f rows n)]) (S' := (L, I, J, R)) (P := True) [(.iload_n 3, (0, 0, 0, 0, 0)), (.aload_n 0, (0, 0, 0, 0, 0)), (.iload 4, (0, 0, 0, 0, 0)), (.iload_n 1, (0, 0, 0, 0, 0)), (.iload_n 2, (0, 0, 0, 0, 0))] [] (by decide +kernel) rfl trivial ?_
        refine b_cV (as := [mI (nI n), mI f, mI rows]) (st := [mI (l_field I k f rows n)]) (by decide +kernel) k_3_65 n_Lay_fieldIn rfl (by decide) v_Lay_fieldIn (c_Lay_fieldIn k (nI n) f rows (by assumption)) (Nat.le_of_ble_eq_true rfl) (by decide) rfl rfl (fun _ h => h) ?_
        show m_B _ _ _ _ _ _ 21 [some (mR (3, 0, k)), some (mI f), some (mI rows), some (mI (l_field I k f rows n)), some (mI (nI n))] [mI (v_fieldIn I k (nI n) f rows), mI (l_field I k f rows n)] (L, I, J, R)
        refine b_blk (pc' := 5) (ls' := [some (mR (3, 0, k)), some (mI f), some (mI rows), some (mI ((l_field I k f rows n) + (v_fieldIn I k (nI n) f rows))), some (mI ((nI n) + 1))]) (st' := []) (S' := (L, I, J, R)) (P := True) [(.iadd, (0, 0, 0, 0, 0)), (.istore_n 3, (0, 0, 0, 0, 0)), (.iinc 4 1, (0, 0, 0, 1, 0)), (.goto (-21), (0, 5, 0, 0, 0))] [] (by decide +kernel) rfl trivial ?_
        refine m_B_cg ?_ rfl ?_ ih
        · simp [l_field, nI_succ, nI_0, m_clr, *]
        · rfl
  refine b_blk (pc' := 30) (ls' := [some (mR (3, 0, k)), some (mI f), some (mI rows), some (mI (l_field I k f rows 6)), some (mI (nI 6))]) (st' := [mI (l_field I k f rows 6)]) (S' := (L, I, J, R)) (P := True) [(.iload_n 3, (0, 0, 0, 0, 0))] [] (by decide +kernel) rfl trivial ?_
  refine b_iret (by decide +kernel) rfl ⟨?_, ?_⟩
  · simp_all
  · simp_all
def l_meet (I : Nat → Nat → Int32) (k : Nat) (a b : Int32) : Nat → Bool
  | 0 => false
  | n + 1 => l_meet I k a b n || (if v_rowOf I k a (nI n) = -1 then false else if v_rowOf I k a (nI n) = v_rowOf I k b (nI n) then true else false)
theorem l_meet_on {I : Nat → Nat → Int32} {k : Nat} {a b : Int32} {n : Nat} (h : l_meet I k a b n = true) {m : Nat} (hm : n ≤ m) : l_meet I k a b m = true := by
  induction hm with
  | refl => exact h
  | step _ ih => simp [l_meet, ih]
set_option maxRecDepth 100000 in
set_option maxHeartbeats 4000000 in
theorem c_Lay_meetSomewhere {G : MG} {L : List (Nat × Nat)} {I : Nat → Nat → Int32} {J : Nat → Nat → Int64} {R : Nat → Nat → Option MRef} (k : Nat) (a : Int32) (b : Int32) (h : LayR R k) : m_met G 3 0 0 y_Lay_meetSomewhere M_Lay_meetSomewhere [mR (3, 0, k), mI a, mI b] (L, I, J, R) (m_is (some (mI (bI (l_meet I k a b 6)))) (L, I, J, R)) := by
  refine m_met_in n_Lay_meetSomewhere (plainFor_of_name (by decide)) (by decide) (Nat.le_of_ble_eq_true rfl) (ls := [some (mR (3, 0, k)), some (mI a), some (mI b), none, none]) rfl ?_
  refine b_blk (pc' := 2) (ls' := [some (mR (3, 0, k)), some (mI a), some (mI b), some (mI 0), none]) (st' := []) (S' := (L, I, J, R)) (P := True) [(.iconst 0, (0, 0, 0, 0, 0)), (.istore_n 3, (0, 0, 0, 0, 0))] [] (by decide +kernel) rfl trivial ?_
  suffices hx : l_meet I k a b 6 = false → m_B G (m_rm 3 0 0) M_Lay_meetSomewhere (m_is (some (mI (bI (l_meet I k a b 6)))) (L, I, J, R)) 0 0 41 [some (mR (3, 0, k)), some (mI a), some (mI b), some (mI (nI 6)), none] [] (L, I, J, R) by
    refine m_B_cg ?_ rfl ?_ (loop_up 6 (fun n => l_meet I k a b n = false → m_B G (m_rm 3 0 0) M_Lay_meetSomewhere (m_is (some (mI (bI (l_meet I k a b 6)))) (L, I, J, R)) 0 0 2 [some (mR (3, 0, k)), some (mI a), some (mI b), some (mI (nI n)), none] [] (L, I, J, R)) ?_ ?_ 0 (Nat.zero_le _)  ?_)
    · simp [l_meet, nI_succ, nI_0, m_clr, *]
    · rfl
    · intro  hh
      refine b_blk (pc' := 5) (ls' := [some (mR (3, 0, k)), some (mI a), some (mI b), some (mI (nI 6)), none]) (st' := [mI 6, mI (nI 6)]) (S' := (L, I, J, R)) (P := True) [(.iload_n 3, (0, 0, 0, 0, 0)), (.bipush 6, (0, 0, 0, 6, 0))] [] (by decide +kernel) rfl trivial ?_
      refine b_icmp_ge (off := 36) (tgt := 41) (by decide +kernel) (by decide) (fun h1 => ?_) (fun h1 => ?_)
      · exact hx  hh
      · exact absurd (Int32.le_refl _) h1
    · intro n hn ih  hh
      refine b_blk (pc' := 5) (ls' := [some (mR (3, 0, k)), some (mI a), some (mI b), some (mI (nI n)), none]) (st' := [mI 6, mI (nI n)]) (S' := (L, I, J, R)) (P := True) [(.iload_n 3, (0, 0, 0, 0, 0)), (.bipush 6, (0, 0, 0, 6, 0))] [] (by decide +kernel) rfl trivial ?_
      refine b_icmp_ge (off := 36) (tgt := 41) (by decide +kernel) (by decide) (fun h2 => ?_) (fun h2 => ?_)
      · exact absurd h2 (nI_ge hn (by decide))
      · refine b_blk (pc' := 11) (ls' := [some (mR (3, 0, k)), some (mI a), some (mI b), some (mI (nI n)), none]) (st' := [mI (nI n), mI a, mR (3, 0, k)]) (S' := (L, I, J, R)) (P := True) [(.aload_n 0, (0, 0, 0, 0, 0)), (.iload_n 1, (0, 0, 0, 0, 0)), (.iload_n 3, (0, 0, 0, 0, 0))] [] (by decide +kernel) rfl trivial ?_
        refine b_cV (as := [mI a, mI (nI n)]) (st := []) (by decide +kernel) k_3_61 n_Lay_rowOf rfl (by decide) v_Lay_rowOf (c_Lay_rowOf k a (nI n) (by assumption)) (Nat.le_of_ble_eq_true rfl) (by decide) rfl rfl (fun _ h => h) ?_
        show m_B _ _ _ _ _ _ 14 [some (mR (3, 0, k)), some (mI a), some (mI b), some (mI (nI n)), none] [mI (v_rowOf I k a (nI n))] (L, I, J, R)
        refine b_blk (pc' := 19) (ls' := [some (mR (3, 0, k)), some (mI a), some (mI b), some (mI (nI n)), some (mI (v_rowOf I k a (nI n)))]) (st' := [mI (-1), mI (v_rowOf I k a (nI n))]) (S' := (L, I, J, R)) (P := True) [(.istore 4, (0, 0, 0, 0, 0)), (.iload 4, (0, 0, 0, 0, 0)), (.iconst (-1), (0, 0, 0, (-1), 0))] [] (by decide +kernel) rfl trivial ?_
        refine b_icmp_eq (off := 16) (tgt := 35) (by decide +kernel) (by decide) (fun h3 => ?_) (fun h3 => ?_)
        · refine b_blk (pc' := 2) (ls' := [some (mR (3, 0, k)), some (mI a), some (mI b), some (mI ((nI n) + 1)), some (mI (v_rowOf I k a (nI n)))]) (st' := []) (S' := (L, I, J, R)) (P := True) [(.iinc 3 1, (0, 0, 0, 1, 0)), (.goto (-36), (0, 2, 0, 0, 0))] [] (by decide +kernel) rfl trivial ?_
          refine b_frg 4 ?_
          refine m_B_cg ?_ rfl ?_ (ih  ?_)
          · simp [l_meet, nI_succ, nI_0, m_clr, *]
          · rfl
          · simp [l_meet, hh, *]; done
        · refine b_blk (pc' := 27) (ls' := [some (mR (3, 0, k)), some (mI a), some (mI b), some (mI (nI n)), some (mI (v_rowOf I k a (nI n)))]) (st' := [mI (nI n), mI b, mR (3, 0, k), mI (v_rowOf I k a (nI n))]) (S' := (L, I, J, R)) (P := True) [(.iload 4, (0, 0, 0, 0, 0)), (.aload_n 0, (0, 0, 0, 0, 0)), (.iload_n 2, (0, 0, 0, 0, 0)), (.iload_n 3, (0, 0, 0, 0, 0))] [] (by decide +kernel) rfl trivial ?_
          refine b_cV (as := [mI b, mI (nI n)]) (st := [mI (v_rowOf I k a (nI n))]) (by decide +kernel) k_3_61 n_Lay_rowOf rfl (by decide) v_Lay_rowOf (c_Lay_rowOf k b (nI n) (by assumption)) (Nat.le_of_ble_eq_true rfl) (by decide) rfl rfl (fun _ h => h) ?_
          show m_B _ _ _ _ _ _ 30 [some (mR (3, 0, k)), some (mI a), some (mI b), some (mI (nI n)), some (mI (v_rowOf I k a (nI n)))] [mI (v_rowOf I k b (nI n)), mI (v_rowOf I k a (nI n))] (L, I, J, R)
          refine b_icmp_ne (off := 5) (tgt := 35) (by decide +kernel) (by decide) (fun h4 => ?_) (fun h4 => ?_)
          · refine b_blk (pc' := 2) (ls' := [some (mR (3, 0, k)), some (mI a), some (mI b), some (mI ((nI n) + 1)), some (mI (v_rowOf I k a (nI n)))]) (st' := []) (S' := (L, I, J, R)) (P := True) [(.iinc 3 1, (0, 0, 0, 1, 0)), (.goto (-36), (0, 2, 0, 0, 0))] [] (by decide +kernel) rfl trivial ?_
            refine b_frg 4 ?_
            refine m_B_cg ?_ rfl ?_ (ih  ?_)
            · simp [l_meet, nI_succ, nI_0, m_clr, *]
            · rfl
            · simp [l_meet, hh, *]; done
          · refine b_blk (pc' := 34) (ls' := [some (mR (3, 0, k)), some (mI a), some (mI b), some (mI (nI n)), some (mI (v_rowOf I k a (nI n)))]) (st' := [mI 1]) (S' := (L, I, J, R)) (P := True) [(.iconst 1, (0, 0, 0, 1, 0))] [] (by decide +kernel) rfl trivial ?_
            refine b_zret (by decide +kernel) rfl (by decide) ⟨?_, ?_⟩
            · first | (simp [hh, bI]; done) | (rw [l_meet_on (n := n + 1) (by rw [l_meet, hh, if_neg h3, if_pos h4]; rfl) (by omega)]; rfl)
            · rfl
    · rfl
  intro  hh
  refine b_blk (pc' := 42) (ls' := [some (mR (3, 0, k)), some (mI a), some (mI b), some (mI (nI 6)), none]) (st' := [mI 0]) (S' := (L, I, J, R)) (P := True) [(.iconst 0, (0, 0, 0, 0, 0))] [] (by decide +kernel) rfl trivial ?_
  refine b_zret (by decide +kernel) rfl (by decide) ⟨?_, ?_⟩
  · first | (simp [hh, bI]; done) | (rw [l_meet_on (n := n + 1) (by rw [l_meet, hh, if_neg h3, if_pos h4]; rfl) (by omega)]; rfl)
  · rfl
