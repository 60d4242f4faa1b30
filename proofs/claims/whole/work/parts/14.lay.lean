/-! Lay: reads -/
/-- a Lay's rows lie behind it -/
def LayR (R : Nat → Nat → Option MRef) (k : Nat) : Prop := R k 2 = some (20, 6, k + 1) ∧ R k 3 = some (20, 6, k + 2) ∧ R k 4 = some (20, 36, k + 3)
def v_isStake (f c : Int32) : Bool := decide (0 ≤ f ∧ f < 6 ∧ 0 ≤ c ∧ c < 6)
def v_rowOf (I : Nat → Nat → Int32) (k : Nat) (f c : Int32) : Int32 := if v_isStake f c = true then I (k + 3) (f * 6 + c).toNatClampNeg else -1
theorem isStake_of {f c : Int32} (h : v_isStake f c = true) : ∃ a b : Nat, a < 6 ∧ b < 6 ∧ f = nI a ∧ c = nI b ∧ f * 6 + c = nI (a * 6 + b) := by
  simp only [v_isStake, decide_eq_true_eq] at h
  obtain ⟨h1, h2, h3, h4⟩ := h
  obtain ⟨a, ha, rfl⟩ := ix_of (n := 6) (by decide) h1 h2
  obtain ⟨b, hb, rfl⟩ := ix_of (n := 6) (by decide) h3 h4
  refine ⟨a, b, ha, hb, rfl, rfl, ?_⟩
  rw [show (6 : Int32) = nI 6 from rfl, pk_mul, nI_add]
theorem isStake_in {f c : Int32} (h : v_isStake f c = true) : vp_in (f * 6 + c) 36 := by
  obtain ⟨a, b, ha, hb, -, -, e⟩ := isStake_of h
  rw [e]
  exact vp_in_nI (by omega) (by decide)
set_option maxRecDepth 100000 in
set_option maxHeartbeats 4000000 in
theorem c_Lay_isStake {G : MG} {L : List (Nat × Nat)} {I : Nat → Nat → Int32} {J : Nat → Nat → Int64} {R : Nat → Nat → Option MRef} (f : Int32) (c : Int32)  : m_met G 1 0 0 y_Lay_isStake M_Lay_isStake [mI f, mI c] (L, I, J, R) (m_is (some (mI (bI (v_isStake f c)))) (L, I, J, R)) := by
  refine m_met_in n_Lay_isStake (by decide) (by decide) (Nat.le_of_ble_eq_true rfl) (ls := [some (mI f), some (mI c)]) rfl ?_
  refine b_blk (pc' := 1) (ls' := [some (mI f), some (mI c)]) (st' := [mI f]) (S' := (L, I, J, R)) [(.iload_n 0, (0, 0, 0, 0, 0))] [] (by decide +kernel) rfl trivial ?_
  refine b_if_lt (off := 23) (tgt := 24) (by decide +kernel) (by decide) (fun h1 => ?_) (fun h1 => ?_)
  · refine b_blk (pc' := 25) (ls' := [some (mI f), some (mI c)]) (st' := [mI 0]) (S' := (L, I, J, R)) [(.iconst 0, (0, 0, 0, 0, 0))] [] (by decide +kernel) rfl trivial ?_
    refine b_zret (by decide +kernel) rfl (by decide) ⟨?_, ?_⟩
    · first | rfl | (simp [bI, v_isStake, Int32.lt_iff_toInt_lt, Int32.le_iff_toInt_le] at *; omega)
    · first | rfl | (simp [bI, v_isStake, Int32.lt_iff_toInt_lt, Int32.le_iff_toInt_le] at *; omega)
  · refine b_blk (pc' := 7) (ls' := [some (mI f), some (mI c)]) (st' := [mI 6, mI f]) (S' := (L, I, J, R)) [(.iload_n 0, (0, 0, 0, 0, 0)), (.bipush 6, (0, 0, 0, 6, 0))] [] (by decide +kernel) rfl trivial ?_
    refine b_icmp_ge (off := 17) (tgt := 24) (by decide +kernel) (by decide) (fun h2 => ?_) (fun h2 => ?_)
    · refine b_blk (pc' := 25) (ls' := [some (mI f), some (mI c)]) (st' := [mI 0]) (S' := (L, I, J, R)) [(.iconst 0, (0, 0, 0, 0, 0))] [] (by decide +kernel) rfl trivial ?_
      refine b_zret (by decide +kernel) rfl (by decide) ⟨?_, ?_⟩
      · first | rfl | (simp [bI, v_isStake, Int32.lt_iff_toInt_lt, Int32.le_iff_toInt_le] at *; omega)
      · first | rfl | (simp [bI, v_isStake, Int32.lt_iff_toInt_lt, Int32.le_iff_toInt_le] at *; omega)
    · refine b_blk (pc' := 11) (ls' := [some (mI f), some (mI c)]) (st' := [mI c]) (S' := (L, I, J, R)) [(.iload_n 1, (0, 0, 0, 0, 0))] [] (by decide +kernel) rfl trivial ?_
      refine b_if_lt (off := 13) (tgt := 24) (by decide +kernel) (by decide) (fun h3 => ?_) (fun h3 => ?_)
      · refine b_blk (pc' := 25) (ls' := [some (mI f), some (mI c)]) (st' := [mI 0]) (S' := (L, I, J, R)) [(.iconst 0, (0, 0, 0, 0, 0))] [] (by decide +kernel) rfl trivial ?_
        refine b_zret (by decide +kernel) rfl (by decide) ⟨?_, ?_⟩
        · first | rfl | (simp [bI, v_isStake, Int32.lt_iff_toInt_lt, Int32.le_iff_toInt_le] at *; omega)
        · first | rfl | (simp [bI, v_isStake, Int32.lt_iff_toInt_lt, Int32.le_iff_toInt_le] at *; omega)
      · refine b_blk (pc' := 17) (ls' := [some (mI f), some (mI c)]) (st' := [mI 6, mI c]) (S' := (L, I, J, R)) [(.iload_n 1, (0, 0, 0, 0, 0)), (.bipush 6, (0, 0, 0, 6, 0))] [] (by decide +kernel) rfl trivial ?_
        refine b_icmp_ge (off := 7) (tgt := 24) (by decide +kernel) (by decide) (fun h4 => ?_) (fun h4 => ?_)
        · refine b_blk (pc' := 25) (ls' := [some (mI f), some (mI c)]) (st' := [mI 0]) (S' := (L, I, J, R)) [(.iconst 0, (0, 0, 0, 0, 0))] [] (by decide +kernel) rfl trivial ?_
          refine b_zret (by decide +kernel) rfl (by decide) ⟨?_, ?_⟩
          · first | rfl | (simp [bI, v_isStake, Int32.lt_iff_toInt_lt, Int32.le_iff_toInt_le] at *; omega)
          · first | rfl | (simp [bI, v_isStake, Int32.lt_iff_toInt_lt, Int32.le_iff_toInt_le] at *; omega)
        · refine b_blk (pc' := 25) (ls' := [some (mI f), some (mI c)]) (st' := [mI 1]) (S' := (L, I, J, R)) [(.iconst 1, (0, 0, 0, 1, 0)), (.goto 4, (0, 25, 0, 0, 0))] [] (by decide +kernel) rfl trivial ?_
          refine b_zret (by decide +kernel) rfl (by decide) ⟨?_, ?_⟩
          · first | rfl | (simp [bI, v_isStake, Int32.lt_iff_toInt_lt, Int32.le_iff_toInt_le] at *; omega)
          · first | rfl | (simp [bI, v_isStake, Int32.lt_iff_toInt_lt, Int32.le_iff_toInt_le] at *; omega)
set_option maxRecDepth 100000 in
set_option maxHeartbeats 4000000 in
theorem c_Lay_rowOf {G : MG} {L : List (Nat × Nat)} {I : Nat → Nat → Int32} {J : Nat → Nat → Int64} {R : Nat → Nat → Option MRef} (k : Nat) (f : Int32) (c : Int32) (h : LayR R k) : m_met G 2 0 0 y_Lay_rowOf M_Lay_rowOf [mR (3, 0, k), mI f, mI c] (L, I, J, R) (m_is (some (mI (v_rowOf I k f c))) (L, I, J, R)) := by
  refine m_met_in n_Lay_rowOf (by decide) (by decide) (Nat.le_of_ble_eq_true rfl) (ls := [some (mR (3, 0, k)), some (mI f), some (mI c)]) rfl ?_
  refine b_blk (pc' := 2) (ls' := [some (mR (3, 0, k)), some (mI f), some (mI c)]) (st' := [mI c, mI f]) (S' := (L, I, J, R)) [(.iload_n 1, (0, 0, 0, 0, 0)), (.iload_n 2, (0, 0, 0, 0, 0))] [] (by decide +kernel) rfl trivial ?_
  refine b_cS (as := [mI f, mI c]) (st := []) (by decide +kernel) k_3_40 n_Lay_isStake s_Lay_isStake (c_Lay_isStake f c ) (Nat.le_of_ble_eq_true rfl) (by decide) rfl rfl (fun _ h => h) ?_
  show m_B _ _ _ _ _ _ 5 [some (mR (3, 0, k)), some (mI f), some (mI c)] [mI (bI (v_isStake f c))] (L, I, J, R)
  refine b_if_eq (off := 17) (tgt := 22) (by decide +kernel) (by decide) (fun h1 => ?_) (fun h1 => ?_)
  · refine b_blk (pc' := 23) (ls' := [some (mR (3, 0, k)), some (mI f), some (mI c)]) (st' := [mI (-1)]) (S' := (L, I, J, R)) [(.iconst (-1), (0, 0, 0, (-1), 0))] [] (by decide +kernel) rfl trivial ?_
    refine b_iret (by decide +kernel) rfl ⟨?_, ?_⟩
    · first | rfl | (simp only [bI_eq0, bI_ne0] at h1; simp [v_rowOf, h1])
    · first | rfl | (simp only [bI_eq0, bI_ne0] at h1; simp [v_rowOf, h1])
  · refine b_blk (pc' := 23) (ls' := [some (mR (3, 0, k)), some (mI f), some (mI c)]) (st' := [mI (I (k + 3) ((f * 6) + c).toNatClampNeg)]) (S' := (L, I, J, R)) [(.aload_n 0, (0, 0, 0, 0, 0)), (.getfield 18, (3, 4, 3, 0, 0)), (.iload_n 1, (0, 0, 0, 0, 0)), (.bipush 6, (0, 0, 0, 6, 0)), (.imul, (0, 0, 0, 0, 0)), (.iload_n 2, (0, 0, 0, 0, 0)), (.iadd, (0, 0, 0, 0, 0)), (.iaload, (0, 0, 0, 0, 0)), (.goto 4, (0, 23, 0, 0, 0))] [some (20, 36, k + 3)] (by decide +kernel) rfl ⟨⟨trivial, h.2.2⟩, (isStake_in (bI_ne0.mp h1))⟩ ?_
    refine b_iret (by decide +kernel) rfl ⟨?_, ?_⟩
    · first | rfl | (simp only [bI_eq0, bI_ne0] at h1; simp [v_rowOf, h1])
    · first | rfl | (simp only [bI_eq0, bI_ne0] at h1; simp [v_rowOf, h1])
def v_ageOf (I : Nat → Nat → Int32) (k : Nat) (f : Int32) : Int32 := if 0 ≤ f ∧ f < 6 then I (k + 1) f.toNatClampNeg else 0
set_option maxRecDepth 100000 in
set_option maxHeartbeats 4000000 in
theorem c_Lay_ageOf {G : MG} {L : List (Nat × Nat)} {I : Nat → Nat → Int32} {J : Nat → Nat → Int64} {R : Nat → Nat → Option MRef} (k : Nat) (f : Int32) (h : LayR R k) : m_met G 1 0 0 y_Lay_ageOf M_Lay_ageOf [mR (3, 0, k), mI f] (L, I, J, R) (m_is (some (mI (v_ageOf I k f))) (L, I, J, R)) := by
  refine m_met_in n_Lay_ageOf (by decide) (by decide) (Nat.le_of_ble_eq_true rfl) (ls := [some (mR (3, 0, k)), some (mI f)]) rfl ?_
  refine b_blk (pc' := 1) (ls' := [some (mR (3, 0, k)), some (mI f)]) (st' := [mI f]) (S' := (L, I, J, R)) [(.iload_n 1, (0, 0, 0, 0, 0))] [] (by decide +kernel) rfl trivial ?_
  refine b_if_lt (off := 18) (tgt := 19) (by decide +kernel) (by decide) (fun h1 => ?_) (fun h1 => ?_)
  · refine b_blk (pc' := 20) (ls' := [some (mR (3, 0, k)), some (mI f)]) (st' := [mI 0]) (S' := (L, I, J, R)) [(.iconst 0, (0, 0, 0, 0, 0))] [] (by decide +kernel) rfl trivial ?_
    refine b_iret (by decide +kernel) rfl ⟨?_, ?_⟩
    · first | rfl | (simp_all [v_ageOf]; done) | (rw [v_ageOf, if_neg]; intro q; simp [Int32.lt_iff_toInt_lt, Int32.le_iff_toInt_le] at *; omega)
    · first | rfl | (simp_all [v_ageOf]; done) | (rw [v_ageOf, if_neg]; intro q; simp [Int32.lt_iff_toInt_lt, Int32.le_iff_toInt_le] at *; omega)
  · refine b_blk (pc' := 7) (ls' := [some (mR (3, 0, k)), some (mI f)]) (st' := [mI 6, mI f]) (S' := (L, I, J, R)) [(.iload_n 1, (0, 0, 0, 0, 0)), (.bipush 6, (0, 0, 0, 6, 0))] [] (by decide +kernel) rfl trivial ?_
    refine b_icmp_ge (off := 12) (tgt := 19) (by decide +kernel) (by decide) (fun h2 => ?_) (fun h2 => ?_)
    · refine b_blk (pc' := 20) (ls' := [some (mR (3, 0, k)), some (mI f)]) (st' := [mI 0]) (S' := (L, I, J, R)) [(.iconst 0, (0, 0, 0, 0, 0))] [] (by decide +kernel) rfl trivial ?_
      refine b_iret (by decide +kernel) rfl ⟨?_, ?_⟩
      · first | rfl | (simp_all [v_ageOf]; done) | (rw [v_ageOf, if_neg]; intro q; simp [Int32.lt_iff_toInt_lt, Int32.le_iff_toInt_le] at *; omega)
      · first | rfl | (simp_all [v_ageOf]; done) | (rw [v_ageOf, if_neg]; intro q; simp [Int32.lt_iff_toInt_lt, Int32.le_iff_toInt_le] at *; omega)
    · refine b_blk (pc' := 20) (ls' := [some (mR (3, 0, k)), some (mI f)]) (st' := [mI (I (k + 1) f.toNatClampNeg)]) (S' := (L, I, J, R)) [(.aload_n 0, (0, 0, 0, 0, 0)), (.getfield 9, (3, 2, 3, 0, 0)), (.iload_n 1, (0, 0, 0, 0, 0)), (.iaload, (0, 0, 0, 0, 0)), (.goto 4, (0, 20, 0, 0, 0))] [some (20, 6, k + 1)] (by decide +kernel) rfl ⟨⟨trivial, h.1⟩, (in_6 h1 h2)⟩ ?_
      refine b_iret (by decide +kernel) rfl ⟨?_, ?_⟩
      · first | rfl | (simp_all [v_ageOf]; done) | (rw [v_ageOf, if_neg]; intro q; simp [Int32.lt_iff_toInt_lt, Int32.le_iff_toInt_le] at *; omega)
      · first | rfl | (simp_all [v_ageOf]; done) | (rw [v_ageOf, if_neg]; intro q; simp [Int32.lt_iff_toInt_lt, Int32.le_iff_toInt_le] at *; omega)
def v_postsOf (I : Nat → Nat → Int32) (k : Nat) (c : Int32) : Int32 := if 0 ≤ c ∧ c < 6 then I (k + 2) c.toNatClampNeg else 0
set_option maxRecDepth 100000 in
set_option maxHeartbeats 4000000 in
theorem c_Lay_postsOf {G : MG} {L : List (Nat × Nat)} {I : Nat → Nat → Int32} {J : Nat → Nat → Int64} {R : Nat → Nat → Option MRef} (k : Nat) (c : Int32) (h : LayR R k) : m_met G 1 0 0 y_Lay_postsOf M_Lay_postsOf [mR (3, 0, k), mI c] (L, I, J, R) (m_is (some (mI (v_postsOf I k c))) (L, I, J, R)) := by
  refine m_met_in n_Lay_postsOf (by decide) (by decide) (Nat.le_of_ble_eq_true rfl) (ls := [some (mR (3, 0, k)), some (mI c)]) rfl ?_
  refine b_blk (pc' := 1) (ls' := [some (mR (3, 0, k)), some (mI c)]) (st' := [mI c]) (S' := (L, I, J, R)) [(.iload_n 1, (0, 0, 0, 0, 0))] [] (by decide +kernel) rfl trivial ?_
  refine b_if_lt (off := 18) (tgt := 19) (by decide +kernel) (by decide) (fun h1 => ?_) (fun h1 => ?_)
  · refine b_blk (pc' := 20) (ls' := [some (mR (3, 0, k)), some (mI c)]) (st' := [mI 0]) (S' := (L, I, J, R)) [(.iconst 0, (0, 0, 0, 0, 0))] [] (by decide +kernel) rfl trivial ?_
    refine b_iret (by decide +kernel) rfl ⟨?_, ?_⟩
    · first | rfl | (simp_all [v_postsOf]; done) | (rw [v_postsOf, if_neg]; intro q; simp [Int32.lt_iff_toInt_lt, Int32.le_iff_toInt_le] at *; omega)
    · first | rfl | (simp_all [v_postsOf]; done) | (rw [v_postsOf, if_neg]; intro q; simp [Int32.lt_iff_toInt_lt, Int32.le_iff_toInt_le] at *; omega)
  · refine b_blk (pc' := 7) (ls' := [some (mR (3, 0, k)), some (mI c)]) (st' := [mI 6, mI c]) (S' := (L, I, J, R)) [(.iload_n 1, (0, 0, 0, 0, 0)), (.bipush 6, (0, 0, 0, 6, 0))] [] (by decide +kernel) rfl trivial ?_
    refine b_icmp_ge (off := 12) (tgt := 19) (by decide +kernel) (by decide) (fun h2 => ?_) (fun h2 => ?_)
    · refine b_blk (pc' := 20) (ls' := [some (mR (3, 0, k)), some (mI c)]) (st' := [mI 0]) (S' := (L, I, J, R)) [(.iconst 0, (0, 0, 0, 0, 0))] [] (by decide +kernel) rfl trivial ?_
      refine b_iret (by decide +kernel) rfl ⟨?_, ?_⟩
      · first | rfl | (simp_all [v_postsOf]; done) | (rw [v_postsOf, if_neg]; intro q; simp [Int32.lt_iff_toInt_lt, Int32.le_iff_toInt_le] at *; omega)
      · first | rfl | (simp_all [v_postsOf]; done) | (rw [v_postsOf, if_neg]; intro q; simp [Int32.lt_iff_toInt_lt, Int32.le_iff_toInt_le] at *; omega)
    · refine b_blk (pc' := 20) (ls' := [some (mR (3, 0, k)), some (mI c)]) (st' := [mI (I (k + 2) c.toNatClampNeg)]) (S' := (L, I, J, R)) [(.aload_n 0, (0, 0, 0, 0, 0)), (.getfield 15, (3, 3, 3, 0, 0)), (.iload_n 1, (0, 0, 0, 0, 0)), (.iaload, (0, 0, 0, 0, 0)), (.goto 4, (0, 20, 0, 0, 0))] [some (20, 6, k + 2)] (by decide +kernel) rfl ⟨⟨trivial, h.2.1⟩, (in_6 h1 h2)⟩ ?_
      refine b_iret (by decide +kernel) rfl ⟨?_, ?_⟩
      · first | rfl | (simp_all [v_postsOf]; done) | (rw [v_postsOf, if_neg]; intro q; simp [Int32.lt_iff_toInt_lt, Int32.le_iff_toInt_le] at *; omega)
      · first | rfl | (simp_all [v_postsOf]; done) | (rw [v_postsOf, if_neg]; intro q; simp [Int32.lt_iff_toInt_lt, Int32.le_iff_toInt_le] at *; omega)
def v_isCut (I : Nat → Nat → Int32) (k : Nat) (f : Int32) : Bool := decide (0 ≤ f ∧ f < 6 ∧ ¬ (I k 1 >>> (f &&& 31)) &&& 1 = 0)
set_option maxRecDepth 100000 in
set_option maxHeartbeats 4000000 in
theorem c_Lay_isCut {G : MG} {L : List (Nat × Nat)} {I : Nat → Nat → Int32} {J : Nat → Nat → Int64} {R : Nat → Nat → Option MRef} (k : Nat) (f : Int32)  : m_met G 1 0 0 y_Lay_isCut M_Lay_isCut [mR (3, 0, k), mI f] (L, I, J, R) (m_is (some (mI (bI (v_isCut I k f)))) (L, I, J, R)) := by
  refine m_met_in n_Lay_isCut (by decide) (by decide) (Nat.le_of_ble_eq_true rfl) (ls := [some (mR (3, 0, k)), some (mI f)]) rfl ?_
  refine b_blk (pc' := 1) (ls' := [some (mR (3, 0, k)), some (mI f)]) (st' := [mI f]) (S' := (L, I, J, R)) [(.iload_n 1, (0, 0, 0, 0, 0))] [] (by decide +kernel) rfl trivial ?_
  refine b_if_lt (off := 24) (tgt := 25) (by decide +kernel) (by decide) (fun h1 => ?_) (fun h1 => ?_)
  · refine b_blk (pc' := 26) (ls' := [some (mR (3, 0, k)), some (mI f)]) (st' := [mI 0]) (S' := (L, I, J, R)) [(.iconst 0, (0, 0, 0, 0, 0))] [] (by decide +kernel) rfl trivial ?_
    refine b_zret (by decide +kernel) rfl (by decide) ⟨?_, ?_⟩
    · first | rfl | (simp_all [bI, v_isCut]; done) | (simp [bI, v_isCut, Int32.lt_iff_toInt_lt, Int32.le_iff_toInt_le] at *; omega)
    · first | rfl | (simp_all [bI, v_isCut]; done) | (simp [bI, v_isCut, Int32.lt_iff_toInt_lt, Int32.le_iff_toInt_le] at *; omega)
  · refine b_blk (pc' := 7) (ls' := [some (mR (3, 0, k)), some (mI f)]) (st' := [mI 6, mI f]) (S' := (L, I, J, R)) [(.iload_n 1, (0, 0, 0, 0, 0)), (.bipush 6, (0, 0, 0, 6, 0))] [] (by decide +kernel) rfl trivial ?_
    refine b_icmp_ge (off := 18) (tgt := 25) (by decide +kernel) (by decide) (fun h2 => ?_) (fun h2 => ?_)
    · refine b_blk (pc' := 26) (ls' := [some (mR (3, 0, k)), some (mI f)]) (st' := [mI 0]) (S' := (L, I, J, R)) [(.iconst 0, (0, 0, 0, 0, 0))] [] (by decide +kernel) rfl trivial ?_
      refine b_zret (by decide +kernel) rfl (by decide) ⟨?_, ?_⟩
      · first | rfl | (simp_all [bI, v_isCut]; done) | (simp [bI, v_isCut, Int32.lt_iff_toInt_lt, Int32.le_iff_toInt_le] at *; omega)
      · first | rfl | (simp_all [bI, v_isCut]; done) | (simp [bI, v_isCut, Int32.lt_iff_toInt_lt, Int32.le_iff_toInt_le] at *; omega)
    · refine b_blk (pc' := 18) (ls' := [some (mR (3, 0, k)), some (mI f)]) (st' := [mI (((I k 1) >>> (f &&& 31)) &&& 1)]) (S' := (L, I, J, R)) [(.aload_n 0, (0, 0, 0, 0, 0)), (.getfield 31, (3, 1, 0, 0, 0)), (.iload_n 1, (0, 0, 0, 0, 0)), (.ishr, (0, 0, 0, 0, 0)), (.iconst 1, (0, 0, 0, 1, 0)), (.iand, (0, 0, 0, 0, 0))] [] (by decide +kernel) rfl trivial ?_
      refine b_if_eq (off := 7) (tgt := 25) (by decide +kernel) (by decide) (fun h3 => ?_) (fun h3 => ?_)
      · refine b_blk (pc' := 26) (ls' := [some (mR (3, 0, k)), some (mI f)]) (st' := [mI 0]) (S' := (L, I, J, R)) [(.iconst 0, (0, 0, 0, 0, 0))] [] (by decide +kernel) rfl trivial ?_
        refine b_zret (by decide +kernel) rfl (by decide) ⟨?_, ?_⟩
        · first | rfl | (simp_all [bI, v_isCut]; done) | (simp [bI, v_isCut, Int32.lt_iff_toInt_lt, Int32.le_iff_toInt_le] at *; omega)
        · first | rfl | (simp_all [bI, v_isCut]; done) | (simp [bI, v_isCut, Int32.lt_iff_toInt_lt, Int32.le_iff_toInt_le] at *; omega)
      · refine b_blk (pc' := 26) (ls' := [some (mR (3, 0, k)), some (mI f)]) (st' := [mI 1]) (S' := (L, I, J, R)) [(.iconst 1, (0, 0, 0, 1, 0)), (.goto 4, (0, 26, 0, 0, 0))] [] (by decide +kernel) rfl trivial ?_
        refine b_zret (by decide +kernel) rfl (by decide) ⟨?_, ?_⟩
        · first | rfl | (simp_all [bI, v_isCut]; done) | (simp [bI, v_isCut, Int32.lt_iff_toInt_lt, Int32.le_iff_toInt_le] at *; omega)
        · first | rfl | (simp_all [bI, v_isCut]; done) | (simp [bI, v_isCut, Int32.lt_iff_toInt_lt, Int32.le_iff_toInt_le] at *; omega)
def v_hasPost (I : Nat → Nat → Int32) (k : Nat) (c r : Int32) : Bool := decide (0 ≤ r ∧ r < 30 ∧ ¬ (v_postsOf I k c >>> (r &&& 31)) &&& 1 = 0)
set_option maxRecDepth 100000 in
set_option maxHeartbeats 4000000 in
theorem c_Lay_hasPost {G : MG} {L : List (Nat × Nat)} {I : Nat → Nat → Int32} {J : Nat → Nat → Int64} {R : Nat → Nat → Option MRef} (k : Nat) (c : Int32) (r : Int32) (h : LayR R k) : m_met G 2 0 0 y_Lay_hasPost M_Lay_hasPost [mR (3, 0, k), mI c, mI r] (L, I, J, R) (m_is (some (mI (bI (v_hasPost I k c r)))) (L, I, J, R)) := by
  refine m_met_in n_Lay_hasPost (by decide) (by decide) (Nat.le_of_ble_eq_true rfl) (ls := [some (mR (3, 0, k)), some (mI c), some (mI r)]) rfl ?_
  refine b_blk (pc' := 1) (ls' := [some (mR (3, 0, k)), some (mI c), some (mI r)]) (st' := [mI r]) (S' := (L, I, J, R)) [(.iload_n 2, (0, 0, 0, 0, 0))] [] (by decide +kernel) rfl trivial ?_
  refine b_if_lt (off := 25) (tgt := 26) (by decide +kernel) (by decide) (fun h1 => ?_) (fun h1 => ?_)
  · refine b_blk (pc' := 27) (ls' := [some (mR (3, 0, k)), some (mI c), some (mI r)]) (st' := [mI 0]) (S' := (L, I, J, R)) [(.iconst 0, (0, 0, 0, 0, 0))] [] (by decide +kernel) rfl trivial ?_
    refine b_zret (by decide +kernel) rfl (by decide) ⟨?_, ?_⟩
    · first | rfl | (simp_all [bI, v_hasPost]; done) | (simp [bI, v_hasPost, Int32.lt_iff_toInt_lt, Int32.le_iff_toInt_le] at *; omega)
    · first | rfl | (simp_all [bI, v_hasPost]; done) | (simp [bI, v_hasPost, Int32.lt_iff_toInt_lt, Int32.le_iff_toInt_le] at *; omega)
  · refine b_blk (pc' := 7) (ls' := [some (mR (3, 0, k)), some (mI c), some (mI r)]) (st' := [mI 30, mI r]) (S' := (L, I, J, R)) [(.iload_n 2, (0, 0, 0, 0, 0)), (.bipush 30, (0, 0, 0, 30, 0))] [] (by decide +kernel) rfl trivial ?_
    refine b_icmp_ge (off := 19) (tgt := 26) (by decide +kernel) (by decide) (fun h2 => ?_) (fun h2 => ?_)
    · refine b_blk (pc' := 27) (ls' := [some (mR (3, 0, k)), some (mI c), some (mI r)]) (st' := [mI 0]) (S' := (L, I, J, R)) [(.iconst 0, (0, 0, 0, 0, 0))] [] (by decide +kernel) rfl trivial ?_
      refine b_zret (by decide +kernel) rfl (by decide) ⟨?_, ?_⟩
      · first | rfl | (simp_all [bI, v_hasPost]; done) | (simp [bI, v_hasPost, Int32.lt_iff_toInt_lt, Int32.le_iff_toInt_le] at *; omega)
      · first | rfl | (simp_all [bI, v_hasPost]; done) | (simp [bI, v_hasPost, Int32.lt_iff_toInt_lt, Int32.le_iff_toInt_le] at *; omega)
    · refine b_blk (pc' := 12) (ls' := [some (mR (3, 0, k)), some (mI c), some (mI r)]) (st' := [mI c, mR (3, 0, k)]) (S' := (L, I, J, R)) [(.aload_n 0, (0, 0, 0, 0, 0)), (.iload_n 1, (0, 0, 0, 0, 0))] [] (by decide +kernel) rfl trivial ?_
      refine b_cV (as := [mI c]) (st := []) (by decide +kernel) k_3_52 n_Lay_postsOf rfl (by decide) v_Lay_postsOf (c_Lay_postsOf k c h) (Nat.le_of_ble_eq_true rfl) (by decide) rfl rfl (fun _ h => h) ?_
      show m_B _ _ _ _ _ _ 15 [some (mR (3, 0, k)), some (mI c), some (mI r)] [mI (v_postsOf I k c)] (L, I, J, R)
      refine b_blk (pc' := 19) (ls' := [some (mR (3, 0, k)), some (mI c), some (mI r)]) (st' := [mI (((v_postsOf I k c) >>> (r &&& 31)) &&& 1)]) (S' := (L, I, J, R)) [(.iload_n 2, (0, 0, 0, 0, 0)), (.ishr, (0, 0, 0, 0, 0)), (.iconst 1, (0, 0, 0, 1, 0)), (.iand, (0, 0, 0, 0, 0))] [] (by decide +kernel) rfl trivial ?_
      refine b_if_eq (off := 7) (tgt := 26) (by decide +kernel) (by decide) (fun h3 => ?_) (fun h3 => ?_)
      · refine b_blk (pc' := 27) (ls' := [some (mR (3, 0, k)), some (mI c), some (mI r)]) (st' := [mI 0]) (S' := (L, I, J, R)) [(.iconst 0, (0, 0, 0, 0, 0))] [] (by decide +kernel) rfl trivial ?_
        refine b_zret (by decide +kernel) rfl (by decide) ⟨?_, ?_⟩
        · first | rfl | (simp_all [bI, v_hasPost]; done) | (simp [bI, v_hasPost, Int32.lt_iff_toInt_lt, Int32.le_iff_toInt_le] at *; omega)
        · first | rfl | (simp_all [bI, v_hasPost]; done) | (simp [bI, v_hasPost, Int32.lt_iff_toInt_lt, Int32.le_iff_toInt_le] at *; omega)
      · refine b_blk (pc' := 27) (ls' := [some (mR (3, 0, k)), some (mI c), some (mI r)]) (st' := [mI 1]) (S' := (L, I, J, R)) [(.iconst 1, (0, 0, 0, 1, 0)), (.goto 4, (0, 27, 0, 0, 0))] [] (by decide +kernel) rfl trivial ?_
        refine b_zret (by decide +kernel) rfl (by decide) ⟨?_, ?_⟩
        · first | rfl | (simp_all [bI, v_hasPost]; done) | (simp [bI, v_hasPost, Int32.lt_iff_toInt_lt, Int32.le_iff_toInt_le] at *; omega)
        · first | rfl | (simp_all [bI, v_hasPost]; done) | (simp [bI, v_hasPost, Int32.lt_iff_toInt_lt, Int32.le_iff_toInt_le] at *; omega)
def l_left (I : Nat → Nat → Int32) (k : Nat) (f : Int32) : Nat → Int32
  | 0 => 0
  | n + 1 => l_left I k f n + (if v_rowOf I k f (nI n) = -1 then 0 else 1)
set_option maxRecDepth 100000 in
set_option maxHeartbeats 4000000 in
theorem c_Lay_leftOf {G : MG} {L : List (Nat × Nat)} {I : Nat → Nat → Int32} {J : Nat → Nat → Int64} {R : Nat → Nat → Option MRef} (k : Nat) (f : Int32) (h : LayR R k) : m_met G 3 0 0 y_Lay_leftOf M_Lay_leftOf [mR (3, 0, k), mI f] (L, I, J, R) (m_is (some (mI (l_left I k f 6))) (L, I, J, R)) := by
  refine m_met_in n_Lay_leftOf (by decide) (by decide) (Nat.le_of_ble_eq_true rfl) (ls := [some (mR (3, 0, k)), some (mI f), none, none]) rfl ?_
  refine b_blk (pc' := 4) (ls' := [some (mR (3, 0, k)), some (mI f), some (mI 0), some (mI 0)]) (st' := []) (S' := (L, I, J, R)) [(.iconst 0, (0, 0, 0, 0, 0)), (.istore_n 2, (0, 0, 0, 0, 0)), (.iconst 0, (0, 0, 0, 0, 0)), (.istore_n 3, (0, 0, 0, 0, 0))] [] (by decide +kernel) rfl trivial ?_
  suffices hx : m_B G (m_rm 3 0 0) M_Lay_leftOf (m_is (some (mI (l_left I k f 6))) (L, I, J, R)) 0 0 34 [some (mR (3, 0, k)), some (mI f), some (mI (l_left I k f 6)), some (mI (nI 6))] [] (L, I, J, R) by
    refine m_B_cg ?_ rfl ?_ (loop_up 6 (fun n => m_B G (m_rm 3 0 0) M_Lay_leftOf (m_is (some (mI (l_left I k f 6))) (L, I, J, R)) 0 0 4 [some (mR (3, 0, k)), some (mI f), some (mI (l_left I k f n)), some (mI (nI n))] [] (L, I, J, R)) ?_ ?_ 0 (Nat.zero_le _))
    · simp [l_left, nI_succ, *]
    · rfl
    · refine b_blk (pc' := 7) (ls' := [some (mR (3, 0, k)), some (mI f), some (mI (l_left I k f 6)), some (mI (nI 6))]) (st' := [mI 6, mI (nI 6)]) (S' := (L, I, J, R)) [(.iload_n 3, (0, 0, 0, 0, 0)), (.bipush 6, (0, 0, 0, 6, 0))] [] (by decide +kernel) rfl trivial ?_
      refine b_icmp_ge (off := 27) (tgt := 34) (by decide +kernel) (by decide) (fun h1 => ?_) (fun h1 => ?_)
      · exact hx
      · exact absurd (Int32.le_refl _) h1
    · intro n hn ih
      refine b_blk (pc' := 7) (ls' := [some (mR (3, 0, k)), some (mI f), some (mI (l_left I k f n)), some (mI (nI n))]) (st' := [mI 6, mI (nI n)]) (S' := (L, I, J, R)) [(.iload_n 3, (0, 0, 0, 0, 0)), (.bipush 6, (0, 0, 0, 6, 0))] [] (by decide +kernel) rfl trivial ?_
      refine b_icmp_ge (off := 27) (tgt := 34) (by decide +kernel) (by decide) (fun h2 => ?_) (fun h2 => ?_)
      · exact absurd h2 (nI_ge hn (by omega))
      · refine b_blk (pc' := 14) (ls' := [some (mR (3, 0, k)), some (mI f), some (mI (l_left I k f n)), some (mI (nI n))]) (st' := [mI (nI n), mI f, mR (3, 0, k), mI (l_left I k f n)]) (S' := (L, I, J, R)) [(.iload_n 2, (0, 0, 0, 0, 0)), (.aload_n 0, (0, 0, 0, 0, 0)), (.iload_n 1, (0, 0, 0, 0, 0)), (.iload_n 3, (0, 0, 0, 0, 0))] [] (by decide +kernel) rfl trivial ?_
        refine b_cV (as := [mI f, mI (nI n)]) (st := [mI (l_left I k f n)]) (by decide +kernel) k_3_61 n_Lay_rowOf rfl (by decide) v_Lay_rowOf (c_Lay_rowOf k f (nI n) h) (Nat.le_of_ble_eq_true rfl) (by decide) rfl rfl (fun _ h => h) ?_
        show m_B _ _ _ _ _ _ 17 [some (mR (3, 0, k)), some (mI f), some (mI (l_left I k f n)), some (mI (nI n))] [mI (v_rowOf I k f (nI n)), mI (l_left I k f n)] (L, I, J, R)
        refine b_blk (pc' := 18) (ls' := [some (mR (3, 0, k)), some (mI f), some (mI (l_left I k f n)), some (mI (nI n))]) (st' := [mI (-1), mI (v_rowOf I k f (nI n)), mI (l_left I k f n)]) (S' := (L, I, J, R)) [(.iconst (-1), (0, 0, 0, (-1), 0))] [] (by decide +kernel) rfl trivial ?_
        refine b_icmp_ne (off := 7) (tgt := 25) (by decide +kernel) (by decide) (fun h3 => ?_) (fun h3 => ?_)
        · refine b_blk (pc' := 4) (ls' := [some (mR (3, 0, k)), some (mI f), some (mI ((l_left I k f n) + 1)), some (mI ((nI n) + 1))]) (st' := []) (S' := (L, I, J, R)) [(.iconst 1, (0, 0, 0, 1, 0)), (.iadd, (0, 0, 0, 0, 0)), (.istore_n 2, (0, 0, 0, 0, 0)), (.iinc 3 1, (0, 0, 0, 1, 0)), (.goto (-27), (0, 4, 0, 0, 0))] [] (by decide +kernel) rfl trivial ?_
          refine m_B_cg ?_ rfl ?_ ih
          · simp [l_left, nI_succ, *]
          · rfl
        · refine b_blk (pc' := 26) (ls' := [some (mR (3, 0, k)), some (mI f), some (mI (l_left I k f n)), some (mI (nI n))]) (st' := [mI 0, mI (l_left I k f n)]) (S' := (L, I, J, R)) [(.iconst 0, (0, 0, 0, 0, 0)), (.goto 4, (0, 26, 0, 0, 0))] [] (by decide +kernel) rfl trivial ?_
          refine b_blk (pc' := 4) (ls' := [some (mR (3, 0, k)), some (mI f), some (mI ((l_left I k f n) + 0)), some (mI ((nI n) + 1))]) (st' := []) (S' := (L, I, J, R)) [(.iadd, (0, 0, 0, 0, 0)), (.istore_n 2, (0, 0, 0, 0, 0)), (.iinc 3 1, (0, 0, 0, 1, 0)), (.goto (-27), (0, 4, 0, 0, 0))] [] (by decide +kernel) rfl trivial ?_
          refine m_B_cg ?_ rfl ?_ ih
          · simp [l_left, nI_succ, *]
          · rfl
  refine b_blk (pc' := 35) (ls' := [some (mR (3, 0, k)), some (mI f), some (mI (l_left I k f 6)), some (mI (nI 6))]) (st' := [mI (l_left I k f 6)]) (S' := (L, I, J, R)) [(.iload_n 2, (0, 0, 0, 0, 0))] [] (by decide +kernel) rfl trivial ?_
  refine b_iret (by decide +kernel) rfl ⟨?_, ?_⟩
  · simp_all
  · simp_all
def l_stakesAt (I : Nat → Nat → Int32) (k : Nat) (c r : Int32) : Nat → Int32
  | 0 => 0
  | n + 1 => l_stakesAt I k c r n + (if v_rowOf I k (nI n) c = r then 1 else 0)
