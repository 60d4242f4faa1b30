/-! the JDK's statics -/
def f_Math_min_II (a : Int32) (b : Int32) : Int32 := if b < a then b else a
set_option maxRecDepth 100000 in
set_option maxHeartbeats 4000000 in
theorem c_Math_min_II {G : MG} {L : List (Nat × Nat)} {I : Nat → Nat → Int32} {J : Nat → Nat → Int64} {R : Nat → Nat → Option MRef} (a : Int32) (b : Int32)  : m_met G 1 0 0 y_Math_min_II M_Math_min_II [mI a, mI b] (L, I, J, R) (m_is (some (mI (f_Math_min_II a b))) (L, I, J, R)) := by
  refine m_met_in n_Math_min_II (by decide +kernel) (by decide) (Nat.le_of_ble_eq_true rfl) (ls := [some (mI a), some (mI b)]) rfl ?_
  refine b_blk (pc' := 2) (ls' := [some (mI a), some (mI b)]) (st' := [mI b, mI a]) (S' := (L, I, J, R)) [(.iload_n 0, (0, 0, 0, 0, 0)), (.iload_n 1, (0, 0, 0, 0, 0))] [] (by decide +kernel) rfl trivial ?_
  refine b_icmp_gt (off := 7) (tgt := 9) (by decide +kernel) (by decide) (fun h1 => ?_) (fun h1 => ?_)
  · refine b_blk (pc' := 10) (ls' := [some (mI a), some (mI b)]) (st' := [mI b]) (S' := (L, I, J, R)) [(.iload_n 1, (0, 0, 0, 0, 0))] [] (by decide +kernel) rfl trivial ?_
    refine b_iret (by decide +kernel) rfl ⟨?_, ?_⟩
    · first | rfl | (simp only [f_Math_min_II]; simp only [*, if_true, if_false]; done) | (simp_all [f_Math_min_II]; done)
    · first | rfl | (simp only [f_Math_min_II]; simp only [*, if_true, if_false]; done) | (simp_all [f_Math_min_II]; done)
  · refine b_blk (pc' := 10) (ls' := [some (mI a), some (mI b)]) (st' := [mI a]) (S' := (L, I, J, R)) [(.iload_n 0, (0, 0, 0, 0, 0)), (.goto 4, (0, 10, 0, 0, 0))] [] (by decide +kernel) rfl trivial ?_
    refine b_iret (by decide +kernel) rfl ⟨?_, ?_⟩
    · first | rfl | (simp only [f_Math_min_II]; simp only [*, if_true, if_false]; done) | (simp_all [f_Math_min_II]; done)
    · first | rfl | (simp only [f_Math_min_II]; simp only [*, if_true, if_false]; done) | (simp_all [f_Math_min_II]; done)
def f_Math_max_II (a : Int32) (b : Int32) : Int32 := if a < b then b else a
set_option maxRecDepth 100000 in
set_option maxHeartbeats 4000000 in
theorem c_Math_max_II {G : MG} {L : List (Nat × Nat)} {I : Nat → Nat → Int32} {J : Nat → Nat → Int64} {R : Nat → Nat → Option MRef} (a : Int32) (b : Int32)  : m_met G 1 0 0 y_Math_max_II M_Math_max_II [mI a, mI b] (L, I, J, R) (m_is (some (mI (f_Math_max_II a b))) (L, I, J, R)) := by
  refine m_met_in n_Math_max_II (by decide +kernel) (by decide) (Nat.le_of_ble_eq_true rfl) (ls := [some (mI a), some (mI b)]) rfl ?_
  refine b_blk (pc' := 2) (ls' := [some (mI a), some (mI b)]) (st' := [mI b, mI a]) (S' := (L, I, J, R)) [(.iload_n 0, (0, 0, 0, 0, 0)), (.iload_n 1, (0, 0, 0, 0, 0))] [] (by decide +kernel) rfl trivial ?_
  refine b_icmp_lt (off := 7) (tgt := 9) (by decide +kernel) (by decide) (fun h1 => ?_) (fun h1 => ?_)
  · refine b_blk (pc' := 10) (ls' := [some (mI a), some (mI b)]) (st' := [mI b]) (S' := (L, I, J, R)) [(.iload_n 1, (0, 0, 0, 0, 0))] [] (by decide +kernel) rfl trivial ?_
    refine b_iret (by decide +kernel) rfl ⟨?_, ?_⟩
    · first | rfl | (simp only [f_Math_max_II]; simp only [*, if_true, if_false]; done) | (simp_all [f_Math_max_II]; done)
    · first | rfl | (simp only [f_Math_max_II]; simp only [*, if_true, if_false]; done) | (simp_all [f_Math_max_II]; done)
  · refine b_blk (pc' := 10) (ls' := [some (mI a), some (mI b)]) (st' := [mI a]) (S' := (L, I, J, R)) [(.iload_n 0, (0, 0, 0, 0, 0)), (.goto 4, (0, 10, 0, 0, 0))] [] (by decide +kernel) rfl trivial ?_
    refine b_iret (by decide +kernel) rfl ⟨?_, ?_⟩
    · first | rfl | (simp only [f_Math_max_II]; simp only [*, if_true, if_false]; done) | (simp_all [f_Math_max_II]; done)
    · first | rfl | (simp only [f_Math_max_II]; simp only [*, if_true, if_false]; done) | (simp_all [f_Math_max_II]; done)
def f_Math_min_JJ (a : Int64) (b : Int64) : Int64 := if 0 < (lg_cmp a b) then b else a
set_option maxRecDepth 100000 in
set_option maxHeartbeats 4000000 in
theorem c_Math_min_JJ {G : MG} {L : List (Nat × Nat)} {I : Nat → Nat → Int32} {J : Nat → Nat → Int64} {R : Nat → Nat → Option MRef} (a : Int64) (b : Int64)  : m_met G 1 0 0 y_Math_min_JJ M_Math_min_JJ [mJ a, mJ b] (L, I, J, R) (m_is (some (mJ (f_Math_min_JJ a b))) (L, I, J, R)) := by
  refine m_met_in n_Math_min_JJ (by decide +kernel) (by decide) (Nat.le_of_ble_eq_true rfl) (ls := [some (mJ a), none, some (mJ b), none]) rfl ?_
  refine b_blk (pc' := 3) (ls' := [some (mJ a), none, some (mJ b), none]) (st' := [mI (lg_cmp a b)]) (S' := (L, I, J, R)) [(.lload_n 0, (0, 0, 0, 0, 0)), (.lload_n 2, (0, 0, 0, 0, 0)), (.lcmp, (0, 0, 0, 0, 0))] [] (by decide +kernel) rfl trivial ?_
  refine b_if_gt (off := 7) (tgt := 10) (by decide +kernel) (by decide) (fun h1 => ?_) (fun h1 => ?_)
  · refine b_blk (pc' := 11) (ls' := [some (mJ a), none, some (mJ b), none]) (st' := [mJ b]) (S' := (L, I, J, R)) [(.lload_n 2, (0, 0, 0, 0, 0))] [] (by decide +kernel) rfl trivial ?_
    refine b_lret (by decide +kernel) rfl ⟨?_, ?_⟩
    · first | rfl | (simp only [f_Math_min_JJ]; simp only [*, if_true, if_false]; done) | (simp_all [f_Math_min_JJ]; done)
    · first | rfl | (simp only [f_Math_min_JJ]; simp only [*, if_true, if_false]; done) | (simp_all [f_Math_min_JJ]; done)
  · refine b_blk (pc' := 11) (ls' := [some (mJ a), none, some (mJ b), none]) (st' := [mJ a]) (S' := (L, I, J, R)) [(.lload_n 0, (0, 0, 0, 0, 0)), (.goto 4, (0, 11, 0, 0, 0))] [] (by decide +kernel) rfl trivial ?_
    refine b_lret (by decide +kernel) rfl ⟨?_, ?_⟩
    · first | rfl | (simp only [f_Math_min_JJ]; simp only [*, if_true, if_false]; done) | (simp_all [f_Math_min_JJ]; done)
    · first | rfl | (simp only [f_Math_min_JJ]; simp only [*, if_true, if_false]; done) | (simp_all [f_Math_min_JJ]; done)
def f_Math_max_JJ (a : Int64) (b : Int64) : Int64 := if (lg_cmp a b) < 0 then b else a
set_option maxRecDepth 100000 in
set_option maxHeartbeats 4000000 in
theorem c_Math_max_JJ {G : MG} {L : List (Nat × Nat)} {I : Nat → Nat → Int32} {J : Nat → Nat → Int64} {R : Nat → Nat → Option MRef} (a : Int64) (b : Int64)  : m_met G 1 0 0 y_Math_max_JJ M_Math_max_JJ [mJ a, mJ b] (L, I, J, R) (m_is (some (mJ (f_Math_max_JJ a b))) (L, I, J, R)) := by
  refine m_met_in n_Math_max_JJ (by decide +kernel) (by decide) (Nat.le_of_ble_eq_true rfl) (ls := [some (mJ a), none, some (mJ b), none]) rfl ?_
  refine b_blk (pc' := 3) (ls' := [some (mJ a), none, some (mJ b), none]) (st' := [mI (lg_cmp a b)]) (S' := (L, I, J, R)) [(.lload_n 0, (0, 0, 0, 0, 0)), (.lload_n 2, (0, 0, 0, 0, 0)), (.lcmp, (0, 0, 0, 0, 0))] [] (by decide +kernel) rfl trivial ?_
  refine b_if_lt (off := 7) (tgt := 10) (by decide +kernel) (by decide) (fun h1 => ?_) (fun h1 => ?_)
  · refine b_blk (pc' := 11) (ls' := [some (mJ a), none, some (mJ b), none]) (st' := [mJ b]) (S' := (L, I, J, R)) [(.lload_n 2, (0, 0, 0, 0, 0))] [] (by decide +kernel) rfl trivial ?_
    refine b_lret (by decide +kernel) rfl ⟨?_, ?_⟩
    · first | rfl | (simp only [f_Math_max_JJ]; simp only [*, if_true, if_false]; done) | (simp_all [f_Math_max_JJ]; done)
    · first | rfl | (simp only [f_Math_max_JJ]; simp only [*, if_true, if_false]; done) | (simp_all [f_Math_max_JJ]; done)
  · refine b_blk (pc' := 11) (ls' := [some (mJ a), none, some (mJ b), none]) (st' := [mJ a]) (S' := (L, I, J, R)) [(.lload_n 0, (0, 0, 0, 0, 0)), (.goto 4, (0, 11, 0, 0, 0))] [] (by decide +kernel) rfl trivial ?_
    refine b_lret (by decide +kernel) rfl ⟨?_, ?_⟩
    · first | rfl | (simp only [f_Math_max_JJ]; simp only [*, if_true, if_false]; done) | (simp_all [f_Math_max_JJ]; done)
    · first | rfl | (simp only [f_Math_max_JJ]; simp only [*, if_true, if_false]; done) | (simp_all [f_Math_max_JJ]; done)
def f_Math_floorDiv (a : Int32) (b : Int32) : Int32 := if 0 ≤ (a ^^^ b) then a / b else (if ((a / b) * b) = a then a / b else (a / b) - 1)
set_option maxRecDepth 100000 in
set_option maxHeartbeats 4000000 in
theorem c_Math_floorDiv {G : MG} {L : List (Nat × Nat)} {I : Nat → Nat → Int32} {J : Nat → Nat → Int64} {R : Nat → Nat → Option MRef} (a : Int32) (b : Int32) (hb : ¬ b = 0) : m_met G 1 0 0 y_Math_floorDiv M_Math_floorDiv [mI a, mI b] (L, I, J, R) (m_is (some (mI (f_Math_floorDiv a b))) (L, I, J, R)) := by
  refine m_met_in n_Math_floorDiv (by decide +kernel) (by decide) (Nat.le_of_ble_eq_true rfl) (ls := [some (mI a), some (mI b), none]) rfl ?_
  refine b_blk (pc' := 7) (ls' := [some (mI a), some (mI b), some (mI (a / b))]) (st' := [mI (a ^^^ b)]) (S' := (L, I, J, R)) [(.iload_n 0, (0, 0, 0, 0, 0)), (.iload_n 1, (0, 0, 0, 0, 0)), (.idiv, (0, 0, 0, 0, 0)), (.istore_n 2, (0, 0, 0, 0, 0)), (.iload_n 0, (0, 0, 0, 0, 0)), (.iload_n 1, (0, 0, 0, 0, 0)), (.ixor, (0, 0, 0, 0, 0))] [] (by decide +kernel) rfl ⟨trivial, (by assumption)⟩ ?_
  refine b_if_ge (off := 14) (tgt := 21) (by decide +kernel) (by decide) (fun h1 => ?_) (fun h1 => ?_)
  · refine b_blk (pc' := 22) (ls' := [some (mI a), some (mI b), some (mI (a / b))]) (st' := [mI (a / b)]) (S' := (L, I, J, R)) [(.iload_n 2, (0, 0, 0, 0, 0))] [] (by decide +kernel) rfl trivial ?_
    refine b_iret (by decide +kernel) rfl ⟨?_, ?_⟩
    · first | rfl | (simp only [f_Math_floorDiv]; simp only [*, if_true, if_false]; done) | (simp_all [f_Math_floorDiv]; done)
    · first | rfl | (simp only [f_Math_floorDiv]; simp only [*, if_true, if_false]; done) | (simp_all [f_Math_floorDiv]; done)
  · refine b_blk (pc' := 14) (ls' := [some (mI a), some (mI b), some (mI (a / b))]) (st' := [mI a, mI ((a / b) * b)]) (S' := (L, I, J, R)) [(.iload_n 2, (0, 0, 0, 0, 0)), (.iload_n 1, (0, 0, 0, 0, 0)), (.imul, (0, 0, 0, 0, 0)), (.iload_n 0, (0, 0, 0, 0, 0))] [] (by decide +kernel) rfl trivial ?_
    refine b_icmp_eq (off := 7) (tgt := 21) (by decide +kernel) (by decide) (fun h2 => ?_) (fun h2 => ?_)
    · refine b_blk (pc' := 22) (ls' := [some (mI a), some (mI b), some (mI (a / b))]) (st' := [mI (a / b)]) (S' := (L, I, J, R)) [(.iload_n 2, (0, 0, 0, 0, 0))] [] (by decide +kernel) rfl trivial ?_
      refine b_iret (by decide +kernel) rfl ⟨?_, ?_⟩
      · first | rfl | (simp only [f_Math_floorDiv]; simp only [*, if_true, if_false]; done) | (simp_all [f_Math_floorDiv]; done)
      · first | rfl | (simp only [f_Math_floorDiv]; simp only [*, if_true, if_false]; done) | (simp_all [f_Math_floorDiv]; done)
    · refine b_blk (pc' := 20) (ls' := [some (mI a), some (mI b), some (mI (a / b))]) (st' := [mI ((a / b) - 1)]) (S' := (L, I, J, R)) [(.iload_n 2, (0, 0, 0, 0, 0)), (.iconst 1, (0, 0, 0, 1, 0)), (.isub, (0, 0, 0, 0, 0))] [] (by decide +kernel) rfl trivial ?_
      refine b_iret (by decide +kernel) rfl ⟨?_, ?_⟩
      · first | rfl | (simp only [f_Math_floorDiv]; simp only [*, if_true, if_false]; done) | (simp_all [f_Math_floorDiv]; done)
      · first | rfl | (simp only [f_Math_floorDiv]; simp only [*, if_true, if_false]; done) | (simp_all [f_Math_floorDiv]; done)
def f_Integer_bitCount (x : Int32) : Int32 := (((((((x - ((m_ushr x 1) &&& 1431655765)) &&& 858993459) + ((m_ushr (x - ((m_ushr x 1) &&& 1431655765)) 2) &&& 858993459)) + (m_ushr (((x - ((m_ushr x 1) &&& 1431655765)) &&& 858993459) + ((m_ushr (x - ((m_ushr x 1) &&& 1431655765)) 2) &&& 858993459)) 4)) &&& 252645135) + (m_ushr (((((x - ((m_ushr x 1) &&& 1431655765)) &&& 858993459) + ((m_ushr (x - ((m_ushr x 1) &&& 1431655765)) 2) &&& 858993459)) + (m_ushr (((x - ((m_ushr x 1) &&& 1431655765)) &&& 858993459) + ((m_ushr (x - ((m_ushr x 1) &&& 1431655765)) 2) &&& 858993459)) 4)) &&& 252645135) 8)) + (m_ushr ((((((x - ((m_ushr x 1) &&& 1431655765)) &&& 858993459) + ((m_ushr (x - ((m_ushr x 1) &&& 1431655765)) 2) &&& 858993459)) + (m_ushr (((x - ((m_ushr x 1) &&& 1431655765)) &&& 858993459) + ((m_ushr (x - ((m_ushr x 1) &&& 1431655765)) 2) &&& 858993459)) 4)) &&& 252645135) + (m_ushr (((((x - ((m_ushr x 1) &&& 1431655765)) &&& 858993459) + ((m_ushr (x - ((m_ushr x 1) &&& 1431655765)) 2) &&& 858993459)) + (m_ushr (((x - ((m_ushr x 1) &&& 1431655765)) &&& 858993459) + ((m_ushr (x - ((m_ushr x 1) &&& 1431655765)) 2) &&& 858993459)) 4)) &&& 252645135) 8)) 16)) &&& 63
set_option maxRecDepth 100000 in
set_option maxHeartbeats 4000000 in
theorem c_Integer_bitCount {G : MG} {L : List (Nat × Nat)} {I : Nat → Nat → Int32} {J : Nat → Nat → Int64} {R : Nat → Nat → Option MRef} (x : Int32)  : m_met G 1 0 0 y_Integer_bitCount M_Integer_bitCount [mI x] (L, I, J, R) (m_is (some (mI (f_Integer_bitCount x))) (L, I, J, R)) := by
  refine m_met_in n_Integer_bitCount (plainFor_of_name (by decide)) (by decide) (Nat.le_of_ble_eq_true rfl) (ls := [some (mI x)]) rfl ?_
  refine b_blk (pc' := 32) (ls' := [some (mI (((x - ((m_ushr x 1) &&& 1431655765)) &&& 858993459) + ((m_ushr (x - ((m_ushr x 1) &&& 1431655765)) 2) &&& 858993459)))]) (st' := [mI 252645135, mI ((((x - ((m_ushr x 1) &&& 1431655765)) &&& 858993459) + ((m_ushr (x - ((m_ushr x 1) &&& 1431655765)) 2) &&& 858993459)) + (m_ushr (((x - ((m_ushr x 1) &&& 1431655765)) &&& 858993459) + ((m_ushr (x - ((m_ushr x 1) &&& 1431655765)) 2) &&& 858993459)) 4))]) (S' := (L, I, J, R)) [(.iload_n 0, (0, 0, 0, 0, 0)), (.iload_n 0, (0, 0, 0, 0, 0)), (.iconst 1, (0, 0, 0, 1, 0)), (.iushr, (0, 0, 0, 0, 0)), (.ldc_w 265, (0, 0, 0, 1431655765, 0)), (.iand, (0, 0, 0, 0, 0)), (.isub, (0, 0, 0, 0, 0)), (.istore_n 0, (0, 0, 0, 0, 0)), (.iload_n 0, (0, 0, 0, 0, 0)), (.ldc_w 266, (0, 0, 0, 858993459, 0)), (.iand, (0, 0, 0, 0, 0)), (.iload_n 0, (0, 0, 0, 0, 0)), (.iconst 2, (0, 0, 0, 2, 0)), (.iushr, (0, 0, 0, 0, 0)), (.ldc_w 266, (0, 0, 0, 858993459, 0)), (.iand, (0, 0, 0, 0, 0)), (.iadd, (0, 0, 0, 0, 0)), (.istore_n 0, (0, 0, 0, 0, 0)), (.iload_n 0, (0, 0, 0, 0, 0)), (.iload_n 0, (0, 0, 0, 0, 0)), (.iconst 4, (0, 0, 0, 4, 0)), (.iushr, (0, 0, 0, 0, 0)), (.iadd, (0, 0, 0, 0, 0)), (.ldc_w 267, (0, 0, 0, 252645135, 0))] [] (by decide +kernel) rfl trivial ?_
  refine b_blk (pc' := 52) (ls' := [some (mI (((((((x - ((m_ushr x 1) &&& 1431655765)) &&& 858993459) + ((m_ushr (x - ((m_ushr x 1) &&& 1431655765)) 2) &&& 858993459)) + (m_ushr (((x - ((m_ushr x 1) &&& 1431655765)) &&& 858993459) + ((m_ushr (x - ((m_ushr x 1) &&& 1431655765)) 2) &&& 858993459)) 4)) &&& 252645135) + (m_ushr (((((x - ((m_ushr x 1) &&& 1431655765)) &&& 858993459) + ((m_ushr (x - ((m_ushr x 1) &&& 1431655765)) 2) &&& 858993459)) + (m_ushr (((x - ((m_ushr x 1) &&& 1431655765)) &&& 858993459) + ((m_ushr (x - ((m_ushr x 1) &&& 1431655765)) 2) &&& 858993459)) 4)) &&& 252645135) 8)) + (m_ushr ((((((x - ((m_ushr x 1) &&& 1431655765)) &&& 858993459) + ((m_ushr (x - ((m_ushr x 1) &&& 1431655765)) 2) &&& 858993459)) + (m_ushr (((x - ((m_ushr x 1) &&& 1431655765)) &&& 858993459) + ((m_ushr (x - ((m_ushr x 1) &&& 1431655765)) 2) &&& 858993459)) 4)) &&& 252645135) + (m_ushr (((((x - ((m_ushr x 1) &&& 1431655765)) &&& 858993459) + ((m_ushr (x - ((m_ushr x 1) &&& 1431655765)) 2) &&& 858993459)) + (m_ushr (((x - ((m_ushr x 1) &&& 1431655765)) &&& 858993459) + ((m_ushr (x - ((m_ushr x 1) &&& 1431655765)) 2) &&& 858993459)) 4)) &&& 252645135) 8)) 16)))]) (st' := [mI ((((((((x - ((m_ushr x 1) &&& 1431655765)) &&& 858993459) + ((m_ushr (x - ((m_ushr x 1) &&& 1431655765)) 2) &&& 858993459)) + (m_ushr (((x - ((m_ushr x 1) &&& 1431655765)) &&& 858993459) + ((m_ushr (x - ((m_ushr x 1) &&& 1431655765)) 2) &&& 858993459)) 4)) &&& 252645135) + (m_ushr (((((x - ((m_ushr x 1) &&& 1431655765)) &&& 858993459) + ((m_ushr (x - ((m_ushr x 1) &&& 1431655765)) 2) &&& 858993459)) + (m_ushr (((x - ((m_ushr x 1) &&& 1431655765)) &&& 858993459) + ((m_ushr (x - ((m_ushr x 1) &&& 1431655765)) 2) &&& 858993459)) 4)) &&& 252645135) 8)) + (m_ushr ((((((x - ((m_ushr x 1) &&& 1431655765)) &&& 858993459) + ((m_ushr (x - ((m_ushr x 1) &&& 1431655765)) 2) &&& 858993459)) + (m_ushr (((x - ((m_ushr x 1) &&& 1431655765)) &&& 858993459) + ((m_ushr (x - ((m_ushr x 1) &&& 1431655765)) 2) &&& 858993459)) 4)) &&& 252645135) + (m_ushr (((((x - ((m_ushr x 1) &&& 1431655765)) &&& 858993459) + ((m_ushr (x - ((m_ushr x 1) &&& 1431655765)) 2) &&& 858993459)) + (m_ushr (((x - ((m_ushr x 1) &&& 1431655765)) &&& 858993459) + ((m_ushr (x - ((m_ushr x 1) &&& 1431655765)) 2) &&& 858993459)) 4)) &&& 252645135) 8)) 16)) &&& 63)]) (S' := (L, I, J, R)) [(.iand, (0, 0, 0, 0, 0)), (.istore_n 0, (0, 0, 0, 0, 0)), (.iload_n 0, (0, 0, 0, 0, 0)), (.iload_n 0, (0, 0, 0, 0, 0)), (.bipush 8, (0, 0, 0, 8, 0)), (.iushr, (0, 0, 0, 0, 0)), (.iadd, (0, 0, 0, 0, 0)), (.istore_n 0, (0, 0, 0, 0, 0)), (.iload_n 0, (0, 0, 0, 0, 0)), (.iload_n 0, (0, 0, 0, 0, 0)), (.bipush 16, (0, 0, 0, 16, 0)), (.iushr, (0, 0, 0, 0, 0)), (.iadd, (0, 0, 0, 0, 0)), (.istore_n 0, (0, 0, 0, 0, 0)), (.iload_n 0, (0, 0, 0, 0, 0)), (.bipush 63, (0, 0, 0, 63, 0)), (.iand, (0, 0, 0, 0, 0))] [] (by decide +kernel) rfl trivial ?_
  refine b_iret (by decide +kernel) rfl ⟨?_, ?_⟩
  · first | rfl | (simp only [f_Integer_bitCount]; simp only [*, if_true, if_false]; done) | (simp_all [f_Integer_bitCount]; done)
  · first | rfl | (simp only [f_Integer_bitCount]; simp only [*, if_true, if_false]; done) | (simp_all [f_Integer_bitCount]; done)
def f_Integer_numberOfTrailingZeros (x : Int32) : Int32 := if 0 < ((x ^^^ (-1)) &&& (x - 1)) then (if ((x ^^^ (-1)) &&& (x - 1)) ≤ 65536 then (if ((x ^^^ (-1)) &&& (x - 1)) ≤ 256 then (if ((x ^^^ (-1)) &&& (x - 1)) ≤ 16 then (if ((x ^^^ (-1)) &&& (x - 1)) ≤ 4 then 1 + (m_ushr ((x ^^^ (-1)) &&& (x - 1)) 1) else 3 + (m_ushr (m_ushr ((x ^^^ (-1)) &&& (x - 1)) 2) 1)) else (if (m_ushr ((x ^^^ (-1)) &&& (x - 1)) 4) ≤ 4 then 5 + (m_ushr (m_ushr ((x ^^^ (-1)) &&& (x - 1)) 4) 1) else 7 + (m_ushr (m_ushr (m_ushr ((x ^^^ (-1)) &&& (x - 1)) 4) 2) 1))) else (if (m_ushr ((x ^^^ (-1)) &&& (x - 1)) 8) ≤ 16 then (if (m_ushr ((x ^^^ (-1)) &&& (x - 1)) 8) ≤ 4 then 9 + (m_ushr (m_ushr ((x ^^^ (-1)) &&& (x - 1)) 8) 1) else 11 + (m_ushr (m_ushr (m_ushr ((x ^^^ (-1)) &&& (x - 1)) 8) 2) 1)) else (if (m_ushr (m_ushr ((x ^^^ (-1)) &&& (x - 1)) 8) 4) ≤ 4 then 13 + (m_ushr (m_ushr (m_ushr ((x ^^^ (-1)) &&& (x - 1)) 8) 4) 1) else 15 + (m_ushr (m_ushr (m_ushr (m_ushr ((x ^^^ (-1)) &&& (x - 1)) 8) 4) 2) 1)))) else (if (m_ushr ((x ^^^ (-1)) &&& (x - 1)) 16) ≤ 256 then (if (m_ushr ((x ^^^ (-1)) &&& (x - 1)) 16) ≤ 16 then (if (m_ushr ((x ^^^ (-1)) &&& (x - 1)) 16) ≤ 4 then 17 + (m_ushr (m_ushr ((x ^^^ (-1)) &&& (x - 1)) 16) 1) else 19 + (m_ushr (m_ushr (m_ushr ((x ^^^ (-1)) &&& (x - 1)) 16) 2) 1)) else (if (m_ushr (m_ushr ((x ^^^ (-1)) &&& (x - 1)) 16) 4) ≤ 4 then 21 + (m_ushr (m_ushr (m_ushr ((x ^^^ (-1)) &&& (x - 1)) 16) 4) 1) else 23 + (m_ushr (m_ushr (m_ushr (m_ushr ((x ^^^ (-1)) &&& (x - 1)) 16) 4) 2) 1))) else (if (m_ushr (m_ushr ((x ^^^ (-1)) &&& (x - 1)) 16) 8) ≤ 16 then (if (m_ushr (m_ushr ((x ^^^ (-1)) &&& (x - 1)) 16) 8) ≤ 4 then 25 + (m_ushr (m_ushr (m_ushr ((x ^^^ (-1)) &&& (x - 1)) 16) 8) 1) else 27 + (m_ushr (m_ushr (m_ushr (m_ushr ((x ^^^ (-1)) &&& (x - 1)) 16) 8) 2) 1)) else (if (m_ushr (m_ushr (m_ushr ((x ^^^ (-1)) &&& (x - 1)) 16) 8) 4) ≤ 4 then 29 + (m_ushr (m_ushr (m_ushr (m_ushr ((x ^^^ (-1)) &&& (x - 1)) 16) 8) 4) 1) else 31 + (m_ushr (m_ushr (m_ushr (m_ushr (m_ushr ((x ^^^ (-1)) &&& (x - 1)) 16) 8) 4) 2) 1))))) else ((x ^^^ (-1)) &&& (x - 1)) &&& 32
set_option maxRecDepth 100000 in
set_option maxHeartbeats 4000000 in
theorem c_Integer_numberOfTrailingZeros {G : MG} {L : List (Nat × Nat)} {I : Nat → Nat → Int32} {J : Nat → Nat → Int64} {R : Nat → Nat → Option MRef} (x : Int32)  : m_met G 1 0 0 y_Integer_numberOfTrailingZeros M_Integer_numberOfTrailingZeros [mI x] (L, I, J, R) (m_is (some (mI (f_Integer_numberOfTrailingZeros x))) (L, I, J, R)) := by
  refine m_met_in n_Integer_numberOfTrailingZeros (plainFor_of_name (by decide)) (by decide) (Nat.le_of_ble_eq_true rfl) (ls := [some (mI x), none]) rfl ?_
  refine b_blk (pc' := 9) (ls' := [some (mI ((x ^^^ (-1)) &&& (x - 1))), none]) (st' := [mI ((x ^^^ (-1)) &&& (x - 1))]) (S' := (L, I, J, R)) [(.iload_n 0, (0, 0, 0, 0, 0)), (.iconst (-1), (0, 0, 0, (-1), 0)), (.ixor, (0, 0, 0, 0, 0)), (.iload_n 0, (0, 0, 0, 0, 0)), (.iconst 1, (0, 0, 0, 1, 0)), (.isub, (0, 0, 0, 0, 0)), (.iand, (0, 0, 0, 0, 0)), (.istore_n 0, (0, 0, 0, 0, 0)), (.iload_n 0, (0, 0, 0, 0, 0))] [] (by decide +kernel) rfl trivial ?_
  refine b_if_gt (off := 8) (tgt := 17) (by decide +kernel) (by decide) (fun h1 => ?_) (fun h1 => ?_)
  · refine b_blk (pc' := 23) (ls' := [some (mI ((x ^^^ (-1)) &&& (x - 1))), some (mI 1)]) (st' := [mI 65536, mI ((x ^^^ (-1)) &&& (x - 1))]) (S' := (L, I, J, R)) [(.iconst 1, (0, 0, 0, 1, 0)), (.istore_n 1, (0, 0, 0, 0, 0)), (.iload_n 0, (0, 0, 0, 0, 0)), (.ldc_w 264, (0, 0, 0, 65536, 0))] [] (by decide +kernel) rfl trivial ?_
    refine b_icmp_le (off := 11) (tgt := 34) (by decide +kernel) (by decide) (fun h2 => ?_) (fun h2 => ?_)
    · refine b_blk (pc' := 38) (ls' := [some (mI ((x ^^^ (-1)) &&& (x - 1))), some (mI 1)]) (st' := [mI 256, mI ((x ^^^ (-1)) &&& (x - 1))]) (S' := (L, I, J, R)) [(.iload_n 0, (0, 0, 0, 0, 0)), (.sipush 256, (0, 0, 0, 256, 0))] [] (by decide +kernel) rfl trivial ?_
      refine b_icmp_le (off := 11) (tgt := 49) (by decide +kernel) (by decide) (fun h3 => ?_) (fun h3 => ?_)
      · refine b_blk (pc' := 52) (ls' := [some (mI ((x ^^^ (-1)) &&& (x - 1))), some (mI 1)]) (st' := [mI 16, mI ((x ^^^ (-1)) &&& (x - 1))]) (S' := (L, I, J, R)) [(.iload_n 0, (0, 0, 0, 0, 0)), (.bipush 16, (0, 0, 0, 16, 0))] [] (by decide +kernel) rfl trivial ?_
        refine b_icmp_le (off := 10) (tgt := 62) (by decide +kernel) (by decide) (fun h4 => ?_) (fun h4 => ?_)
        · refine b_blk (pc' := 64) (ls' := [some (mI ((x ^^^ (-1)) &&& (x - 1))), some (mI 1)]) (st' := [mI 4, mI ((x ^^^ (-1)) &&& (x - 1))]) (S' := (L, I, J, R)) [(.iload_n 0, (0, 0, 0, 0, 0)), (.iconst 4, (0, 0, 0, 4, 0))] [] (by decide +kernel) rfl trivial ?_
          refine b_icmp_le (off := 10) (tgt := 74) (by decide +kernel) (by decide) (fun h5 => ?_) (fun h5 => ?_)
          · refine b_blk (pc' := 79) (ls' := [some (mI ((x ^^^ (-1)) &&& (x - 1))), some (mI 1)]) (st' := [mI (1 + (m_ushr ((x ^^^ (-1)) &&& (x - 1)) 1))]) (S' := (L, I, J, R)) [(.iload_n 1, (0, 0, 0, 0, 0)), (.iload_n 0, (0, 0, 0, 0, 0)), (.iconst 1, (0, 0, 0, 1, 0)), (.iushr, (0, 0, 0, 0, 0)), (.iadd, (0, 0, 0, 0, 0))] [] (by decide +kernel) rfl trivial ?_
            refine b_iret (by decide +kernel) rfl ⟨?_, ?_⟩
            · first | rfl | (simp only [f_Integer_numberOfTrailingZeros]; simp only [*, if_true, if_false]; done) | (simp_all [f_Integer_numberOfTrailingZeros]; done)
            · first | rfl | (simp only [f_Integer_numberOfTrailingZeros]; simp only [*, if_true, if_false]; done) | (simp_all [f_Integer_numberOfTrailingZeros]; done)
          · refine b_blk (pc' := 79) (ls' := [some (mI (m_ushr ((x ^^^ (-1)) &&& (x - 1)) 2)), some (mI 3)]) (st' := [mI (3 + (m_ushr (m_ushr ((x ^^^ (-1)) &&& (x - 1)) 2) 1))]) (S' := (L, I, J, R)) [(.iinc 1 2, (0, 0, 0, 2, 0)), (.iload_n 0, (0, 0, 0, 0, 0)), (.iconst 2, (0, 0, 0, 2, 0)), (.iushr, (0, 0, 0, 0, 0)), (.istore_n 0, (0, 0, 0, 0, 0)), (.iload_n 1, (0, 0, 0, 0, 0)), (.iload_n 0, (0, 0, 0, 0, 0)), (.iconst 1, (0, 0, 0, 1, 0)), (.iushr, (0, 0, 0, 0, 0)), (.iadd, (0, 0, 0, 0, 0))] [] (by decide +kernel) rfl trivial ?_
            refine b_iret (by decide +kernel) rfl ⟨?_, ?_⟩
            · first | rfl | (simp only [f_Integer_numberOfTrailingZeros]; simp only [*, if_true, if_false]; done) | (simp_all [f_Integer_numberOfTrailingZeros]; done)
            · first | rfl | (simp only [f_Integer_numberOfTrailingZeros]; simp only [*, if_true, if_false]; done) | (simp_all [f_Integer_numberOfTrailingZeros]; done)
        · refine b_blk (pc' := 64) (ls' := [some (mI (m_ushr ((x ^^^ (-1)) &&& (x - 1)) 4)), some (mI 5)]) (st' := [mI 4, mI (m_ushr ((x ^^^ (-1)) &&& (x - 1)) 4)]) (S' := (L, I, J, R)) [(.iinc 1 4, (0, 0, 0, 4, 0)), (.iload_n 0, (0, 0, 0, 0, 0)), (.iconst 4, (0, 0, 0, 4, 0)), (.iushr, (0, 0, 0, 0, 0)), (.istore_n 0, (0, 0, 0, 0, 0)), (.iload_n 0, (0, 0, 0, 0, 0)), (.iconst 4, (0, 0, 0, 4, 0))] [] (by decide +kernel) rfl trivial ?_
          refine b_icmp_le (off := 10) (tgt := 74) (by decide +kernel) (by decide) (fun h6 => ?_) (fun h6 => ?_)
          · refine b_blk (pc' := 79) (ls' := [some (mI (m_ushr ((x ^^^ (-1)) &&& (x - 1)) 4)), some (mI 5)]) (st' := [mI (5 + (m_ushr (m_ushr ((x ^^^ (-1)) &&& (x - 1)) 4) 1))]) (S' := (L, I, J, R)) [(.iload_n 1, (0, 0, 0, 0, 0)), (.iload_n 0, (0, 0, 0, 0, 0)), (.iconst 1, (0, 0, 0, 1, 0)), (.iushr, (0, 0, 0, 0, 0)), (.iadd, (0, 0, 0, 0, 0))] [] (by decide +kernel) rfl trivial ?_
            refine b_iret (by decide +kernel) rfl ⟨?_, ?_⟩
            · first | rfl | (simp only [f_Integer_numberOfTrailingZeros]; simp only [*, if_true, if_false]; done) | (simp_all [f_Integer_numberOfTrailingZeros]; done)
            · first | rfl | (simp only [f_Integer_numberOfTrailingZeros]; simp only [*, if_true, if_false]; done) | (simp_all [f_Integer_numberOfTrailingZeros]; done)
          · refine b_blk (pc' := 79) (ls' := [some (mI (m_ushr (m_ushr ((x ^^^ (-1)) &&& (x - 1)) 4) 2)), some (mI 7)]) (st' := [mI (7 + (m_ushr (m_ushr (m_ushr ((x ^^^ (-1)) &&& (x - 1)) 4) 2) 1))]) (S' := (L, I, J, R)) [(.iinc 1 2, (0, 0, 0, 2, 0)), (.iload_n 0, (0, 0, 0, 0, 0)), (.iconst 2, (0, 0, 0, 2, 0)), (.iushr, (0, 0, 0, 0, 0)), (.istore_n 0, (0, 0, 0, 0, 0)), (.iload_n 1, (0, 0, 0, 0, 0)), (.iload_n 0, (0, 0, 0, 0, 0)), (.iconst 1, (0, 0, 0, 1, 0)), (.iushr, (0, 0, 0, 0, 0)), (.iadd, (0, 0, 0, 0, 0))] [] (by decide +kernel) rfl trivial ?_
            refine b_iret (by decide +kernel) rfl ⟨?_, ?_⟩
            · first | rfl | (simp only [f_Integer_numberOfTrailingZeros]; simp only [*, if_true, if_false]; done) | (simp_all [f_Integer_numberOfTrailingZeros]; done)
            · first | rfl | (simp only [f_Integer_numberOfTrailingZeros]; simp only [*, if_true, if_false]; done) | (simp_all [f_Integer_numberOfTrailingZeros]; done)
      · refine b_blk (pc' := 52) (ls' := [some (mI (m_ushr ((x ^^^ (-1)) &&& (x - 1)) 8)), some (mI 9)]) (st' := [mI 16, mI (m_ushr ((x ^^^ (-1)) &&& (x - 1)) 8)]) (S' := (L, I, J, R)) [(.iinc 1 8, (0, 0, 0, 8, 0)), (.iload_n 0, (0, 0, 0, 0, 0)), (.bipush 8, (0, 0, 0, 8, 0)), (.iushr, (0, 0, 0, 0, 0)), (.istore_n 0, (0, 0, 0, 0, 0)), (.iload_n 0, (0, 0, 0, 0, 0)), (.bipush 16, (0, 0, 0, 16, 0))] [] (by decide +kernel) rfl trivial ?_
        refine b_icmp_le (off := 10) (tgt := 62) (by decide +kernel) (by decide) (fun h7 => ?_) (fun h7 => ?_)
        · refine b_blk (pc' := 64) (ls' := [some (mI (m_ushr ((x ^^^ (-1)) &&& (x - 1)) 8)), some (mI 9)]) (st' := [mI 4, mI (m_ushr ((x ^^^ (-1)) &&& (x - 1)) 8)]) (S' := (L, I, J, R)) [(.iload_n 0, (0, 0, 0, 0, 0)), (.iconst 4, (0, 0, 0, 4, 0))] [] (by decide +kernel) rfl trivial ?_
          refine b_icmp_le (off := 10) (tgt := 74) (by decide +kernel) (by decide) (fun h8 => ?_) (fun h8 => ?_)
          · refine b_blk (pc' := 79) (ls' := [some (mI (m_ushr ((x ^^^ (-1)) &&& (x - 1)) 8)), some (mI 9)]) (st' := [mI (9 + (m_ushr (m_ushr ((x ^^^ (-1)) &&& (x - 1)) 8) 1))]) (S' := (L, I, J, R)) [(.iload_n 1, (0, 0, 0, 0, 0)), (.iload_n 0, (0, 0, 0, 0, 0)), (.iconst 1, (0, 0, 0, 1, 0)), (.iushr, (0, 0, 0, 0, 0)), (.iadd, (0, 0, 0, 0, 0))] [] (by decide +kernel) rfl trivial ?_
            refine b_iret (by decide +kernel) rfl ⟨?_, ?_⟩
            · first | rfl | (simp only [f_Integer_numberOfTrailingZeros]; simp only [*, if_true, if_false]; done) | (simp_all [f_Integer_numberOfTrailingZeros]; done)
            · first | rfl | (simp only [f_Integer_numberOfTrailingZeros]; simp only [*, if_true, if_false]; done) | (simp_all [f_Integer_numberOfTrailingZeros]; done)
          · refine b_blk (pc' := 79) (ls' := [some (mI (m_ushr (m_ushr ((x ^^^ (-1)) &&& (x - 1)) 8) 2)), some (mI 11)]) (st' := [mI (11 + (m_ushr (m_ushr (m_ushr ((x ^^^ (-1)) &&& (x - 1)) 8) 2) 1))]) (S' := (L, I, J, R)) [(.iinc 1 2, (0, 0, 0, 2, 0)), (.iload_n 0, (0, 0, 0, 0, 0)), (.iconst 2, (0, 0, 0, 2, 0)), (.iushr, (0, 0, 0, 0, 0)), (.istore_n 0, (0, 0, 0, 0, 0)), (.iload_n 1, (0, 0, 0, 0, 0)), (.iload_n 0, (0, 0, 0, 0, 0)), (.iconst 1, (0, 0, 0, 1, 0)), (.iushr, (0, 0, 0, 0, 0)), (.iadd, (0, 0, 0, 0, 0))] [] (by decide +kernel) rfl trivial ?_
            refine b_iret (by decide +kernel) rfl ⟨?_, ?_⟩
            · first | rfl | (simp only [f_Integer_numberOfTrailingZeros]; simp only [*, if_true, if_false]; done) | (simp_all [f_Integer_numberOfTrailingZeros]; done)
            · first | rfl | (simp only [f_Integer_numberOfTrailingZeros]; simp only [*, if_true, if_false]; done) | (simp_all [f_Integer_numberOfTrailingZeros]; done)
        · refine b_blk (pc' := 64) (ls' := [some (mI (m_ushr (m_ushr ((x ^^^ (-1)) &&& (x - 1)) 8) 4)), some (mI 13)]) (st' := [mI 4, mI (m_ushr (m_ushr ((x ^^^ (-1)) &&& (x - 1)) 8) 4)]) (S' := (L, I, J, R)) [(.iinc 1 4, (0, 0, 0, 4, 0)), (.iload_n 0, (0, 0, 0, 0, 0)), (.iconst 4, (0, 0, 0, 4, 0)), (.iushr, (0, 0, 0, 0, 0)), (.istore_n 0, (0, 0, 0, 0, 0)), (.iload_n 0, (0, 0, 0, 0, 0)), (.iconst 4, (0, 0, 0, 4, 0))] [] (by decide +kernel) rfl trivial ?_
          refine b_icmp_le (off := 10) (tgt := 74) (by decide +kernel) (by decide) (fun h9 => ?_) (fun h9 => ?_)
          · refine b_blk (pc' := 79) (ls' := [some (mI (m_ushr (m_ushr ((x ^^^ (-1)) &&& (x - 1)) 8) 4)), some (mI 13)]) (st' := [mI (13 + (m_ushr (m_ushr (m_ushr ((x ^^^ (-1)) &&& (x - 1)) 8) 4) 1))]) (S' := (L, I, J, R)) [(.iload_n 1, (0, 0, 0, 0, 0)), (.iload_n 0, (0, 0, 0, 0, 0)), (.iconst 1, (0, 0, 0, 1, 0)), (.iushr, (0, 0, 0, 0, 0)), (.iadd, (0, 0, 0, 0, 0))] [] (by decide +kernel) rfl trivial ?_
            refine b_iret (by decide +kernel) rfl ⟨?_, ?_⟩
            · first | rfl | (simp only [f_Integer_numberOfTrailingZeros]; simp only [*, if_true, if_false]; done) | (simp_all [f_Integer_numberOfTrailingZeros]; done)
            · first | rfl | (simp only [f_Integer_numberOfTrailingZeros]; simp only [*, if_true, if_false]; done) | (simp_all [f_Integer_numberOfTrailingZeros]; done)
          · refine b_blk (pc' := 79) (ls' := [some (mI (m_ushr (m_ushr (m_ushr ((x ^^^ (-1)) &&& (x - 1)) 8) 4) 2)), some (mI 15)]) (st' := [mI (15 + (m_ushr (m_ushr (m_ushr (m_ushr ((x ^^^ (-1)) &&& (x - 1)) 8) 4) 2) 1))]) (S' := (L, I, J, R)) [(.iinc 1 2, (0, 0, 0, 2, 0)), (.iload_n 0, (0, 0, 0, 0, 0)), (.iconst 2, (0, 0, 0, 2, 0)), (.iushr, (0, 0, 0, 0, 0)), (.istore_n 0, (0, 0, 0, 0, 0)), (.iload_n 1, (0, 0, 0, 0, 0)), (.iload_n 0, (0, 0, 0, 0, 0)), (.iconst 1, (0, 0, 0, 1, 0)), (.iushr, (0, 0, 0, 0, 0)), (.iadd, (0, 0, 0, 0, 0))] [] (by decide +kernel) rfl trivial ?_
            refine b_iret (by decide +kernel) rfl ⟨?_, ?_⟩
            · first | rfl | (simp only [f_Integer_numberOfTrailingZeros]; simp only [*, if_true, if_false]; done) | (simp_all [f_Integer_numberOfTrailingZeros]; done)
            · first | rfl | (simp only [f_Integer_numberOfTrailingZeros]; simp only [*, if_true, if_false]; done) | (simp_all [f_Integer_numberOfTrailingZeros]; done)
    · refine b_blk (pc' := 38) (ls' := [some (mI (m_ushr ((x ^^^ (-1)) &&& (x - 1)) 16)), some (mI 17)]) (st' := [mI 256, mI (m_ushr ((x ^^^ (-1)) &&& (x - 1)) 16)]) (S' := (L, I, J, R)) [(.iinc 1 16, (0, 0, 0, 16, 0)), (.iload_n 0, (0, 0, 0, 0, 0)), (.bipush 16, (0, 0, 0, 16, 0)), (.iushr, (0, 0, 0, 0, 0)), (.istore_n 0, (0, 0, 0, 0, 0)), (.iload_n 0, (0, 0, 0, 0, 0)), (.sipush 256, (0, 0, 0, 256, 0))] [] (by decide +kernel) rfl trivial ?_
      refine b_icmp_le (off := 11) (tgt := 49) (by decide +kernel) (by decide) (fun h10 => ?_) (fun h10 => ?_)
      · refine b_blk (pc' := 52) (ls' := [some (mI (m_ushr ((x ^^^ (-1)) &&& (x - 1)) 16)), some (mI 17)]) (st' := [mI 16, mI (m_ushr ((x ^^^ (-1)) &&& (x - 1)) 16)]) (S' := (L, I, J, R)) [(.iload_n 0, (0, 0, 0, 0, 0)), (.bipush 16, (0, 0, 0, 16, 0))] [] (by decide +kernel) rfl trivial ?_
        refine b_icmp_le (off := 10) (tgt := 62) (by decide +kernel) (by decide) (fun h11 => ?_) (fun h11 => ?_)
        · refine b_blk (pc' := 64) (ls' := [some (mI (m_ushr ((x ^^^ (-1)) &&& (x - 1)) 16)), some (mI 17)]) (st' := [mI 4, mI (m_ushr ((x ^^^ (-1)) &&& (x - 1)) 16)]) (S' := (L, I, J, R)) [(.iload_n 0, (0, 0, 0, 0, 0)), (.iconst 4, (0, 0, 0, 4, 0))] [] (by decide +kernel) rfl trivial ?_
          refine b_icmp_le (off := 10) (tgt := 74) (by decide +kernel) (by decide) (fun h12 => ?_) (fun h12 => ?_)
          · refine b_blk (pc' := 79) (ls' := [some (mI (m_ushr ((x ^^^ (-1)) &&& (x - 1)) 16)), some (mI 17)]) (st' := [mI (17 + (m_ushr (m_ushr ((x ^^^ (-1)) &&& (x - 1)) 16) 1))]) (S' := (L, I, J, R)) [(.iload_n 1, (0, 0, 0, 0, 0)), (.iload_n 0, (0, 0, 0, 0, 0)), (.iconst 1, (0, 0, 0, 1, 0)), (.iushr, (0, 0, 0, 0, 0)), (.iadd, (0, 0, 0, 0, 0))] [] (by decide +kernel) rfl trivial ?_
            refine b_iret (by decide +kernel) rfl ⟨?_, ?_⟩
            · first | rfl | (simp only [f_Integer_numberOfTrailingZeros]; simp only [*, if_true, if_false]; done) | (simp_all [f_Integer_numberOfTrailingZeros]; done)
            · first | rfl | (simp only [f_Integer_numberOfTrailingZeros]; simp only [*, if_true, if_false]; done) | (simp_all [f_Integer_numberOfTrailingZeros]; done)
          · refine b_blk (pc' := 79) (ls' := [some (mI (m_ushr (m_ushr ((x ^^^ (-1)) &&& (x - 1)) 16) 2)), some (mI 19)]) (st' := [mI (19 + (m_ushr (m_ushr (m_ushr ((x ^^^ (-1)) &&& (x - 1)) 16) 2) 1))]) (S' := (L, I, J, R)) [(.iinc 1 2, (0, 0, 0, 2, 0)), (.iload_n 0, (0, 0, 0, 0, 0)), (.iconst 2, (0, 0, 0, 2, 0)), (.iushr, (0, 0, 0, 0, 0)), (.istore_n 0, (0, 0, 0, 0, 0)), (.iload_n 1, (0, 0, 0, 0, 0)), (.iload_n 0, (0, 0, 0, 0, 0)), (.iconst 1, (0, 0, 0, 1, 0)), (.iushr, (0, 0, 0, 0, 0)), (.iadd, (0, 0, 0, 0, 0))] [] (by decide +kernel) rfl trivial ?_
            refine b_iret (by decide +kernel) rfl ⟨?_, ?_⟩
            · first | rfl | (simp only [f_Integer_numberOfTrailingZeros]; simp only [*, if_true, if_false]; done) | (simp_all [f_Integer_numberOfTrailingZeros]; done)
            · first | rfl | (simp only [f_Integer_numberOfTrailingZeros]; simp only [*, if_true, if_false]; done) | (simp_all [f_Integer_numberOfTrailingZeros]; done)
        · refine b_blk (pc' := 64) (ls' := [some (mI (m_ushr (m_ushr ((x ^^^ (-1)) &&& (x - 1)) 16) 4)), some (mI 21)]) (st' := [mI 4, mI (m_ushr (m_ushr ((x ^^^ (-1)) &&& (x - 1)) 16) 4)]) (S' := (L, I, J, R)) [(.iinc 1 4, (0, 0, 0, 4, 0)), (.iload_n 0, (0, 0, 0, 0, 0)), (.iconst 4, (0, 0, 0, 4, 0)), (.iushr, (0, 0, 0, 0, 0)), (.istore_n 0, (0, 0, 0, 0, 0)), (.iload_n 0, (0, 0, 0, 0, 0)), (.iconst 4, (0, 0, 0, 4, 0))] [] (by decide +kernel) rfl trivial ?_
          refine b_icmp_le (off := 10) (tgt := 74) (by decide +kernel) (by decide) (fun h13 => ?_) (fun h13 => ?_)
          · refine b_blk (pc' := 79) (ls' := [some (mI (m_ushr (m_ushr ((x ^^^ (-1)) &&& (x - 1)) 16) 4)), some (mI 21)]) (st' := [mI (21 + (m_ushr (m_ushr (m_ushr ((x ^^^ (-1)) &&& (x - 1)) 16) 4) 1))]) (S' := (L, I, J, R)) [(.iload_n 1, (0, 0, 0, 0, 0)), (.iload_n 0, (0, 0, 0, 0, 0)), (.iconst 1, (0, 0, 0, 1, 0)), (.iushr, (0, 0, 0, 0, 0)), (.iadd, (0, 0, 0, 0, 0))] [] (by decide +kernel) rfl trivial ?_
            refine b_iret (by decide +kernel) rfl ⟨?_, ?_⟩
            · first | rfl | (simp only [f_Integer_numberOfTrailingZeros]; simp only [*, if_true, if_false]; done) | (simp_all [f_Integer_numberOfTrailingZeros]; done)
            · first | rfl | (simp only [f_Integer_numberOfTrailingZeros]; simp only [*, if_true, if_false]; done) | (simp_all [f_Integer_numberOfTrailingZeros]; done)
          · refine b_blk (pc' := 79) (ls' := [some (mI (m_ushr (m_ushr (m_ushr ((x ^^^ (-1)) &&& (x - 1)) 16) 4) 2)), some (mI 23)]) (st' := [mI (23 + (m_ushr (m_ushr (m_ushr (m_ushr ((x ^^^ (-1)) &&& (x - 1)) 16) 4) 2) 1))]) (S' := (L, I, J, R)) [(.iinc 1 2, (0, 0, 0, 2, 0)), (.iload_n 0, (0, 0, 0, 0, 0)), (.iconst 2, (0, 0, 0, 2, 0)), (.iushr, (0, 0, 0, 0, 0)), (.istore_n 0, (0, 0, 0, 0, 0)), (.iload_n 1, (0, 0, 0, 0, 0)), (.iload_n 0, (0, 0, 0, 0, 0)), (.iconst 1, (0, 0, 0, 1, 0)), (.iushr, (0, 0, 0, 0, 0)), (.iadd, (0, 0, 0, 0, 0))] [] (by decide +kernel) rfl trivial ?_
            refine b_iret (by decide +kernel) rfl ⟨?_, ?_⟩
            · first | rfl | (simp only [f_Integer_numberOfTrailingZeros]; simp only [*, if_true, if_false]; done) | (simp_all [f_Integer_numberOfTrailingZeros]; done)
            · first | rfl | (simp only [f_Integer_numberOfTrailingZeros]; simp only [*, if_true, if_false]; done) | (simp_all [f_Integer_numberOfTrailingZeros]; done)
      · refine b_blk (pc' := 52) (ls' := [some (mI (m_ushr (m_ushr ((x ^^^ (-1)) &&& (x - 1)) 16) 8)), some (mI 25)]) (st' := [mI 16, mI (m_ushr (m_ushr ((x ^^^ (-1)) &&& (x - 1)) 16) 8)]) (S' := (L, I, J, R)) [(.iinc 1 8, (0, 0, 0, 8, 0)), (.iload_n 0, (0, 0, 0, 0, 0)), (.bipush 8, (0, 0, 0, 8, 0)), (.iushr, (0, 0, 0, 0, 0)), (.istore_n 0, (0, 0, 0, 0, 0)), (.iload_n 0, (0, 0, 0, 0, 0)), (.bipush 16, (0, 0, 0, 16, 0))] [] (by decide +kernel) rfl trivial ?_
        refine b_icmp_le (off := 10) (tgt := 62) (by decide +kernel) (by decide) (fun h14 => ?_) (fun h14 => ?_)
        · refine b_blk (pc' := 64) (ls' := [some (mI (m_ushr (m_ushr ((x ^^^ (-1)) &&& (x - 1)) 16) 8)), some (mI 25)]) (st' := [mI 4, mI (m_ushr (m_ushr ((x ^^^ (-1)) &&& (x - 1)) 16) 8)]) (S' := (L, I, J, R)) [(.iload_n 0, (0, 0, 0, 0, 0)), (.iconst 4, (0, 0, 0, 4, 0))] [] (by decide +kernel) rfl trivial ?_
          refine b_icmp_le (off := 10) (tgt := 74) (by decide +kernel) (by decide) (fun h15 => ?_) (fun h15 => ?_)
          · refine b_blk (pc' := 79) (ls' := [some (mI (m_ushr (m_ushr ((x ^^^ (-1)) &&& (x - 1)) 16) 8)), some (mI 25)]) (st' := [mI (25 + (m_ushr (m_ushr (m_ushr ((x ^^^ (-1)) &&& (x - 1)) 16) 8) 1))]) (S' := (L, I, J, R)) [(.iload_n 1, (0, 0, 0, 0, 0)), (.iload_n 0, (0, 0, 0, 0, 0)), (.iconst 1, (0, 0, 0, 1, 0)), (.iushr, (0, 0, 0, 0, 0)), (.iadd, (0, 0, 0, 0, 0))] [] (by decide +kernel) rfl trivial ?_
            refine b_iret (by decide +kernel) rfl ⟨?_, ?_⟩
            · first | rfl | (simp only [f_Integer_numberOfTrailingZeros]; simp only [*, if_true, if_false]; done) | (simp_all [f_Integer_numberOfTrailingZeros]; done)
            · first | rfl | (simp only [f_Integer_numberOfTrailingZeros]; simp only [*, if_true, if_false]; done) | (simp_all [f_Integer_numberOfTrailingZeros]; done)
          · refine b_blk (pc' := 79) (ls' := [some (mI (m_ushr (m_ushr (m_ushr ((x ^^^ (-1)) &&& (x - 1)) 16) 8) 2)), some (mI 27)]) (st' := [mI (27 + (m_ushr (m_ushr (m_ushr (m_ushr ((x ^^^ (-1)) &&& (x - 1)) 16) 8) 2) 1))]) (S' := (L, I, J, R)) [(.iinc 1 2, (0, 0, 0, 2, 0)), (.iload_n 0, (0, 0, 0, 0, 0)), (.iconst 2, (0, 0, 0, 2, 0)), (.iushr, (0, 0, 0, 0, 0)), (.istore_n 0, (0, 0, 0, 0, 0)), (.iload_n 1, (0, 0, 0, 0, 0)), (.iload_n 0, (0, 0, 0, 0, 0)), (.iconst 1, (0, 0, 0, 1, 0)), (.iushr, (0, 0, 0, 0, 0)), (.iadd, (0, 0, 0, 0, 0))] [] (by decide +kernel) rfl trivial ?_
            refine b_iret (by decide +kernel) rfl ⟨?_, ?_⟩
            · first | rfl | (simp only [f_Integer_numberOfTrailingZeros]; simp only [*, if_true, if_false]; done) | (simp_all [f_Integer_numberOfTrailingZeros]; done)
            · first | rfl | (simp only [f_Integer_numberOfTrailingZeros]; simp only [*, if_true, if_false]; done) | (simp_all [f_Integer_numberOfTrailingZeros]; done)
        · refine b_blk (pc' := 64) (ls' := [some (mI (m_ushr (m_ushr (m_ushr ((x ^^^ (-1)) &&& (x - 1)) 16) 8) 4)), some (mI 29)]) (st' := [mI 4, mI (m_ushr (m_ushr (m_ushr ((x ^^^ (-1)) &&& (x - 1)) 16) 8) 4)]) (S' := (L, I, J, R)) [(.iinc 1 4, (0, 0, 0, 4, 0)), (.iload_n 0, (0, 0, 0, 0, 0)), (.iconst 4, (0, 0, 0, 4, 0)), (.iushr, (0, 0, 0, 0, 0)), (.istore_n 0, (0, 0, 0, 0, 0)), (.iload_n 0, (0, 0, 0, 0, 0)), (.iconst 4, (0, 0, 0, 4, 0))] [] (by decide +kernel) rfl trivial ?_
          refine b_icmp_le (off := 10) (tgt := 74) (by decide +kernel) (by decide) (fun h16 => ?_) (fun h16 => ?_)
          · refine b_blk (pc' := 79) (ls' := [some (mI (m_ushr (m_ushr (m_ushr ((x ^^^ (-1)) &&& (x - 1)) 16) 8) 4)), some (mI 29)]) (st' := [mI (29 + (m_ushr (m_ushr (m_ushr (m_ushr ((x ^^^ (-1)) &&& (x - 1)) 16) 8) 4) 1))]) (S' := (L, I, J, R)) [(.iload_n 1, (0, 0, 0, 0, 0)), (.iload_n 0, (0, 0, 0, 0, 0)), (.iconst 1, (0, 0, 0, 1, 0)), (.iushr, (0, 0, 0, 0, 0)), (.iadd, (0, 0, 0, 0, 0))] [] (by decide +kernel) rfl trivial ?_
            refine b_iret (by decide +kernel) rfl ⟨?_, ?_⟩
            · first | rfl | (simp only [f_Integer_numberOfTrailingZeros]; simp only [*, if_true, if_false]; done) | (simp_all [f_Integer_numberOfTrailingZeros]; done)
            · first | rfl | (simp only [f_Integer_numberOfTrailingZeros]; simp only [*, if_true, if_false]; done) | (simp_all [f_Integer_numberOfTrailingZeros]; done)
          · refine b_blk (pc' := 79) (ls' := [some (mI (m_ushr (m_ushr (m_ushr (m_ushr ((x ^^^ (-1)) &&& (x - 1)) 16) 8) 4) 2)), some (mI 31)]) (st' := [mI (31 + (m_ushr (m_ushr (m_ushr (m_ushr (m_ushr ((x ^^^ (-1)) &&& (x - 1)) 16) 8) 4) 2) 1))]) (S' := (L, I, J, R)) [(.iinc 1 2, (0, 0, 0, 2, 0)), (.iload_n 0, (0, 0, 0, 0, 0)), (.iconst 2, (0, 0, 0, 2, 0)), (.iushr, (0, 0, 0, 0, 0)), (.istore_n 0, (0, 0, 0, 0, 0)), (.iload_n 1, (0, 0, 0, 0, 0)), (.iload_n 0, (0, 0, 0, 0, 0)), (.iconst 1, (0, 0, 0, 1, 0)), (.iushr, (0, 0, 0, 0, 0)), (.iadd, (0, 0, 0, 0, 0))] [] (by decide +kernel) rfl trivial ?_
            refine b_iret (by decide +kernel) rfl ⟨?_, ?_⟩
            · first | rfl | (simp only [f_Integer_numberOfTrailingZeros]; simp only [*, if_true, if_false]; done) | (simp_all [f_Integer_numberOfTrailingZeros]; done)
            · first | rfl | (simp only [f_Integer_numberOfTrailingZeros]; simp only [*, if_true, if_false]; done) | (simp_all [f_Integer_numberOfTrailingZeros]; done)
  · refine b_blk (pc' := 16) (ls' := [some (mI ((x ^^^ (-1)) &&& (x - 1))), none]) (st' := [mI (((x ^^^ (-1)) &&& (x - 1)) &&& 32)]) (S' := (L, I, J, R)) [(.iload_n 0, (0, 0, 0, 0, 0)), (.bipush 32, (0, 0, 0, 32, 0)), (.iand, (0, 0, 0, 0, 0))] [] (by decide +kernel) rfl trivial ?_
    refine b_iret (by decide +kernel) rfl ⟨?_, ?_⟩
    · first | rfl | (simp only [f_Integer_numberOfTrailingZeros]; simp only [*, if_true, if_false]; done) | (simp_all [f_Integer_numberOfTrailingZeros]; done)
    · first | rfl | (simp only [f_Integer_numberOfTrailingZeros]; simp only [*, if_true, if_false]; done) | (simp_all [f_Integer_numberOfTrailingZeros]; done)
/-- the first m places of a cell are v -/
def m_fil (I : Nat → Nat → Int32) (a : Nat) (v : Int32) (m : Nat) : Nat → Nat → Int32 := fun k j => if k = a then (if j < m then v else I k j) else I k j
theorem m_fil_0 (I : Nat → Nat → Int32) (a : Nat) (v : Int32) : m_fil I a v 0 = I := by
  funext k j
  simp [m_fil]
theorem m_fil_s (I : Nat → Nat → Int32) (a : Nat) (v : Int32) (m : Nat) : m_up (m_fil I a v m) a m v = m_fil I a v (m + 1) := by
  funext k j
  simp only [m_up, m_fil]
  by_cases hk : k = a
  · simp only [hk, if_true]
    by_cases hj : j = m
    · simp [hj]
    · simp only [hj, if_false]
      by_cases h2 : j < m
      · simp [h2, Nat.lt_succ_of_lt h2]
      · simp [h2, show ¬ j < m + 1 by omega]
  · simp [hk]
set_option maxRecDepth 100000 in
set_option maxHeartbeats 4000000 in
theorem c_Arrays_fill {G : MG} {L : List (Nat × Nat)} {I : Nat → Nat → Int32} {J : Nat → Nat → Int64} {R : Nat → Nat → Option MRef} (a n : Nat) (v : Int32) (hn0 : n < 2 ^ 31) : m_met G 1 0 0 y_Arrays_fill M_Arrays_fill [mR (20, n, a), mI v] (L, I, J, R) (m_is (none) (L, m_fil I a v n, J, R)) := by
  refine m_met_in n_Arrays_fill (plainFor_of_name (by decide)) (by decide) (Nat.le_of_ble_eq_true rfl) (ls := [some (mR (20, n, a)), some (mI v), none, none]) rfl ?_
  refine b_blk (pc' := 5) (ls' := [some (mR (20, n, a)), some (mI v), some (mI 0), some (mI (Int32.ofNat n))]) (st' := []) (S' := (L, I, J, R)) [(.iconst 0, (0, 0, 0, 0, 0)), (.istore_n 2, (0, 0, 0, 0, 0)), (.aload_n 0, (0, 0, 0, 0, 0)), (.arraylength, (0, 0, 0, 0, 0)), (.istore_n 3, (0, 0, 0, 0, 0))] [] (by decide +kernel) rfl trivial ?_
  suffices hx : m_B G (m_rm 1 0 0) M_Arrays_fill (m_is (none) (L, m_fil I a v n, J, R)) 0 0 20 [some (mR (20, n, a)), some (mI v), some (mI (nI n)), some (mI (Int32.ofNat n))] [] (L, m_fil I a v n, J, R) by
    refine m_B_cg ?_ rfl ?_ (loop_up n (fun q => m_B G (m_rm 1 0 0) M_Arrays_fill (m_is (none) (L, m_fil I a v n, J, R)) 0 0 5 [some (mR (20, n, a)), some (mI v), some (mI (nI q)), some (mI (Int32.ofNat n))] [] (L, m_fil I a v q, J, R)) ?_ ?_ 0 (Nat.zero_le _))
    · first | rfl | (simp [nI_succ, nI_0]; done) | (simp [m_fil_0]; done) | (rw [nI_clamp (by omega), m_fil_s])
    · first | rfl | (simp [nI_succ, nI_0]; done) | (simp [m_fil_0]; done) | (rw [nI_clamp (by omega), m_fil_s])
    · refine b_blk (pc' := 7) (ls' := [some (mR (20, n, a)), some (mI v), some (mI (nI n)), some (mI (Int32.ofNat n))]) (st' := [mI (Int32.ofNat n), mI (nI n)]) (S' := (L, m_fil I a v n, J, R)) [(.iload_n 2, (0, 0, 0, 0, 0)), (.iload_n 3, (0, 0, 0, 0, 0))] [] (by decide +kernel) rfl trivial ?_
      refine b_icmp_ge (off := 13) (tgt := 20) (by decide +kernel) (by decide) (fun h1 => ?_) (fun h1 => ?_)
      · exact hx
      · exact absurd (Int32.le_refl _) h1
    · intro q hn ih
      refine b_blk (pc' := 7) (ls' := [some (mR (20, n, a)), some (mI v), some (mI (nI q)), some (mI (Int32.ofNat n))]) (st' := [mI (Int32.ofNat n), mI (nI q)]) (S' := (L, m_fil I a v q, J, R)) [(.iload_n 2, (0, 0, 0, 0, 0)), (.iload_n 3, (0, 0, 0, 0, 0))] [] (by decide +kernel) rfl trivial ?_
      refine b_icmp_ge (off := 13) (tgt := 20) (by decide +kernel) (by decide) (fun h2 => ?_) (fun h2 => ?_)
      · exact absurd h2 (nI_ge hn hn0)
      · refine b_blk (pc' := 5) (ls' := [some (mR (20, n, a)), some (mI v), some (mI ((nI q) + 1)), some (mI (Int32.ofNat n))]) (st' := []) (S' := (L, m_up (m_fil I a v q) a ((nI q).toNatClampNeg) v, J, R)) [(.aload_n 0, (0, 0, 0, 0, 0)), (.iload_n 2, (0, 0, 0, 0, 0)), (.iload_n 1, (0, 0, 0, 0, 0)), (.iastore, (0, 0, 0, 0, 0)), (.iinc 2 1, (0, 0, 0, 1, 0)), (.goto (-12), (0, 5, 0, 0, 0))] [] (by decide +kernel) rfl ⟨trivial, (vp_in_nI hn hn0)⟩ ?_
        refine m_B_cg ?_ rfl ?_ ih
        · first | rfl | (simp [nI_succ, nI_0]; done) | (simp [m_fil_0]; done) | (rw [nI_clamp (by omega), m_fil_s])
        · first | rfl | (simp [nI_succ, nI_0]; done) | (simp [m_fil_0]; done) | (rw [nI_clamp (by omega), m_fil_s])
  refine b_vret (by decide +kernel) rfl ⟨?_, ?_⟩
  · rfl
  · rfl
