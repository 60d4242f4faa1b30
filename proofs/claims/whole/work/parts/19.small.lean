/-! Log, Slope, Tape, Seen, Image: small ones -/
def uI_Log_note_0 (I : Nat → Nat → Int32) (g : Nat) (y : Int32) (f : Int32) (c : Int32) : Nat → Nat → Int32 := m_up (m_up I (g + 1) ((m_rem ((I g 1) + (I g 2)) (40 : Int32)).toNatClampNeg) (((y <<< ((16 : Int32) &&& 31)) ||| (f <<< ((8 : Int32) &&& 31))) ||| c)) g 1 (m_rem (((m_up I (g + 1) ((m_rem ((I g 1) + (I g 2)) (40 : Int32)).toNatClampNeg) (((y <<< ((16 : Int32) &&& 31)) ||| (f <<< ((8 : Int32) &&& 31))) ||| c)) g 1) + (1 : Int32)) (40 : Int32))
def uI_Log_note_1 (I : Nat → Nat → Int32) (g : Nat) (y : Int32) (f : Int32) (c : Int32) : Nat → Nat → Int32 := m_up (m_up I (g + 1) ((m_rem ((I g 1) + (I g 2)) (40 : Int32)).toNatClampNeg) (((y <<< ((16 : Int32) &&& 31)) ||| (f <<< ((8 : Int32) &&& 31))) ||| c)) g 2 (((m_up I (g + 1) ((m_rem ((I g 1) + (I g 2)) (40 : Int32)).toNatClampNeg) (((y <<< ((16 : Int32) &&& 31)) ||| (f <<< ((8 : Int32) &&& 31))) ||| c)) g 2) + (1 : Int32))
def gI_Log_note (I : Nat → Nat → Int32) (g : Nat) (y : Int32) (f : Int32) (c : Int32) : Nat → Nat → Int32 := if (0 : Int32) ≤ (m_rem ((I g 1) + (I g 2)) (40 : Int32)) then (if (40 : Int32) ≤ ((m_up I (g + 1) ((m_rem ((I g 1) + (I g 2)) (40 : Int32)).toNatClampNeg) (((y <<< ((16 : Int32) &&& 31)) ||| (f <<< ((8 : Int32) &&& 31))) ||| c)) g 2) then uI_Log_note_0 I g y f c else uI_Log_note_1 I g y f c) else I
set_option maxRecDepth 100000 in
set_option maxHeartbeats 4000000 in
theorem c_Log_note {G : MG} {L : List (Nat × Nat)} {I : Nat → Nat → Int32} {J : Nat → Nat → Int64} {R : Nat → Nat → Option MRef} (g : Nat) (y : Int32) (f : Int32) (c : Int32) (hg : LogR R g) : m_met G 1 0 0 y_Log_note M_Log_note [mR (4, 0, g), mI y, mI f, mI c] (L, I, J, R) (m_is (none) (L, gI_Log_note I g y f c, J, R)) := by
  refine m_met_in n_Log_note (plainFor_of_name (by decide)) (by decide) (Nat.le_of_ble_eq_true rfl) (ls := [some (mR (4, 0, g)), some (mI y), some (mI f), some (mI c), none]) rfl ?_
  refine b_blk (pc' := 16) (ls' := [some (mR (4, 0, g)), some (mI y), some (mI f), some (mI c), some (mI (m_rem ((I g 1) + (I g 2)) (40 : Int32)))]) (st' := [mI (m_rem ((I g 1) + (I g 2)) (40 : Int32))]) (S' := (L, I, J, R)) (P := (True ∧ ¬ (40 : Int32) = 0)) [(.aload_n 0, (0, 0, 0, 0, 0)), (.getfield 15, (4, 1, 0, 0, 0)), (.aload_n 0, (0, 0, 0, 0, 0)), (.getfield 19, (4, 2, 0, 0, 0)), (.iadd, (0, 0, 0, 0, 0)), (.bipush 40, (0, 0, 0, 40, 0)), (.irem, (0, 0, 0, 0, 0)), (.istore 4, (0, 0, 0, 0, 0)), (.iload 4, (0, 0, 0, 0, 0))] [] (by decide +kernel) rfl ⟨trivial, (by decide)⟩ ?_
  refine b_if_ge (off := 4) (tgt := 20) (by decide +kernel) (by decide) (fun h1 => ?_) (fun h1 => ?_)
  · refine b_blk (pc' := 44) (ls' := [some (mR (4, 0, g)), some (mI y), some (mI f), some (mI c), some (mI (m_rem ((I g 1) + (I g 2)) (40 : Int32)))]) (st' := [mI 40, mI ((m_up I (g + 1) ((m_rem ((I g 1) + (I g 2)) (40 : Int32)).toNatClampNeg) (((y <<< ((16 : Int32) &&& 31)) ||| (f <<< ((8 : Int32) &&& 31))) ||| c)) g 2)]) (S' := (L, m_up I (g + 1) ((m_rem ((I g 1) + (I g 2)) (40 : Int32)).toNatClampNeg) (((y <<< ((16 : Int32) &&& 31)) ||| (f <<< ((8 : Int32) &&& 31))) ||| c), J, R)) (P := ((True ∧ R g 0 = some (20, 40, g + 1)) ∧ vp_in (m_rem ((I g 1) + (I g 2)) (40 : Int32)) 40)) [(.aload_n 0, (0, 0, 0, 0, 0)), (.getfield 9, (4, 0, 3, 0, 0)), (.iload 4, (0, 0, 0, 0, 0)), (.iload_n 1, (0, 0, 0, 0, 0)), (.bipush 16, (0, 0, 0, 16, 0)), (.ishl, (0, 0, 0, 0, 0)), (.iload_n 2, (0, 0, 0, 0, 0)), (.bipush 8, (0, 0, 0, 8, 0)), (.ishl, (0, 0, 0, 0, 0)), (.ior, (0, 0, 0, 0, 0)), (.iload_n 3, (0, 0, 0, 0, 0)), (.ior, (0, 0, 0, 0, 0)), (.iastore, (0, 0, 0, 0, 0)), (.aload_n 0, (0, 0, 0, 0, 0)), (.getfield 19, (4, 2, 0, 0, 0)), (.bipush 40, (0, 0, 0, 40, 0))] [some (20, 40, g + 1)] (by decide +kernel) rfl ⟨⟨trivial, hg⟩, (in_rem (n := 40) (by decide) (by decide) (Int32.not_lt.mpr (by assumption)))⟩ ?_
    refine b_icmp_ge (off := 16) (tgt := 60) (by decide +kernel) (by decide) (fun h2 => ?_) (fun h2 => ?_)
    · refine b_blk (pc' := 73) (ls' := [some (mR (4, 0, g)), some (mI y), some (mI f), some (mI c), some (mI (m_rem ((I g 1) + (I g 2)) (40 : Int32)))]) (st' := []) (S' := (L, uI_Log_note_0 I g y f c, J, R)) (P := (True ∧ ¬ (40 : Int32) = 0)) [(.aload_n 0, (0, 0, 0, 0, 0)), (.aload_n 0, (0, 0, 0, 0, 0)), (.getfield 15, (4, 1, 0, 0, 0)), (.iconst 1, (0, 0, 0, 1, 0)), (.iadd, (0, 0, 0, 0, 0)), (.bipush 40, (0, 0, 0, 40, 0)), (.irem, (0, 0, 0, 0, 0)), (.putfield 15, (4, 1, 0, 0, 0))] [] (by decide +kernel) rfl ⟨trivial, (by decide)⟩ ?_
      refine b_vret (by decide +kernel) rfl ⟨?_, ?_⟩
      · first | rfl | (rw [gI_Log_note, if_pos h1, if_pos h2]; done) | (simp only [gI_Log_note]; simp only [*, if_true, if_false]; done) | (simp_all [gI_Log_note]; done)
      · first | rfl | (rw [gI_Log_note, if_pos h1, if_pos h2]; done) | (simp only [gI_Log_note]; simp only [*, if_true, if_false]; done) | (simp_all [gI_Log_note]; done)
    · refine b_blk (pc' := 73) (ls' := [some (mR (4, 0, g)), some (mI y), some (mI f), some (mI c), some (mI (m_rem ((I g 1) + (I g 2)) (40 : Int32)))]) (st' := []) (S' := (L, uI_Log_note_1 I g y f c, J, R)) (P := True) [(.aload_n 0, (0, 0, 0, 0, 0)), (.dup, (0, 0, 0, 0, 0)), (.getfield 19, (4, 2, 0, 0, 0)), (.iconst 1, (0, 0, 0, 1, 0)), (.iadd, (0, 0, 0, 0, 0)), (.putfield 19, (4, 2, 0, 0, 0)), (.goto 16, (0, 73, 0, 0, 0))] [] (by decide +kernel) rfl trivial ?_
      refine b_vret (by decide +kernel) rfl ⟨?_, ?_⟩
      · first | rfl | (rw [gI_Log_note, if_pos h1, if_neg h2]; done) | (simp only [gI_Log_note]; simp only [*, if_true, if_false]; done) | (simp_all [gI_Log_note]; done)
      · first | rfl | (rw [gI_Log_note, if_pos h1, if_neg h2]; done) | (simp only [gI_Log_note]; simp only [*, if_true, if_false]; done) | (simp_all [gI_Log_note]; done)
  · refine b_vret (by decide +kernel) rfl ⟨?_, ?_⟩
    · first | rfl | (rw [gI_Log_note, if_neg h1]; done) | (simp only [gI_Log_note]; simp only [*, if_true, if_false]; done) | (simp_all [gI_Log_note]; done)
    · first | rfl | (rw [gI_Log_note, if_neg h1]; done) | (simp only [gI_Log_note]; simp only [*, if_true, if_false]; done) | (simp_all [gI_Log_note]; done)
def f_Log_tell (I : Nat → Nat → Int32) (g : Nat) (x : Int32) (w : Int32) : Int32 := if x < (0 : Int32) then (-1) else (if x < (I g 2) then (if (0 : Int32) ≤ (m_rem ((I g 1) + x) (40 : Int32)) then (if w = 0 then (I (g + 1) (m_rem ((I g 1) + x) (40 : Int32)).toNatClampNeg) >>> ((16 : Int32) &&& 31) else (if w = 1 then ((I (g + 1) (m_rem ((I g 1) + x) (40 : Int32)).toNatClampNeg) >>> ((8 : Int32) &&& 31)) &&& (255 : Int32) else (if w = 2 then (I (g + 1) (m_rem ((I g 1) + x) (40 : Int32)).toNatClampNeg) &&& (255 : Int32) else (-1)))) else (if w = 0 then (0 : Int32) >>> ((16 : Int32) &&& 31) else (if w = 1 then ((0 : Int32) >>> ((8 : Int32) &&& 31)) &&& (255 : Int32) else (if w = 2 then (0 : Int32) &&& (255 : Int32) else (-1))))) else (-1))
set_option maxRecDepth 100000 in
set_option maxHeartbeats 4000000 in
theorem c_Log_tell {G : MG} {L : List (Nat × Nat)} {I : Nat → Nat → Int32} {J : Nat → Nat → Int64} {R : Nat → Nat → Option MRef} (g : Nat) (x : Int32) (w : Int32) (hg : LogR R g) : m_met G 1 0 0 y_Log_tell M_Log_tell [mR (4, 0, g), mI x, mI w] (L, I, J, R) (m_is (some (mI (f_Log_tell I g x w))) (L, I, J, R)) := by
  refine m_met_in n_Log_tell (plainFor_of_name (by decide)) (by decide) (Nat.le_of_ble_eq_true rfl) (ls := [some (mR (4, 0, g)), some (mI x), some (mI w), none, none]) rfl ?_
  refine b_blk (pc' := 1) (ls' := [some (mR (4, 0, g)), some (mI x), some (mI w), none, none]) (st' := [mI x]) (S' := (L, I, J, R)) (P := True) [(.iload_n 1, (0, 0, 0, 0, 0))] [] (by decide +kernel) rfl trivial ?_
  refine b_if_lt (off := 11) (tgt := 12) (by decide +kernel) (by decide) (fun h1 => ?_) (fun h1 => ?_)
  · refine b_blk (pc' := 13) (ls' := [some (mR (4, 0, g)), some (mI x), some (mI w), none, none]) (st' := [mI (-1)]) (S' := (L, I, J, R)) (P := True) [(.iconst (-1), (0, 0, 0, (-1), 0))] [] (by decide +kernel) rfl trivial ?_
    refine b_iret (by decide +kernel) rfl ⟨?_, ?_⟩
    · first | rfl | (rw [f_Log_tell, if_pos h1]; done) | (simp only [f_Log_tell]; simp only [*, if_true, if_false]; done) | (simp_all [f_Log_tell]; done)
    · first | rfl | (rw [f_Log_tell, if_pos h1]; done) | (simp only [f_Log_tell]; simp only [*, if_true, if_false]; done) | (simp_all [f_Log_tell]; done)
  · refine b_blk (pc' := 9) (ls' := [some (mR (4, 0, g)), some (mI x), some (mI w), none, none]) (st' := [mI (I g 2), mI x]) (S' := (L, I, J, R)) (P := True) [(.iload_n 1, (0, 0, 0, 0, 0)), (.aload_n 0, (0, 0, 0, 0, 0)), (.getfield 19, (4, 2, 0, 0, 0))] [] (by decide +kernel) rfl trivial ?_
    refine b_icmp_lt (off := 5) (tgt := 14) (by decide +kernel) (by decide) (fun h2 => ?_) (fun h2 => ?_)
    · refine b_blk (pc' := 25) (ls' := [some (mR (4, 0, g)), some (mI x), some (mI w), some (mI (m_rem ((I g 1) + x) (40 : Int32))), none]) (st' := [mI (m_rem ((I g 1) + x) (40 : Int32))]) (S' := (L, I, J, R)) (P := (True ∧ ¬ (40 : Int32) = 0)) [(.aload_n 0, (0, 0, 0, 0, 0)), (.getfield 15, (4, 1, 0, 0, 0)), (.iload_n 1, (0, 0, 0, 0, 0)), (.iadd, (0, 0, 0, 0, 0)), (.bipush 40, (0, 0, 0, 40, 0)), (.irem, (0, 0, 0, 0, 0)), (.istore_n 3, (0, 0, 0, 0, 0)), (.iload_n 3, (0, 0, 0, 0, 0))] [] (by decide +kernel) rfl ⟨trivial, (by decide)⟩ ?_
      refine b_if_ge (off := 7) (tgt := 32) (by decide +kernel) (by decide) (fun h3 => ?_) (fun h3 => ?_)
      · refine b_blk (pc' := 41) (ls' := [some (mR (4, 0, g)), some (mI x), some (mI w), some (mI (m_rem ((I g 1) + x) (40 : Int32))), some (mI (I (g + 1) (m_rem ((I g 1) + x) (40 : Int32)).toNatClampNeg))]) (st' := [mI w]) (S' := (L, I, J, R)) (P := ((True ∧ R g 0 = some (20, 40, g + 1)) ∧ vp_in (m_rem ((I g 1) + x) (40 : Int32)) 40)) [(.aload_n 0, (0, 0, 0, 0, 0)), (.getfield 9, (4, 0, 3, 0, 0)), (.iload_n 3, (0, 0, 0, 0, 0)), (.iaload, (0, 0, 0, 0, 0)), (.istore 4, (0, 0, 0, 0, 0)), (.iload_n 2, (0, 0, 0, 0, 0))] [some (20, 40, g + 1)] (by decide +kernel) rfl ⟨⟨trivial, hg⟩, (in_rem (n := 40) (by decide) (by decide) (Int32.not_lt.mpr (by assumption)))⟩ ?_
        by_cases h4 : w = 0
        · refine b_tswV (tgt := 68) (off := 27) (lo := 0) (hi := 2) (dflt := 50) (offs := #[27, 33, 43]) (len := 27) h4 (by decide +kernel) (by decide) (by decide) (by decide) (by decide) ?_
          refine b_blk (pc' := 73) (ls' := [some (mR (4, 0, g)), some (mI x), some (mI w), some (mI (m_rem ((I g 1) + x) (40 : Int32))), some (mI (I (g + 1) (m_rem ((I g 1) + x) (40 : Int32)).toNatClampNeg))]) (st' := [mI ((I (g + 1) (m_rem ((I g 1) + x) (40 : Int32)).toNatClampNeg) >>> ((16 : Int32) &&& 31))]) (S' := (L, I, J, R)) (P := True) [(.iload 4, (0, 0, 0, 0, 0)), (.bipush 16, (0, 0, 0, 16, 0)), (.ishr, (0, 0, 0, 0, 0))] [] (by decide +kernel) rfl trivial ?_
          refine b_iret (by decide +kernel) rfl ⟨?_, ?_⟩
          · first | rfl | (rw [f_Log_tell, if_neg h1, if_pos h2, if_pos h3, if_pos h4]; done) | (simp only [f_Log_tell]; simp only [*, if_true, if_false]; done) | (simp_all [f_Log_tell]; done)
          · first | rfl | (rw [f_Log_tell, if_neg h1, if_pos h2, if_pos h3, if_pos h4]; done) | (simp only [f_Log_tell]; simp only [*, if_true, if_false]; done) | (simp_all [f_Log_tell]; done)
        by_cases h5 : w = 1
        · refine b_tswV (tgt := 74) (off := 33) (lo := 0) (hi := 2) (dflt := 50) (offs := #[27, 33, 43]) (len := 27) h5 (by decide +kernel) (by decide) (by decide) (by decide) (by decide) ?_
          refine b_blk (pc' := 83) (ls' := [some (mR (4, 0, g)), some (mI x), some (mI w), some (mI (m_rem ((I g 1) + x) (40 : Int32))), some (mI (I (g + 1) (m_rem ((I g 1) + x) (40 : Int32)).toNatClampNeg))]) (st' := [mI (((I (g + 1) (m_rem ((I g 1) + x) (40 : Int32)).toNatClampNeg) >>> ((8 : Int32) &&& 31)) &&& (255 : Int32))]) (S' := (L, I, J, R)) (P := True) [(.iload 4, (0, 0, 0, 0, 0)), (.bipush 8, (0, 0, 0, 8, 0)), (.ishr, (0, 0, 0, 0, 0)), (.sipush 255, (0, 0, 0, 255, 0)), (.iand, (0, 0, 0, 0, 0))] [] (by decide +kernel) rfl trivial ?_
          refine b_iret (by decide +kernel) rfl ⟨?_, ?_⟩
          · first | rfl | (rw [f_Log_tell, if_neg h1, if_pos h2, if_pos h3, if_neg h4, if_pos h5]; done) | (simp only [f_Log_tell]; simp only [*, if_true, if_false]; done) | (simp_all [f_Log_tell]; done)
          · first | rfl | (rw [f_Log_tell, if_neg h1, if_pos h2, if_pos h3, if_neg h4, if_pos h5]; done) | (simp only [f_Log_tell]; simp only [*, if_true, if_false]; done) | (simp_all [f_Log_tell]; done)
        by_cases h6 : w = 2
        · refine b_tswV (tgt := 84) (off := 43) (lo := 0) (hi := 2) (dflt := 50) (offs := #[27, 33, 43]) (len := 27) h6 (by decide +kernel) (by decide) (by decide) (by decide) (by decide) ?_
          refine b_blk (pc' := 90) (ls' := [some (mR (4, 0, g)), some (mI x), some (mI w), some (mI (m_rem ((I g 1) + x) (40 : Int32))), some (mI (I (g + 1) (m_rem ((I g 1) + x) (40 : Int32)).toNatClampNeg))]) (st' := [mI ((I (g + 1) (m_rem ((I g 1) + x) (40 : Int32)).toNatClampNeg) &&& (255 : Int32))]) (S' := (L, I, J, R)) (P := True) [(.iload 4, (0, 0, 0, 0, 0)), (.sipush 255, (0, 0, 0, 255, 0)), (.iand, (0, 0, 0, 0, 0))] [] (by decide +kernel) rfl trivial ?_
          refine b_iret (by decide +kernel) rfl ⟨?_, ?_⟩
          · first | rfl | (rw [f_Log_tell, if_neg h1, if_pos h2, if_pos h3, if_neg h4, if_neg h5, if_pos h6]; done) | (simp only [f_Log_tell]; simp only [*, if_true, if_false]; done) | (simp_all [f_Log_tell]; done)
          · first | rfl | (rw [f_Log_tell, if_neg h1, if_pos h2, if_pos h3, if_neg h4, if_neg h5, if_pos h6]; done) | (simp only [f_Log_tell]; simp only [*, if_true, if_false]; done) | (simp_all [f_Log_tell]; done)
        refine b_tswD (tgt := 91) (lo := 0) (hi := 2) (dflt := 50) (offs := #[27, 33, 43]) (len := 27) (by decide +kernel) (by have q0 := lv_neT h4 (a := 0) (by decide); have q1 := lv_neT h5 (a := 1) (by decide); have q2 := lv_neT h6 (a := 2) (by decide); omega) (by decide) ?_
        refine b_blk (pc' := 92) (ls' := [some (mR (4, 0, g)), some (mI x), some (mI w), some (mI (m_rem ((I g 1) + x) (40 : Int32))), some (mI (I (g + 1) (m_rem ((I g 1) + x) (40 : Int32)).toNatClampNeg))]) (st' := [mI (-1)]) (S' := (L, I, J, R)) (P := True) [(.iconst (-1), (0, 0, 0, (-1), 0))] [] (by decide +kernel) rfl trivial ?_
        refine b_iret (by decide +kernel) rfl ⟨?_, ?_⟩
        · first | rfl | (rw [f_Log_tell, if_neg h1, if_pos h2, if_pos h3, if_neg h4, if_neg h5, if_neg h6]; done) | (simp only [f_Log_tell]; simp only [*, if_true, if_false]; done) | (simp_all [f_Log_tell]; done)
        · first | rfl | (rw [f_Log_tell, if_neg h1, if_pos h2, if_pos h3, if_neg h4, if_neg h5, if_neg h6]; done) | (simp only [f_Log_tell]; simp only [*, if_true, if_false]; done) | (simp_all [f_Log_tell]; done)
      · refine b_blk (pc' := 38) (ls' := [some (mR (4, 0, g)), some (mI x), some (mI w), some (mI (m_rem ((I g 1) + x) (40 : Int32))), none]) (st' := [mI 0]) (S' := (L, I, J, R)) (P := True) [(.iconst 0, (0, 0, 0, 0, 0)), (.goto 9, (0, 38, 0, 0, 0))] [] (by decide +kernel) rfl trivial ?_
        refine b_blk (pc' := 41) (ls' := [some (mR (4, 0, g)), some (mI x), some (mI w), some (mI (m_rem ((I g 1) + x) (40 : Int32))), some (mI 0)]) (st' := [mI w]) (S' := (L, I, J, R)) (P := True) [(.istore 4, (0, 0, 0, 0, 0)), (.iload_n 2, (0, 0, 0, 0, 0))] [] (by decide +kernel) rfl trivial ?_
        by_cases h7 : w = 0
        · refine b_tswV (tgt := 68) (off := 27) (lo := 0) (hi := 2) (dflt := 50) (offs := #[27, 33, 43]) (len := 27) h7 (by decide +kernel) (by decide) (by decide) (by decide) (by decide) ?_
          refine b_blk (pc' := 73) (ls' := [some (mR (4, 0, g)), some (mI x), some (mI w), some (mI (m_rem ((I g 1) + x) (40 : Int32))), some (mI 0)]) (st' := [mI ((0 : Int32) >>> ((16 : Int32) &&& 31))]) (S' := (L, I, J, R)) (P := True) [(.iload 4, (0, 0, 0, 0, 0)), (.bipush 16, (0, 0, 0, 16, 0)), (.ishr, (0, 0, 0, 0, 0))] [] (by decide +kernel) rfl trivial ?_
          refine b_iret (by decide +kernel) rfl ⟨?_, ?_⟩
          · first | rfl | (rw [f_Log_tell, if_neg h1, if_pos h2, if_neg h3, if_pos h7]; done) | (simp only [f_Log_tell]; simp only [*, if_true, if_false]; done) | (simp_all [f_Log_tell]; done)
          · first | rfl | (rw [f_Log_tell, if_neg h1, if_pos h2, if_neg h3, if_pos h7]; done) | (simp only [f_Log_tell]; simp only [*, if_true, if_false]; done) | (simp_all [f_Log_tell]; done)
        by_cases h8 : w = 1
        · refine b_tswV (tgt := 74) (off := 33) (lo := 0) (hi := 2) (dflt := 50) (offs := #[27, 33, 43]) (len := 27) h8 (by decide +kernel) (by decide) (by decide) (by decide) (by decide) ?_
          refine b_blk (pc' := 83) (ls' := [some (mR (4, 0, g)), some (mI x), some (mI w), some (mI (m_rem ((I g 1) + x) (40 : Int32))), some (mI 0)]) (st' := [mI (((0 : Int32) >>> ((8 : Int32) &&& 31)) &&& (255 : Int32))]) (S' := (L, I, J, R)) (P := True) [(.iload 4, (0, 0, 0, 0, 0)), (.bipush 8, (0, 0, 0, 8, 0)), (.ishr, (0, 0, 0, 0, 0)), (.sipush 255, (0, 0, 0, 255, 0)), (.iand, (0, 0, 0, 0, 0))] [] (by decide +kernel) rfl trivial ?_
          refine b_iret (by decide +kernel) rfl ⟨?_, ?_⟩
          · first | rfl | (rw [f_Log_tell, if_neg h1, if_pos h2, if_neg h3, if_neg h7, if_pos h8]; done) | (simp only [f_Log_tell]; simp only [*, if_true, if_false]; done) | (simp_all [f_Log_tell]; done)
          · first | rfl | (rw [f_Log_tell, if_neg h1, if_pos h2, if_neg h3, if_neg h7, if_pos h8]; done) | (simp only [f_Log_tell]; simp only [*, if_true, if_false]; done) | (simp_all [f_Log_tell]; done)
        by_cases h9 : w = 2
        · refine b_tswV (tgt := 84) (off := 43) (lo := 0) (hi := 2) (dflt := 50) (offs := #[27, 33, 43]) (len := 27) h9 (by decide +kernel) (by decide) (by decide) (by decide) (by decide) ?_
          refine b_blk (pc' := 90) (ls' := [some (mR (4, 0, g)), some (mI x), some (mI w), some (mI (m_rem ((I g 1) + x) (40 : Int32))), some (mI 0)]) (st' := [mI ((0 : Int32) &&& (255 : Int32))]) (S' := (L, I, J, R)) (P := True) [(.iload 4, (0, 0, 0, 0, 0)), (.sipush 255, (0, 0, 0, 255, 0)), (.iand, (0, 0, 0, 0, 0))] [] (by decide +kernel) rfl trivial ?_
          refine b_iret (by decide +kernel) rfl ⟨?_, ?_⟩
          · first | rfl | (rw [f_Log_tell, if_neg h1, if_pos h2, if_neg h3, if_neg h7, if_neg h8, if_pos h9]; done) | (simp only [f_Log_tell]; simp only [*, if_true, if_false]; done) | (simp_all [f_Log_tell]; done)
          · first | rfl | (rw [f_Log_tell, if_neg h1, if_pos h2, if_neg h3, if_neg h7, if_neg h8, if_pos h9]; done) | (simp only [f_Log_tell]; simp only [*, if_true, if_false]; done) | (simp_all [f_Log_tell]; done)
        refine b_tswD (tgt := 91) (lo := 0) (hi := 2) (dflt := 50) (offs := #[27, 33, 43]) (len := 27) (by decide +kernel) (by have q0 := lv_neT h7 (a := 0) (by decide); have q1 := lv_neT h8 (a := 1) (by decide); have q2 := lv_neT h9 (a := 2) (by decide); omega) (by decide) ?_
        refine b_blk (pc' := 92) (ls' := [some (mR (4, 0, g)), some (mI x), some (mI w), some (mI (m_rem ((I g 1) + x) (40 : Int32))), some (mI 0)]) (st' := [mI (-1)]) (S' := (L, I, J, R)) (P := True) [(.iconst (-1), (0, 0, 0, (-1), 0))] [] (by decide +kernel) rfl trivial ?_
        refine b_iret (by decide +kernel) rfl ⟨?_, ?_⟩
        · first | rfl | (rw [f_Log_tell, if_neg h1, if_pos h2, if_neg h3, if_neg h7, if_neg h8, if_neg h9]; done) | (simp only [f_Log_tell]; simp only [*, if_true, if_false]; done) | (simp_all [f_Log_tell]; done)
        · first | rfl | (rw [f_Log_tell, if_neg h1, if_pos h2, if_neg h3, if_neg h7, if_neg h8, if_neg h9]; done) | (simp only [f_Log_tell]; simp only [*, if_true, if_false]; done) | (simp_all [f_Log_tell]; done)
    · refine b_blk (pc' := 13) (ls' := [some (mR (4, 0, g)), some (mI x), some (mI w), none, none]) (st' := [mI (-1)]) (S' := (L, I, J, R)) (P := True) [(.iconst (-1), (0, 0, 0, (-1), 0))] [] (by decide +kernel) rfl trivial ?_
      refine b_iret (by decide +kernel) rfl ⟨?_, ?_⟩
      · first | rfl | (rw [f_Log_tell, if_neg h1, if_neg h2]; done) | (simp only [f_Log_tell]; simp only [*, if_true, if_false]; done) | (simp_all [f_Log_tell]; done)
      · first | rfl | (rw [f_Log_tell, if_neg h1, if_neg h2]; done) | (simp only [f_Log_tell]; simp only [*, if_true, if_false]; done) | (simp_all [f_Log_tell]; done)
def f_Slope_isTold (I : Nat → Nat → Int32) (k : Nat) : Int32 := if (I k 1) ≤ (0 : Int32) then 0 else 1
theorem z_Slope_isTold {I : Nat → Nat → Int32} {k : Nat} : f_Slope_isTold I k = 0 ∨ f_Slope_isTold I k = 1 := by
  unfold f_Slope_isTold
  repeat' split
  all_goals first | exact Or.inl rfl | exact Or.inr rfl | assumption | exact z_Lay_isCut | exact z_Lay_hasPost
set_option maxRecDepth 100000 in
set_option maxHeartbeats 4000000 in
theorem c_Slope_isTold {G : MG} {L : List (Nat × Nat)} {I : Nat → Nat → Int32} {J : Nat → Nat → Int64} {R : Nat → Nat → Option MRef} (k : Nat)  : m_met G 1 0 0 y_Slope_isTold M_Slope_isTold [mR (8, 0, k)] (L, I, J, R) (m_is (some (mI (f_Slope_isTold I k))) (L, I, J, R)) := by
  refine m_met_in n_Slope_isTold (plainFor_of_name (by decide)) (by decide) (Nat.le_of_ble_eq_true rfl) (ls := [some (mR (8, 0, k))]) rfl ?_
  refine b_blk (pc' := 4) (ls' := [some (mR (8, 0, k))]) (st' := [mI (I k 1)]) (S' := (L, I, J, R)) (P := True) [(.aload_n 0, (0, 0, 0, 0, 0)), (.getfield 32, (8, 1, 0, 0, 0))] [] (by decide +kernel) rfl trivial ?_
  refine b_if_le (off := 7) (tgt := 11) (by decide +kernel) (by decide) (fun h1 => ?_) (fun h1 => ?_)
  · refine b_blk (pc' := 12) (ls' := [some (mR (8, 0, k))]) (st' := [mI 0]) (S' := (L, I, J, R)) (P := True) [(.iconst 0, (0, 0, 0, 0, 0))] [] (by decide +kernel) rfl trivial ?_
    refine b_zret (by decide +kernel) rfl (by decide) ⟨?_, ?_⟩
    · first | rfl | (rw [f_Slope_isTold, if_pos h1]; done) | (simp only [f_Slope_isTold]; simp only [*, if_true, if_false]; done) | (simp_all [f_Slope_isTold]; done)
    · first | rfl | (rw [f_Slope_isTold, if_pos h1]; done) | (simp only [f_Slope_isTold]; simp only [*, if_true, if_false]; done) | (simp_all [f_Slope_isTold]; done)
  · refine b_blk (pc' := 12) (ls' := [some (mR (8, 0, k))]) (st' := [mI 1]) (S' := (L, I, J, R)) (P := True) [(.iconst 1, (0, 0, 0, 1, 0)), (.goto 4, (0, 12, 0, 0, 0))] [] (by decide +kernel) rfl trivial ?_
    refine b_zret (by decide +kernel) rfl (by decide) ⟨?_, ?_⟩
    · first | rfl | (rw [f_Slope_isTold, if_neg h1]; done) | (simp only [f_Slope_isTold]; simp only [*, if_true, if_false]; done) | (simp_all [f_Slope_isTold]; done)
    · first | rfl | (rw [f_Slope_isTold, if_neg h1]; done) | (simp only [f_Slope_isTold]; simp only [*, if_true, if_false]; done) | (simp_all [f_Slope_isTold]; done)
def f_Slope_hasFence (I : Nat → Nat → Int32) (k : Nat) (f : Int32) : Int32 := if f < (0 : Int32) then 0 else (if (I k 3) ≤ f then 0 else (if (6 : Int32) ≤ f then 0 else 1))
theorem z_Slope_hasFence {I : Nat → Nat → Int32} {k : Nat} {f : Int32} : f_Slope_hasFence I k f = 0 ∨ f_Slope_hasFence I k f = 1 := by
  unfold f_Slope_hasFence
  repeat' split
  all_goals first | exact Or.inl rfl | exact Or.inr rfl | assumption | exact z_Lay_isCut | exact z_Lay_hasPost | exact z_Slope_isTold
set_option maxRecDepth 100000 in
set_option maxHeartbeats 4000000 in
theorem c_Slope_hasFence {G : MG} {L : List (Nat × Nat)} {I : Nat → Nat → Int32} {J : Nat → Nat → Int64} {R : Nat → Nat → Option MRef} (k : Nat) (f : Int32)  : m_met G 1 0 0 y_Slope_hasFence M_Slope_hasFence [mR (8, 0, k), mI f] (L, I, J, R) (m_is (some (mI (f_Slope_hasFence I k f))) (L, I, J, R)) := by
  refine m_met_in n_Slope_hasFence (plainFor_of_name (by decide)) (by decide) (Nat.le_of_ble_eq_true rfl) (ls := [some (mR (8, 0, k)), some (mI f)]) rfl ?_
  refine b_blk (pc' := 1) (ls' := [some (mR (8, 0, k)), some (mI f)]) (st' := [mI f]) (S' := (L, I, J, R)) (P := True) [(.iload_n 1, (0, 0, 0, 0, 0))] [] (by decide +kernel) rfl trivial ?_
  refine b_if_lt (off := 21) (tgt := 22) (by decide +kernel) (by decide) (fun h1 => ?_) (fun h1 => ?_)
  · refine b_blk (pc' := 23) (ls' := [some (mR (8, 0, k)), some (mI f)]) (st' := [mI 0]) (S' := (L, I, J, R)) (P := True) [(.iconst 0, (0, 0, 0, 0, 0))] [] (by decide +kernel) rfl trivial ?_
    refine b_zret (by decide +kernel) rfl (by decide) ⟨?_, ?_⟩
    · first | rfl | (rw [f_Slope_hasFence, if_pos h1]; done) | (simp only [f_Slope_hasFence]; simp only [*, if_true, if_false]; done) | (simp_all [f_Slope_hasFence]; done)
    · first | rfl | (rw [f_Slope_hasFence, if_pos h1]; done) | (simp only [f_Slope_hasFence]; simp only [*, if_true, if_false]; done) | (simp_all [f_Slope_hasFence]; done)
  · refine b_blk (pc' := 9) (ls' := [some (mR (8, 0, k)), some (mI f)]) (st' := [mI (I k 3), mI f]) (S' := (L, I, J, R)) (P := True) [(.iload_n 1, (0, 0, 0, 0, 0)), (.aload_n 0, (0, 0, 0, 0, 0)), (.getfield 38, (8, 3, 0, 0, 0))] [] (by decide +kernel) rfl trivial ?_
    refine b_icmp_ge (off := 13) (tgt := 22) (by decide +kernel) (by decide) (fun h2 => ?_) (fun h2 => ?_)
    · refine b_blk (pc' := 23) (ls' := [some (mR (8, 0, k)), some (mI f)]) (st' := [mI 0]) (S' := (L, I, J, R)) (P := True) [(.iconst 0, (0, 0, 0, 0, 0))] [] (by decide +kernel) rfl trivial ?_
      refine b_zret (by decide +kernel) rfl (by decide) ⟨?_, ?_⟩
      · first | rfl | (rw [f_Slope_hasFence, if_neg h1, if_pos h2]; done) | (simp only [f_Slope_hasFence]; simp only [*, if_true, if_false]; done) | (simp_all [f_Slope_hasFence]; done)
      · first | rfl | (rw [f_Slope_hasFence, if_neg h1, if_pos h2]; done) | (simp only [f_Slope_hasFence]; simp only [*, if_true, if_false]; done) | (simp_all [f_Slope_hasFence]; done)
    · refine b_blk (pc' := 15) (ls' := [some (mR (8, 0, k)), some (mI f)]) (st' := [mI 6, mI f]) (S' := (L, I, J, R)) (P := True) [(.iload_n 1, (0, 0, 0, 0, 0)), (.bipush 6, (0, 0, 0, 6, 0))] [] (by decide +kernel) rfl trivial ?_
      refine b_icmp_ge (off := 7) (tgt := 22) (by decide +kernel) (by decide) (fun h3 => ?_) (fun h3 => ?_)
      · refine b_blk (pc' := 23) (ls' := [some (mR (8, 0, k)), some (mI f)]) (st' := [mI 0]) (S' := (L, I, J, R)) (P := True) [(.iconst 0, (0, 0, 0, 0, 0))] [] (by decide +kernel) rfl trivial ?_
        refine b_zret (by decide +kernel) rfl (by decide) ⟨?_, ?_⟩
        · first | rfl | (rw [f_Slope_hasFence, if_neg h1, if_neg h2, if_pos h3]; done) | (simp only [f_Slope_hasFence]; simp only [*, if_true, if_false]; done) | (simp_all [f_Slope_hasFence]; done)
        · first | rfl | (rw [f_Slope_hasFence, if_neg h1, if_neg h2, if_pos h3]; done) | (simp only [f_Slope_hasFence]; simp only [*, if_true, if_false]; done) | (simp_all [f_Slope_hasFence]; done)
      · refine b_blk (pc' := 23) (ls' := [some (mR (8, 0, k)), some (mI f)]) (st' := [mI 1]) (S' := (L, I, J, R)) (P := True) [(.iconst 1, (0, 0, 0, 1, 0)), (.goto 4, (0, 23, 0, 0, 0))] [] (by decide +kernel) rfl trivial ?_
        refine b_zret (by decide +kernel) rfl (by decide) ⟨?_, ?_⟩
        · first | rfl | (rw [f_Slope_hasFence, if_neg h1, if_neg h2, if_neg h3]; done) | (simp only [f_Slope_hasFence]; simp only [*, if_true, if_false]; done) | (simp_all [f_Slope_hasFence]; done)
        · first | rfl | (rw [f_Slope_hasFence, if_neg h1, if_neg h2, if_neg h3]; done) | (simp only [f_Slope_hasFence]; simp only [*, if_true, if_false]; done) | (simp_all [f_Slope_hasFence]; done)
def f_Slope_hasPlace (I : Nat → Nat → Int32) (k : Nat) (c : Int32) (r : Int32) : Int32 := if c < (0 : Int32) then 0 else (if (I k 1) ≤ c then 0 else (if r < (0 : Int32) then 0 else (if (I k 2) ≤ r then 0 else 1)))
theorem z_Slope_hasPlace {I : Nat → Nat → Int32} {k : Nat} {c : Int32} {r : Int32} : f_Slope_hasPlace I k c r = 0 ∨ f_Slope_hasPlace I k c r = 1 := by
  unfold f_Slope_hasPlace
  repeat' split
  all_goals first | exact Or.inl rfl | exact Or.inr rfl | assumption | exact z_Lay_isCut | exact z_Lay_hasPost | exact z_Slope_isTold | exact z_Slope_hasFence
set_option maxRecDepth 100000 in
set_option maxHeartbeats 4000000 in
theorem c_Slope_hasPlace {G : MG} {L : List (Nat × Nat)} {I : Nat → Nat → Int32} {J : Nat → Nat → Int64} {R : Nat → Nat → Option MRef} (k : Nat) (c : Int32) (r : Int32)  : m_met G 1 0 0 y_Slope_hasPlace M_Slope_hasPlace [mR (8, 0, k), mI c, mI r] (L, I, J, R) (m_is (some (mI (f_Slope_hasPlace I k c r))) (L, I, J, R)) := by
  refine m_met_in n_Slope_hasPlace (plainFor_of_name (by decide)) (by decide) (Nat.le_of_ble_eq_true rfl) (ls := [some (mR (8, 0, k)), some (mI c), some (mI r)]) rfl ?_
  refine b_blk (pc' := 1) (ls' := [some (mR (8, 0, k)), some (mI c), some (mI r)]) (st' := [mI c]) (S' := (L, I, J, R)) (P := True) [(.iload_n 1, (0, 0, 0, 0, 0))] [] (by decide +kernel) rfl trivial ?_
  refine b_if_lt (off := 27) (tgt := 28) (by decide +kernel) (by decide) (fun h1 => ?_) (fun h1 => ?_)
  · refine b_blk (pc' := 29) (ls' := [some (mR (8, 0, k)), some (mI c), some (mI r)]) (st' := [mI 0]) (S' := (L, I, J, R)) (P := True) [(.iconst 0, (0, 0, 0, 0, 0))] [] (by decide +kernel) rfl trivial ?_
    refine b_zret (by decide +kernel) rfl (by decide) ⟨?_, ?_⟩
    · first | rfl | (rw [f_Slope_hasPlace, if_pos h1]; done) | (simp only [f_Slope_hasPlace]; simp only [*, if_true, if_false]; done) | (simp_all [f_Slope_hasPlace]; done)
    · first | rfl | (rw [f_Slope_hasPlace, if_pos h1]; done) | (simp only [f_Slope_hasPlace]; simp only [*, if_true, if_false]; done) | (simp_all [f_Slope_hasPlace]; done)
  · refine b_blk (pc' := 9) (ls' := [some (mR (8, 0, k)), some (mI c), some (mI r)]) (st' := [mI (I k 1), mI c]) (S' := (L, I, J, R)) (P := True) [(.iload_n 1, (0, 0, 0, 0, 0)), (.aload_n 0, (0, 0, 0, 0, 0)), (.getfield 32, (8, 1, 0, 0, 0))] [] (by decide +kernel) rfl trivial ?_
    refine b_icmp_ge (off := 19) (tgt := 28) (by decide +kernel) (by decide) (fun h2 => ?_) (fun h2 => ?_)
    · refine b_blk (pc' := 29) (ls' := [some (mR (8, 0, k)), some (mI c), some (mI r)]) (st' := [mI 0]) (S' := (L, I, J, R)) (P := True) [(.iconst 0, (0, 0, 0, 0, 0))] [] (by decide +kernel) rfl trivial ?_
      refine b_zret (by decide +kernel) rfl (by decide) ⟨?_, ?_⟩
      · first | rfl | (rw [f_Slope_hasPlace, if_neg h1, if_pos h2]; done) | (simp only [f_Slope_hasPlace]; simp only [*, if_true, if_false]; done) | (simp_all [f_Slope_hasPlace]; done)
      · first | rfl | (rw [f_Slope_hasPlace, if_neg h1, if_pos h2]; done) | (simp only [f_Slope_hasPlace]; simp only [*, if_true, if_false]; done) | (simp_all [f_Slope_hasPlace]; done)
    · refine b_blk (pc' := 13) (ls' := [some (mR (8, 0, k)), some (mI c), some (mI r)]) (st' := [mI r]) (S' := (L, I, J, R)) (P := True) [(.iload_n 2, (0, 0, 0, 0, 0))] [] (by decide +kernel) rfl trivial ?_
      refine b_if_lt (off := 15) (tgt := 28) (by decide +kernel) (by decide) (fun h3 => ?_) (fun h3 => ?_)
      · refine b_blk (pc' := 29) (ls' := [some (mR (8, 0, k)), some (mI c), some (mI r)]) (st' := [mI 0]) (S' := (L, I, J, R)) (P := True) [(.iconst 0, (0, 0, 0, 0, 0))] [] (by decide +kernel) rfl trivial ?_
        refine b_zret (by decide +kernel) rfl (by decide) ⟨?_, ?_⟩
        · first | rfl | (rw [f_Slope_hasPlace, if_neg h1, if_neg h2, if_pos h3]; done) | (simp only [f_Slope_hasPlace]; simp only [*, if_true, if_false]; done) | (simp_all [f_Slope_hasPlace]; done)
        · first | rfl | (rw [f_Slope_hasPlace, if_neg h1, if_neg h2, if_pos h3]; done) | (simp only [f_Slope_hasPlace]; simp only [*, if_true, if_false]; done) | (simp_all [f_Slope_hasPlace]; done)
      · refine b_blk (pc' := 21) (ls' := [some (mR (8, 0, k)), some (mI c), some (mI r)]) (st' := [mI (I k 2), mI r]) (S' := (L, I, J, R)) (P := True) [(.iload_n 2, (0, 0, 0, 0, 0)), (.aload_n 0, (0, 0, 0, 0, 0)), (.getfield 35, (8, 2, 0, 0, 0))] [] (by decide +kernel) rfl trivial ?_
        refine b_icmp_ge (off := 7) (tgt := 28) (by decide +kernel) (by decide) (fun h4 => ?_) (fun h4 => ?_)
        · refine b_blk (pc' := 29) (ls' := [some (mR (8, 0, k)), some (mI c), some (mI r)]) (st' := [mI 0]) (S' := (L, I, J, R)) (P := True) [(.iconst 0, (0, 0, 0, 0, 0))] [] (by decide +kernel) rfl trivial ?_
          refine b_zret (by decide +kernel) rfl (by decide) ⟨?_, ?_⟩
          · first | rfl | (rw [f_Slope_hasPlace, if_neg h1, if_neg h2, if_neg h3, if_pos h4]; done) | (simp only [f_Slope_hasPlace]; simp only [*, if_true, if_false]; done) | (simp_all [f_Slope_hasPlace]; done)
          · first | rfl | (rw [f_Slope_hasPlace, if_neg h1, if_neg h2, if_neg h3, if_pos h4]; done) | (simp only [f_Slope_hasPlace]; simp only [*, if_true, if_false]; done) | (simp_all [f_Slope_hasPlace]; done)
        · refine b_blk (pc' := 29) (ls' := [some (mR (8, 0, k)), some (mI c), some (mI r)]) (st' := [mI 1]) (S' := (L, I, J, R)) (P := True) [(.iconst 1, (0, 0, 0, 1, 0)), (.goto 4, (0, 29, 0, 0, 0))] [] (by decide +kernel) rfl trivial ?_
          refine b_zret (by decide +kernel) rfl (by decide) ⟨?_, ?_⟩
          · first | rfl | (rw [f_Slope_hasPlace, if_neg h1, if_neg h2, if_neg h3, if_neg h4]; done) | (simp only [f_Slope_hasPlace]; simp only [*, if_true, if_false]; done) | (simp_all [f_Slope_hasPlace]; done)
          · first | rfl | (rw [f_Slope_hasPlace, if_neg h1, if_neg h2, if_neg h3, if_neg h4]; done) | (simp only [f_Slope_hasPlace]; simp only [*, if_true, if_false]; done) | (simp_all [f_Slope_hasPlace]; done)
def f_Slope_steepOf (I : Nat → Nat → Int32) (k : Nat) (c : Int32) : Int32 := if c < (0 : Int32) then 0 else (if (6 : Int32) ≤ c then 0 else I (k + 1) c.toNatClampNeg)
set_option maxRecDepth 100000 in
set_option maxHeartbeats 4000000 in
theorem c_Slope_steepOf {G : MG} {L : List (Nat × Nat)} {I : Nat → Nat → Int32} {J : Nat → Nat → Int64} {R : Nat → Nat → Option MRef} (k : Nat) (c : Int32) (hk : SlopeR R k) : m_met G 1 0 0 y_Slope_steepOf M_Slope_steepOf [mR (8, 0, k), mI c] (L, I, J, R) (m_is (some (mI (f_Slope_steepOf I k c))) (L, I, J, R)) := by
  refine m_met_in n_Slope_steepOf (plainFor_of_name (by decide)) (by decide) (Nat.le_of_ble_eq_true rfl) (ls := [some (mR (8, 0, k)), some (mI c)]) rfl ?_
  refine b_blk (pc' := 1) (ls' := [some (mR (8, 0, k)), some (mI c)]) (st' := [mI c]) (S' := (L, I, J, R)) (P := True) [(.iload_n 1, (0, 0, 0, 0, 0))] [] (by decide +kernel) rfl trivial ?_
  refine b_if_lt (off := 18) (tgt := 19) (by decide +kernel) (by decide) (fun h1 => ?_) (fun h1 => ?_)
  · refine b_blk (pc' := 20) (ls' := [some (mR (8, 0, k)), some (mI c)]) (st' := [mI 0]) (S' := (L, I, J, R)) (P := True) [(.iconst 0, (0, 0, 0, 0, 0))] [] (by decide +kernel) rfl trivial ?_
    refine b_iret (by decide +kernel) rfl ⟨?_, ?_⟩
    · first | rfl | (rw [f_Slope_steepOf, if_pos h1]; done) | (simp only [f_Slope_steepOf]; simp only [*, if_true, if_false]; done) | (simp_all [f_Slope_steepOf]; done)
    · first | rfl | (rw [f_Slope_steepOf, if_pos h1]; done) | (simp only [f_Slope_steepOf]; simp only [*, if_true, if_false]; done) | (simp_all [f_Slope_steepOf]; done)
  · refine b_blk (pc' := 7) (ls' := [some (mR (8, 0, k)), some (mI c)]) (st' := [mI 6, mI c]) (S' := (L, I, J, R)) (P := True) [(.iload_n 1, (0, 0, 0, 0, 0)), (.bipush 6, (0, 0, 0, 6, 0))] [] (by decide +kernel) rfl trivial ?_
    refine b_icmp_ge (off := 12) (tgt := 19) (by decide +kernel) (by decide) (fun h2 => ?_) (fun h2 => ?_)
    · refine b_blk (pc' := 20) (ls' := [some (mR (8, 0, k)), some (mI c)]) (st' := [mI 0]) (S' := (L, I, J, R)) (P := True) [(.iconst 0, (0, 0, 0, 0, 0))] [] (by decide +kernel) rfl trivial ?_
      refine b_iret (by decide +kernel) rfl ⟨?_, ?_⟩
      · first | rfl | (rw [f_Slope_steepOf, if_neg h1, if_pos h2]; done) | (simp only [f_Slope_steepOf]; simp only [*, if_true, if_false]; done) | (simp_all [f_Slope_steepOf]; done)
      · first | rfl | (rw [f_Slope_steepOf, if_neg h1, if_pos h2]; done) | (simp only [f_Slope_steepOf]; simp only [*, if_true, if_false]; done) | (simp_all [f_Slope_steepOf]; done)
    · refine b_blk (pc' := 20) (ls' := [some (mR (8, 0, k)), some (mI c)]) (st' := [mI (I (k + 1) c.toNatClampNeg)]) (S' := (L, I, J, R)) (P := ((True ∧ R k 5 = some (20, 6, k + 1)) ∧ vp_in c 6)) [(.aload_n 0, (0, 0, 0, 0, 0)), (.getfield 9, (8, 5, 3, 0, 0)), (.iload_n 1, (0, 0, 0, 0, 0)), (.iaload, (0, 0, 0, 0, 0)), (.goto 4, (0, 20, 0, 0, 0))] [some (20, 6, k + 1)] (by decide +kernel) rfl ⟨⟨trivial, hk.1⟩, (in_6 (by assumption) (by assumption))⟩ ?_
      refine b_iret (by decide +kernel) rfl ⟨?_, ?_⟩
      · first | rfl | (rw [f_Slope_steepOf, if_neg h1, if_neg h2]; done) | (simp only [f_Slope_steepOf]; simp only [*, if_true, if_false]; done) | (simp_all [f_Slope_steepOf]; done)
      · first | rfl | (rw [f_Slope_steepOf, if_neg h1, if_neg h2]; done) | (simp only [f_Slope_steepOf]; simp only [*, if_true, if_false]; done) | (simp_all [f_Slope_steepOf]; done)
def uI_Slope_clear_0 (I : Nat → Nat → Int32) (k : Nat) : Nat → Nat → Int32 := m_up (m_up (m_up (m_up (m_up (m_up (m_up I k 0 (0 : Int32)) k 1 (0 : Int32)) k 2 (0 : Int32)) k 3 (0 : Int32)) k 4 (0 : Int32)) k 9 (0 : Int32)) k 10 (0 : Int32)
def uI_Slope_clear_1 (I : Nat → Nat → Int32) (k : Nat) : Nat → Nat → Int32 := m_fil (m_fil (m_fil (m_up (m_up (m_up (m_up (uI_Slope_clear_0 I k) k 11 (0 : Int32)) k 12 (0 : Int32)) (k + 3) 0 (0 : Int32)) (k + 3) 1 (0 : Int32)) ((k + 3) + 1) (0 : Int32) 6) ((k + 3) + 2) (0 : Int32) 6) ((k + 3) + 3) (-1 : Int32) 36
set_option maxRecDepth 100000 in
set_option maxHeartbeats 4000000 in
theorem c_Slope_clear {G : MG} {L : List (Nat × Nat)} {I : Nat → Nat → Int32} {J : Nat → Nat → Int64} {R : Nat → Nat → Option MRef} (k : Nat) (hk : SlopeR R k) : m_met G 3 0 0 y_Slope_clear M_Slope_clear [mR (8, 0, k)] (L, I, J, R) (m_is (none) (L, m_fil (m_fil (uI_Slope_clear_1 I k) (k + 1) (1 : Int32) 6) (k + 2) (0 : Int32) 36, J, R)) := by
  refine m_met_in n_Slope_clear (plainFor_of_name (by decide)) (by decide) (Nat.le_of_ble_eq_true rfl) (ls := [some (mR (8, 0, k))]) rfl ?_
  refine b_blk (pc' := 40) (ls' := [some (mR (8, 0, k))]) (st' := []) (S' := (L, m_up (uI_Slope_clear_0 I k) k 11 (0 : Int32), J, R)) (P := True) [(.aload_n 0, (0, 0, 0, 0, 0)), (.iconst 0, (0, 0, 0, 0, 0)), (.putfield 28, (8, 0, 0, 0, 0)), (.aload_n 0, (0, 0, 0, 0, 0)), (.iconst 0, (0, 0, 0, 0, 0)), (.putfield 32, (8, 1, 0, 0, 0)), (.aload_n 0, (0, 0, 0, 0, 0)), (.iconst 0, (0, 0, 0, 0, 0)), (.putfield 35, (8, 2, 0, 0, 0)), (.aload_n 0, (0, 0, 0, 0, 0)), (.iconst 0, (0, 0, 0, 0, 0)), (.putfield 38, (8, 3, 0, 0, 0)), (.aload_n 0, (0, 0, 0, 0, 0)), (.iconst 0, (0, 0, 0, 0, 0)), (.putfield 41, (8, 4, 0, 0, 0)), (.aload_n 0, (0, 0, 0, 0, 0)), (.iconst 0, (0, 0, 0, 0, 0)), (.putfield 44, (8, 9, 0, 0, 0)), (.aload_n 0, (0, 0, 0, 0, 0)), (.iconst 0, (0, 0, 0, 0, 0)), (.putfield 47, (8, 10, 0, 0, 0)), (.aload_n 0, (0, 0, 0, 0, 0)), (.iconst 0, (0, 0, 0, 0, 0)), (.putfield 50, (8, 11, 0, 0, 0))] [] (by decide +kernel) rfl trivial ?_
  refine b_blk (pc' := 49) (ls' := [some (mR (8, 0, k))]) (st' := [mR (3, 0, k + 3)]) (S' := (L, m_up (m_up (uI_Slope_clear_0 I k) k 11 (0 : Int32)) k 12 (0 : Int32), J, R)) (P := (True ∧ R k 7 = some (3, 0, k + 3))) [(.aload_n 0, (0, 0, 0, 0, 0)), (.iconst 0, (0, 0, 0, 0, 0)), (.putfield 53, (8, 12, 0, 0, 0)), (.aload_n 0, (0, 0, 0, 0, 0)), (.getfield 21, (8, 7, 3, 0, 0))] [some (3, 0, k + 3)] (by decide +kernel) rfl ⟨trivial, hk.2.2.1⟩ ?_
  refine b_cV (as := []) (st := []) (by decide +kernel) k_8_56 n_Lay_clear rfl (by decide) v_Lay_clear (c_Lay_clear (k + 3) hk.2.2.2.2) (Nat.le_of_ble_eq_true rfl) (by decide) rfl rfl (fun _ h => h) ?_
  show m_B _ _ _ _ _ _ 52 [some (mR (8, 0, k))] [] (L, m_fil (m_fil (m_fil (m_up (m_up (m_up (m_up (uI_Slope_clear_0 I k) k 11 (0 : Int32)) k 12 (0 : Int32)) (k + 3) 0 (0 : Int32)) (k + 3) 1 (0 : Int32)) ((k + 3) + 1) (0 : Int32) 6) ((k + 3) + 2) (0 : Int32) 6) ((k + 3) + 3) (-1 : Int32) 36, J, R)
  refine b_blk (pc' := 57) (ls' := [some (mR (8, 0, k))]) (st' := [mI 1, mR (20, 6, k + 1)]) (S' := (L, uI_Slope_clear_1 I k, J, R)) (P := (True ∧ R k 5 = some (20, 6, k + 1))) [(.aload_n 0, (0, 0, 0, 0, 0)), (.getfield 9, (8, 5, 3, 0, 0)), (.iconst 1, (0, 0, 0, 1, 0))] [some (20, 6, k + 1)] (by decide +kernel) rfl ⟨trivial, hk.1⟩ ?_
  refine b_cS (as := [mR (20, 6, k + 1), mI 1]) (st := []) (by decide +kernel) k_8_59 n_Arrays_fill s_Arrays_fill (c_Arrays_fill (k + 1) 6 (1 : Int32) (by decide)) (Nat.le_of_ble_eq_true rfl) (by decide) rfl rfl (fun _ h => h) ?_
  show m_B _ _ _ _ _ _ 60 [some (mR (8, 0, k))] [] (L, m_fil (uI_Slope_clear_1 I k) (k + 1) (1 : Int32) 6, J, R)
  refine b_blk (pc' := 65) (ls' := [some (mR (8, 0, k))]) (st' := [mI 0, mR (20, 36, k + 2)]) (S' := (L, m_fil (uI_Slope_clear_1 I k) (k + 1) (1 : Int32) 6, J, R)) (P := (True ∧ R k 6 = some (20, 36, k + 2))) [(.aload_n 0, (0, 0, 0, 0, 0)), (.getfield 15, (8, 6, 3, 0, 0)), (.iconst 0, (0, 0, 0, 0, 0))] [some (20, 36, k + 2)] (by decide +kernel) rfl ⟨trivial, hk.2.1⟩ ?_
  refine b_cS (as := [mR (20, 36, k + 2), mI 0]) (st := []) (by decide +kernel) k_8_59 n_Arrays_fill s_Arrays_fill (c_Arrays_fill (k + 2) 36 (0 : Int32) (by decide)) (Nat.le_of_ble_eq_true rfl) (by decide) rfl rfl (fun _ h => h) ?_
  show m_B _ _ _ _ _ _ 68 [some (mR (8, 0, k))] [] (L, m_fil (m_fil (uI_Slope_clear_1 I k) (k + 1) (1 : Int32) 6) (k + 2) (0 : Int32) 36, J, R)
  refine b_vret (by decide +kernel) rfl ⟨?_, ?_⟩
  · rfl
  · rfl
theorem in_1600 {x : Int32} (h0 : 0 ≤ x) (h1 : ¬ 1600 ≤ x) : vp_in x 1600 := in_n (by decide) (Int32.not_lt.mpr h0) h1
theorem up_1600 {x : Int32} (h0 : 0 ≤ x) (h1 : ¬ 1600 ≤ x) : 0 ≤ x + 1 := by
  obtain ⟨j, hj, rfl⟩ := ix_of (n := 1600) (by decide) h0 (Int32.not_le.mp h1)
  rw [nI_1]
  exact nI_pos' (by omega)
def uI_Tape_append_0 (I : Nat → Nat → Int32) (v : Int32) : Nat → Nat → Int32 := m_up (m_up (m_up I 2 ((I 1 1).toNatClampNeg) (vp_nar .byte ((v >>> ((24 : Int32) &&& 31)).toInt8.toInt32))) 1 1 ((I 1 1) + (1 : Int32))) 2 (((I 1 1) + (1 : Int32)).toNatClampNeg) (vp_nar .byte ((v >>> ((16 : Int32) &&& 31)).toInt8.toInt32))
def uI_Tape_append_1 (I : Nat → Nat → Int32) (v : Int32) : Nat → Nat → Int32 := m_up (m_up (uI_Tape_append_0 I v) 1 1 (((I 1 1) + (1 : Int32)) + (1 : Int32))) 2 ((((I 1 1) + (1 : Int32)) + (1 : Int32)).toNatClampNeg) (vp_nar .byte ((v >>> ((8 : Int32) &&& 31)).toInt8.toInt32))
def uI_Tape_append_2 (I : Nat → Nat → Int32) (v : Int32) : Nat → Nat → Int32 := m_up (m_up (uI_Tape_append_1 I v) 1 1 ((((I 1 1) + (1 : Int32)) + (1 : Int32)) + (1 : Int32))) 2 (((((I 1 1) + (1 : Int32)) + (1 : Int32)) + (1 : Int32)).toNatClampNeg) (vp_nar .byte ((v >>> ((0 : Int32) &&& 31)).toInt8.toInt32))
def gI_Tape_append (I : Nat → Nat → Int32) (v : Int32) : Nat → Nat → Int32 := if (1600 : Int32) ≤ (I 1 1) then I else (if (1600 : Int32) ≤ ((I 1 1) + (1 : Int32)) then m_up (m_up I 2 ((I 1 1).toNatClampNeg) (vp_nar .byte ((v >>> ((24 : Int32) &&& 31)).toInt8.toInt32))) 1 1 ((I 1 1) + (1 : Int32)) else (if (1600 : Int32) ≤ (((I 1 1) + (1 : Int32)) + (1 : Int32)) then m_up (uI_Tape_append_0 I v) 1 1 (((I 1 1) + (1 : Int32)) + (1 : Int32)) else (if (1600 : Int32) ≤ ((((I 1 1) + (1 : Int32)) + (1 : Int32)) + (1 : Int32)) then m_up (uI_Tape_append_1 I v) 1 1 ((((I 1 1) + (1 : Int32)) + (1 : Int32)) + (1 : Int32)) else m_up (uI_Tape_append_2 I v) 1 1 (((((I 1 1) + (1 : Int32)) + (1 : Int32)) + (1 : Int32)) + (1 : Int32)))))
set_option maxRecDepth 100000 in
set_option maxHeartbeats 4000000 in
theorem c_Tape_append {G : MG} {L : List (Nat × Nat)} {I : Nat → Nat → Int32} {J : Nat → Nat → Int64} {R : Nat → Nat → Option MRef} (v : Int32) (hR : RF R) (h0 : 0 ≤ I 1 1) : m_met G 1 0 0 y_Tape_append M_Tape_append [mR (9, 0, 1), mI v] (L, I, J, R) (m_is (none) (L, gI_Tape_append I v, J, R)) := by
  refine m_met_in n_Tape_append (plainFor_of_name (by decide)) (by decide) (Nat.le_of_ble_eq_true rfl) (ls := [some (mR (9, 0, 1)), some (mI v), none]) rfl ?_
  refine b_blk (pc' := 4) (ls' := [some (mR (9, 0, 1)), some (mI v), some (mI 24)]) (st' := [mI 24]) (S' := (L, I, J, R)) (P := True) [(.bipush 24, (0, 0, 0, 24, 0)), (.istore_n 2, (0, 0, 0, 0, 0)), (.iload_n 2, (0, 0, 0, 0, 0))] [] (by decide +kernel) rfl trivial ?_
  refine b_if_lt (off := 42) (tgt := 46) (by decide +kernel) (by decide) (fun h1 => absurd h1 (by decide)) (fun _ => ?_)
  refine b_blk (pc' := 14) (ls' := [some (mR (9, 0, 1)), some (mI v), some (mI 24)]) (st' := [mI 1600, mI (I 1 1)]) (S' := (L, I, J, R)) (P := True) [(.aload_n 0, (0, 0, 0, 0, 0)), (.getfield 15, (9, 1, 0, 0, 0)), (.sipush 1600, (0, 0, 0, 1600, 0))] [] (by decide +kernel) rfl trivial ?_
  refine b_icmp_ge (off := 32) (tgt := 46) (by decide +kernel) (by decide) (fun h2 => ?_) (fun h2 => ?_)
  · refine b_vret (by decide +kernel) rfl ⟨?_, ?_⟩
    · first | rfl | (rw [gI_Tape_append, if_pos h2]; done) | (simp only [gI_Tape_append]; simp only [*, if_true, if_false]; done) | (simp_all [gI_Tape_append]; done)
    · first | rfl | (rw [gI_Tape_append, if_pos h2]; done) | (simp only [gI_Tape_append]; simp only [*, if_true, if_false]; done) | (simp_all [gI_Tape_append]; done)
  · refine b_blk (pc' := 3) (ls' := [some (mR (9, 0, 1)), some (mI v), some (mI 16)]) (st' := []) (S' := (L, m_up (m_up I 2 ((I 1 1).toNatClampNeg) (vp_nar .byte ((v >>> ((24 : Int32) &&& 31)).toInt8.toInt32))) 1 1 ((I 1 1) + (1 : Int32)), J, R)) (P := ((True ∧ R 1 0 = some (22, 1600, 2)) ∧ vp_in (I 1 1) 1600)) [(.aload_n 0, (0, 0, 0, 0, 0)), (.getfield 9, (9, 0, 3, 0, 0)), (.aload_n 0, (0, 0, 0, 0, 0)), (.getfield 15, (9, 1, 0, 0, 0)), (.iload_n 1, (0, 0, 0, 0, 0)), (.iload_n 2, (0, 0, 0, 0, 0)), (.ishr, (0, 0, 0, 0, 0)), (.i2b, (0, 0, 0, 0, 0)), (.bastore, (0, 0, 0, 0, 0)), (.aload_n 0, (0, 0, 0, 0, 0)), (.dup, (0, 0, 0, 0, 0)), (.getfield 15, (9, 1, 0, 0, 0)), (.iconst 1, (0, 0, 0, 1, 0)), (.iadd, (0, 0, 0, 0, 0)), (.putfield 15, (9, 1, 0, 0, 0)), (.iinc 2 (-8), (0, 0, 0, (-8), 0)), (.goto (-40), (0, 3, 0, 0, 0))] [some (22, 1600, 2)] (by decide +kernel) rfl ⟨⟨trivial, (r_1_0 hR)⟩, (in_1600 h0 (by assumption))⟩ ?_
    refine b_blk (pc' := 4) (ls' := [some (mR (9, 0, 1)), some (mI v), some (mI 16)]) (st' := [mI 16]) (S' := (L, m_up (m_up I 2 ((I 1 1).toNatClampNeg) (vp_nar .byte ((v >>> ((24 : Int32) &&& 31)).toInt8.toInt32))) 1 1 ((I 1 1) + (1 : Int32)), J, R)) (P := True) [(.iload_n 2, (0, 0, 0, 0, 0))] [] (by decide +kernel) rfl trivial ?_
    refine b_if_lt (off := 42) (tgt := 46) (by decide +kernel) (by decide) (fun h3 => absurd h3 (by decide)) (fun _ => ?_)
    refine b_blk (pc' := 14) (ls' := [some (mR (9, 0, 1)), some (mI v), some (mI 16)]) (st' := [mI 1600, mI ((I 1 1) + (1 : Int32))]) (S' := (L, m_up (m_up I 2 ((I 1 1).toNatClampNeg) (vp_nar .byte ((v >>> ((24 : Int32) &&& 31)).toInt8.toInt32))) 1 1 ((I 1 1) + (1 : Int32)), J, R)) (P := True) [(.aload_n 0, (0, 0, 0, 0, 0)), (.getfield 15, (9, 1, 0, 0, 0)), (.sipush 1600, (0, 0, 0, 1600, 0))] [] (by decide +kernel) rfl trivial ?_
    refine b_icmp_ge (off := 32) (tgt := 46) (by decide +kernel) (by decide) (fun h4 => ?_) (fun h4 => ?_)
    · refine b_vret (by decide +kernel) rfl ⟨?_, ?_⟩
      · first | rfl | (rw [gI_Tape_append, if_neg h2, if_pos h4]; done) | (simp only [gI_Tape_append]; simp only [*, if_true, if_false]; done) | (simp_all [gI_Tape_append]; done)
      · first | rfl | (rw [gI_Tape_append, if_neg h2, if_pos h4]; done) | (simp only [gI_Tape_append]; simp only [*, if_true, if_false]; done) | (simp_all [gI_Tape_append]; done)
    · refine b_blk (pc' := 3) (ls' := [some (mR (9, 0, 1)), some (mI v), some (mI 8)]) (st' := []) (S' := (L, m_up (uI_Tape_append_0 I v) 1 1 (((I 1 1) + (1 : Int32)) + (1 : Int32)), J, R)) (P := ((True ∧ R 1 0 = some (22, 1600, 2)) ∧ vp_in ((I 1 1) + (1 : Int32)) 1600)) [(.aload_n 0, (0, 0, 0, 0, 0)), (.getfield 9, (9, 0, 3, 0, 0)), (.aload_n 0, (0, 0, 0, 0, 0)), (.getfield 15, (9, 1, 0, 0, 0)), (.iload_n 1, (0, 0, 0, 0, 0)), (.iload_n 2, (0, 0, 0, 0, 0)), (.ishr, (0, 0, 0, 0, 0)), (.i2b, (0, 0, 0, 0, 0)), (.bastore, (0, 0, 0, 0, 0)), (.aload_n 0, (0, 0, 0, 0, 0)), (.dup, (0, 0, 0, 0, 0)), (.getfield 15, (9, 1, 0, 0, 0)), (.iconst 1, (0, 0, 0, 1, 0)), (.iadd, (0, 0, 0, 0, 0)), (.putfield 15, (9, 1, 0, 0, 0)), (.iinc 2 (-8), (0, 0, 0, (-8), 0)), (.goto (-40), (0, 3, 0, 0, 0))] [some (22, 1600, 2)] (by decide +kernel) rfl ⟨⟨trivial, (r_1_0 hR)⟩, (in_1600 (up_1600 h0 (by assumption)) (by assumption))⟩ ?_
      refine b_blk (pc' := 4) (ls' := [some (mR (9, 0, 1)), some (mI v), some (mI 8)]) (st' := [mI 8]) (S' := (L, m_up (uI_Tape_append_0 I v) 1 1 (((I 1 1) + (1 : Int32)) + (1 : Int32)), J, R)) (P := True) [(.iload_n 2, (0, 0, 0, 0, 0))] [] (by decide +kernel) rfl trivial ?_
      refine b_if_lt (off := 42) (tgt := 46) (by decide +kernel) (by decide) (fun h5 => absurd h5 (by decide)) (fun _ => ?_)
      refine b_blk (pc' := 14) (ls' := [some (mR (9, 0, 1)), some (mI v), some (mI 8)]) (st' := [mI 1600, mI (((I 1 1) + (1 : Int32)) + (1 : Int32))]) (S' := (L, m_up (uI_Tape_append_0 I v) 1 1 (((I 1 1) + (1 : Int32)) + (1 : Int32)), J, R)) (P := True) [(.aload_n 0, (0, 0, 0, 0, 0)), (.getfield 15, (9, 1, 0, 0, 0)), (.sipush 1600, (0, 0, 0, 1600, 0))] [] (by decide +kernel) rfl trivial ?_
      refine b_icmp_ge (off := 32) (tgt := 46) (by decide +kernel) (by decide) (fun h6 => ?_) (fun h6 => ?_)
      · refine b_vret (by decide +kernel) rfl ⟨?_, ?_⟩
        · first | rfl | (rw [gI_Tape_append, if_neg h2, if_neg h4, if_pos h6]; done) | (simp only [gI_Tape_append]; simp only [*, if_true, if_false]; done) | (simp_all [gI_Tape_append]; done)
        · first | rfl | (rw [gI_Tape_append, if_neg h2, if_neg h4, if_pos h6]; done) | (simp only [gI_Tape_append]; simp only [*, if_true, if_false]; done) | (simp_all [gI_Tape_append]; done)
      · refine b_blk (pc' := 3) (ls' := [some (mR (9, 0, 1)), some (mI v), some (mI 0)]) (st' := []) (S' := (L, m_up (uI_Tape_append_1 I v) 1 1 ((((I 1 1) + (1 : Int32)) + (1 : Int32)) + (1 : Int32)), J, R)) (P := ((True ∧ R 1 0 = some (22, 1600, 2)) ∧ vp_in (((I 1 1) + (1 : Int32)) + (1 : Int32)) 1600)) [(.aload_n 0, (0, 0, 0, 0, 0)), (.getfield 9, (9, 0, 3, 0, 0)), (.aload_n 0, (0, 0, 0, 0, 0)), (.getfield 15, (9, 1, 0, 0, 0)), (.iload_n 1, (0, 0, 0, 0, 0)), (.iload_n 2, (0, 0, 0, 0, 0)), (.ishr, (0, 0, 0, 0, 0)), (.i2b, (0, 0, 0, 0, 0)), (.bastore, (0, 0, 0, 0, 0)), (.aload_n 0, (0, 0, 0, 0, 0)), (.dup, (0, 0, 0, 0, 0)), (.getfield 15, (9, 1, 0, 0, 0)), (.iconst 1, (0, 0, 0, 1, 0)), (.iadd, (0, 0, 0, 0, 0)), (.putfield 15, (9, 1, 0, 0, 0)), (.iinc 2 (-8), (0, 0, 0, (-8), 0)), (.goto (-40), (0, 3, 0, 0, 0))] [some (22, 1600, 2)] (by decide +kernel) rfl ⟨⟨trivial, (r_1_0 hR)⟩, (in_1600 (up_1600 (up_1600 h0 (by assumption)) (by assumption)) (by assumption))⟩ ?_
        refine b_blk (pc' := 4) (ls' := [some (mR (9, 0, 1)), some (mI v), some (mI 0)]) (st' := [mI 0]) (S' := (L, m_up (uI_Tape_append_1 I v) 1 1 ((((I 1 1) + (1 : Int32)) + (1 : Int32)) + (1 : Int32)), J, R)) (P := True) [(.iload_n 2, (0, 0, 0, 0, 0))] [] (by decide +kernel) rfl trivial ?_
        refine b_if_lt (off := 42) (tgt := 46) (by decide +kernel) (by decide) (fun h7 => absurd h7 (by decide)) (fun _ => ?_)
        refine b_blk (pc' := 14) (ls' := [some (mR (9, 0, 1)), some (mI v), some (mI 0)]) (st' := [mI 1600, mI ((((I 1 1) + (1 : Int32)) + (1 : Int32)) + (1 : Int32))]) (S' := (L, m_up (uI_Tape_append_1 I v) 1 1 ((((I 1 1) + (1 : Int32)) + (1 : Int32)) + (1 : Int32)), J, R)) (P := True) [(.aload_n 0, (0, 0, 0, 0, 0)), (.getfield 15, (9, 1, 0, 0, 0)), (.sipush 1600, (0, 0, 0, 1600, 0))] [] (by decide +kernel) rfl trivial ?_
        refine b_icmp_ge (off := 32) (tgt := 46) (by decide +kernel) (by decide) (fun h8 => ?_) (fun h8 => ?_)
        · refine b_vret (by decide +kernel) rfl ⟨?_, ?_⟩
          · first | rfl | (rw [gI_Tape_append, if_neg h2, if_neg h4, if_neg h6, if_pos h8]; done) | (simp only [gI_Tape_append]; simp only [*, if_true, if_false]; done) | (simp_all [gI_Tape_append]; done)
          · first | rfl | (rw [gI_Tape_append, if_neg h2, if_neg h4, if_neg h6, if_pos h8]; done) | (simp only [gI_Tape_append]; simp only [*, if_true, if_false]; done) | (simp_all [gI_Tape_append]; done)
        · refine b_blk (pc' := 3) (ls' := [some (mR (9, 0, 1)), some (mI v), some (mI (-8))]) (st' := []) (S' := (L, m_up (uI_Tape_append_2 I v) 1 1 (((((I 1 1) + (1 : Int32)) + (1 : Int32)) + (1 : Int32)) + (1 : Int32)), J, R)) (P := ((True ∧ R 1 0 = some (22, 1600, 2)) ∧ vp_in ((((I 1 1) + (1 : Int32)) + (1 : Int32)) + (1 : Int32)) 1600)) [(.aload_n 0, (0, 0, 0, 0, 0)), (.getfield 9, (9, 0, 3, 0, 0)), (.aload_n 0, (0, 0, 0, 0, 0)), (.getfield 15, (9, 1, 0, 0, 0)), (.iload_n 1, (0, 0, 0, 0, 0)), (.iload_n 2, (0, 0, 0, 0, 0)), (.ishr, (0, 0, 0, 0, 0)), (.i2b, (0, 0, 0, 0, 0)), (.bastore, (0, 0, 0, 0, 0)), (.aload_n 0, (0, 0, 0, 0, 0)), (.dup, (0, 0, 0, 0, 0)), (.getfield 15, (9, 1, 0, 0, 0)), (.iconst 1, (0, 0, 0, 1, 0)), (.iadd, (0, 0, 0, 0, 0)), (.putfield 15, (9, 1, 0, 0, 0)), (.iinc 2 (-8), (0, 0, 0, (-8), 0)), (.goto (-40), (0, 3, 0, 0, 0))] [some (22, 1600, 2)] (by decide +kernel) rfl ⟨⟨trivial, (r_1_0 hR)⟩, (in_1600 (up_1600 (up_1600 (up_1600 h0 (by assumption)) (by assumption)) (by assumption)) (by assumption))⟩ ?_
          refine b_blk (pc' := 4) (ls' := [some (mR (9, 0, 1)), some (mI v), some (mI (-8))]) (st' := [mI (-8)]) (S' := (L, m_up (uI_Tape_append_2 I v) 1 1 (((((I 1 1) + (1 : Int32)) + (1 : Int32)) + (1 : Int32)) + (1 : Int32)), J, R)) (P := True) [(.iload_n 2, (0, 0, 0, 0, 0))] [] (by decide +kernel) rfl trivial ?_
          refine b_if_lt (off := 42) (tgt := 46) (by decide +kernel) (by decide) (fun _ => ?_) (fun h9 => absurd (by decide) h9)
          refine b_vret (by decide +kernel) rfl ⟨?_, ?_⟩
          · first | rfl | (rw [gI_Tape_append, if_neg h2, if_neg h4, if_neg h6, if_neg h8]; done) | (simp only [gI_Tape_append]; simp only [*, if_true, if_false]; done) | (simp_all [gI_Tape_append]; done)
          · first | rfl | (rw [gI_Tape_append, if_neg h2, if_neg h4, if_neg h6, if_neg h8]; done) | (simp only [gI_Tape_append]; simp only [*, if_true, if_false]; done) | (simp_all [gI_Tape_append]; done)
def f_Tape_byteAt (I : Nat → Nat → Int32) (x : Int32) : Int32 := if x < (0 : Int32) then (-1) else (if (I 1 1) ≤ x then (-1) else (I 2 x.toNatClampNeg) &&& (255 : Int32))
set_option maxRecDepth 100000 in
set_option maxHeartbeats 4000000 in
theorem c_Tape_byteAt {G : MG} {L : List (Nat × Nat)} {I : Nat → Nat → Int32} {J : Nat → Nat → Int64} {R : Nat → Nat → Option MRef} (x : Int32) (hR : RF R) (h1600 : I 1 1 ≤ 1600) : m_met G 1 0 0 y_Tape_byteAt M_Tape_byteAt [mR (9, 0, 1), mI x] (L, I, J, R) (m_is (some (mI (f_Tape_byteAt I x))) (L, I, J, R)) := by
  refine m_met_in n_Tape_byteAt (plainFor_of_name (by decide)) (by decide) (Nat.le_of_ble_eq_true rfl) (ls := [some (mR (9, 0, 1)), some (mI x)]) rfl ?_
  refine b_blk (pc' := 1) (ls' := [some (mR (9, 0, 1)), some (mI x)]) (st' := [mI x]) (S' := (L, I, J, R)) (P := True) [(.iload_n 1, (0, 0, 0, 0, 0))] [] (by decide +kernel) rfl trivial ?_
  refine b_if_lt (off := 24) (tgt := 25) (by decide +kernel) (by decide) (fun h1 => ?_) (fun h1 => ?_)
  · refine b_blk (pc' := 26) (ls' := [some (mR (9, 0, 1)), some (mI x)]) (st' := [mI (-1)]) (S' := (L, I, J, R)) (P := True) [(.iconst (-1), (0, 0, 0, (-1), 0))] [] (by decide +kernel) rfl trivial ?_
    refine b_iret (by decide +kernel) rfl ⟨?_, ?_⟩
    · first | rfl | (rw [f_Tape_byteAt, if_pos h1]; done) | (simp only [f_Tape_byteAt]; simp only [*, if_true, if_false]; done) | (simp_all [f_Tape_byteAt]; done)
    · first | rfl | (rw [f_Tape_byteAt, if_pos h1]; done) | (simp only [f_Tape_byteAt]; simp only [*, if_true, if_false]; done) | (simp_all [f_Tape_byteAt]; done)
  · refine b_blk (pc' := 9) (ls' := [some (mR (9, 0, 1)), some (mI x)]) (st' := [mI (I 1 1), mI x]) (S' := (L, I, J, R)) (P := True) [(.iload_n 1, (0, 0, 0, 0, 0)), (.aload_n 0, (0, 0, 0, 0, 0)), (.getfield 15, (9, 1, 0, 0, 0))] [] (by decide +kernel) rfl trivial ?_
    refine b_icmp_ge (off := 16) (tgt := 25) (by decide +kernel) (by decide) (fun h2 => ?_) (fun h2 => ?_)
    · refine b_blk (pc' := 26) (ls' := [some (mR (9, 0, 1)), some (mI x)]) (st' := [mI (-1)]) (S' := (L, I, J, R)) (P := True) [(.iconst (-1), (0, 0, 0, (-1), 0))] [] (by decide +kernel) rfl trivial ?_
      refine b_iret (by decide +kernel) rfl ⟨?_, ?_⟩
      · first | rfl | (rw [f_Tape_byteAt, if_neg h1, if_pos h2]; done) | (simp only [f_Tape_byteAt]; simp only [*, if_true, if_false]; done) | (simp_all [f_Tape_byteAt]; done)
      · first | rfl | (rw [f_Tape_byteAt, if_neg h1, if_pos h2]; done) | (simp only [f_Tape_byteAt]; simp only [*, if_true, if_false]; done) | (simp_all [f_Tape_byteAt]; done)
    · refine b_blk (pc' := 26) (ls' := [some (mR (9, 0, 1)), some (mI x)]) (st' := [mI ((I 2 x.toNatClampNeg) &&& (255 : Int32))]) (S' := (L, I, J, R)) (P := ((True ∧ R 1 0 = some (22, 1600, 2)) ∧ vp_in x 1600)) [(.aload_n 0, (0, 0, 0, 0, 0)), (.getfield 9, (9, 0, 3, 0, 0)), (.iload_n 1, (0, 0, 0, 0, 0)), (.baload, (0, 0, 0, 0, 0)), (.sipush 255, (0, 0, 0, 255, 0)), (.iand, (0, 0, 0, 0, 0)), (.goto 4, (0, 26, 0, 0, 0))] [some (22, 1600, 2)] (by decide +kernel) rfl ⟨⟨trivial, (r_1_0 hR)⟩, (in_1600 (Int32.not_lt.mp (by assumption)) (fun q => absurd (Int32.le_trans h1600 q) (by assumption)))⟩ ?_
      refine b_iret (by decide +kernel) rfl ⟨?_, ?_⟩
      · first | rfl | (rw [f_Tape_byteAt, if_neg h1, if_neg h2]; done) | (simp only [f_Tape_byteAt]; simp only [*, if_true, if_false]; done) | (simp_all [f_Tape_byteAt]; done)
      · first | rfl | (rw [f_Tape_byteAt, if_neg h1, if_neg h2]; done) | (simp only [f_Tape_byteAt]; simp only [*, if_true, if_false]; done) | (simp_all [f_Tape_byteAt]; done)
