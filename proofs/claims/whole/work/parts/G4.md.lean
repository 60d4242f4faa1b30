/-! WalkFenceModel.<init> -/
theorem vin {x : Int32} {N : Nat} (h : ¬ (x < 0 ∨ N ≤ x.toNatClampNeg)) : vp_in x N := h
def l_MD_0 (L : List (Nat × Nat)) : List (Nat × Nat) := L
def i_MD_0 (I : MI) : MI := I
def j_MD_0 (J : MJ) : MJ := J
def r_MD_0 (R : MRR) : MRR := R
theorem len_MD_0 {L : List (Nat × Nat)} (h : L.length = 178) : (l_MD_0 L).length = 178 := h
theorem ko_MD : Cond.methodLink (m_cn 12) 1 objectInit ∈ tw := in_tw (ws := [Cond.methodLink (m_cn 12) 1 objectInit]) (by decide +kernel) _ List.mem_cons_self
section GI4
variable {G : MG} {R0 : Room} {Q : Option MV → MS → Prop} {rc rs : Nat} {L : List (Nat × Nat)} {I : MI} {J : MJ} {R : MRR}
def l_MD_1 (L : List (Nat × Nat)) : List (Nat × Nat) := l_MD_0 L ++ [(20, 1600)]
def i_MD_1 (I : MI) : MI := m_zap (i_MD_0 I) 178 0
def j_MD_1 (J : MJ) : MJ := m_zap (j_MD_0 J) 178 0
def r_MD_1 (R : MRR) : MRR := m_up (m_zap (r_MD_0 R) 178 none) 177 0 (some (20, 1600, 178))
theorem len_MD_1 {L : List (Nat × Nat)} (h : L.length = 178) : (l_MD_1 L).length = 179 := len_s (len_MD_0 h)
theorem md_0 (hL : L.length = 178) (h : m_B G R0 M_MD_init Q rc rs 13 [some (mR (12, 0, 177))] [] (l_MD_1 L, i_MD_1 I, j_MD_1 J, r_MD_1 R)) : m_B G R0 M_MD_init Q (rc + 1) (rs + 1600) 4 [some (mR (12, 0, 177))] [] (l_MD_0 L, i_MD_0 I, j_MD_0 J, r_MD_0 R) := by
  refine b_blk (pc' := 8) (ls' := [some (mR (12, 0, 177))]) (st' := [mI 1600, mR (12, 0, 177)]) (S' := (l_MD_0 L, i_MD_0 I, j_MD_0 J, r_MD_0 R)) (P := True) [(.aload_n 0, (0, 0, 0, 0, 0)), (.sipush 1600, (0, 0, 0, 1600, 0))] [] (by decide +kernel) rfl trivial ?_
  refine b_newaT (t := .int) (N := 1600) (n := 178) (by decide +kernel) m_arr_int (by decide) (by decide) (by decide) (by decide) (len_MD_0 hL) rfl rfl ?_
  exact b_blk (pc' := 13) (ls' := [some (mR (12, 0, 177))]) (st' := []) (S' := (l_MD_0 L ++ [(20, 1600)], m_zap (i_MD_0 I) 178 0, m_zap (j_MD_0 J) 178 0, m_up (m_zap (r_MD_0 R) 178 none) 177 0 (some (20, 1600, 178)))) (P := True) [(.putfield 7, (12, 0, 3, 0, 0))] [] (by decide +kernel) rfl trivial h
def l_MD_2 (L : List (Nat × Nat)) : List (Nat × Nat) := l_MD_1 L
def i_MD_2 (I : MI) : MI := m_up (i_MD_1 I) 177 8 (-1)
def j_MD_2 (J : MJ) : MJ := j_MD_1 J
def r_MD_2 (R : MRR) : MRR := r_MD_1 R
theorem len_MD_2 {L : List (Nat × Nat)} (h : L.length = 178) : (l_MD_2 L).length = 179 := len_MD_1 h
theorem md_1 (h : m_B G R0 M_MD_init Q rc rs 18 [some (mR (12, 0, 177))] [] (l_MD_2 L, i_MD_2 I, j_MD_2 J, r_MD_2 R)) : m_B G R0 M_MD_init Q rc rs 13 [some (mR (12, 0, 177))] [] (l_MD_1 L, i_MD_1 I, j_MD_1 J, r_MD_1 R) := by
  exact b_blk (pc' := 18) (ls' := [some (mR (12, 0, 177))]) (st' := []) (S' := (l_MD_1 L, m_up (i_MD_1 I) 177 8 (-1), j_MD_1 J, r_MD_1 R)) (P := True) [(.aload_n 0, (0, 0, 0, 0, 0)), (.iconst (-1), (0, 0, 0, (-1), 0)), (.putfield 13, (12, 8, 0, 0, 0))] [] (by decide +kernel) rfl trivial h
def l_MD_3 (L : List (Nat × Nat)) : List (Nat × Nat) := l_MD_2 L ++ [(20, 6)]
def i_MD_3 (I : MI) : MI := m_zap (i_MD_2 I) 179 0
def j_MD_3 (J : MJ) : MJ := m_zap (j_MD_2 J) 179 0
def r_MD_3 (R : MRR) : MRR := m_up (m_zap (r_MD_2 R) 179 none) 177 9 (some (20, 6, 179))
theorem len_MD_3 {L : List (Nat × Nat)} (h : L.length = 178) : (l_MD_3 L).length = 180 := len_s (len_MD_2 h)
theorem md_2 (hL : L.length = 178) (h : m_B G R0 M_MD_init Q rc rs 26 [some (mR (12, 0, 177))] [] (l_MD_3 L, i_MD_3 I, j_MD_3 J, r_MD_3 R)) : m_B G R0 M_MD_init Q (rc + 1) (rs + 6) 18 [some (mR (12, 0, 177))] [] (l_MD_2 L, i_MD_2 I, j_MD_2 J, r_MD_2 R) := by
  refine b_blk (pc' := 21) (ls' := [some (mR (12, 0, 177))]) (st' := [mI 6, mR (12, 0, 177)]) (S' := (l_MD_2 L, i_MD_2 I, j_MD_2 J, r_MD_2 R)) (P := True) [(.aload_n 0, (0, 0, 0, 0, 0)), (.bipush 6, (0, 0, 0, 6, 0))] [] (by decide +kernel) rfl trivial ?_
  refine b_newaT (t := .int) (N := 6) (n := 179) (by decide +kernel) m_arr_int (by decide) (by decide) (by decide) (by decide) (len_MD_2 hL) rfl rfl ?_
  exact b_blk (pc' := 26) (ls' := [some (mR (12, 0, 177))]) (st' := []) (S' := (l_MD_2 L ++ [(20, 6)], m_zap (i_MD_2 I) 179 0, m_zap (j_MD_2 J) 179 0, m_up (m_zap (r_MD_2 R) 179 none) 177 9 (some (20, 6, 179)))) (P := True) [(.putfield 17, (12, 9, 3, 0, 0))] [] (by decide +kernel) rfl trivial h
def l_MD_4 (L : List (Nat × Nat)) : List (Nat × Nat) := l_MD_3 L ++ [(23, 5)]
def i_MD_4 (I : MI) : MI := m_up (m_up (m_up (m_up (m_up (m_zap (i_MD_3 I) 180 0) 180 0 (vp_nar .char 115)) 180 1 (vp_nar .char 108)) 180 2 (vp_nar .char 111)) 180 3 (vp_nar .char 112)) 180 4 (vp_nar .char 101)
def j_MD_4 (J : MJ) : MJ := m_zap (j_MD_3 J) 180 0
def r_MD_4 (R : MRR) : MRR := m_up (m_zap (r_MD_3 R) 180 none) 177 11 (some (23, 5, 180))
theorem len_MD_4 {L : List (Nat × Nat)} (h : L.length = 178) : (l_MD_4 L).length = 181 := len_s (len_MD_3 h)
theorem md_3 (hL : L.length = 178) (h : m_B G R0 M_MD_init Q rc rs 58 [some (mR (12, 0, 177))] [] (l_MD_4 L, i_MD_4 I, j_MD_4 J, r_MD_4 R)) : m_B G R0 M_MD_init Q (rc + 1) (rs + 5) 26 [some (mR (12, 0, 177))] [] (l_MD_3 L, i_MD_3 I, j_MD_3 J, r_MD_3 R) := by
  refine b_blk (pc' := 28) (ls' := [some (mR (12, 0, 177))]) (st' := [mI 5, mR (12, 0, 177)]) (S' := (l_MD_3 L, i_MD_3 I, j_MD_3 J, r_MD_3 R)) (P := True) [(.aload_n 0, (0, 0, 0, 0, 0)), (.iconst 5, (0, 0, 0, 5, 0))] [] (by decide +kernel) rfl trivial ?_
  refine b_newaT (t := .char) (N := 5) (n := 180) (by decide +kernel) m_arr_char (by decide) (by decide) (by decide) (by decide) (len_MD_3 hL) rfl rfl ?_
  exact b_blk (pc' := 58) (ls' := [some (mR (12, 0, 177))]) (st' := []) (S' := (l_MD_3 L ++ [(23, 5)], m_up (m_up (m_up (m_up (m_up (m_zap (i_MD_3 I) 180 0) 180 0 (vp_nar .char 115)) 180 1 (vp_nar .char 108)) 180 2 (vp_nar .char 111)) 180 3 (vp_nar .char 112)) 180 4 (vp_nar .char 101), m_zap (j_MD_3 J) 180 0, m_up (m_zap (r_MD_3 R) 180 none) 177 11 (some (23, 5, 180)))) (P := ((((True ∧ vp_in 0 5) ∧ vp_in 1 5) ∧ vp_in 2 5) ∧ vp_in 3 5) ∧ vp_in 4 5) [(.dup, (0, 0, 0, 0, 0)), (.iconst 0, (0, 0, 0, 0, 0)), (.bipush 115, (0, 0, 0, 115, 0)), (.castore, (0, 0, 0, 0, 0)), (.dup, (0, 0, 0, 0, 0)), (.iconst 1, (0, 0, 0, 1, 0)), (.bipush 108, (0, 0, 0, 108, 0)), (.castore, (0, 0, 0, 0, 0)), (.dup, (0, 0, 0, 0, 0)), (.iconst 2, (0, 0, 0, 2, 0)), (.bipush 111, (0, 0, 0, 111, 0)), (.castore, (0, 0, 0, 0, 0)), (.dup, (0, 0, 0, 0, 0)), (.iconst 3, (0, 0, 0, 3, 0)), (.bipush 112, (0, 0, 0, 112, 0)), (.castore, (0, 0, 0, 0, 0)), (.dup, (0, 0, 0, 0, 0)), (.iconst 4, (0, 0, 0, 4, 0)), (.bipush 101, (0, 0, 0, 101, 0)), (.castore, (0, 0, 0, 0, 0)), (.putfield 20, (12, 11, 3, 0, 0))] [] (by decide +kernel) rfl ⟨⟨⟨⟨⟨trivial, vin (by decide)⟩, vin (by decide)⟩, vin (by decide)⟩, vin (by decide)⟩, vin (by decide)⟩ h
def l_MD_5 (L : List (Nat × Nat)) : List (Nat × Nat) := l_MD_4 L ++ [(23, 2)]
def i_MD_5 (I : MI) : MI := m_up (m_up (m_zap (i_MD_4 I) 181 0) 181 0 (vp_nar .char 98)) 181 1 (vp_nar .char 121)
def j_MD_5 (J : MJ) : MJ := m_zap (j_MD_4 J) 181 0
def r_MD_5 (R : MRR) : MRR := m_up (m_zap (r_MD_4 R) 181 none) 177 12 (some (23, 2, 181))
theorem len_MD_5 {L : List (Nat × Nat)} (h : L.length = 178) : (l_MD_5 L).length = 182 := len_s (len_MD_4 h)
theorem md_4 (hL : L.length = 178) (h : m_B G R0 M_MD_init Q rc rs 75 [some (mR (12, 0, 177))] [] (l_MD_5 L, i_MD_5 I, j_MD_5 J, r_MD_5 R)) : m_B G R0 M_MD_init Q (rc + 1) (rs + 2) 58 [some (mR (12, 0, 177))] [] (l_MD_4 L, i_MD_4 I, j_MD_4 J, r_MD_4 R) := by
  refine b_blk (pc' := 60) (ls' := [some (mR (12, 0, 177))]) (st' := [mI 2, mR (12, 0, 177)]) (S' := (l_MD_4 L, i_MD_4 I, j_MD_4 J, r_MD_4 R)) (P := True) [(.aload_n 0, (0, 0, 0, 0, 0)), (.iconst 2, (0, 0, 0, 2, 0))] [] (by decide +kernel) rfl trivial ?_
  refine b_newaT (t := .char) (N := 2) (n := 181) (by decide +kernel) m_arr_char (by decide) (by decide) (by decide) (by decide) (len_MD_4 hL) rfl rfl ?_
  exact b_blk (pc' := 75) (ls' := [some (mR (12, 0, 177))]) (st' := []) (S' := (l_MD_4 L ++ [(23, 2)], m_up (m_up (m_zap (i_MD_4 I) 181 0) 181 0 (vp_nar .char 98)) 181 1 (vp_nar .char 121), m_zap (j_MD_4 J) 181 0, m_up (m_zap (r_MD_4 R) 181 none) 177 12 (some (23, 2, 181)))) (P := (True ∧ vp_in 0 2) ∧ vp_in 1 2) [(.dup, (0, 0, 0, 0, 0)), (.iconst 0, (0, 0, 0, 0, 0)), (.bipush 98, (0, 0, 0, 98, 0)), (.castore, (0, 0, 0, 0, 0)), (.dup, (0, 0, 0, 0, 0)), (.iconst 1, (0, 0, 0, 1, 0)), (.bipush 121, (0, 0, 0, 121, 0)), (.castore, (0, 0, 0, 0, 0)), (.putfield 24, (12, 12, 3, 0, 0))] [] (by decide +kernel) rfl ⟨⟨trivial, vin (by decide)⟩, vin (by decide)⟩ h
def l_MD_6 (L : List (Nat × Nat)) : List (Nat × Nat) := l_MD_5 L ++ [(23, 5)]
def i_MD_6 (I : MI) : MI := m_up (m_up (m_up (m_up (m_up (m_zap (i_MD_5 I) 182 0) 182 0 (vp_nar .char 115)) 182 1 (vp_nar .char 116)) 182 2 (vp_nar .char 101)) 182 3 (vp_nar .char 101)) 182 4 (vp_nar .char 112)
def j_MD_6 (J : MJ) : MJ := m_zap (j_MD_5 J) 182 0
def r_MD_6 (R : MRR) : MRR := m_up (m_zap (r_MD_5 R) 182 none) 177 13 (some (23, 5, 182))
theorem len_MD_6 {L : List (Nat × Nat)} (h : L.length = 178) : (l_MD_6 L).length = 183 := len_s (len_MD_5 h)
theorem md_5 (hL : L.length = 178) (h : m_B G R0 M_MD_init Q rc rs 107 [some (mR (12, 0, 177))] [] (l_MD_6 L, i_MD_6 I, j_MD_6 J, r_MD_6 R)) : m_B G R0 M_MD_init Q (rc + 1) (rs + 5) 75 [some (mR (12, 0, 177))] [] (l_MD_5 L, i_MD_5 I, j_MD_5 J, r_MD_5 R) := by
  refine b_blk (pc' := 77) (ls' := [some (mR (12, 0, 177))]) (st' := [mI 5, mR (12, 0, 177)]) (S' := (l_MD_5 L, i_MD_5 I, j_MD_5 J, r_MD_5 R)) (P := True) [(.aload_n 0, (0, 0, 0, 0, 0)), (.iconst 5, (0, 0, 0, 5, 0))] [] (by decide +kernel) rfl trivial ?_
  refine b_newaT (t := .char) (N := 5) (n := 182) (by decide +kernel) m_arr_char (by decide) (by decide) (by decide) (by decide) (len_MD_5 hL) rfl rfl ?_
  exact b_blk (pc' := 107) (ls' := [some (mR (12, 0, 177))]) (st' := []) (S' := (l_MD_5 L ++ [(23, 5)], m_up (m_up (m_up (m_up (m_up (m_zap (i_MD_5 I) 182 0) 182 0 (vp_nar .char 115)) 182 1 (vp_nar .char 116)) 182 2 (vp_nar .char 101)) 182 3 (vp_nar .char 101)) 182 4 (vp_nar .char 112), m_zap (j_MD_5 J) 182 0, m_up (m_zap (r_MD_5 R) 182 none) 177 13 (some (23, 5, 182)))) (P := ((((True ∧ vp_in 0 5) ∧ vp_in 1 5) ∧ vp_in 2 5) ∧ vp_in 3 5) ∧ vp_in 4 5) [(.dup, (0, 0, 0, 0, 0)), (.iconst 0, (0, 0, 0, 0, 0)), (.bipush 115, (0, 0, 0, 115, 0)), (.castore, (0, 0, 0, 0, 0)), (.dup, (0, 0, 0, 0, 0)), (.iconst 1, (0, 0, 0, 1, 0)), (.bipush 116, (0, 0, 0, 116, 0)), (.castore, (0, 0, 0, 0, 0)), (.dup, (0, 0, 0, 0, 0)), (.iconst 2, (0, 0, 0, 2, 0)), (.bipush 101, (0, 0, 0, 101, 0)), (.castore, (0, 0, 0, 0, 0)), (.dup, (0, 0, 0, 0, 0)), (.iconst 3, (0, 0, 0, 3, 0)), (.bipush 101, (0, 0, 0, 101, 0)), (.castore, (0, 0, 0, 0, 0)), (.dup, (0, 0, 0, 0, 0)), (.iconst 4, (0, 0, 0, 4, 0)), (.bipush 112, (0, 0, 0, 112, 0)), (.castore, (0, 0, 0, 0, 0)), (.putfield 27, (12, 13, 3, 0, 0))] [] (by decide +kernel) rfl ⟨⟨⟨⟨⟨trivial, vin (by decide)⟩, vin (by decide)⟩, vin (by decide)⟩, vin (by decide)⟩, vin (by decide)⟩ h
def l_MD_7 (L : List (Nat × Nat)) : List (Nat × Nat) := l_MD_6 L ++ [(23, 4)]
def i_MD_7 (I : MI) : MI := m_up (m_up (m_up (m_up (m_zap (i_MD_6 I) 183 0) 183 0 (vp_nar .char 105)) 183 1 (vp_nar .char 114)) 183 2 (vp_nar .char 111)) 183 3 (vp_nar .char 110)
def j_MD_7 (J : MJ) : MJ := m_zap (j_MD_6 J) 183 0
def r_MD_7 (R : MRR) : MRR := m_up (m_zap (r_MD_6 R) 183 none) 177 14 (some (23, 4, 183))
theorem len_MD_7 {L : List (Nat × Nat)} (h : L.length = 178) : (l_MD_7 L).length = 184 := len_s (len_MD_6 h)
theorem md_6 (hL : L.length = 178) (h : m_B G R0 M_MD_init Q rc rs 134 [some (mR (12, 0, 177))] [] (l_MD_7 L, i_MD_7 I, j_MD_7 J, r_MD_7 R)) : m_B G R0 M_MD_init Q (rc + 1) (rs + 4) 107 [some (mR (12, 0, 177))] [] (l_MD_6 L, i_MD_6 I, j_MD_6 J, r_MD_6 R) := by
  refine b_blk (pc' := 109) (ls' := [some (mR (12, 0, 177))]) (st' := [mI 4, mR (12, 0, 177)]) (S' := (l_MD_6 L, i_MD_6 I, j_MD_6 J, r_MD_6 R)) (P := True) [(.aload_n 0, (0, 0, 0, 0, 0)), (.iconst 4, (0, 0, 0, 4, 0))] [] (by decide +kernel) rfl trivial ?_
  refine b_newaT (t := .char) (N := 4) (n := 183) (by decide +kernel) m_arr_char (by decide) (by decide) (by decide) (by decide) (len_MD_6 hL) rfl rfl ?_
  exact b_blk (pc' := 134) (ls' := [some (mR (12, 0, 177))]) (st' := []) (S' := (l_MD_6 L ++ [(23, 4)], m_up (m_up (m_up (m_up (m_zap (i_MD_6 I) 183 0) 183 0 (vp_nar .char 105)) 183 1 (vp_nar .char 114)) 183 2 (vp_nar .char 111)) 183 3 (vp_nar .char 110), m_zap (j_MD_6 J) 183 0, m_up (m_zap (r_MD_6 R) 183 none) 177 14 (some (23, 4, 183)))) (P := (((True ∧ vp_in 0 4) ∧ vp_in 1 4) ∧ vp_in 2 4) ∧ vp_in 3 4) [(.dup, (0, 0, 0, 0, 0)), (.iconst 0, (0, 0, 0, 0, 0)), (.bipush 105, (0, 0, 0, 105, 0)), (.castore, (0, 0, 0, 0, 0)), (.dup, (0, 0, 0, 0, 0)), (.iconst 1, (0, 0, 0, 1, 0)), (.bipush 114, (0, 0, 0, 114, 0)), (.castore, (0, 0, 0, 0, 0)), (.dup, (0, 0, 0, 0, 0)), (.iconst 2, (0, 0, 0, 2, 0)), (.bipush 111, (0, 0, 0, 111, 0)), (.castore, (0, 0, 0, 0, 0)), (.dup, (0, 0, 0, 0, 0)), (.iconst 3, (0, 0, 0, 3, 0)), (.bipush 110, (0, 0, 0, 110, 0)), (.castore, (0, 0, 0, 0, 0)), (.putfield 30, (12, 14, 3, 0, 0))] [] (by decide +kernel) rfl ⟨⟨⟨⟨trivial, vin (by decide)⟩, vin (by decide)⟩, vin (by decide)⟩, vin (by decide)⟩ h
def l_MD_8 (L : List (Nat × Nat)) : List (Nat × Nat) := l_MD_7 L ++ [(23, 5)]
def i_MD_8 (I : MI) : MI := m_up (m_up (m_up (m_up (m_up (m_zap (i_MD_7 I) 184 0) 184 0 (vp_nar .char 102)) 184 1 (vp_nar .char 101)) 184 2 (vp_nar .char 110)) 184 3 (vp_nar .char 99)) 184 4 (vp_nar .char 101)
def j_MD_8 (J : MJ) : MJ := m_zap (j_MD_7 J) 184 0
def r_MD_8 (R : MRR) : MRR := m_up (m_zap (r_MD_7 R) 184 none) 177 15 (some (23, 5, 184))
theorem len_MD_8 {L : List (Nat × Nat)} (h : L.length = 178) : (l_MD_8 L).length = 185 := len_s (len_MD_7 h)
theorem md_7 (hL : L.length = 178) (h : m_B G R0 M_MD_init Q rc rs 166 [some (mR (12, 0, 177))] [] (l_MD_8 L, i_MD_8 I, j_MD_8 J, r_MD_8 R)) : m_B G R0 M_MD_init Q (rc + 1) (rs + 5) 134 [some (mR (12, 0, 177))] [] (l_MD_7 L, i_MD_7 I, j_MD_7 J, r_MD_7 R) := by
  refine b_blk (pc' := 136) (ls' := [some (mR (12, 0, 177))]) (st' := [mI 5, mR (12, 0, 177)]) (S' := (l_MD_7 L, i_MD_7 I, j_MD_7 J, r_MD_7 R)) (P := True) [(.aload_n 0, (0, 0, 0, 0, 0)), (.iconst 5, (0, 0, 0, 5, 0))] [] (by decide +kernel) rfl trivial ?_
  refine b_newaT (t := .char) (N := 5) (n := 184) (by decide +kernel) m_arr_char (by decide) (by decide) (by decide) (by decide) (len_MD_7 hL) rfl rfl ?_
  exact b_blk (pc' := 166) (ls' := [some (mR (12, 0, 177))]) (st' := []) (S' := (l_MD_7 L ++ [(23, 5)], m_up (m_up (m_up (m_up (m_up (m_zap (i_MD_7 I) 184 0) 184 0 (vp_nar .char 102)) 184 1 (vp_nar .char 101)) 184 2 (vp_nar .char 110)) 184 3 (vp_nar .char 99)) 184 4 (vp_nar .char 101), m_zap (j_MD_7 J) 184 0, m_up (m_zap (r_MD_7 R) 184 none) 177 15 (some (23, 5, 184)))) (P := ((((True ∧ vp_in 0 5) ∧ vp_in 1 5) ∧ vp_in 2 5) ∧ vp_in 3 5) ∧ vp_in 4 5) [(.dup, (0, 0, 0, 0, 0)), (.iconst 0, (0, 0, 0, 0, 0)), (.bipush 102, (0, 0, 0, 102, 0)), (.castore, (0, 0, 0, 0, 0)), (.dup, (0, 0, 0, 0, 0)), (.iconst 1, (0, 0, 0, 1, 0)), (.bipush 101, (0, 0, 0, 101, 0)), (.castore, (0, 0, 0, 0, 0)), (.dup, (0, 0, 0, 0, 0)), (.iconst 2, (0, 0, 0, 2, 0)), (.bipush 110, (0, 0, 0, 110, 0)), (.castore, (0, 0, 0, 0, 0)), (.dup, (0, 0, 0, 0, 0)), (.iconst 3, (0, 0, 0, 3, 0)), (.bipush 99, (0, 0, 0, 99, 0)), (.castore, (0, 0, 0, 0, 0)), (.dup, (0, 0, 0, 0, 0)), (.iconst 4, (0, 0, 0, 4, 0)), (.bipush 101, (0, 0, 0, 101, 0)), (.castore, (0, 0, 0, 0, 0)), (.putfield 33, (12, 15, 3, 0, 0))] [] (by decide +kernel) rfl ⟨⟨⟨⟨⟨trivial, vin (by decide)⟩, vin (by decide)⟩, vin (by decide)⟩, vin (by decide)⟩, vin (by decide)⟩ h
def l_MD_9 (L : List (Nat × Nat)) : List (Nat × Nat) := l_MD_8 L ++ [(23, 3)]
def i_MD_9 (I : MI) : MI := m_up (m_up (m_up (m_zap (i_MD_8 I) 185 0) 185 0 (vp_nar .char 114)) 185 1 (vp_nar .char 111)) 185 2 (vp_nar .char 119)
def j_MD_9 (J : MJ) : MJ := m_zap (j_MD_8 J) 185 0
def r_MD_9 (R : MRR) : MRR := m_up (m_zap (r_MD_8 R) 185 none) 177 16 (some (23, 3, 185))
theorem len_MD_9 {L : List (Nat × Nat)} (h : L.length = 178) : (l_MD_9 L).length = 186 := len_s (len_MD_8 h)
theorem md_8 (hL : L.length = 178) (h : m_B G R0 M_MD_init Q rc rs 188 [some (mR (12, 0, 177))] [] (l_MD_9 L, i_MD_9 I, j_MD_9 J, r_MD_9 R)) : m_B G R0 M_MD_init Q (rc + 1) (rs + 3) 166 [some (mR (12, 0, 177))] [] (l_MD_8 L, i_MD_8 I, j_MD_8 J, r_MD_8 R) := by
  refine b_blk (pc' := 168) (ls' := [some (mR (12, 0, 177))]) (st' := [mI 3, mR (12, 0, 177)]) (S' := (l_MD_8 L, i_MD_8 I, j_MD_8 J, r_MD_8 R)) (P := True) [(.aload_n 0, (0, 0, 0, 0, 0)), (.iconst 3, (0, 0, 0, 3, 0))] [] (by decide +kernel) rfl trivial ?_
  refine b_newaT (t := .char) (N := 3) (n := 185) (by decide +kernel) m_arr_char (by decide) (by decide) (by decide) (by decide) (len_MD_8 hL) rfl rfl ?_
  exact b_blk (pc' := 188) (ls' := [some (mR (12, 0, 177))]) (st' := []) (S' := (l_MD_8 L ++ [(23, 3)], m_up (m_up (m_up (m_zap (i_MD_8 I) 185 0) 185 0 (vp_nar .char 114)) 185 1 (vp_nar .char 111)) 185 2 (vp_nar .char 119), m_zap (j_MD_8 J) 185 0, m_up (m_zap (r_MD_8 R) 185 none) 177 16 (some (23, 3, 185)))) (P := ((True ∧ vp_in 0 3) ∧ vp_in 1 3) ∧ vp_in 2 3) [(.dup, (0, 0, 0, 0, 0)), (.iconst 0, (0, 0, 0, 0, 0)), (.bipush 114, (0, 0, 0, 114, 0)), (.castore, (0, 0, 0, 0, 0)), (.dup, (0, 0, 0, 0, 0)), (.iconst 1, (0, 0, 0, 1, 0)), (.bipush 111, (0, 0, 0, 111, 0)), (.castore, (0, 0, 0, 0, 0)), (.dup, (0, 0, 0, 0, 0)), (.iconst 2, (0, 0, 0, 2, 0)), (.bipush 119, (0, 0, 0, 119, 0)), (.castore, (0, 0, 0, 0, 0)), (.putfield 36, (12, 16, 3, 0, 0))] [] (by decide +kernel) rfl ⟨⟨⟨trivial, vin (by decide)⟩, vin (by decide)⟩, vin (by decide)⟩ h
def l_MD_10 (L : List (Nat × Nat)) : List (Nat × Nat) := l_MD_9 L ++ [(23, 3)]
def i_MD_10 (I : MI) : MI := m_up (m_up (m_up (m_zap (i_MD_9 I) 186 0) 186 0 (vp_nar .char 97)) 186 1 (vp_nar .char 103)) 186 2 (vp_nar .char 101)
def j_MD_10 (J : MJ) : MJ := m_zap (j_MD_9 J) 186 0
def r_MD_10 (R : MRR) : MRR := m_up (m_zap (r_MD_9 R) 186 none) 177 17 (some (23, 3, 186))
theorem len_MD_10 {L : List (Nat × Nat)} (h : L.length = 178) : (l_MD_10 L).length = 187 := len_s (len_MD_9 h)
theorem md_9 (hL : L.length = 178) (h : m_B G R0 M_MD_init Q rc rs 210 [some (mR (12, 0, 177))] [] (l_MD_10 L, i_MD_10 I, j_MD_10 J, r_MD_10 R)) : m_B G R0 M_MD_init Q (rc + 1) (rs + 3) 188 [some (mR (12, 0, 177))] [] (l_MD_9 L, i_MD_9 I, j_MD_9 J, r_MD_9 R) := by
  refine b_blk (pc' := 190) (ls' := [some (mR (12, 0, 177))]) (st' := [mI 3, mR (12, 0, 177)]) (S' := (l_MD_9 L, i_MD_9 I, j_MD_9 J, r_MD_9 R)) (P := True) [(.aload_n 0, (0, 0, 0, 0, 0)), (.iconst 3, (0, 0, 0, 3, 0))] [] (by decide +kernel) rfl trivial ?_
  refine b_newaT (t := .char) (N := 3) (n := 186) (by decide +kernel) m_arr_char (by decide) (by decide) (by decide) (by decide) (len_MD_9 hL) rfl rfl ?_
  exact b_blk (pc' := 210) (ls' := [some (mR (12, 0, 177))]) (st' := []) (S' := (l_MD_9 L ++ [(23, 3)], m_up (m_up (m_up (m_zap (i_MD_9 I) 186 0) 186 0 (vp_nar .char 97)) 186 1 (vp_nar .char 103)) 186 2 (vp_nar .char 101), m_zap (j_MD_9 J) 186 0, m_up (m_zap (r_MD_9 R) 186 none) 177 17 (some (23, 3, 186)))) (P := ((True ∧ vp_in 0 3) ∧ vp_in 1 3) ∧ vp_in 2 3) [(.dup, (0, 0, 0, 0, 0)), (.iconst 0, (0, 0, 0, 0, 0)), (.bipush 97, (0, 0, 0, 97, 0)), (.castore, (0, 0, 0, 0, 0)), (.dup, (0, 0, 0, 0, 0)), (.iconst 1, (0, 0, 0, 1, 0)), (.bipush 103, (0, 0, 0, 103, 0)), (.castore, (0, 0, 0, 0, 0)), (.dup, (0, 0, 0, 0, 0)), (.iconst 2, (0, 0, 0, 2, 0)), (.bipush 101, (0, 0, 0, 101, 0)), (.castore, (0, 0, 0, 0, 0)), (.putfield 39, (12, 17, 3, 0, 0))] [] (by decide +kernel) rfl ⟨⟨⟨trivial, vin (by decide)⟩, vin (by decide)⟩, vin (by decide)⟩ h
def l_MD_11 (L : List (Nat × Nat)) : List (Nat × Nat) := l_MD_10 L ++ [(23, 5)]
def i_MD_11 (I : MI) : MI := m_up (m_up (m_up (m_up (m_up (m_zap (i_MD_10 I) 187 0) 187 0 (vp_nar .char 115)) 187 1 (vp_nar .char 116)) 187 2 (vp_nar .char 97)) 187 3 (vp_nar .char 107)) 187 4 (vp_nar .char 101)
def j_MD_11 (J : MJ) : MJ := m_zap (j_MD_10 J) 187 0
def r_MD_11 (R : MRR) : MRR := m_up (m_zap (r_MD_10 R) 187 none) 177 18 (some (23, 5, 187))
theorem len_MD_11 {L : List (Nat × Nat)} (h : L.length = 178) : (l_MD_11 L).length = 188 := len_s (len_MD_10 h)
theorem md_10 (hL : L.length = 178) (h : m_B G R0 M_MD_init Q rc rs 242 [some (mR (12, 0, 177))] [] (l_MD_11 L, i_MD_11 I, j_MD_11 J, r_MD_11 R)) : m_B G R0 M_MD_init Q (rc + 1) (rs + 5) 210 [some (mR (12, 0, 177))] [] (l_MD_10 L, i_MD_10 I, j_MD_10 J, r_MD_10 R) := by
  refine b_blk (pc' := 212) (ls' := [some (mR (12, 0, 177))]) (st' := [mI 5, mR (12, 0, 177)]) (S' := (l_MD_10 L, i_MD_10 I, j_MD_10 J, r_MD_10 R)) (P := True) [(.aload_n 0, (0, 0, 0, 0, 0)), (.iconst 5, (0, 0, 0, 5, 0))] [] (by decide +kernel) rfl trivial ?_
  refine b_newaT (t := .char) (N := 5) (n := 187) (by decide +kernel) m_arr_char (by decide) (by decide) (by decide) (by decide) (len_MD_10 hL) rfl rfl ?_
  exact b_blk (pc' := 242) (ls' := [some (mR (12, 0, 177))]) (st' := []) (S' := (l_MD_10 L ++ [(23, 5)], m_up (m_up (m_up (m_up (m_up (m_zap (i_MD_10 I) 187 0) 187 0 (vp_nar .char 115)) 187 1 (vp_nar .char 116)) 187 2 (vp_nar .char 97)) 187 3 (vp_nar .char 107)) 187 4 (vp_nar .char 101), m_zap (j_MD_10 J) 187 0, m_up (m_zap (r_MD_10 R) 187 none) 177 18 (some (23, 5, 187)))) (P := ((((True ∧ vp_in 0 5) ∧ vp_in 1 5) ∧ vp_in 2 5) ∧ vp_in 3 5) ∧ vp_in 4 5) [(.dup, (0, 0, 0, 0, 0)), (.iconst 0, (0, 0, 0, 0, 0)), (.bipush 115, (0, 0, 0, 115, 0)), (.castore, (0, 0, 0, 0, 0)), (.dup, (0, 0, 0, 0, 0)), (.iconst 1, (0, 0, 0, 1, 0)), (.bipush 116, (0, 0, 0, 116, 0)), (.castore, (0, 0, 0, 0, 0)), (.dup, (0, 0, 0, 0, 0)), (.iconst 2, (0, 0, 0, 2, 0)), (.bipush 97, (0, 0, 0, 97, 0)), (.castore, (0, 0, 0, 0, 0)), (.dup, (0, 0, 0, 0, 0)), (.iconst 3, (0, 0, 0, 3, 0)), (.bipush 107, (0, 0, 0, 107, 0)), (.castore, (0, 0, 0, 0, 0)), (.dup, (0, 0, 0, 0, 0)), (.iconst 4, (0, 0, 0, 4, 0)), (.bipush 101, (0, 0, 0, 101, 0)), (.castore, (0, 0, 0, 0, 0)), (.putfield 42, (12, 18, 3, 0, 0))] [] (by decide +kernel) rfl ⟨⟨⟨⟨⟨trivial, vin (by decide)⟩, vin (by decide)⟩, vin (by decide)⟩, vin (by decide)⟩, vin (by decide)⟩ h
def l_MD_12 (L : List (Nat × Nat)) : List (Nat × Nat) := l_MD_11 L ++ [(23, 5)]
def i_MD_12 (I : MI) : MI := m_up (m_up (m_up (m_up (m_up (m_zap (i_MD_11 I) 188 0) 188 0 (vp_nar .char 119)) 188 1 (vp_nar .char 97)) 188 2 (vp_nar .char 108)) 188 3 (vp_nar .char 107)) 188 4 (vp_nar .char 115)
def j_MD_12 (J : MJ) : MJ := m_zap (j_MD_11 J) 188 0
def r_MD_12 (R : MRR) : MRR := m_up (m_zap (r_MD_11 R) 188 none) 177 19 (some (23, 5, 188))
theorem len_MD_12 {L : List (Nat × Nat)} (h : L.length = 178) : (l_MD_12 L).length = 189 := len_s (len_MD_11 h)
theorem md_11 (hL : L.length = 178) (h : m_B G R0 M_MD_init Q rc rs 274 [some (mR (12, 0, 177))] [] (l_MD_12 L, i_MD_12 I, j_MD_12 J, r_MD_12 R)) : m_B G R0 M_MD_init Q (rc + 1) (rs + 5) 242 [some (mR (12, 0, 177))] [] (l_MD_11 L, i_MD_11 I, j_MD_11 J, r_MD_11 R) := by
  refine b_blk (pc' := 244) (ls' := [some (mR (12, 0, 177))]) (st' := [mI 5, mR (12, 0, 177)]) (S' := (l_MD_11 L, i_MD_11 I, j_MD_11 J, r_MD_11 R)) (P := True) [(.aload_n 0, (0, 0, 0, 0, 0)), (.iconst 5, (0, 0, 0, 5, 0))] [] (by decide +kernel) rfl trivial ?_
  refine b_newaT (t := .char) (N := 5) (n := 188) (by decide +kernel) m_arr_char (by decide) (by decide) (by decide) (by decide) (len_MD_11 hL) rfl rfl ?_
  exact b_blk (pc' := 274) (ls' := [some (mR (12, 0, 177))]) (st' := []) (S' := (l_MD_11 L ++ [(23, 5)], m_up (m_up (m_up (m_up (m_up (m_zap (i_MD_11 I) 188 0) 188 0 (vp_nar .char 119)) 188 1 (vp_nar .char 97)) 188 2 (vp_nar .char 108)) 188 3 (vp_nar .char 107)) 188 4 (vp_nar .char 115), m_zap (j_MD_11 J) 188 0, m_up (m_zap (r_MD_11 R) 188 none) 177 19 (some (23, 5, 188)))) (P := ((((True ∧ vp_in 0 5) ∧ vp_in 1 5) ∧ vp_in 2 5) ∧ vp_in 3 5) ∧ vp_in 4 5) [(.dup, (0, 0, 0, 0, 0)), (.iconst 0, (0, 0, 0, 0, 0)), (.bipush 119, (0, 0, 0, 119, 0)), (.castore, (0, 0, 0, 0, 0)), (.dup, (0, 0, 0, 0, 0)), (.iconst 1, (0, 0, 0, 1, 0)), (.bipush 97, (0, 0, 0, 97, 0)), (.castore, (0, 0, 0, 0, 0)), (.dup, (0, 0, 0, 0, 0)), (.iconst 2, (0, 0, 0, 2, 0)), (.bipush 108, (0, 0, 0, 108, 0)), (.castore, (0, 0, 0, 0, 0)), (.dup, (0, 0, 0, 0, 0)), (.iconst 3, (0, 0, 0, 3, 0)), (.bipush 107, (0, 0, 0, 107, 0)), (.castore, (0, 0, 0, 0, 0)), (.dup, (0, 0, 0, 0, 0)), (.iconst 4, (0, 0, 0, 4, 0)), (.bipush 115, (0, 0, 0, 115, 0)), (.castore, (0, 0, 0, 0, 0)), (.putfield 45, (12, 19, 3, 0, 0))] [] (by decide +kernel) rfl ⟨⟨⟨⟨⟨trivial, vin (by decide)⟩, vin (by decide)⟩, vin (by decide)⟩, vin (by decide)⟩, vin (by decide)⟩ h
def l_MD_13 (L : List (Nat × Nat)) : List (Nat × Nat) := l_MD_12 L ++ [(23, 5)]
def i_MD_13 (I : MI) : MI := m_up (m_up (m_up (m_up (m_up (m_zap (i_MD_12 I) 189 0) 189 0 (vp_nar .char 114)) 189 1 (vp_nar .char 111)) 189 2 (vp_nar .char 111)) 189 3 (vp_nar .char 116)) 189 4 (vp_nar .char 115)
def j_MD_13 (J : MJ) : MJ := m_zap (j_MD_12 J) 189 0
def r_MD_13 (R : MRR) : MRR := m_up (m_zap (r_MD_12 R) 189 none) 177 20 (some (23, 5, 189))
theorem len_MD_13 {L : List (Nat × Nat)} (h : L.length = 178) : (l_MD_13 L).length = 190 := len_s (len_MD_12 h)
theorem md_12 (hL : L.length = 178) (h : m_B G R0 M_MD_init Q rc rs 306 [some (mR (12, 0, 177))] [] (l_MD_13 L, i_MD_13 I, j_MD_13 J, r_MD_13 R)) : m_B G R0 M_MD_init Q (rc + 1) (rs + 5) 274 [some (mR (12, 0, 177))] [] (l_MD_12 L, i_MD_12 I, j_MD_12 J, r_MD_12 R) := by
  refine b_blk (pc' := 276) (ls' := [some (mR (12, 0, 177))]) (st' := [mI 5, mR (12, 0, 177)]) (S' := (l_MD_12 L, i_MD_12 I, j_MD_12 J, r_MD_12 R)) (P := True) [(.aload_n 0, (0, 0, 0, 0, 0)), (.iconst 5, (0, 0, 0, 5, 0))] [] (by decide +kernel) rfl trivial ?_
  refine b_newaT (t := .char) (N := 5) (n := 189) (by decide +kernel) m_arr_char (by decide) (by decide) (by decide) (by decide) (len_MD_12 hL) rfl rfl ?_
  exact b_blk (pc' := 306) (ls' := [some (mR (12, 0, 177))]) (st' := []) (S' := (l_MD_12 L ++ [(23, 5)], m_up (m_up (m_up (m_up (m_up (m_zap (i_MD_12 I) 189 0) 189 0 (vp_nar .char 114)) 189 1 (vp_nar .char 111)) 189 2 (vp_nar .char 111)) 189 3 (vp_nar .char 116)) 189 4 (vp_nar .char 115), m_zap (j_MD_12 J) 189 0, m_up (m_zap (r_MD_12 R) 189 none) 177 20 (some (23, 5, 189)))) (P := ((((True ∧ vp_in 0 5) ∧ vp_in 1 5) ∧ vp_in 2 5) ∧ vp_in 3 5) ∧ vp_in 4 5) [(.dup, (0, 0, 0, 0, 0)), (.iconst 0, (0, 0, 0, 0, 0)), (.bipush 114, (0, 0, 0, 114, 0)), (.castore, (0, 0, 0, 0, 0)), (.dup, (0, 0, 0, 0, 0)), (.iconst 1, (0, 0, 0, 1, 0)), (.bipush 111, (0, 0, 0, 111, 0)), (.castore, (0, 0, 0, 0, 0)), (.dup, (0, 0, 0, 0, 0)), (.iconst 2, (0, 0, 0, 2, 0)), (.bipush 111, (0, 0, 0, 111, 0)), (.castore, (0, 0, 0, 0, 0)), (.dup, (0, 0, 0, 0, 0)), (.iconst 3, (0, 0, 0, 3, 0)), (.bipush 116, (0, 0, 0, 116, 0)), (.castore, (0, 0, 0, 0, 0)), (.dup, (0, 0, 0, 0, 0)), (.iconst 4, (0, 0, 0, 4, 0)), (.bipush 115, (0, 0, 0, 115, 0)), (.castore, (0, 0, 0, 0, 0)), (.putfield 48, (12, 20, 3, 0, 0))] [] (by decide +kernel) rfl ⟨⟨⟨⟨⟨trivial, vin (by decide)⟩, vin (by decide)⟩, vin (by decide)⟩, vin (by decide)⟩, vin (by decide)⟩ h
def l_MD_14 (L : List (Nat × Nat)) : List (Nat × Nat) := l_MD_13 L ++ [(23, 4)]
def i_MD_14 (I : MI) : MI := m_up (m_up (m_up (m_up (m_zap (i_MD_13 I) 190 0) 190 0 (vp_nar .char 116)) 190 1 (vp_nar .char 105)) 190 2 (vp_nar .char 100)) 190 3 (vp_nar .char 101)
def j_MD_14 (J : MJ) : MJ := m_zap (j_MD_13 J) 190 0
def r_MD_14 (R : MRR) : MRR := m_up (m_zap (r_MD_13 R) 190 none) 177 21 (some (23, 4, 190))
theorem len_MD_14 {L : List (Nat × Nat)} (h : L.length = 178) : (l_MD_14 L).length = 191 := len_s (len_MD_13 h)
theorem md_13 (hL : L.length = 178) (h : m_B G R0 M_MD_init Q rc rs 333 [some (mR (12, 0, 177))] [] (l_MD_14 L, i_MD_14 I, j_MD_14 J, r_MD_14 R)) : m_B G R0 M_MD_init Q (rc + 1) (rs + 4) 306 [some (mR (12, 0, 177))] [] (l_MD_13 L, i_MD_13 I, j_MD_13 J, r_MD_13 R) := by
  refine b_blk (pc' := 308) (ls' := [some (mR (12, 0, 177))]) (st' := [mI 4, mR (12, 0, 177)]) (S' := (l_MD_13 L, i_MD_13 I, j_MD_13 J, r_MD_13 R)) (P := True) [(.aload_n 0, (0, 0, 0, 0, 0)), (.iconst 4, (0, 0, 0, 4, 0))] [] (by decide +kernel) rfl trivial ?_
  refine b_newaT (t := .char) (N := 4) (n := 190) (by decide +kernel) m_arr_char (by decide) (by decide) (by decide) (by decide) (len_MD_13 hL) rfl rfl ?_
  exact b_blk (pc' := 333) (ls' := [some (mR (12, 0, 177))]) (st' := []) (S' := (l_MD_13 L ++ [(23, 4)], m_up (m_up (m_up (m_up (m_zap (i_MD_13 I) 190 0) 190 0 (vp_nar .char 116)) 190 1 (vp_nar .char 105)) 190 2 (vp_nar .char 100)) 190 3 (vp_nar .char 101), m_zap (j_MD_13 J) 190 0, m_up (m_zap (r_MD_13 R) 190 none) 177 21 (some (23, 4, 190)))) (P := (((True ∧ vp_in 0 4) ∧ vp_in 1 4) ∧ vp_in 2 4) ∧ vp_in 3 4) [(.dup, (0, 0, 0, 0, 0)), (.iconst 0, (0, 0, 0, 0, 0)), (.bipush 116, (0, 0, 0, 116, 0)), (.castore, (0, 0, 0, 0, 0)), (.dup, (0, 0, 0, 0, 0)), (.iconst 1, (0, 0, 0, 1, 0)), (.bipush 105, (0, 0, 0, 105, 0)), (.castore, (0, 0, 0, 0, 0)), (.dup, (0, 0, 0, 0, 0)), (.iconst 2, (0, 0, 0, 2, 0)), (.bipush 100, (0, 0, 0, 100, 0)), (.castore, (0, 0, 0, 0, 0)), (.dup, (0, 0, 0, 0, 0)), (.iconst 3, (0, 0, 0, 3, 0)), (.bipush 101, (0, 0, 0, 101, 0)), (.castore, (0, 0, 0, 0, 0)), (.putfield 51, (12, 21, 3, 0, 0))] [] (by decide +kernel) rfl ⟨⟨⟨⟨trivial, vin (by decide)⟩, vin (by decide)⟩, vin (by decide)⟩, vin (by decide)⟩ h
def l_MD_15 (L : List (Nat × Nat)) : List (Nat × Nat) := l_MD_14 L ++ [(23, 4)]
def i_MD_15 (I : MI) : MI := m_up (m_up (m_up (m_up (m_zap (i_MD_14 I) 191 0) 191 0 (vp_nar .char 121)) 191 1 (vp_nar .char 101)) 191 2 (vp_nar .char 97)) 191 3 (vp_nar .char 114)
def j_MD_15 (J : MJ) : MJ := m_zap (j_MD_14 J) 191 0
def r_MD_15 (R : MRR) : MRR := m_up (m_zap (r_MD_14 R) 191 none) 177 22 (some (23, 4, 191))
theorem len_MD_15 {L : List (Nat × Nat)} (h : L.length = 178) : (l_MD_15 L).length = 192 := len_s (len_MD_14 h)
theorem md_14 (hL : L.length = 178) (h : m_B G R0 M_MD_init Q rc rs 360 [some (mR (12, 0, 177))] [] (l_MD_15 L, i_MD_15 I, j_MD_15 J, r_MD_15 R)) : m_B G R0 M_MD_init Q (rc + 1) (rs + 4) 333 [some (mR (12, 0, 177))] [] (l_MD_14 L, i_MD_14 I, j_MD_14 J, r_MD_14 R) := by
  refine b_blk (pc' := 335) (ls' := [some (mR (12, 0, 177))]) (st' := [mI 4, mR (12, 0, 177)]) (S' := (l_MD_14 L, i_MD_14 I, j_MD_14 J, r_MD_14 R)) (P := True) [(.aload_n 0, (0, 0, 0, 0, 0)), (.iconst 4, (0, 0, 0, 4, 0))] [] (by decide +kernel) rfl trivial ?_
  refine b_newaT (t := .char) (N := 4) (n := 191) (by decide +kernel) m_arr_char (by decide) (by decide) (by decide) (by decide) (len_MD_14 hL) rfl rfl ?_
  exact b_blk (pc' := 360) (ls' := [some (mR (12, 0, 177))]) (st' := []) (S' := (l_MD_14 L ++ [(23, 4)], m_up (m_up (m_up (m_up (m_zap (i_MD_14 I) 191 0) 191 0 (vp_nar .char 121)) 191 1 (vp_nar .char 101)) 191 2 (vp_nar .char 97)) 191 3 (vp_nar .char 114), m_zap (j_MD_14 J) 191 0, m_up (m_zap (r_MD_14 R) 191 none) 177 22 (some (23, 4, 191)))) (P := (((True ∧ vp_in 0 4) ∧ vp_in 1 4) ∧ vp_in 2 4) ∧ vp_in 3 4) [(.dup, (0, 0, 0, 0, 0)), (.iconst 0, (0, 0, 0, 0, 0)), (.bipush 121, (0, 0, 0, 121, 0)), (.castore, (0, 0, 0, 0, 0)), (.dup, (0, 0, 0, 0, 0)), (.iconst 1, (0, 0, 0, 1, 0)), (.bipush 101, (0, 0, 0, 101, 0)), (.castore, (0, 0, 0, 0, 0)), (.dup, (0, 0, 0, 0, 0)), (.iconst 2, (0, 0, 0, 2, 0)), (.bipush 97, (0, 0, 0, 97, 0)), (.castore, (0, 0, 0, 0, 0)), (.dup, (0, 0, 0, 0, 0)), (.iconst 3, (0, 0, 0, 3, 0)), (.bipush 114, (0, 0, 0, 114, 0)), (.castore, (0, 0, 0, 0, 0)), (.putfield 54, (12, 22, 3, 0, 0))] [] (by decide +kernel) rfl ⟨⟨⟨⟨trivial, vin (by decide)⟩, vin (by decide)⟩, vin (by decide)⟩, vin (by decide)⟩ h
def l_MD_16 (L : List (Nat × Nat)) : List (Nat × Nat) := l_MD_15 L ++ [(23, 4)]
def i_MD_16 (I : MI) : MI := m_up (m_up (m_up (m_up (m_zap (i_MD_15 I) 192 0) 192 0 (vp_nar .char 108)) 192 1 (vp_nar .char 101)) 192 2 (vp_nar .char 102)) 192 3 (vp_nar .char 116)
def j_MD_16 (J : MJ) : MJ := m_zap (j_MD_15 J) 192 0
def r_MD_16 (R : MRR) : MRR := m_up (m_zap (r_MD_15 R) 192 none) 177 23 (some (23, 4, 192))
theorem len_MD_16 {L : List (Nat × Nat)} (h : L.length = 178) : (l_MD_16 L).length = 193 := len_s (len_MD_15 h)
theorem md_15 (hL : L.length = 178) (h : m_B G R0 M_MD_init Q rc rs 387 [some (mR (12, 0, 177))] [] (l_MD_16 L, i_MD_16 I, j_MD_16 J, r_MD_16 R)) : m_B G R0 M_MD_init Q (rc + 1) (rs + 4) 360 [some (mR (12, 0, 177))] [] (l_MD_15 L, i_MD_15 I, j_MD_15 J, r_MD_15 R) := by
  refine b_blk (pc' := 362) (ls' := [some (mR (12, 0, 177))]) (st' := [mI 4, mR (12, 0, 177)]) (S' := (l_MD_15 L, i_MD_15 I, j_MD_15 J, r_MD_15 R)) (P := True) [(.aload_n 0, (0, 0, 0, 0, 0)), (.iconst 4, (0, 0, 0, 4, 0))] [] (by decide +kernel) rfl trivial ?_
  refine b_newaT (t := .char) (N := 4) (n := 192) (by decide +kernel) m_arr_char (by decide) (by decide) (by decide) (by decide) (len_MD_15 hL) rfl rfl ?_
  exact b_blk (pc' := 387) (ls' := [some (mR (12, 0, 177))]) (st' := []) (S' := (l_MD_15 L ++ [(23, 4)], m_up (m_up (m_up (m_up (m_zap (i_MD_15 I) 192 0) 192 0 (vp_nar .char 108)) 192 1 (vp_nar .char 101)) 192 2 (vp_nar .char 102)) 192 3 (vp_nar .char 116), m_zap (j_MD_15 J) 192 0, m_up (m_zap (r_MD_15 R) 192 none) 177 23 (some (23, 4, 192)))) (P := (((True ∧ vp_in 0 4) ∧ vp_in 1 4) ∧ vp_in 2 4) ∧ vp_in 3 4) [(.dup, (0, 0, 0, 0, 0)), (.iconst 0, (0, 0, 0, 0, 0)), (.bipush 108, (0, 0, 0, 108, 0)), (.castore, (0, 0, 0, 0, 0)), (.dup, (0, 0, 0, 0, 0)), (.iconst 1, (0, 0, 0, 1, 0)), (.bipush 101, (0, 0, 0, 101, 0)), (.castore, (0, 0, 0, 0, 0)), (.dup, (0, 0, 0, 0, 0)), (.iconst 2, (0, 0, 0, 2, 0)), (.bipush 102, (0, 0, 0, 102, 0)), (.castore, (0, 0, 0, 0, 0)), (.dup, (0, 0, 0, 0, 0)), (.iconst 3, (0, 0, 0, 3, 0)), (.bipush 116, (0, 0, 0, 116, 0)), (.castore, (0, 0, 0, 0, 0)), (.putfield 57, (12, 23, 3, 0, 0))] [] (by decide +kernel) rfl ⟨⟨⟨⟨trivial, vin (by decide)⟩, vin (by decide)⟩, vin (by decide)⟩, vin (by decide)⟩ h
def l_MD_17 (L : List (Nat × Nat)) : List (Nat × Nat) := l_MD_16 L ++ [(23, 6)]
def i_MD_17 (I : MI) : MI := m_up (m_up (m_up (m_up (m_up (m_up (m_zap (i_MD_16 I) 193 0) 193 0 (vp_nar .char 110)) 193 1 (vp_nar .char 117)) 193 2 (vp_nar .char 109)) 193 3 (vp_nar .char 98)) 193 4 (vp_nar .char 101)) 193 5 (vp_nar .char 114)
def j_MD_17 (J : MJ) : MJ := m_zap (j_MD_16 J) 193 0
def r_MD_17 (R : MRR) : MRR := m_up (m_zap (r_MD_16 R) 193 none) 177 24 (some (23, 6, 193))
theorem len_MD_17 {L : List (Nat × Nat)} (h : L.length = 178) : (l_MD_17 L).length = 194 := len_s (len_MD_16 h)
theorem md_16 (hL : L.length = 178) (h : m_B G R0 M_MD_init Q rc rs 425 [some (mR (12, 0, 177))] [] (l_MD_17 L, i_MD_17 I, j_MD_17 J, r_MD_17 R)) : m_B G R0 M_MD_init Q (rc + 1) (rs + 6) 387 [some (mR (12, 0, 177))] [] (l_MD_16 L, i_MD_16 I, j_MD_16 J, r_MD_16 R) := by
  refine b_blk (pc' := 390) (ls' := [some (mR (12, 0, 177))]) (st' := [mI 6, mR (12, 0, 177)]) (S' := (l_MD_16 L, i_MD_16 I, j_MD_16 J, r_MD_16 R)) (P := True) [(.aload_n 0, (0, 0, 0, 0, 0)), (.bipush 6, (0, 0, 0, 6, 0))] [] (by decide +kernel) rfl trivial ?_
  refine b_newaT (t := .char) (N := 6) (n := 193) (by decide +kernel) m_arr_char (by decide) (by decide) (by decide) (by decide) (len_MD_16 hL) rfl rfl ?_
  exact b_blk (pc' := 425) (ls' := [some (mR (12, 0, 177))]) (st' := []) (S' := (l_MD_16 L ++ [(23, 6)], m_up (m_up (m_up (m_up (m_up (m_up (m_zap (i_MD_16 I) 193 0) 193 0 (vp_nar .char 110)) 193 1 (vp_nar .char 117)) 193 2 (vp_nar .char 109)) 193 3 (vp_nar .char 98)) 193 4 (vp_nar .char 101)) 193 5 (vp_nar .char 114), m_zap (j_MD_16 J) 193 0, m_up (m_zap (r_MD_16 R) 193 none) 177 24 (some (23, 6, 193)))) (P := (((((True ∧ vp_in 0 6) ∧ vp_in 1 6) ∧ vp_in 2 6) ∧ vp_in 3 6) ∧ vp_in 4 6) ∧ vp_in 5 6) [(.dup, (0, 0, 0, 0, 0)), (.iconst 0, (0, 0, 0, 0, 0)), (.bipush 110, (0, 0, 0, 110, 0)), (.castore, (0, 0, 0, 0, 0)), (.dup, (0, 0, 0, 0, 0)), (.iconst 1, (0, 0, 0, 1, 0)), (.bipush 117, (0, 0, 0, 117, 0)), (.castore, (0, 0, 0, 0, 0)), (.dup, (0, 0, 0, 0, 0)), (.iconst 2, (0, 0, 0, 2, 0)), (.bipush 109, (0, 0, 0, 109, 0)), (.castore, (0, 0, 0, 0, 0)), (.dup, (0, 0, 0, 0, 0)), (.iconst 3, (0, 0, 0, 3, 0)), (.bipush 98, (0, 0, 0, 98, 0)), (.castore, (0, 0, 0, 0, 0)), (.dup, (0, 0, 0, 0, 0)), (.iconst 4, (0, 0, 0, 4, 0)), (.bipush 101, (0, 0, 0, 101, 0)), (.castore, (0, 0, 0, 0, 0)), (.dup, (0, 0, 0, 0, 0)), (.iconst 5, (0, 0, 0, 5, 0)), (.bipush 114, (0, 0, 0, 114, 0)), (.castore, (0, 0, 0, 0, 0)), (.putfield 60, (12, 24, 3, 0, 0))] [] (by decide +kernel) rfl ⟨⟨⟨⟨⟨⟨trivial, vin (by decide)⟩, vin (by decide)⟩, vin (by decide)⟩, vin (by decide)⟩, vin (by decide)⟩, vin (by decide)⟩ h
def l_MD_18 (L : List (Nat × Nat)) : List (Nat × Nat) := l_MD_17 L ++ [(23, 5)]
def i_MD_18 (I : MI) : MI := m_up (m_up (m_up (m_up (m_up (m_zap (i_MD_17 I) 194 0) 194 0 (vp_nar .char 102)) 194 1 (vp_nar .char 105)) 194 2 (vp_nar .char 101)) 194 3 (vp_nar .char 108)) 194 4 (vp_nar .char 100)
def j_MD_18 (J : MJ) : MJ := m_zap (j_MD_17 J) 194 0
def r_MD_18 (R : MRR) : MRR := m_up (m_zap (r_MD_17 R) 194 none) 177 25 (some (23, 5, 194))
theorem len_MD_18 {L : List (Nat × Nat)} (h : L.length = 178) : (l_MD_18 L).length = 195 := len_s (len_MD_17 h)
theorem md_17 (hL : L.length = 178) (h : m_B G R0 M_MD_init Q rc rs 457 [some (mR (12, 0, 177))] [] (l_MD_18 L, i_MD_18 I, j_MD_18 J, r_MD_18 R)) : m_B G R0 M_MD_init Q (rc + 1) (rs + 5) 425 [some (mR (12, 0, 177))] [] (l_MD_17 L, i_MD_17 I, j_MD_17 J, r_MD_17 R) := by
  refine b_blk (pc' := 427) (ls' := [some (mR (12, 0, 177))]) (st' := [mI 5, mR (12, 0, 177)]) (S' := (l_MD_17 L, i_MD_17 I, j_MD_17 J, r_MD_17 R)) (P := True) [(.aload_n 0, (0, 0, 0, 0, 0)), (.iconst 5, (0, 0, 0, 5, 0))] [] (by decide +kernel) rfl trivial ?_
  refine b_newaT (t := .char) (N := 5) (n := 194) (by decide +kernel) m_arr_char (by decide) (by decide) (by decide) (by decide) (len_MD_17 hL) rfl rfl ?_
  exact b_blk (pc' := 457) (ls' := [some (mR (12, 0, 177))]) (st' := []) (S' := (l_MD_17 L ++ [(23, 5)], m_up (m_up (m_up (m_up (m_up (m_zap (i_MD_17 I) 194 0) 194 0 (vp_nar .char 102)) 194 1 (vp_nar .char 105)) 194 2 (vp_nar .char 101)) 194 3 (vp_nar .char 108)) 194 4 (vp_nar .char 100), m_zap (j_MD_17 J) 194 0, m_up (m_zap (r_MD_17 R) 194 none) 177 25 (some (23, 5, 194)))) (P := ((((True ∧ vp_in 0 5) ∧ vp_in 1 5) ∧ vp_in 2 5) ∧ vp_in 3 5) ∧ vp_in 4 5) [(.dup, (0, 0, 0, 0, 0)), (.iconst 0, (0, 0, 0, 0, 0)), (.bipush 102, (0, 0, 0, 102, 0)), (.castore, (0, 0, 0, 0, 0)), (.dup, (0, 0, 0, 0, 0)), (.iconst 1, (0, 0, 0, 1, 0)), (.bipush 105, (0, 0, 0, 105, 0)), (.castore, (0, 0, 0, 0, 0)), (.dup, (0, 0, 0, 0, 0)), (.iconst 2, (0, 0, 0, 2, 0)), (.bipush 101, (0, 0, 0, 101, 0)), (.castore, (0, 0, 0, 0, 0)), (.dup, (0, 0, 0, 0, 0)), (.iconst 3, (0, 0, 0, 3, 0)), (.bipush 108, (0, 0, 0, 108, 0)), (.castore, (0, 0, 0, 0, 0)), (.dup, (0, 0, 0, 0, 0)), (.iconst 4, (0, 0, 0, 4, 0)), (.bipush 100, (0, 0, 0, 100, 0)), (.castore, (0, 0, 0, 0, 0)), (.putfield 63, (12, 25, 3, 0, 0))] [] (by decide +kernel) rfl ⟨⟨⟨⟨⟨trivial, vin (by decide)⟩, vin (by decide)⟩, vin (by decide)⟩, vin (by decide)⟩, vin (by decide)⟩ h
def l_MD_19 (L : List (Nat × Nat)) : List (Nat × Nat) := l_MD_18 L ++ [(23, 3)]
def i_MD_19 (I : MI) : MI := m_up (m_up (m_up (m_zap (i_MD_18 I) 195 0) 195 0 (vp_nar .char 99)) 195 1 (vp_nar .char 117)) 195 2 (vp_nar .char 116)
def j_MD_19 (J : MJ) : MJ := m_zap (j_MD_18 J) 195 0
def r_MD_19 (R : MRR) : MRR := m_up (m_zap (r_MD_18 R) 195 none) 177 26 (some (23, 3, 195))
theorem len_MD_19 {L : List (Nat × Nat)} (h : L.length = 178) : (l_MD_19 L).length = 196 := len_s (len_MD_18 h)
theorem md_18 (hL : L.length = 178) (h : m_B G R0 M_MD_init Q rc rs 479 [some (mR (12, 0, 177))] [] (l_MD_19 L, i_MD_19 I, j_MD_19 J, r_MD_19 R)) : m_B G R0 M_MD_init Q (rc + 1) (rs + 3) 457 [some (mR (12, 0, 177))] [] (l_MD_18 L, i_MD_18 I, j_MD_18 J, r_MD_18 R) := by
  refine b_blk (pc' := 459) (ls' := [some (mR (12, 0, 177))]) (st' := [mI 3, mR (12, 0, 177)]) (S' := (l_MD_18 L, i_MD_18 I, j_MD_18 J, r_MD_18 R)) (P := True) [(.aload_n 0, (0, 0, 0, 0, 0)), (.iconst 3, (0, 0, 0, 3, 0))] [] (by decide +kernel) rfl trivial ?_
  refine b_newaT (t := .char) (N := 3) (n := 195) (by decide +kernel) m_arr_char (by decide) (by decide) (by decide) (by decide) (len_MD_18 hL) rfl rfl ?_
  exact b_blk (pc' := 479) (ls' := [some (mR (12, 0, 177))]) (st' := []) (S' := (l_MD_18 L ++ [(23, 3)], m_up (m_up (m_up (m_zap (i_MD_18 I) 195 0) 195 0 (vp_nar .char 99)) 195 1 (vp_nar .char 117)) 195 2 (vp_nar .char 116), m_zap (j_MD_18 J) 195 0, m_up (m_zap (r_MD_18 R) 195 none) 177 26 (some (23, 3, 195)))) (P := ((True ∧ vp_in 0 3) ∧ vp_in 1 3) ∧ vp_in 2 3) [(.dup, (0, 0, 0, 0, 0)), (.iconst 0, (0, 0, 0, 0, 0)), (.bipush 99, (0, 0, 0, 99, 0)), (.castore, (0, 0, 0, 0, 0)), (.dup, (0, 0, 0, 0, 0)), (.iconst 1, (0, 0, 0, 1, 0)), (.bipush 117, (0, 0, 0, 117, 0)), (.castore, (0, 0, 0, 0, 0)), (.dup, (0, 0, 0, 0, 0)), (.iconst 2, (0, 0, 0, 2, 0)), (.bipush 116, (0, 0, 0, 116, 0)), (.castore, (0, 0, 0, 0, 0)), (.putfield 66, (12, 26, 3, 0, 0))] [] (by decide +kernel) rfl ⟨⟨⟨trivial, vin (by decide)⟩, vin (by decide)⟩, vin (by decide)⟩ h
def l_MD_20 (L : List (Nat × Nat)) : List (Nat × Nat) := l_MD_19 L ++ [(23, 5)]
def i_MD_20 (I : MI) : MI := m_up (m_up (m_up (m_up (m_up (m_zap (i_MD_19 I) 196 0) 196 0 (vp_nar .char 102)) 196 1 (vp_nar .char 105)) 196 2 (vp_nar .char 114)) 196 3 (vp_nar .char 115)) 196 4 (vp_nar .char 116)
def j_MD_20 (J : MJ) : MJ := m_zap (j_MD_19 J) 196 0
def r_MD_20 (R : MRR) : MRR := m_up (m_zap (r_MD_19 R) 196 none) 177 27 (some (23, 5, 196))
theorem len_MD_20 {L : List (Nat × Nat)} (h : L.length = 178) : (l_MD_20 L).length = 197 := len_s (len_MD_19 h)
theorem md_19 (hL : L.length = 178) (h : m_B G R0 M_MD_init Q rc rs 511 [some (mR (12, 0, 177))] [] (l_MD_20 L, i_MD_20 I, j_MD_20 J, r_MD_20 R)) : m_B G R0 M_MD_init Q (rc + 1) (rs + 5) 479 [some (mR (12, 0, 177))] [] (l_MD_19 L, i_MD_19 I, j_MD_19 J, r_MD_19 R) := by
  refine b_blk (pc' := 481) (ls' := [some (mR (12, 0, 177))]) (st' := [mI 5, mR (12, 0, 177)]) (S' := (l_MD_19 L, i_MD_19 I, j_MD_19 J, r_MD_19 R)) (P := True) [(.aload_n 0, (0, 0, 0, 0, 0)), (.iconst 5, (0, 0, 0, 5, 0))] [] (by decide +kernel) rfl trivial ?_
  refine b_newaT (t := .char) (N := 5) (n := 196) (by decide +kernel) m_arr_char (by decide) (by decide) (by decide) (by decide) (len_MD_19 hL) rfl rfl ?_
  exact b_blk (pc' := 511) (ls' := [some (mR (12, 0, 177))]) (st' := []) (S' := (l_MD_19 L ++ [(23, 5)], m_up (m_up (m_up (m_up (m_up (m_zap (i_MD_19 I) 196 0) 196 0 (vp_nar .char 102)) 196 1 (vp_nar .char 105)) 196 2 (vp_nar .char 114)) 196 3 (vp_nar .char 115)) 196 4 (vp_nar .char 116), m_zap (j_MD_19 J) 196 0, m_up (m_zap (r_MD_19 R) 196 none) 177 27 (some (23, 5, 196)))) (P := ((((True ∧ vp_in 0 5) ∧ vp_in 1 5) ∧ vp_in 2 5) ∧ vp_in 3 5) ∧ vp_in 4 5) [(.dup, (0, 0, 0, 0, 0)), (.iconst 0, (0, 0, 0, 0, 0)), (.bipush 102, (0, 0, 0, 102, 0)), (.castore, (0, 0, 0, 0, 0)), (.dup, (0, 0, 0, 0, 0)), (.iconst 1, (0, 0, 0, 1, 0)), (.bipush 105, (0, 0, 0, 105, 0)), (.castore, (0, 0, 0, 0, 0)), (.dup, (0, 0, 0, 0, 0)), (.iconst 2, (0, 0, 0, 2, 0)), (.bipush 114, (0, 0, 0, 114, 0)), (.castore, (0, 0, 0, 0, 0)), (.dup, (0, 0, 0, 0, 0)), (.iconst 3, (0, 0, 0, 3, 0)), (.bipush 115, (0, 0, 0, 115, 0)), (.castore, (0, 0, 0, 0, 0)), (.dup, (0, 0, 0, 0, 0)), (.iconst 4, (0, 0, 0, 4, 0)), (.bipush 116, (0, 0, 0, 116, 0)), (.castore, (0, 0, 0, 0, 0)), (.putfield 69, (12, 27, 3, 0, 0))] [] (by decide +kernel) rfl ⟨⟨⟨⟨⟨trivial, vin (by decide)⟩, vin (by decide)⟩, vin (by decide)⟩, vin (by decide)⟩, vin (by decide)⟩ h
def l_MD_21 (L : List (Nat × Nat)) : List (Nat × Nat) := l_MD_20 L ++ [(23, 5)]
def i_MD_21 (I : MI) : MI := m_up (m_up (m_up (m_up (m_up (m_zap (i_MD_20 I) 197 0) 197 0 (vp_nar .char 98)) 197 1 (vp_nar .char 101)) 197 2 (vp_nar .char 108)) 197 3 (vp_nar .char 111)) 197 4 (vp_nar .char 119)
def j_MD_21 (J : MJ) : MJ := m_zap (j_MD_20 J) 197 0
def r_MD_21 (R : MRR) : MRR := m_up (m_zap (r_MD_20 R) 197 none) 177 28 (some (23, 5, 197))
theorem len_MD_21 {L : List (Nat × Nat)} (h : L.length = 178) : (l_MD_21 L).length = 198 := len_s (len_MD_20 h)
theorem md_20 (hL : L.length = 178) (h : m_B G R0 M_MD_init Q rc rs 543 [some (mR (12, 0, 177))] [] (l_MD_21 L, i_MD_21 I, j_MD_21 J, r_MD_21 R)) : m_B G R0 M_MD_init Q (rc + 1) (rs + 5) 511 [some (mR (12, 0, 177))] [] (l_MD_20 L, i_MD_20 I, j_MD_20 J, r_MD_20 R) := by
  refine b_blk (pc' := 513) (ls' := [some (mR (12, 0, 177))]) (st' := [mI 5, mR (12, 0, 177)]) (S' := (l_MD_20 L, i_MD_20 I, j_MD_20 J, r_MD_20 R)) (P := True) [(.aload_n 0, (0, 0, 0, 0, 0)), (.iconst 5, (0, 0, 0, 5, 0))] [] (by decide +kernel) rfl trivial ?_
  refine b_newaT (t := .char) (N := 5) (n := 197) (by decide +kernel) m_arr_char (by decide) (by decide) (by decide) (by decide) (len_MD_20 hL) rfl rfl ?_
  exact b_blk (pc' := 543) (ls' := [some (mR (12, 0, 177))]) (st' := []) (S' := (l_MD_20 L ++ [(23, 5)], m_up (m_up (m_up (m_up (m_up (m_zap (i_MD_20 I) 197 0) 197 0 (vp_nar .char 98)) 197 1 (vp_nar .char 101)) 197 2 (vp_nar .char 108)) 197 3 (vp_nar .char 111)) 197 4 (vp_nar .char 119), m_zap (j_MD_20 J) 197 0, m_up (m_zap (r_MD_20 R) 197 none) 177 28 (some (23, 5, 197)))) (P := ((((True ∧ vp_in 0 5) ∧ vp_in 1 5) ∧ vp_in 2 5) ∧ vp_in 3 5) ∧ vp_in 4 5) [(.dup, (0, 0, 0, 0, 0)), (.iconst 0, (0, 0, 0, 0, 0)), (.bipush 98, (0, 0, 0, 98, 0)), (.castore, (0, 0, 0, 0, 0)), (.dup, (0, 0, 0, 0, 0)), (.iconst 1, (0, 0, 0, 1, 0)), (.bipush 101, (0, 0, 0, 101, 0)), (.castore, (0, 0, 0, 0, 0)), (.dup, (0, 0, 0, 0, 0)), (.iconst 2, (0, 0, 0, 2, 0)), (.bipush 108, (0, 0, 0, 108, 0)), (.castore, (0, 0, 0, 0, 0)), (.dup, (0, 0, 0, 0, 0)), (.iconst 3, (0, 0, 0, 3, 0)), (.bipush 111, (0, 0, 0, 111, 0)), (.castore, (0, 0, 0, 0, 0)), (.dup, (0, 0, 0, 0, 0)), (.iconst 4, (0, 0, 0, 4, 0)), (.bipush 119, (0, 0, 0, 119, 0)), (.castore, (0, 0, 0, 0, 0)), (.putfield 72, (12, 28, 3, 0, 0))] [] (by decide +kernel) rfl ⟨⟨⟨⟨⟨trivial, vin (by decide)⟩, vin (by decide)⟩, vin (by decide)⟩, vin (by decide)⟩, vin (by decide)⟩ h
def l_MD_22 (L : List (Nat × Nat)) : List (Nat × Nat) := l_MD_21 L ++ [(23, 2)]
def i_MD_22 (I : MI) : MI := m_up (m_up (m_zap (i_MD_21 I) 198 0) 198 0 (vp_nar .char 111)) 198 1 (vp_nar .char 114)
def j_MD_22 (J : MJ) : MJ := m_zap (j_MD_21 J) 198 0
def r_MD_22 (R : MRR) : MRR := m_up (m_zap (r_MD_21 R) 198 none) 177 29 (some (23, 2, 198))
theorem len_MD_22 {L : List (Nat × Nat)} (h : L.length = 178) : (l_MD_22 L).length = 199 := len_s (len_MD_21 h)
theorem md_21 (hL : L.length = 178) (h : m_B G R0 M_MD_init Q rc rs 560 [some (mR (12, 0, 177))] [] (l_MD_22 L, i_MD_22 I, j_MD_22 J, r_MD_22 R)) : m_B G R0 M_MD_init Q (rc + 1) (rs + 2) 543 [some (mR (12, 0, 177))] [] (l_MD_21 L, i_MD_21 I, j_MD_21 J, r_MD_21 R) := by
  refine b_blk (pc' := 545) (ls' := [some (mR (12, 0, 177))]) (st' := [mI 2, mR (12, 0, 177)]) (S' := (l_MD_21 L, i_MD_21 I, j_MD_21 J, r_MD_21 R)) (P := True) [(.aload_n 0, (0, 0, 0, 0, 0)), (.iconst 2, (0, 0, 0, 2, 0))] [] (by decide +kernel) rfl trivial ?_
  refine b_newaT (t := .char) (N := 2) (n := 198) (by decide +kernel) m_arr_char (by decide) (by decide) (by decide) (by decide) (len_MD_21 hL) rfl rfl ?_
  exact b_blk (pc' := 560) (ls' := [some (mR (12, 0, 177))]) (st' := []) (S' := (l_MD_21 L ++ [(23, 2)], m_up (m_up (m_zap (i_MD_21 I) 198 0) 198 0 (vp_nar .char 111)) 198 1 (vp_nar .char 114), m_zap (j_MD_21 J) 198 0, m_up (m_zap (r_MD_21 R) 198 none) 177 29 (some (23, 2, 198)))) (P := (True ∧ vp_in 0 2) ∧ vp_in 1 2) [(.dup, (0, 0, 0, 0, 0)), (.iconst 0, (0, 0, 0, 0, 0)), (.bipush 111, (0, 0, 0, 111, 0)), (.castore, (0, 0, 0, 0, 0)), (.dup, (0, 0, 0, 0, 0)), (.iconst 1, (0, 0, 0, 1, 0)), (.bipush 114, (0, 0, 0, 114, 0)), (.castore, (0, 0, 0, 0, 0)), (.putfield 75, (12, 29, 3, 0, 0))] [] (by decide +kernel) rfl ⟨⟨trivial, vin (by decide)⟩, vin (by decide)⟩ h
def l_MD_23 (L : List (Nat × Nat)) : List (Nat × Nat) := l_MD_22 L ++ [(23, 3)]
def i_MD_23 (I : MI) : MI := m_up (m_up (m_up (m_zap (i_MD_22 I) 199 0) 199 0 (vp_nar .char 97)) 199 1 (vp_nar .char 110)) 199 2 (vp_nar .char 100)
def j_MD_23 (J : MJ) : MJ := m_zap (j_MD_22 J) 199 0
def r_MD_23 (R : MRR) : MRR := m_up (m_zap (r_MD_22 R) 199 none) 177 30 (some (23, 3, 199))
theorem len_MD_23 {L : List (Nat × Nat)} (h : L.length = 178) : (l_MD_23 L).length = 200 := len_s (len_MD_22 h)
theorem md_22 (hL : L.length = 178) (h : m_B G R0 M_MD_init Q rc rs 582 [some (mR (12, 0, 177))] [] (l_MD_23 L, i_MD_23 I, j_MD_23 J, r_MD_23 R)) : m_B G R0 M_MD_init Q (rc + 1) (rs + 3) 560 [some (mR (12, 0, 177))] [] (l_MD_22 L, i_MD_22 I, j_MD_22 J, r_MD_22 R) := by
  refine b_blk (pc' := 562) (ls' := [some (mR (12, 0, 177))]) (st' := [mI 3, mR (12, 0, 177)]) (S' := (l_MD_22 L, i_MD_22 I, j_MD_22 J, r_MD_22 R)) (P := True) [(.aload_n 0, (0, 0, 0, 0, 0)), (.iconst 3, (0, 0, 0, 3, 0))] [] (by decide +kernel) rfl trivial ?_
  refine b_newaT (t := .char) (N := 3) (n := 199) (by decide +kernel) m_arr_char (by decide) (by decide) (by decide) (by decide) (len_MD_22 hL) rfl rfl ?_
  exact b_blk (pc' := 582) (ls' := [some (mR (12, 0, 177))]) (st' := []) (S' := (l_MD_22 L ++ [(23, 3)], m_up (m_up (m_up (m_zap (i_MD_22 I) 199 0) 199 0 (vp_nar .char 97)) 199 1 (vp_nar .char 110)) 199 2 (vp_nar .char 100), m_zap (j_MD_22 J) 199 0, m_up (m_zap (r_MD_22 R) 199 none) 177 30 (some (23, 3, 199)))) (P := ((True ∧ vp_in 0 3) ∧ vp_in 1 3) ∧ vp_in 2 3) [(.dup, (0, 0, 0, 0, 0)), (.iconst 0, (0, 0, 0, 0, 0)), (.bipush 97, (0, 0, 0, 97, 0)), (.castore, (0, 0, 0, 0, 0)), (.dup, (0, 0, 0, 0, 0)), (.iconst 1, (0, 0, 0, 1, 0)), (.bipush 110, (0, 0, 0, 110, 0)), (.castore, (0, 0, 0, 0, 0)), (.dup, (0, 0, 0, 0, 0)), (.iconst 2, (0, 0, 0, 2, 0)), (.bipush 100, (0, 0, 0, 100, 0)), (.castore, (0, 0, 0, 0, 0)), (.putfield 78, (12, 30, 3, 0, 0))] [] (by decide +kernel) rfl ⟨⟨⟨trivial, vin (by decide)⟩, vin (by decide)⟩, vin (by decide)⟩ h
def l_MD_24 (L : List (Nat × Nat)) : List (Nat × Nat) := l_MD_23 L ++ [(23, 3)]
def i_MD_24 (I : MI) : MI := m_up (m_up (m_up (m_zap (i_MD_23 I) 200 0) 200 0 (vp_nar .char 110)) 200 1 (vp_nar .char 111)) 200 2 (vp_nar .char 116)
def j_MD_24 (J : MJ) : MJ := m_zap (j_MD_23 J) 200 0
def r_MD_24 (R : MRR) : MRR := m_up (m_zap (r_MD_23 R) 200 none) 177 31 (some (23, 3, 200))
theorem len_MD_24 {L : List (Nat × Nat)} (h : L.length = 178) : (l_MD_24 L).length = 201 := len_s (len_MD_23 h)
theorem md_23 (hL : L.length = 178) (h : m_B G R0 M_MD_init Q rc rs 604 [some (mR (12, 0, 177))] [] (l_MD_24 L, i_MD_24 I, j_MD_24 J, r_MD_24 R)) : m_B G R0 M_MD_init Q (rc + 1) (rs + 3) 582 [some (mR (12, 0, 177))] [] (l_MD_23 L, i_MD_23 I, j_MD_23 J, r_MD_23 R) := by
  refine b_blk (pc' := 584) (ls' := [some (mR (12, 0, 177))]) (st' := [mI 3, mR (12, 0, 177)]) (S' := (l_MD_23 L, i_MD_23 I, j_MD_23 J, r_MD_23 R)) (P := True) [(.aload_n 0, (0, 0, 0, 0, 0)), (.iconst 3, (0, 0, 0, 3, 0))] [] (by decide +kernel) rfl trivial ?_
  refine b_newaT (t := .char) (N := 3) (n := 200) (by decide +kernel) m_arr_char (by decide) (by decide) (by decide) (by decide) (len_MD_23 hL) rfl rfl ?_
  exact b_blk (pc' := 604) (ls' := [some (mR (12, 0, 177))]) (st' := []) (S' := (l_MD_23 L ++ [(23, 3)], m_up (m_up (m_up (m_zap (i_MD_23 I) 200 0) 200 0 (vp_nar .char 110)) 200 1 (vp_nar .char 111)) 200 2 (vp_nar .char 116), m_zap (j_MD_23 J) 200 0, m_up (m_zap (r_MD_23 R) 200 none) 177 31 (some (23, 3, 200)))) (P := ((True ∧ vp_in 0 3) ∧ vp_in 1 3) ∧ vp_in 2 3) [(.dup, (0, 0, 0, 0, 0)), (.iconst 0, (0, 0, 0, 0, 0)), (.bipush 110, (0, 0, 0, 110, 0)), (.castore, (0, 0, 0, 0, 0)), (.dup, (0, 0, 0, 0, 0)), (.iconst 1, (0, 0, 0, 1, 0)), (.bipush 111, (0, 0, 0, 111, 0)), (.castore, (0, 0, 0, 0, 0)), (.dup, (0, 0, 0, 0, 0)), (.iconst 2, (0, 0, 0, 2, 0)), (.bipush 116, (0, 0, 0, 116, 0)), (.castore, (0, 0, 0, 0, 0)), (.putfield 81, (12, 31, 3, 0, 0))] [] (by decide +kernel) rfl ⟨⟨⟨trivial, vin (by decide)⟩, vin (by decide)⟩, vin (by decide)⟩ h
def l_MD_25 (L : List (Nat × Nat)) : List (Nat × Nat) := l_MD_24 L ++ [(23, 3)]
def i_MD_25 (I : MI) : MI := m_up (m_up (m_up (m_zap (i_MD_24 I) 201 0) 201 0 (vp_nar .char 97)) 201 1 (vp_nar .char 108)) 201 2 (vp_nar .char 108)
def j_MD_25 (J : MJ) : MJ := m_zap (j_MD_24 J) 201 0
def r_MD_25 (R : MRR) : MRR := m_up (m_zap (r_MD_24 R) 201 none) 177 32 (some (23, 3, 201))
theorem len_MD_25 {L : List (Nat × Nat)} (h : L.length = 178) : (l_MD_25 L).length = 202 := len_s (len_MD_24 h)
theorem md_24 (hL : L.length = 178) (h : m_B G R0 M_MD_init Q rc rs 626 [some (mR (12, 0, 177))] [] (l_MD_25 L, i_MD_25 I, j_MD_25 J, r_MD_25 R)) : m_B G R0 M_MD_init Q (rc + 1) (rs + 3) 604 [some (mR (12, 0, 177))] [] (l_MD_24 L, i_MD_24 I, j_MD_24 J, r_MD_24 R) := by
  refine b_blk (pc' := 606) (ls' := [some (mR (12, 0, 177))]) (st' := [mI 3, mR (12, 0, 177)]) (S' := (l_MD_24 L, i_MD_24 I, j_MD_24 J, r_MD_24 R)) (P := True) [(.aload_n 0, (0, 0, 0, 0, 0)), (.iconst 3, (0, 0, 0, 3, 0))] [] (by decide +kernel) rfl trivial ?_
  refine b_newaT (t := .char) (N := 3) (n := 201) (by decide +kernel) m_arr_char (by decide) (by decide) (by decide) (by decide) (len_MD_24 hL) rfl rfl ?_
  exact b_blk (pc' := 626) (ls' := [some (mR (12, 0, 177))]) (st' := []) (S' := (l_MD_24 L ++ [(23, 3)], m_up (m_up (m_up (m_zap (i_MD_24 I) 201 0) 201 0 (vp_nar .char 97)) 201 1 (vp_nar .char 108)) 201 2 (vp_nar .char 108), m_zap (j_MD_24 J) 201 0, m_up (m_zap (r_MD_24 R) 201 none) 177 32 (some (23, 3, 201)))) (P := ((True ∧ vp_in 0 3) ∧ vp_in 1 3) ∧ vp_in 2 3) [(.dup, (0, 0, 0, 0, 0)), (.iconst 0, (0, 0, 0, 0, 0)), (.bipush 97, (0, 0, 0, 97, 0)), (.castore, (0, 0, 0, 0, 0)), (.dup, (0, 0, 0, 0, 0)), (.iconst 1, (0, 0, 0, 1, 0)), (.bipush 108, (0, 0, 0, 108, 0)), (.castore, (0, 0, 0, 0, 0)), (.dup, (0, 0, 0, 0, 0)), (.iconst 2, (0, 0, 0, 2, 0)), (.bipush 108, (0, 0, 0, 108, 0)), (.castore, (0, 0, 0, 0, 0)), (.putfield 84, (12, 32, 3, 0, 0))] [] (by decide +kernel) rfl ⟨⟨⟨trivial, vin (by decide)⟩, vin (by decide)⟩, vin (by decide)⟩ h
def l_MD_26 (L : List (Nat × Nat)) : List (Nat × Nat) := l_MD_25 L ++ [(23, 3)]
def i_MD_26 (I : MI) : MI := m_up (m_up (m_up (m_zap (i_MD_25 I) 202 0) 202 0 (vp_nar .char 109)) 202 1 (vp_nar .char 105)) 202 2 (vp_nar .char 110)
def j_MD_26 (J : MJ) : MJ := m_zap (j_MD_25 J) 202 0
def r_MD_26 (R : MRR) : MRR := m_up (m_zap (r_MD_25 R) 202 none) 177 33 (some (23, 3, 202))
theorem len_MD_26 {L : List (Nat × Nat)} (h : L.length = 178) : (l_MD_26 L).length = 203 := len_s (len_MD_25 h)
theorem md_25 (hL : L.length = 178) (h : m_B G R0 M_MD_init Q rc rs 648 [some (mR (12, 0, 177))] [] (l_MD_26 L, i_MD_26 I, j_MD_26 J, r_MD_26 R)) : m_B G R0 M_MD_init Q (rc + 1) (rs + 3) 626 [some (mR (12, 0, 177))] [] (l_MD_25 L, i_MD_25 I, j_MD_25 J, r_MD_25 R) := by
  refine b_blk (pc' := 628) (ls' := [some (mR (12, 0, 177))]) (st' := [mI 3, mR (12, 0, 177)]) (S' := (l_MD_25 L, i_MD_25 I, j_MD_25 J, r_MD_25 R)) (P := True) [(.aload_n 0, (0, 0, 0, 0, 0)), (.iconst 3, (0, 0, 0, 3, 0))] [] (by decide +kernel) rfl trivial ?_
  refine b_newaT (t := .char) (N := 3) (n := 202) (by decide +kernel) m_arr_char (by decide) (by decide) (by decide) (by decide) (len_MD_25 hL) rfl rfl ?_
  exact b_blk (pc' := 648) (ls' := [some (mR (12, 0, 177))]) (st' := []) (S' := (l_MD_25 L ++ [(23, 3)], m_up (m_up (m_up (m_zap (i_MD_25 I) 202 0) 202 0 (vp_nar .char 109)) 202 1 (vp_nar .char 105)) 202 2 (vp_nar .char 110), m_zap (j_MD_25 J) 202 0, m_up (m_zap (r_MD_25 R) 202 none) 177 33 (some (23, 3, 202)))) (P := ((True ∧ vp_in 0 3) ∧ vp_in 1 3) ∧ vp_in 2 3) [(.dup, (0, 0, 0, 0, 0)), (.iconst 0, (0, 0, 0, 0, 0)), (.bipush 109, (0, 0, 0, 109, 0)), (.castore, (0, 0, 0, 0, 0)), (.dup, (0, 0, 0, 0, 0)), (.iconst 1, (0, 0, 0, 1, 0)), (.bipush 105, (0, 0, 0, 105, 0)), (.castore, (0, 0, 0, 0, 0)), (.dup, (0, 0, 0, 0, 0)), (.iconst 2, (0, 0, 0, 2, 0)), (.bipush 110, (0, 0, 0, 110, 0)), (.castore, (0, 0, 0, 0, 0)), (.putfield 87, (12, 33, 3, 0, 0))] [] (by decide +kernel) rfl ⟨⟨⟨trivial, vin (by decide)⟩, vin (by decide)⟩, vin (by decide)⟩ h
def l_MD_27 (L : List (Nat × Nat)) : List (Nat × Nat) := l_MD_26 L ++ [(23, 3)]
def i_MD_27 (I : MI) : MI := m_up (m_up (m_up (m_zap (i_MD_26 I) 203 0) 203 0 (vp_nar .char 109)) 203 1 (vp_nar .char 97)) 203 2 (vp_nar .char 120)
def j_MD_27 (J : MJ) : MJ := m_zap (j_MD_26 J) 203 0
def r_MD_27 (R : MRR) : MRR := m_up (m_zap (r_MD_26 R) 203 none) 177 34 (some (23, 3, 203))
theorem len_MD_27 {L : List (Nat × Nat)} (h : L.length = 178) : (l_MD_27 L).length = 204 := len_s (len_MD_26 h)
theorem md_26 (hL : L.length = 178) (h : m_B G R0 M_MD_init Q rc rs 670 [some (mR (12, 0, 177))] [] (l_MD_27 L, i_MD_27 I, j_MD_27 J, r_MD_27 R)) : m_B G R0 M_MD_init Q (rc + 1) (rs + 3) 648 [some (mR (12, 0, 177))] [] (l_MD_26 L, i_MD_26 I, j_MD_26 J, r_MD_26 R) := by
  refine b_blk (pc' := 650) (ls' := [some (mR (12, 0, 177))]) (st' := [mI 3, mR (12, 0, 177)]) (S' := (l_MD_26 L, i_MD_26 I, j_MD_26 J, r_MD_26 R)) (P := True) [(.aload_n 0, (0, 0, 0, 0, 0)), (.iconst 3, (0, 0, 0, 3, 0))] [] (by decide +kernel) rfl trivial ?_
  refine b_newaT (t := .char) (N := 3) (n := 203) (by decide +kernel) m_arr_char (by decide) (by decide) (by decide) (by decide) (len_MD_26 hL) rfl rfl ?_
  exact b_blk (pc' := 670) (ls' := [some (mR (12, 0, 177))]) (st' := []) (S' := (l_MD_26 L ++ [(23, 3)], m_up (m_up (m_up (m_zap (i_MD_26 I) 203 0) 203 0 (vp_nar .char 109)) 203 1 (vp_nar .char 97)) 203 2 (vp_nar .char 120), m_zap (j_MD_26 J) 203 0, m_up (m_zap (r_MD_26 R) 203 none) 177 34 (some (23, 3, 203)))) (P := ((True ∧ vp_in 0 3) ∧ vp_in 1 3) ∧ vp_in 2 3) [(.dup, (0, 0, 0, 0, 0)), (.iconst 0, (0, 0, 0, 0, 0)), (.bipush 109, (0, 0, 0, 109, 0)), (.castore, (0, 0, 0, 0, 0)), (.dup, (0, 0, 0, 0, 0)), (.iconst 1, (0, 0, 0, 1, 0)), (.bipush 97, (0, 0, 0, 97, 0)), (.castore, (0, 0, 0, 0, 0)), (.dup, (0, 0, 0, 0, 0)), (.iconst 2, (0, 0, 0, 2, 0)), (.bipush 120, (0, 0, 0, 120, 0)), (.castore, (0, 0, 0, 0, 0)), (.putfield 90, (12, 34, 3, 0, 0))] [] (by decide +kernel) rfl ⟨⟨⟨trivial, vin (by decide)⟩, vin (by decide)⟩, vin (by decide)⟩ h
def l_MD_28 (L : List (Nat × Nat)) : List (Nat × Nat) := l_MD_27 L ++ [(20, 4)]
def i_MD_28 (I : MI) : MI := m_zap (i_MD_27 I) 204 0
def j_MD_28 (J : MJ) : MJ := m_zap (j_MD_27 J) 204 0
def r_MD_28 (R : MRR) : MRR := m_up (m_zap (r_MD_27 R) 204 none) 177 36 (some (20, 4, 204))
theorem len_MD_28 {L : List (Nat × Nat)} (h : L.length = 178) : (l_MD_28 L).length = 205 := len_s (len_MD_27 h)
theorem md_27 (hL : L.length = 178) (h : m_B G R0 M_MD_init Q rc rs 677 [some (mR (12, 0, 177))] [] (l_MD_28 L, i_MD_28 I, j_MD_28 J, r_MD_28 R)) : m_B G R0 M_MD_init Q (rc + 1) (rs + 4) 670 [some (mR (12, 0, 177))] [] (l_MD_27 L, i_MD_27 I, j_MD_27 J, r_MD_27 R) := by
  refine b_blk (pc' := 672) (ls' := [some (mR (12, 0, 177))]) (st' := [mI 4, mR (12, 0, 177)]) (S' := (l_MD_27 L, i_MD_27 I, j_MD_27 J, r_MD_27 R)) (P := True) [(.aload_n 0, (0, 0, 0, 0, 0)), (.iconst 4, (0, 0, 0, 4, 0))] [] (by decide +kernel) rfl trivial ?_
  refine b_newaT (t := .int) (N := 4) (n := 204) (by decide +kernel) m_arr_int (by decide) (by decide) (by decide) (by decide) (len_MD_27 hL) rfl rfl ?_
  exact b_blk (pc' := 677) (ls' := [some (mR (12, 0, 177))]) (st' := []) (S' := (l_MD_27 L ++ [(20, 4)], m_zap (i_MD_27 I) 204 0, m_zap (j_MD_27 J) 204 0, m_up (m_zap (r_MD_27 R) 204 none) 177 36 (some (20, 4, 204)))) (P := True) [(.putfield 93, (12, 36, 3, 0, 0))] [] (by decide +kernel) rfl trivial h
def l_MD_29 (L : List (Nat × Nat)) : List (Nat × Nat) := l_MD_28 L ++ [(20, 4)]
def i_MD_29 (I : MI) : MI := m_zap (i_MD_28 I) 205 0
def j_MD_29 (J : MJ) : MJ := m_zap (j_MD_28 J) 205 0
def r_MD_29 (R : MRR) : MRR := m_up (m_zap (r_MD_28 R) 205 none) 177 37 (some (20, 4, 205))
theorem len_MD_29 {L : List (Nat × Nat)} (h : L.length = 178) : (l_MD_29 L).length = 206 := len_s (len_MD_28 h)
theorem md_28 (hL : L.length = 178) (h : m_B G R0 M_MD_init Q rc rs 684 [some (mR (12, 0, 177))] [] (l_MD_29 L, i_MD_29 I, j_MD_29 J, r_MD_29 R)) : m_B G R0 M_MD_init Q (rc + 1) (rs + 4) 677 [some (mR (12, 0, 177))] [] (l_MD_28 L, i_MD_28 I, j_MD_28 J, r_MD_28 R) := by
  refine b_blk (pc' := 679) (ls' := [some (mR (12, 0, 177))]) (st' := [mI 4, mR (12, 0, 177)]) (S' := (l_MD_28 L, i_MD_28 I, j_MD_28 J, r_MD_28 R)) (P := True) [(.aload_n 0, (0, 0, 0, 0, 0)), (.iconst 4, (0, 0, 0, 4, 0))] [] (by decide +kernel) rfl trivial ?_
  refine b_newaT (t := .int) (N := 4) (n := 205) (by decide +kernel) m_arr_int (by decide) (by decide) (by decide) (by decide) (len_MD_28 hL) rfl rfl ?_
  exact b_blk (pc' := 684) (ls' := [some (mR (12, 0, 177))]) (st' := []) (S' := (l_MD_28 L ++ [(20, 4)], m_zap (i_MD_28 I) 205 0, m_zap (j_MD_28 J) 205 0, m_up (m_zap (r_MD_28 R) 205 none) 177 37 (some (20, 4, 205)))) (P := True) [(.putfield 96, (12, 37, 3, 0, 0))] [] (by decide +kernel) rfl trivial h
def l_MD_30 (L : List (Nat × Nat)) : List (Nat × Nat) := l_MD_29 L ++ [(21, 12)]
def i_MD_30 (I : MI) : MI := m_zap (i_MD_29 I) 206 0
def j_MD_30 (J : MJ) : MJ := m_zap (j_MD_29 J) 206 0
def r_MD_30 (R : MRR) : MRR := m_up (m_zap (r_MD_29 R) 206 none) 177 38 (some (21, 12, 206))
theorem len_MD_30 {L : List (Nat × Nat)} (h : L.length = 178) : (l_MD_30 L).length = 207 := len_s (len_MD_29 h)
theorem md_29 (hL : L.length = 178) (h : m_B G R0 M_MD_init Q rc rs 692 [some (mR (12, 0, 177))] [] (l_MD_30 L, i_MD_30 I, j_MD_30 J, r_MD_30 R)) : m_B G R0 M_MD_init Q (rc + 1) (rs + 12) 684 [some (mR (12, 0, 177))] [] (l_MD_29 L, i_MD_29 I, j_MD_29 J, r_MD_29 R) := by
  refine b_blk (pc' := 687) (ls' := [some (mR (12, 0, 177))]) (st' := [mI 12, mR (12, 0, 177)]) (S' := (l_MD_29 L, i_MD_29 I, j_MD_29 J, r_MD_29 R)) (P := True) [(.aload_n 0, (0, 0, 0, 0, 0)), (.bipush 12, (0, 0, 0, 12, 0))] [] (by decide +kernel) rfl trivial ?_
  refine b_newaT (t := .long) (N := 12) (n := 206) (by decide +kernel) m_arr_long (by decide) (by decide) (by decide) (by decide) (len_MD_29 hL) rfl rfl ?_
  exact b_blk (pc' := 692) (ls' := [some (mR (12, 0, 177))]) (st' := []) (S' := (l_MD_29 L ++ [(21, 12)], m_zap (i_MD_29 I) 206 0, m_zap (j_MD_29 J) 206 0, m_up (m_zap (r_MD_29 R) 206 none) 177 38 (some (21, 12, 206)))) (P := True) [(.putfield 99, (12, 38, 3, 0, 0))] [] (by decide +kernel) rfl trivial h
def l_MD_31 (L : List (Nat × Nat)) : List (Nat × Nat) := l_MD_30 L ++ [(20, 12)]
def i_MD_31 (I : MI) : MI := m_zap (i_MD_30 I) 207 0
def j_MD_31 (J : MJ) : MJ := m_zap (j_MD_30 J) 207 0
def r_MD_31 (R : MRR) : MRR := m_up (m_zap (r_MD_30 R) 207 none) 177 39 (some (20, 12, 207))
theorem len_MD_31 {L : List (Nat × Nat)} (h : L.length = 178) : (l_MD_31 L).length = 208 := len_s (len_MD_30 h)
theorem md_30 (hL : L.length = 178) (h : m_B G R0 M_MD_init Q rc rs 700 [some (mR (12, 0, 177))] [] (l_MD_31 L, i_MD_31 I, j_MD_31 J, r_MD_31 R)) : m_B G R0 M_MD_init Q (rc + 1) (rs + 12) 692 [some (mR (12, 0, 177))] [] (l_MD_30 L, i_MD_30 I, j_MD_30 J, r_MD_30 R) := by
  refine b_blk (pc' := 695) (ls' := [some (mR (12, 0, 177))]) (st' := [mI 12, mR (12, 0, 177)]) (S' := (l_MD_30 L, i_MD_30 I, j_MD_30 J, r_MD_30 R)) (P := True) [(.aload_n 0, (0, 0, 0, 0, 0)), (.bipush 12, (0, 0, 0, 12, 0))] [] (by decide +kernel) rfl trivial ?_
  refine b_newaT (t := .int) (N := 12) (n := 207) (by decide +kernel) m_arr_int (by decide) (by decide) (by decide) (by decide) (len_MD_30 hL) rfl rfl ?_
  exact b_blk (pc' := 700) (ls' := [some (mR (12, 0, 177))]) (st' := []) (S' := (l_MD_30 L ++ [(20, 12)], m_zap (i_MD_30 I) 207 0, m_zap (j_MD_30 J) 207 0, m_up (m_zap (r_MD_30 R) 207 none) 177 39 (some (20, 12, 207)))) (P := True) [(.putfield 103, (12, 39, 3, 0, 0))] [] (by decide +kernel) rfl trivial h
def l_MD_32 (L : List (Nat × Nat)) : List (Nat × Nat) := l_MD_31 L ++ [(20, 6)]
def i_MD_32 (I : MI) : MI := m_zap (i_MD_31 I) 208 0
def j_MD_32 (J : MJ) : MJ := m_zap (j_MD_31 J) 208 0
def r_MD_32 (R : MRR) : MRR := m_up (m_zap (r_MD_31 R) 208 none) 177 40 (some (20, 6, 208))
theorem len_MD_32 {L : List (Nat × Nat)} (h : L.length = 178) : (l_MD_32 L).length = 209 := len_s (len_MD_31 h)
theorem md_31 (hL : L.length = 178) (h : m_B G R0 M_MD_init Q rc rs 708 [some (mR (12, 0, 177))] [] (l_MD_32 L, i_MD_32 I, j_MD_32 J, r_MD_32 R)) : m_B G R0 M_MD_init Q (rc + 1) (rs + 6) 700 [some (mR (12, 0, 177))] [] (l_MD_31 L, i_MD_31 I, j_MD_31 J, r_MD_31 R) := by
  refine b_blk (pc' := 703) (ls' := [some (mR (12, 0, 177))]) (st' := [mI 6, mR (12, 0, 177)]) (S' := (l_MD_31 L, i_MD_31 I, j_MD_31 J, r_MD_31 R)) (P := True) [(.aload_n 0, (0, 0, 0, 0, 0)), (.bipush 6, (0, 0, 0, 6, 0))] [] (by decide +kernel) rfl trivial ?_
  refine b_newaT (t := .int) (N := 6) (n := 208) (by decide +kernel) m_arr_int (by decide) (by decide) (by decide) (by decide) (len_MD_31 hL) rfl rfl ?_
  exact b_blk (pc' := 708) (ls' := [some (mR (12, 0, 177))]) (st' := []) (S' := (l_MD_31 L ++ [(20, 6)], m_zap (i_MD_31 I) 208 0, m_zap (j_MD_31 J) 208 0, m_up (m_zap (r_MD_31 R) 208 none) 177 40 (some (20, 6, 208)))) (P := True) [(.putfield 106, (12, 40, 3, 0, 0))] [] (by decide +kernel) rfl trivial h
def l_MD_33 (L : List (Nat × Nat)) : List (Nat × Nat) := l_MD_32 L ++ [(20, 42)]
def i_MD_33 (I : MI) : MI := m_zap (i_MD_32 I) 209 0
def j_MD_33 (J : MJ) : MJ := m_zap (j_MD_32 J) 209 0
def r_MD_33 (R : MRR) : MRR := m_up (m_zap (r_MD_32 R) 209 none) 177 41 (some (20, 42, 209))
theorem len_MD_33 {L : List (Nat × Nat)} (h : L.length = 178) : (l_MD_33 L).length = 210 := len_s (len_MD_32 h)
theorem md_32 (hL : L.length = 178) (h : m_B G R0 M_MD_init Q rc rs 716 [some (mR (12, 0, 177))] [] (l_MD_33 L, i_MD_33 I, j_MD_33 J, r_MD_33 R)) : m_B G R0 M_MD_init Q (rc + 1) (rs + 42) 708 [some (mR (12, 0, 177))] [] (l_MD_32 L, i_MD_32 I, j_MD_32 J, r_MD_32 R) := by
  refine b_blk (pc' := 711) (ls' := [some (mR (12, 0, 177))]) (st' := [mI 42, mR (12, 0, 177)]) (S' := (l_MD_32 L, i_MD_32 I, j_MD_32 J, r_MD_32 R)) (P := True) [(.aload_n 0, (0, 0, 0, 0, 0)), (.bipush 42, (0, 0, 0, 42, 0))] [] (by decide +kernel) rfl trivial ?_
  refine b_newaT (t := .int) (N := 42) (n := 209) (by decide +kernel) m_arr_int (by decide) (by decide) (by decide) (by decide) (len_MD_32 hL) rfl rfl ?_
  exact b_blk (pc' := 716) (ls' := [some (mR (12, 0, 177))]) (st' := []) (S' := (l_MD_32 L ++ [(20, 42)], m_zap (i_MD_32 I) 209 0, m_zap (j_MD_32 J) 209 0, m_up (m_zap (r_MD_32 R) 209 none) 177 41 (some (20, 42, 209)))) (P := True) [(.putfield 109, (12, 41, 3, 0, 0))] [] (by decide +kernel) rfl trivial h
def l_MD_34 (L : List (Nat × Nat)) : List (Nat × Nat) := l_MD_33 L ++ [(20, 4)]
def i_MD_34 (I : MI) : MI := m_up (m_up (m_up (m_up (m_zap (i_MD_33 I) 210 0) 210 0 (-1)) 210 1 (-1)) 210 2 (-1)) 210 3 (-1)
def j_MD_34 (J : MJ) : MJ := m_zap (j_MD_33 J) 210 0
def r_MD_34 (R : MRR) : MRR := m_up (m_zap (r_MD_33 R) 210 none) 177 44 (some (20, 4, 210))
theorem len_MD_34 {L : List (Nat × Nat)} (h : L.length = 178) : (l_MD_34 L).length = 211 := len_s (len_MD_33 h)
theorem md_33 (hL : L.length = 178) (h : m_B G R0 M_MD_init Q rc rs 739 [some (mR (12, 0, 177))] [] (l_MD_34 L, i_MD_34 I, j_MD_34 J, r_MD_34 R)) : m_B G R0 M_MD_init Q (rc + 1) (rs + 4) 716 [some (mR (12, 0, 177))] [] (l_MD_33 L, i_MD_33 I, j_MD_33 J, r_MD_33 R) := by
  refine b_blk (pc' := 718) (ls' := [some (mR (12, 0, 177))]) (st' := [mI 4, mR (12, 0, 177)]) (S' := (l_MD_33 L, i_MD_33 I, j_MD_33 J, r_MD_33 R)) (P := True) [(.aload_n 0, (0, 0, 0, 0, 0)), (.iconst 4, (0, 0, 0, 4, 0))] [] (by decide +kernel) rfl trivial ?_
  refine b_newaT (t := .int) (N := 4) (n := 210) (by decide +kernel) m_arr_int (by decide) (by decide) (by decide) (by decide) (len_MD_33 hL) rfl rfl ?_
  exact b_blk (pc' := 739) (ls' := [some (mR (12, 0, 177))]) (st' := []) (S' := (l_MD_33 L ++ [(20, 4)], m_up (m_up (m_up (m_up (m_zap (i_MD_33 I) 210 0) 210 0 (-1)) 210 1 (-1)) 210 2 (-1)) 210 3 (-1), m_zap (j_MD_33 J) 210 0, m_up (m_zap (r_MD_33 R) 210 none) 177 44 (some (20, 4, 210)))) (P := (((True ∧ vp_in 0 4) ∧ vp_in 1 4) ∧ vp_in 2 4) ∧ vp_in 3 4) [(.dup, (0, 0, 0, 0, 0)), (.iconst 0, (0, 0, 0, 0, 0)), (.iconst (-1), (0, 0, 0, (-1), 0)), (.iastore, (0, 0, 0, 0, 0)), (.dup, (0, 0, 0, 0, 0)), (.iconst 1, (0, 0, 0, 1, 0)), (.iconst (-1), (0, 0, 0, (-1), 0)), (.iastore, (0, 0, 0, 0, 0)), (.dup, (0, 0, 0, 0, 0)), (.iconst 2, (0, 0, 0, 2, 0)), (.iconst (-1), (0, 0, 0, (-1), 0)), (.iastore, (0, 0, 0, 0, 0)), (.dup, (0, 0, 0, 0, 0)), (.iconst 3, (0, 0, 0, 3, 0)), (.iconst (-1), (0, 0, 0, (-1), 0)), (.iastore, (0, 0, 0, 0, 0)), (.putfield 112, (12, 44, 3, 0, 0))] [] (by decide +kernel) rfl ⟨⟨⟨⟨trivial, vin (by decide)⟩, vin (by decide)⟩, vin (by decide)⟩, vin (by decide)⟩ h
def l_MD_35 (L : List (Nat × Nat)) : List (Nat × Nat) := l_MD_34 L ++ [(20, 4)]
def i_MD_35 (I : MI) : MI := m_zap (i_MD_34 I) 211 0
def j_MD_35 (J : MJ) : MJ := m_zap (j_MD_34 J) 211 0
def r_MD_35 (R : MRR) : MRR := m_up (m_zap (r_MD_34 R) 211 none) 177 45 (some (20, 4, 211))
theorem len_MD_35 {L : List (Nat × Nat)} (h : L.length = 178) : (l_MD_35 L).length = 212 := len_s (len_MD_34 h)
theorem md_34 (hL : L.length = 178) (h : m_B G R0 M_MD_init Q rc rs 746 [some (mR (12, 0, 177))] [] (l_MD_35 L, i_MD_35 I, j_MD_35 J, r_MD_35 R)) : m_B G R0 M_MD_init Q (rc + 1) (rs + 4) 739 [some (mR (12, 0, 177))] [] (l_MD_34 L, i_MD_34 I, j_MD_34 J, r_MD_34 R) := by
  refine b_blk (pc' := 741) (ls' := [some (mR (12, 0, 177))]) (st' := [mI 4, mR (12, 0, 177)]) (S' := (l_MD_34 L, i_MD_34 I, j_MD_34 J, r_MD_34 R)) (P := True) [(.aload_n 0, (0, 0, 0, 0, 0)), (.iconst 4, (0, 0, 0, 4, 0))] [] (by decide +kernel) rfl trivial ?_
  refine b_newaT (t := .int) (N := 4) (n := 211) (by decide +kernel) m_arr_int (by decide) (by decide) (by decide) (by decide) (len_MD_34 hL) rfl rfl ?_
  exact b_blk (pc' := 746) (ls' := [some (mR (12, 0, 177))]) (st' := []) (S' := (l_MD_34 L ++ [(20, 4)], m_zap (i_MD_34 I) 211 0, m_zap (j_MD_34 J) 211 0, m_up (m_zap (r_MD_34 R) 211 none) 177 45 (some (20, 4, 211)))) (P := True) [(.putfield 115, (12, 45, 3, 0, 0))] [] (by decide +kernel) rfl trivial h
def l_MD_36 (L : List (Nat × Nat)) : List (Nat × Nat) := l_MD_35 L ++ [(20, 3200)]
def i_MD_36 (I : MI) : MI := m_zap (i_MD_35 I) 212 0
def j_MD_36 (J : MJ) : MJ := m_zap (j_MD_35 J) 212 0
def r_MD_36 (R : MRR) : MRR := m_up (m_zap (r_MD_35 R) 212 none) 177 46 (some (20, 3200, 212))
theorem len_MD_36 {L : List (Nat × Nat)} (h : L.length = 178) : (l_MD_36 L).length = 213 := len_s (len_MD_35 h)
theorem md_35 (hL : L.length = 178) (h : m_B G R0 M_MD_init Q rc rs 755 [some (mR (12, 0, 177))] [] (l_MD_36 L, i_MD_36 I, j_MD_36 J, r_MD_36 R)) : m_B G R0 M_MD_init Q (rc + 1) (rs + 3200) 746 [some (mR (12, 0, 177))] [] (l_MD_35 L, i_MD_35 I, j_MD_35 J, r_MD_35 R) := by
  refine b_blk (pc' := 750) (ls' := [some (mR (12, 0, 177))]) (st' := [mI 3200, mR (12, 0, 177)]) (S' := (l_MD_35 L, i_MD_35 I, j_MD_35 J, r_MD_35 R)) (P := True) [(.aload_n 0, (0, 0, 0, 0, 0)), (.sipush 3200, (0, 0, 0, 3200, 0))] [] (by decide +kernel) rfl trivial ?_
  refine b_newaT (t := .int) (N := 3200) (n := 212) (by decide +kernel) m_arr_int (by decide) (by decide) (by decide) (by decide) (len_MD_35 hL) rfl rfl ?_
  exact b_blk (pc' := 755) (ls' := [some (mR (12, 0, 177))]) (st' := []) (S' := (l_MD_35 L ++ [(20, 3200)], m_zap (i_MD_35 I) 212 0, m_zap (j_MD_35 J) 212 0, m_up (m_zap (r_MD_35 R) 212 none) 177 46 (some (20, 3200, 212)))) (P := True) [(.putfield 118, (12, 46, 3, 0, 0))] [] (by decide +kernel) rfl trivial h
def l_MD_37 (L : List (Nat × Nat)) : List (Nat × Nat) := l_MD_36 L ++ [(20, 176)]
def i_MD_37 (I : MI) : MI := m_zap (i_MD_36 I) 213 0
def j_MD_37 (J : MJ) : MJ := m_zap (j_MD_36 J) 213 0
def r_MD_37 (R : MRR) : MRR := m_up (m_zap (r_MD_36 R) 213 none) 177 51 (some (20, 176, 213))
theorem len_MD_37 {L : List (Nat × Nat)} (h : L.length = 178) : (l_MD_37 L).length = 214 := len_s (len_MD_36 h)
theorem md_36 (hL : L.length = 178) (h : m_B G R0 M_MD_init Q rc rs 764 [some (mR (12, 0, 177))] [] (l_MD_37 L, i_MD_37 I, j_MD_37 J, r_MD_37 R)) : m_B G R0 M_MD_init Q (rc + 1) (rs + 176) 755 [some (mR (12, 0, 177))] [] (l_MD_36 L, i_MD_36 I, j_MD_36 J, r_MD_36 R) := by
  refine b_blk (pc' := 759) (ls' := [some (mR (12, 0, 177))]) (st' := [mI 176, mR (12, 0, 177)]) (S' := (l_MD_36 L, i_MD_36 I, j_MD_36 J, r_MD_36 R)) (P := True) [(.aload_n 0, (0, 0, 0, 0, 0)), (.sipush 176, (0, 0, 0, 176, 0))] [] (by decide +kernel) rfl trivial ?_
  refine b_newaT (t := .int) (N := 176) (n := 213) (by decide +kernel) m_arr_int (by decide) (by decide) (by decide) (by decide) (len_MD_36 hL) rfl rfl ?_
  exact b_blk (pc' := 764) (ls' := [some (mR (12, 0, 177))]) (st' := []) (S' := (l_MD_36 L ++ [(20, 176)], m_zap (i_MD_36 I) 213 0, m_zap (j_MD_36 J) 213 0, m_up (m_zap (r_MD_36 R) 213 none) 177 51 (some (20, 176, 213)))) (P := True) [(.putfield 121, (12, 51, 3, 0, 0))] [] (by decide +kernel) rfl trivial h
def l_MD_38 (L : List (Nat × Nat)) : List (Nat × Nat) := l_MD_37 L ++ [(20, 55)]
def i_MD_38 (I : MI) : MI := m_zap (i_MD_37 I) 214 0
def j_MD_38 (J : MJ) : MJ := m_zap (j_MD_37 J) 214 0
def r_MD_38 (R : MRR) : MRR := m_up (m_zap (r_MD_37 R) 214 none) 177 52 (some (20, 55, 214))
theorem len_MD_38 {L : List (Nat × Nat)} (h : L.length = 178) : (l_MD_38 L).length = 215 := len_s (len_MD_37 h)
theorem md_37 (hL : L.length = 178) (h : m_B G R0 M_MD_init Q rc rs 772 [some (mR (12, 0, 177))] [] (l_MD_38 L, i_MD_38 I, j_MD_38 J, r_MD_38 R)) : m_B G R0 M_MD_init Q (rc + 1) (rs + 55) 764 [some (mR (12, 0, 177))] [] (l_MD_37 L, i_MD_37 I, j_MD_37 J, r_MD_37 R) := by
  refine b_blk (pc' := 767) (ls' := [some (mR (12, 0, 177))]) (st' := [mI 55, mR (12, 0, 177)]) (S' := (l_MD_37 L, i_MD_37 I, j_MD_37 J, r_MD_37 R)) (P := True) [(.aload_n 0, (0, 0, 0, 0, 0)), (.bipush 55, (0, 0, 0, 55, 0))] [] (by decide +kernel) rfl trivial ?_
  refine b_newaT (t := .int) (N := 55) (n := 214) (by decide +kernel) m_arr_int (by decide) (by decide) (by decide) (by decide) (len_MD_37 hL) rfl rfl ?_
  exact b_blk (pc' := 772) (ls' := [some (mR (12, 0, 177))]) (st' := []) (S' := (l_MD_37 L ++ [(20, 55)], m_zap (i_MD_37 I) 214 0, m_zap (j_MD_37 J) 214 0, m_up (m_zap (r_MD_37 R) 214 none) 177 52 (some (20, 55, 214)))) (P := True) [(.putfield 124, (12, 52, 3, 0, 0))] [] (by decide +kernel) rfl trivial h
def l_MD_39 (L : List (Nat × Nat)) : List (Nat × Nat) := l_MD_38 L ++ [(20, 36)]
def i_MD_39 (I : MI) : MI := m_zap (i_MD_38 I) 215 0
def j_MD_39 (J : MJ) : MJ := m_zap (j_MD_38 J) 215 0
def r_MD_39 (R : MRR) : MRR := m_up (m_zap (r_MD_38 R) 215 none) 177 57 (some (20, 36, 215))
theorem len_MD_39 {L : List (Nat × Nat)} (h : L.length = 178) : (l_MD_39 L).length = 216 := len_s (len_MD_38 h)
theorem md_38 (hL : L.length = 178) (h : m_B G R0 M_MD_init Q rc rs 780 [some (mR (12, 0, 177))] [] (l_MD_39 L, i_MD_39 I, j_MD_39 J, r_MD_39 R)) : m_B G R0 M_MD_init Q (rc + 1) (rs + 36) 772 [some (mR (12, 0, 177))] [] (l_MD_38 L, i_MD_38 I, j_MD_38 J, r_MD_38 R) := by
  refine b_blk (pc' := 775) (ls' := [some (mR (12, 0, 177))]) (st' := [mI 36, mR (12, 0, 177)]) (S' := (l_MD_38 L, i_MD_38 I, j_MD_38 J, r_MD_38 R)) (P := True) [(.aload_n 0, (0, 0, 0, 0, 0)), (.bipush 36, (0, 0, 0, 36, 0))] [] (by decide +kernel) rfl trivial ?_
  refine b_newaT (t := .int) (N := 36) (n := 215) (by decide +kernel) m_arr_int (by decide) (by decide) (by decide) (by decide) (len_MD_38 hL) rfl rfl ?_
  exact b_blk (pc' := 780) (ls' := [some (mR (12, 0, 177))]) (st' := []) (S' := (l_MD_38 L ++ [(20, 36)], m_zap (i_MD_38 I) 215 0, m_zap (j_MD_38 J) 215 0, m_up (m_zap (r_MD_38 R) 215 none) 177 57 (some (20, 36, 215)))) (P := True) [(.putfield 127, (12, 57, 3, 0, 0))] [] (by decide +kernel) rfl trivial h
def l_MD_40 (L : List (Nat × Nat)) : List (Nat × Nat) := l_MD_39 L ++ [(20, 384)]
def i_MD_40 (I : MI) : MI := m_zap (i_MD_39 I) 216 0
def j_MD_40 (J : MJ) : MJ := m_zap (j_MD_39 J) 216 0
def r_MD_40 (R : MRR) : MRR := m_up (m_zap (r_MD_39 R) 216 none) 177 58 (some (20, 384, 216))
theorem len_MD_40 {L : List (Nat × Nat)} (h : L.length = 178) : (l_MD_40 L).length = 217 := len_s (len_MD_39 h)
theorem md_39 (hL : L.length = 178) (h : m_B G R0 M_MD_init Q rc rs 789 [some (mR (12, 0, 177))] [] (l_MD_40 L, i_MD_40 I, j_MD_40 J, r_MD_40 R)) : m_B G R0 M_MD_init Q (rc + 1) (rs + 384) 780 [some (mR (12, 0, 177))] [] (l_MD_39 L, i_MD_39 I, j_MD_39 J, r_MD_39 R) := by
  refine b_blk (pc' := 784) (ls' := [some (mR (12, 0, 177))]) (st' := [mI 384, mR (12, 0, 177)]) (S' := (l_MD_39 L, i_MD_39 I, j_MD_39 J, r_MD_39 R)) (P := True) [(.aload_n 0, (0, 0, 0, 0, 0)), (.sipush 384, (0, 0, 0, 384, 0))] [] (by decide +kernel) rfl trivial ?_
  refine b_newaT (t := .int) (N := 384) (n := 216) (by decide +kernel) m_arr_int (by decide) (by decide) (by decide) (by decide) (len_MD_39 hL) rfl rfl ?_
  exact b_blk (pc' := 789) (ls' := [some (mR (12, 0, 177))]) (st' := []) (S' := (l_MD_39 L ++ [(20, 384)], m_zap (i_MD_39 I) 216 0, m_zap (j_MD_39 J) 216 0, m_up (m_zap (r_MD_39 R) 216 none) 177 58 (some (20, 384, 216)))) (P := True) [(.putfield 130, (12, 58, 3, 0, 0))] [] (by decide +kernel) rfl trivial h
def l_MD_41 (L : List (Nat × Nat)) : List (Nat × Nat) := l_MD_40 L ++ [(20, 48)]
def i_MD_41 (I : MI) : MI := m_zap (i_MD_40 I) 217 0
def j_MD_41 (J : MJ) : MJ := m_zap (j_MD_40 J) 217 0
def r_MD_41 (R : MRR) : MRR := m_up (m_zap (r_MD_40 R) 217 none) 177 60 (some (20, 48, 217))
theorem len_MD_41 {L : List (Nat × Nat)} (h : L.length = 178) : (l_MD_41 L).length = 218 := len_s (len_MD_40 h)
theorem md_40 (hL : L.length = 178) (h : m_B G R0 M_MD_init Q rc rs 797 [some (mR (12, 0, 177))] [] (l_MD_41 L, i_MD_41 I, j_MD_41 J, r_MD_41 R)) : m_B G R0 M_MD_init Q (rc + 1) (rs + 48) 789 [some (mR (12, 0, 177))] [] (l_MD_40 L, i_MD_40 I, j_MD_40 J, r_MD_40 R) := by
  refine b_blk (pc' := 792) (ls' := [some (mR (12, 0, 177))]) (st' := [mI 48, mR (12, 0, 177)]) (S' := (l_MD_40 L, i_MD_40 I, j_MD_40 J, r_MD_40 R)) (P := True) [(.aload_n 0, (0, 0, 0, 0, 0)), (.bipush 48, (0, 0, 0, 48, 0))] [] (by decide +kernel) rfl trivial ?_
  refine b_newaT (t := .int) (N := 48) (n := 217) (by decide +kernel) m_arr_int (by decide) (by decide) (by decide) (by decide) (len_MD_40 hL) rfl rfl ?_
  exact b_blk (pc' := 797) (ls' := [some (mR (12, 0, 177))]) (st' := []) (S' := (l_MD_40 L ++ [(20, 48)], m_zap (i_MD_40 I) 217 0, m_zap (j_MD_40 J) 217 0, m_up (m_zap (r_MD_40 R) 217 none) 177 60 (some (20, 48, 217)))) (P := True) [(.putfield 133, (12, 60, 3, 0, 0))] [] (by decide +kernel) rfl trivial h
def l_MD_42 (L : List (Nat × Nat)) : List (Nat × Nat) := l_MD_41 L ++ [(20, 5580)]
def i_MD_42 (I : MI) : MI := m_zap (i_MD_41 I) 218 0
def j_MD_42 (J : MJ) : MJ := m_zap (j_MD_41 J) 218 0
def r_MD_42 (R : MRR) : MRR := m_up (m_zap (r_MD_41 R) 218 none) 177 61 (some (20, 5580, 218))
theorem len_MD_42 {L : List (Nat × Nat)} (h : L.length = 178) : (l_MD_42 L).length = 219 := len_s (len_MD_41 h)
theorem md_41 (hL : L.length = 178) (h : m_B G R0 M_MD_init Q rc rs 806 [some (mR (12, 0, 177))] [] (l_MD_42 L, i_MD_42 I, j_MD_42 J, r_MD_42 R)) : m_B G R0 M_MD_init Q (rc + 1) (rs + 5580) 797 [some (mR (12, 0, 177))] [] (l_MD_41 L, i_MD_41 I, j_MD_41 J, r_MD_41 R) := by
  refine b_blk (pc' := 801) (ls' := [some (mR (12, 0, 177))]) (st' := [mI 5580, mR (12, 0, 177)]) (S' := (l_MD_41 L, i_MD_41 I, j_MD_41 J, r_MD_41 R)) (P := True) [(.aload_n 0, (0, 0, 0, 0, 0)), (.sipush 5580, (0, 0, 0, 5580, 0))] [] (by decide +kernel) rfl trivial ?_
  refine b_newaT (t := .int) (N := 5580) (n := 218) (by decide +kernel) m_arr_int (by decide) (by decide) (by decide) (by decide) (len_MD_41 hL) rfl rfl ?_
  exact b_blk (pc' := 806) (ls' := [some (mR (12, 0, 177))]) (st' := []) (S' := (l_MD_41 L ++ [(20, 5580)], m_zap (i_MD_41 I) 218 0, m_zap (j_MD_41 J) 218 0, m_up (m_zap (r_MD_41 R) 218 none) 177 61 (some (20, 5580, 218)))) (P := True) [(.putfield 136, (12, 61, 3, 0, 0))] [] (by decide +kernel) rfl trivial h
def l_MD_43 (L : List (Nat × Nat)) : List (Nat × Nat) := l_MD_42 L ++ [(24, 31)]
def i_MD_43 (I : MI) : MI := m_zap (i_MD_42 I) 219 0
def j_MD_43 (J : MJ) : MJ := m_zap (j_MD_42 J) 219 0
def r_MD_43 (R : MRR) : MRR := m_up (m_zap (r_MD_42 R) 219 none) 177 62 (some (24, 31, 219))
theorem len_MD_43 {L : List (Nat × Nat)} (h : L.length = 178) : (l_MD_43 L).length = 220 := len_s (len_MD_42 h)
theorem md_42 (hL : L.length = 178) (h : m_B G R0 M_MD_init Q rc rs 814 [some (mR (12, 0, 177))] [] (l_MD_43 L, i_MD_43 I, j_MD_43 J, r_MD_43 R)) : m_B G R0 M_MD_init Q (rc + 1) (rs + 31) 806 [some (mR (12, 0, 177))] [] (l_MD_42 L, i_MD_42 I, j_MD_42 J, r_MD_42 R) := by
  refine b_blk (pc' := 809) (ls' := [some (mR (12, 0, 177))]) (st' := [mI 31, mR (12, 0, 177)]) (S' := (l_MD_42 L, i_MD_42 I, j_MD_42 J, r_MD_42 R)) (P := True) [(.aload_n 0, (0, 0, 0, 0, 0)), (.bipush 31, (0, 0, 0, 31, 0))] [] (by decide +kernel) rfl trivial ?_
  refine b_newaT (t := .boolean) (N := 31) (n := 219) (by decide +kernel) m_arr_boolean (by decide) (by decide) (by decide) (by decide) (len_MD_42 hL) rfl rfl ?_
  exact b_blk (pc' := 814) (ls' := [some (mR (12, 0, 177))]) (st' := []) (S' := (l_MD_42 L ++ [(24, 31)], m_zap (i_MD_42 I) 219 0, m_zap (j_MD_42 J) 219 0, m_up (m_zap (r_MD_42 R) 219 none) 177 62 (some (24, 31, 219)))) (P := True) [(.putfield 139, (12, 62, 3, 0, 0))] [] (by decide +kernel) rfl trivial h
def l_MD_44 (L : List (Nat × Nat)) : List (Nat × Nat) := l_MD_43 L ++ [(20, 7)]
def i_MD_44 (I : MI) : MI := m_zap (i_MD_43 I) 220 0
def j_MD_44 (J : MJ) : MJ := m_zap (j_MD_43 J) 220 0
def r_MD_44 (R : MRR) : MRR := m_up (m_zap (r_MD_43 R) 220 none) 177 64 (some (20, 7, 220))
theorem len_MD_44 {L : List (Nat × Nat)} (h : L.length = 178) : (l_MD_44 L).length = 221 := len_s (len_MD_43 h)
theorem md_43 (hL : L.length = 178) (h : m_B G R0 M_MD_init Q rc rs 822 [some (mR (12, 0, 177))] [] (l_MD_44 L, i_MD_44 I, j_MD_44 J, r_MD_44 R)) : m_B G R0 M_MD_init Q (rc + 1) (rs + 7) 814 [some (mR (12, 0, 177))] [] (l_MD_43 L, i_MD_43 I, j_MD_43 J, r_MD_43 R) := by
  refine b_blk (pc' := 817) (ls' := [some (mR (12, 0, 177))]) (st' := [mI 7, mR (12, 0, 177)]) (S' := (l_MD_43 L, i_MD_43 I, j_MD_43 J, r_MD_43 R)) (P := True) [(.aload_n 0, (0, 0, 0, 0, 0)), (.bipush 7, (0, 0, 0, 7, 0))] [] (by decide +kernel) rfl trivial ?_
  refine b_newaT (t := .int) (N := 7) (n := 220) (by decide +kernel) m_arr_int (by decide) (by decide) (by decide) (by decide) (len_MD_43 hL) rfl rfl ?_
  exact b_blk (pc' := 822) (ls' := [some (mR (12, 0, 177))]) (st' := []) (S' := (l_MD_43 L ++ [(20, 7)], m_zap (i_MD_43 I) 220 0, m_zap (j_MD_43 J) 220 0, m_up (m_zap (r_MD_43 R) 220 none) 177 64 (some (20, 7, 220)))) (P := True) [(.putfield 143, (12, 64, 3, 0, 0))] [] (by decide +kernel) rfl trivial h
def l_MD_45 (L : List (Nat × Nat)) : List (Nat × Nat) := l_MD_44 L ++ [(20, 3520)]
def i_MD_45 (I : MI) : MI := m_zap (i_MD_44 I) 221 0
def j_MD_45 (J : MJ) : MJ := m_zap (j_MD_44 J) 221 0
def r_MD_45 (R : MRR) : MRR := m_up (m_zap (r_MD_44 R) 221 none) 177 65 (some (20, 3520, 221))
theorem len_MD_45 {L : List (Nat × Nat)} (h : L.length = 178) : (l_MD_45 L).length = 222 := len_s (len_MD_44 h)
theorem md_44 (hL : L.length = 178) (h : m_B G R0 M_MD_init Q rc rs 831 [some (mR (12, 0, 177))] [] (l_MD_45 L, i_MD_45 I, j_MD_45 J, r_MD_45 R)) : m_B G R0 M_MD_init Q (rc + 1) (rs + 3520) 822 [some (mR (12, 0, 177))] [] (l_MD_44 L, i_MD_44 I, j_MD_44 J, r_MD_44 R) := by
  refine b_blk (pc' := 826) (ls' := [some (mR (12, 0, 177))]) (st' := [mI 3520, mR (12, 0, 177)]) (S' := (l_MD_44 L, i_MD_44 I, j_MD_44 J, r_MD_44 R)) (P := True) [(.aload_n 0, (0, 0, 0, 0, 0)), (.sipush 3520, (0, 0, 0, 3520, 0))] [] (by decide +kernel) rfl trivial ?_
  refine b_newaT (t := .int) (N := 3520) (n := 221) (by decide +kernel) m_arr_int (by decide) (by decide) (by decide) (by decide) (len_MD_44 hL) rfl rfl ?_
  exact b_blk (pc' := 831) (ls' := [some (mR (12, 0, 177))]) (st' := []) (S' := (l_MD_44 L ++ [(20, 3520)], m_zap (i_MD_44 I) 221 0, m_zap (j_MD_44 J) 221 0, m_up (m_zap (r_MD_44 R) 221 none) 177 65 (some (20, 3520, 221)))) (P := True) [(.putfield 146, (12, 65, 3, 0, 0))] [] (by decide +kernel) rfl trivial h
def l_MD_46 (L : List (Nat × Nat)) : List (Nat × Nat) := l_MD_45 L
def i_MD_46 (I : MI) : MI := i_MD_45 I
def j_MD_46 (J : MJ) : MJ := m_up (j_MD_45 J) 177 68 1
def r_MD_46 (R : MRR) : MRR := r_MD_45 R
theorem len_MD_46 {L : List (Nat × Nat)} (h : L.length = 178) : (l_MD_46 L).length = 222 := len_MD_45 h
theorem md_45 (h : m_B G R0 M_MD_init Q rc rs 836 [some (mR (12, 0, 177))] [] (l_MD_46 L, i_MD_46 I, j_MD_46 J, r_MD_46 R)) : m_B G R0 M_MD_init Q rc rs 831 [some (mR (12, 0, 177))] [] (l_MD_45 L, i_MD_45 I, j_MD_45 J, r_MD_45 R) := by
  exact b_blk (pc' := 836) (ls' := [some (mR (12, 0, 177))]) (st' := []) (S' := (l_MD_45 L, i_MD_45 I, m_up (j_MD_45 J) 177 68 1, r_MD_45 R)) (P := True) [(.aload_n 0, (0, 0, 0, 0, 0)), (.lconst 1, (0, 0, 0, 0, 1)), (.putfield 149, (12, 68, 2, 0, 0))] [] (by decide +kernel) rfl trivial h
def l_MD_47 (L : List (Nat × Nat)) : List (Nat × Nat) := l_MD_46 L ++ [(23, 5)]
def i_MD_47 (I : MI) : MI := m_up (m_up (m_up (m_up (m_up (m_zap (i_MD_46 I) 222 0) 222 0 (vp_nar .char 102)) 222 1 (vp_nar .char 105)) 222 2 (vp_nar .char 114)) 222 3 (vp_nar .char 115)) 222 4 (vp_nar .char 116)
def j_MD_47 (J : MJ) : MJ := m_zap (j_MD_46 J) 222 0
def r_MD_47 (R : MRR) : MRR := m_up (m_zap (r_MD_46 R) 222 none) 177 69 (some (23, 5, 222))
theorem len_MD_47 {L : List (Nat × Nat)} (h : L.length = 178) : (l_MD_47 L).length = 223 := len_s (len_MD_46 h)
theorem md_46 (hL : L.length = 178) (h : m_B G R0 M_MD_init Q rc rs 868 [some (mR (12, 0, 177))] [] (l_MD_47 L, i_MD_47 I, j_MD_47 J, r_MD_47 R)) : m_B G R0 M_MD_init Q (rc + 1) (rs + 5) 836 [some (mR (12, 0, 177))] [] (l_MD_46 L, i_MD_46 I, j_MD_46 J, r_MD_46 R) := by
  refine b_blk (pc' := 838) (ls' := [some (mR (12, 0, 177))]) (st' := [mI 5, mR (12, 0, 177)]) (S' := (l_MD_46 L, i_MD_46 I, j_MD_46 J, r_MD_46 R)) (P := True) [(.aload_n 0, (0, 0, 0, 0, 0)), (.iconst 5, (0, 0, 0, 5, 0))] [] (by decide +kernel) rfl trivial ?_
  refine b_newaT (t := .char) (N := 5) (n := 222) (by decide +kernel) m_arr_char (by decide) (by decide) (by decide) (by decide) (len_MD_46 hL) rfl rfl ?_
  exact b_blk (pc' := 868) (ls' := [some (mR (12, 0, 177))]) (st' := []) (S' := (l_MD_46 L ++ [(23, 5)], m_up (m_up (m_up (m_up (m_up (m_zap (i_MD_46 I) 222 0) 222 0 (vp_nar .char 102)) 222 1 (vp_nar .char 105)) 222 2 (vp_nar .char 114)) 222 3 (vp_nar .char 115)) 222 4 (vp_nar .char 116), m_zap (j_MD_46 J) 222 0, m_up (m_zap (r_MD_46 R) 222 none) 177 69 (some (23, 5, 222)))) (P := ((((True ∧ vp_in 0 5) ∧ vp_in 1 5) ∧ vp_in 2 5) ∧ vp_in 3 5) ∧ vp_in 4 5) [(.dup, (0, 0, 0, 0, 0)), (.iconst 0, (0, 0, 0, 0, 0)), (.bipush 102, (0, 0, 0, 102, 0)), (.castore, (0, 0, 0, 0, 0)), (.dup, (0, 0, 0, 0, 0)), (.iconst 1, (0, 0, 0, 1, 0)), (.bipush 105, (0, 0, 0, 105, 0)), (.castore, (0, 0, 0, 0, 0)), (.dup, (0, 0, 0, 0, 0)), (.iconst 2, (0, 0, 0, 2, 0)), (.bipush 114, (0, 0, 0, 114, 0)), (.castore, (0, 0, 0, 0, 0)), (.dup, (0, 0, 0, 0, 0)), (.iconst 3, (0, 0, 0, 3, 0)), (.bipush 115, (0, 0, 0, 115, 0)), (.castore, (0, 0, 0, 0, 0)), (.dup, (0, 0, 0, 0, 0)), (.iconst 4, (0, 0, 0, 4, 0)), (.bipush 116, (0, 0, 0, 116, 0)), (.castore, (0, 0, 0, 0, 0)), (.putfield 153, (12, 69, 3, 0, 0))] [] (by decide +kernel) rfl ⟨⟨⟨⟨⟨trivial, vin (by decide)⟩, vin (by decide)⟩, vin (by decide)⟩, vin (by decide)⟩, vin (by decide)⟩ h
def l_MD_48 (L : List (Nat × Nat)) : List (Nat × Nat) := l_MD_47 L ++ [(23, 4)]
def i_MD_48 (I : MI) : MI := m_up (m_up (m_up (m_up (m_zap (i_MD_47 I) 223 0) 223 0 (vp_nar .char 108)) 223 1 (vp_nar .char 97)) 223 2 (vp_nar .char 115)) 223 3 (vp_nar .char 116)
def j_MD_48 (J : MJ) : MJ := m_zap (j_MD_47 J) 223 0
def r_MD_48 (R : MRR) : MRR := m_up (m_zap (r_MD_47 R) 223 none) 177 70 (some (23, 4, 223))
theorem len_MD_48 {L : List (Nat × Nat)} (h : L.length = 178) : (l_MD_48 L).length = 224 := len_s (len_MD_47 h)
theorem md_47 (hL : L.length = 178) (h : m_B G R0 M_MD_init Q rc rs 895 [some (mR (12, 0, 177))] [] (l_MD_48 L, i_MD_48 I, j_MD_48 J, r_MD_48 R)) : m_B G R0 M_MD_init Q (rc + 1) (rs + 4) 868 [some (mR (12, 0, 177))] [] (l_MD_47 L, i_MD_47 I, j_MD_47 J, r_MD_47 R) := by
  refine b_blk (pc' := 870) (ls' := [some (mR (12, 0, 177))]) (st' := [mI 4, mR (12, 0, 177)]) (S' := (l_MD_47 L, i_MD_47 I, j_MD_47 J, r_MD_47 R)) (P := True) [(.aload_n 0, (0, 0, 0, 0, 0)), (.iconst 4, (0, 0, 0, 4, 0))] [] (by decide +kernel) rfl trivial ?_
  refine b_newaT (t := .char) (N := 4) (n := 223) (by decide +kernel) m_arr_char (by decide) (by decide) (by decide) (by decide) (len_MD_47 hL) rfl rfl ?_
  exact b_blk (pc' := 895) (ls' := [some (mR (12, 0, 177))]) (st' := []) (S' := (l_MD_47 L ++ [(23, 4)], m_up (m_up (m_up (m_up (m_zap (i_MD_47 I) 223 0) 223 0 (vp_nar .char 108)) 223 1 (vp_nar .char 97)) 223 2 (vp_nar .char 115)) 223 3 (vp_nar .char 116), m_zap (j_MD_47 J) 223 0, m_up (m_zap (r_MD_47 R) 223 none) 177 70 (some (23, 4, 223)))) (P := (((True ∧ vp_in 0 4) ∧ vp_in 1 4) ∧ vp_in 2 4) ∧ vp_in 3 4) [(.dup, (0, 0, 0, 0, 0)), (.iconst 0, (0, 0, 0, 0, 0)), (.bipush 108, (0, 0, 0, 108, 0)), (.castore, (0, 0, 0, 0, 0)), (.dup, (0, 0, 0, 0, 0)), (.iconst 1, (0, 0, 0, 1, 0)), (.bipush 97, (0, 0, 0, 97, 0)), (.castore, (0, 0, 0, 0, 0)), (.dup, (0, 0, 0, 0, 0)), (.iconst 2, (0, 0, 0, 2, 0)), (.bipush 115, (0, 0, 0, 115, 0)), (.castore, (0, 0, 0, 0, 0)), (.dup, (0, 0, 0, 0, 0)), (.iconst 3, (0, 0, 0, 3, 0)), (.bipush 116, (0, 0, 0, 116, 0)), (.castore, (0, 0, 0, 0, 0)), (.putfield 156, (12, 70, 3, 0, 0))] [] (by decide +kernel) rfl ⟨⟨⟨⟨trivial, vin (by decide)⟩, vin (by decide)⟩, vin (by decide)⟩, vin (by decide)⟩ h
def l_MD_49 (L : List (Nat × Nat)) : List (Nat × Nat) := l_MD_48 L ++ [(23, 5)]
def i_MD_49 (I : MI) : MI := m_up (m_up (m_up (m_up (m_up (m_zap (i_MD_48 I) 224 0) 224 0 (vp_nar .char 111)) 224 1 (vp_nar .char 102)) 224 2 (vp_nar .char 116)) 224 3 (vp_nar .char 101)) 224 4 (vp_nar .char 110)
def j_MD_49 (J : MJ) : MJ := m_zap (j_MD_48 J) 224 0
def r_MD_49 (R : MRR) : MRR := m_up (m_zap (r_MD_48 R) 224 none) 177 71 (some (23, 5, 224))
theorem len_MD_49 {L : List (Nat × Nat)} (h : L.length = 178) : (l_MD_49 L).length = 225 := len_s (len_MD_48 h)
theorem md_48 (hL : L.length = 178) (h : m_B G R0 M_MD_init Q rc rs 927 [some (mR (12, 0, 177))] [] (l_MD_49 L, i_MD_49 I, j_MD_49 J, r_MD_49 R)) : m_B G R0 M_MD_init Q (rc + 1) (rs + 5) 895 [some (mR (12, 0, 177))] [] (l_MD_48 L, i_MD_48 I, j_MD_48 J, r_MD_48 R) := by
  refine b_blk (pc' := 897) (ls' := [some (mR (12, 0, 177))]) (st' := [mI 5, mR (12, 0, 177)]) (S' := (l_MD_48 L, i_MD_48 I, j_MD_48 J, r_MD_48 R)) (P := True) [(.aload_n 0, (0, 0, 0, 0, 0)), (.iconst 5, (0, 0, 0, 5, 0))] [] (by decide +kernel) rfl trivial ?_
  refine b_newaT (t := .char) (N := 5) (n := 224) (by decide +kernel) m_arr_char (by decide) (by decide) (by decide) (by decide) (len_MD_48 hL) rfl rfl ?_
  exact b_blk (pc' := 927) (ls' := [some (mR (12, 0, 177))]) (st' := []) (S' := (l_MD_48 L ++ [(23, 5)], m_up (m_up (m_up (m_up (m_up (m_zap (i_MD_48 I) 224 0) 224 0 (vp_nar .char 111)) 224 1 (vp_nar .char 102)) 224 2 (vp_nar .char 116)) 224 3 (vp_nar .char 101)) 224 4 (vp_nar .char 110), m_zap (j_MD_48 J) 224 0, m_up (m_zap (r_MD_48 R) 224 none) 177 71 (some (23, 5, 224)))) (P := ((((True ∧ vp_in 0 5) ∧ vp_in 1 5) ∧ vp_in 2 5) ∧ vp_in 3 5) ∧ vp_in 4 5) [(.dup, (0, 0, 0, 0, 0)), (.iconst 0, (0, 0, 0, 0, 0)), (.bipush 111, (0, 0, 0, 111, 0)), (.castore, (0, 0, 0, 0, 0)), (.dup, (0, 0, 0, 0, 0)), (.iconst 1, (0, 0, 0, 1, 0)), (.bipush 102, (0, 0, 0, 102, 0)), (.castore, (0, 0, 0, 0, 0)), (.dup, (0, 0, 0, 0, 0)), (.iconst 2, (0, 0, 0, 2, 0)), (.bipush 116, (0, 0, 0, 116, 0)), (.castore, (0, 0, 0, 0, 0)), (.dup, (0, 0, 0, 0, 0)), (.iconst 3, (0, 0, 0, 3, 0)), (.bipush 101, (0, 0, 0, 101, 0)), (.castore, (0, 0, 0, 0, 0)), (.dup, (0, 0, 0, 0, 0)), (.iconst 4, (0, 0, 0, 4, 0)), (.bipush 110, (0, 0, 0, 110, 0)), (.castore, (0, 0, 0, 0, 0)), (.putfield 159, (12, 71, 3, 0, 0))] [] (by decide +kernel) rfl ⟨⟨⟨⟨⟨trivial, vin (by decide)⟩, vin (by decide)⟩, vin (by decide)⟩, vin (by decide)⟩, vin (by decide)⟩ h
def l_MD_50 (L : List (Nat × Nat)) : List (Nat × Nat) := l_MD_49 L ++ [(23, 5)]
def i_MD_50 (I : MI) : MI := m_up (m_up (m_up (m_up (m_up (m_zap (i_MD_49 I) 225 0) 225 0 (vp_nar .char 116)) 225 1 (vp_nar .char 111)) 225 2 (vp_nar .char 116)) 225 3 (vp_nar .char 97)) 225 4 (vp_nar .char 108)
def j_MD_50 (J : MJ) : MJ := m_zap (j_MD_49 J) 225 0
def r_MD_50 (R : MRR) : MRR := m_up (m_zap (r_MD_49 R) 225 none) 177 72 (some (23, 5, 225))
theorem len_MD_50 {L : List (Nat × Nat)} (h : L.length = 178) : (l_MD_50 L).length = 226 := len_s (len_MD_49 h)
theorem md_49 (hL : L.length = 178) (h : m_B G R0 M_MD_init Q rc rs 959 [some (mR (12, 0, 177))] [] (l_MD_50 L, i_MD_50 I, j_MD_50 J, r_MD_50 R)) : m_B G R0 M_MD_init Q (rc + 1) (rs + 5) 927 [some (mR (12, 0, 177))] [] (l_MD_49 L, i_MD_49 I, j_MD_49 J, r_MD_49 R) := by
  refine b_blk (pc' := 929) (ls' := [some (mR (12, 0, 177))]) (st' := [mI 5, mR (12, 0, 177)]) (S' := (l_MD_49 L, i_MD_49 I, j_MD_49 J, r_MD_49 R)) (P := True) [(.aload_n 0, (0, 0, 0, 0, 0)), (.iconst 5, (0, 0, 0, 5, 0))] [] (by decide +kernel) rfl trivial ?_
  refine b_newaT (t := .char) (N := 5) (n := 225) (by decide +kernel) m_arr_char (by decide) (by decide) (by decide) (by decide) (len_MD_49 hL) rfl rfl ?_
  exact b_blk (pc' := 959) (ls' := [some (mR (12, 0, 177))]) (st' := []) (S' := (l_MD_49 L ++ [(23, 5)], m_up (m_up (m_up (m_up (m_up (m_zap (i_MD_49 I) 225 0) 225 0 (vp_nar .char 116)) 225 1 (vp_nar .char 111)) 225 2 (vp_nar .char 116)) 225 3 (vp_nar .char 97)) 225 4 (vp_nar .char 108), m_zap (j_MD_49 J) 225 0, m_up (m_zap (r_MD_49 R) 225 none) 177 72 (some (23, 5, 225)))) (P := ((((True ∧ vp_in 0 5) ∧ vp_in 1 5) ∧ vp_in 2 5) ∧ vp_in 3 5) ∧ vp_in 4 5) [(.dup, (0, 0, 0, 0, 0)), (.iconst 0, (0, 0, 0, 0, 0)), (.bipush 116, (0, 0, 0, 116, 0)), (.castore, (0, 0, 0, 0, 0)), (.dup, (0, 0, 0, 0, 0)), (.iconst 1, (0, 0, 0, 1, 0)), (.bipush 111, (0, 0, 0, 111, 0)), (.castore, (0, 0, 0, 0, 0)), (.dup, (0, 0, 0, 0, 0)), (.iconst 2, (0, 0, 0, 2, 0)), (.bipush 116, (0, 0, 0, 116, 0)), (.castore, (0, 0, 0, 0, 0)), (.dup, (0, 0, 0, 0, 0)), (.iconst 3, (0, 0, 0, 3, 0)), (.bipush 97, (0, 0, 0, 97, 0)), (.castore, (0, 0, 0, 0, 0)), (.dup, (0, 0, 0, 0, 0)), (.iconst 4, (0, 0, 0, 4, 0)), (.bipush 108, (0, 0, 0, 108, 0)), (.castore, (0, 0, 0, 0, 0)), (.putfield 162, (12, 72, 3, 0, 0))] [] (by decide +kernel) rfl ⟨⟨⟨⟨⟨trivial, vin (by decide)⟩, vin (by decide)⟩, vin (by decide)⟩, vin (by decide)⟩, vin (by decide)⟩ h
def l_MD_51 (L : List (Nat × Nat)) : List (Nat × Nat) := l_MD_50 L ++ [(23, 4)]
def i_MD_51 (I : MI) : MI := m_up (m_up (m_up (m_up (m_zap (i_MD_50 I) 226 0) 226 0 (vp_nar .char 109)) 226 1 (vp_nar .char 111)) 226 2 (vp_nar .char 115)) 226 3 (vp_nar .char 116)
def j_MD_51 (J : MJ) : MJ := m_zap (j_MD_50 J) 226 0
def r_MD_51 (R : MRR) : MRR := m_up (m_zap (r_MD_50 R) 226 none) 177 73 (some (23, 4, 226))
theorem len_MD_51 {L : List (Nat × Nat)} (h : L.length = 178) : (l_MD_51 L).length = 227 := len_s (len_MD_50 h)
theorem md_50 (hL : L.length = 178) (h : m_B G R0 M_MD_init Q rc rs 986 [some (mR (12, 0, 177))] [] (l_MD_51 L, i_MD_51 I, j_MD_51 J, r_MD_51 R)) : m_B G R0 M_MD_init Q (rc + 1) (rs + 4) 959 [some (mR (12, 0, 177))] [] (l_MD_50 L, i_MD_50 I, j_MD_50 J, r_MD_50 R) := by
  refine b_blk (pc' := 961) (ls' := [some (mR (12, 0, 177))]) (st' := [mI 4, mR (12, 0, 177)]) (S' := (l_MD_50 L, i_MD_50 I, j_MD_50 J, r_MD_50 R)) (P := True) [(.aload_n 0, (0, 0, 0, 0, 0)), (.iconst 4, (0, 0, 0, 4, 0))] [] (by decide +kernel) rfl trivial ?_
  refine b_newaT (t := .char) (N := 4) (n := 226) (by decide +kernel) m_arr_char (by decide) (by decide) (by decide) (by decide) (len_MD_50 hL) rfl rfl ?_
  exact b_blk (pc' := 986) (ls' := [some (mR (12, 0, 177))]) (st' := []) (S' := (l_MD_50 L ++ [(23, 4)], m_up (m_up (m_up (m_up (m_zap (i_MD_50 I) 226 0) 226 0 (vp_nar .char 109)) 226 1 (vp_nar .char 111)) 226 2 (vp_nar .char 115)) 226 3 (vp_nar .char 116), m_zap (j_MD_50 J) 226 0, m_up (m_zap (r_MD_50 R) 226 none) 177 73 (some (23, 4, 226)))) (P := (((True ∧ vp_in 0 4) ∧ vp_in 1 4) ∧ vp_in 2 4) ∧ vp_in 3 4) [(.dup, (0, 0, 0, 0, 0)), (.iconst 0, (0, 0, 0, 0, 0)), (.bipush 109, (0, 0, 0, 109, 0)), (.castore, (0, 0, 0, 0, 0)), (.dup, (0, 0, 0, 0, 0)), (.iconst 1, (0, 0, 0, 1, 0)), (.bipush 111, (0, 0, 0, 111, 0)), (.castore, (0, 0, 0, 0, 0)), (.dup, (0, 0, 0, 0, 0)), (.iconst 2, (0, 0, 0, 2, 0)), (.bipush 115, (0, 0, 0, 115, 0)), (.castore, (0, 0, 0, 0, 0)), (.dup, (0, 0, 0, 0, 0)), (.iconst 3, (0, 0, 0, 3, 0)), (.bipush 116, (0, 0, 0, 116, 0)), (.castore, (0, 0, 0, 0, 0)), (.putfield 165, (12, 73, 3, 0, 0))] [] (by decide +kernel) rfl ⟨⟨⟨⟨trivial, vin (by decide)⟩, vin (by decide)⟩, vin (by decide)⟩, vin (by decide)⟩ h
def l_MD_52 (L : List (Nat × Nat)) : List (Nat × Nat) := l_MD_51 L ++ [(23, 5)]
def i_MD_52 (I : MI) : MI := m_up (m_up (m_up (m_up (m_up (m_zap (i_MD_51 I) 227 0) 227 0 (vp_nar .char 108)) 227 1 (vp_nar .char 101)) 227 2 (vp_nar .char 97)) 227 3 (vp_nar .char 115)) 227 4 (vp_nar .char 116)
def j_MD_52 (J : MJ) : MJ := m_zap (j_MD_51 J) 227 0
def r_MD_52 (R : MRR) : MRR := m_up (m_zap (r_MD_51 R) 227 none) 177 74 (some (23, 5, 227))
theorem len_MD_52 {L : List (Nat × Nat)} (h : L.length = 178) : (l_MD_52 L).length = 228 := len_s (len_MD_51 h)
theorem md_51 (hL : L.length = 178) (h : m_B G R0 M_MD_init Q rc rs 1018 [some (mR (12, 0, 177))] [] (l_MD_52 L, i_MD_52 I, j_MD_52 J, r_MD_52 R)) : m_B G R0 M_MD_init Q (rc + 1) (rs + 5) 986 [some (mR (12, 0, 177))] [] (l_MD_51 L, i_MD_51 I, j_MD_51 J, r_MD_51 R) := by
  refine b_blk (pc' := 988) (ls' := [some (mR (12, 0, 177))]) (st' := [mI 5, mR (12, 0, 177)]) (S' := (l_MD_51 L, i_MD_51 I, j_MD_51 J, r_MD_51 R)) (P := True) [(.aload_n 0, (0, 0, 0, 0, 0)), (.iconst 5, (0, 0, 0, 5, 0))] [] (by decide +kernel) rfl trivial ?_
  refine b_newaT (t := .char) (N := 5) (n := 227) (by decide +kernel) m_arr_char (by decide) (by decide) (by decide) (by decide) (len_MD_51 hL) rfl rfl ?_
  exact b_blk (pc' := 1018) (ls' := [some (mR (12, 0, 177))]) (st' := []) (S' := (l_MD_51 L ++ [(23, 5)], m_up (m_up (m_up (m_up (m_up (m_zap (i_MD_51 I) 227 0) 227 0 (vp_nar .char 108)) 227 1 (vp_nar .char 101)) 227 2 (vp_nar .char 97)) 227 3 (vp_nar .char 115)) 227 4 (vp_nar .char 116), m_zap (j_MD_51 J) 227 0, m_up (m_zap (r_MD_51 R) 227 none) 177 74 (some (23, 5, 227)))) (P := ((((True ∧ vp_in 0 5) ∧ vp_in 1 5) ∧ vp_in 2 5) ∧ vp_in 3 5) ∧ vp_in 4 5) [(.dup, (0, 0, 0, 0, 0)), (.iconst 0, (0, 0, 0, 0, 0)), (.bipush 108, (0, 0, 0, 108, 0)), (.castore, (0, 0, 0, 0, 0)), (.dup, (0, 0, 0, 0, 0)), (.iconst 1, (0, 0, 0, 1, 0)), (.bipush 101, (0, 0, 0, 101, 0)), (.castore, (0, 0, 0, 0, 0)), (.dup, (0, 0, 0, 0, 0)), (.iconst 2, (0, 0, 0, 2, 0)), (.bipush 97, (0, 0, 0, 97, 0)), (.castore, (0, 0, 0, 0, 0)), (.dup, (0, 0, 0, 0, 0)), (.iconst 3, (0, 0, 0, 3, 0)), (.bipush 115, (0, 0, 0, 115, 0)), (.castore, (0, 0, 0, 0, 0)), (.dup, (0, 0, 0, 0, 0)), (.iconst 4, (0, 0, 0, 4, 0)), (.bipush 116, (0, 0, 0, 116, 0)), (.castore, (0, 0, 0, 0, 0)), (.putfield 168, (12, 74, 3, 0, 0))] [] (by decide +kernel) rfl ⟨⟨⟨⟨⟨trivial, vin (by decide)⟩, vin (by decide)⟩, vin (by decide)⟩, vin (by decide)⟩, vin (by decide)⟩ h
def l_MD_53 (L : List (Nat × Nat)) : List (Nat × Nat) := l_MD_52 L ++ [(23, 3)]
def i_MD_53 (I : MI) : MI := m_up (m_up (m_up (m_zap (i_MD_52 I) 228 0) 228 0 (vp_nar .char 110)) 228 1 (vp_nar .char 111)) 228 2 (vp_nar .char 116)
def j_MD_53 (J : MJ) : MJ := m_zap (j_MD_52 J) 228 0
def r_MD_53 (R : MRR) : MRR := m_up (m_zap (r_MD_52 R) 228 none) 177 75 (some (23, 3, 228))
theorem len_MD_53 {L : List (Nat × Nat)} (h : L.length = 178) : (l_MD_53 L).length = 229 := len_s (len_MD_52 h)
theorem md_52 (hL : L.length = 178) (h : m_B G R0 M_MD_init Q rc rs 1040 [some (mR (12, 0, 177))] [] (l_MD_53 L, i_MD_53 I, j_MD_53 J, r_MD_53 R)) : m_B G R0 M_MD_init Q (rc + 1) (rs + 3) 1018 [some (mR (12, 0, 177))] [] (l_MD_52 L, i_MD_52 I, j_MD_52 J, r_MD_52 R) := by
  refine b_blk (pc' := 1020) (ls' := [some (mR (12, 0, 177))]) (st' := [mI 3, mR (12, 0, 177)]) (S' := (l_MD_52 L, i_MD_52 I, j_MD_52 J, r_MD_52 R)) (P := True) [(.aload_n 0, (0, 0, 0, 0, 0)), (.iconst 3, (0, 0, 0, 3, 0))] [] (by decide +kernel) rfl trivial ?_
  refine b_newaT (t := .char) (N := 3) (n := 228) (by decide +kernel) m_arr_char (by decide) (by decide) (by decide) (by decide) (len_MD_52 hL) rfl rfl ?_
  exact b_blk (pc' := 1040) (ls' := [some (mR (12, 0, 177))]) (st' := []) (S' := (l_MD_52 L ++ [(23, 3)], m_up (m_up (m_up (m_zap (i_MD_52 I) 228 0) 228 0 (vp_nar .char 110)) 228 1 (vp_nar .char 111)) 228 2 (vp_nar .char 116), m_zap (j_MD_52 J) 228 0, m_up (m_zap (r_MD_52 R) 228 none) 177 75 (some (23, 3, 228)))) (P := ((True ∧ vp_in 0 3) ∧ vp_in 1 3) ∧ vp_in 2 3) [(.dup, (0, 0, 0, 0, 0)), (.iconst 0, (0, 0, 0, 0, 0)), (.bipush 110, (0, 0, 0, 110, 0)), (.castore, (0, 0, 0, 0, 0)), (.dup, (0, 0, 0, 0, 0)), (.iconst 1, (0, 0, 0, 1, 0)), (.bipush 111, (0, 0, 0, 111, 0)), (.castore, (0, 0, 0, 0, 0)), (.dup, (0, 0, 0, 0, 0)), (.iconst 2, (0, 0, 0, 2, 0)), (.bipush 116, (0, 0, 0, 116, 0)), (.castore, (0, 0, 0, 0, 0)), (.putfield 171, (12, 75, 3, 0, 0))] [] (by decide +kernel) rfl ⟨⟨⟨trivial, vin (by decide)⟩, vin (by decide)⟩, vin (by decide)⟩ h
def l_MD_54 (L : List (Nat × Nat)) : List (Nat × Nat) := l_MD_53 L ++ [(23, 3)]
def i_MD_54 (I : MI) : MI := m_up (m_up (m_up (m_zap (i_MD_53 I) 229 0) 229 0 (vp_nar .char 97)) 229 1 (vp_nar .char 110)) 229 2 (vp_nar .char 100)
def j_MD_54 (J : MJ) : MJ := m_zap (j_MD_53 J) 229 0
def r_MD_54 (R : MRR) : MRR := m_up (m_zap (r_MD_53 R) 229 none) 177 76 (some (23, 3, 229))
theorem len_MD_54 {L : List (Nat × Nat)} (h : L.length = 178) : (l_MD_54 L).length = 230 := len_s (len_MD_53 h)
theorem md_53 (hL : L.length = 178) (h : m_B G R0 M_MD_init Q rc rs 1062 [some (mR (12, 0, 177))] [] (l_MD_54 L, i_MD_54 I, j_MD_54 J, r_MD_54 R)) : m_B G R0 M_MD_init Q (rc + 1) (rs + 3) 1040 [some (mR (12, 0, 177))] [] (l_MD_53 L, i_MD_53 I, j_MD_53 J, r_MD_53 R) := by
  refine b_blk (pc' := 1042) (ls' := [some (mR (12, 0, 177))]) (st' := [mI 3, mR (12, 0, 177)]) (S' := (l_MD_53 L, i_MD_53 I, j_MD_53 J, r_MD_53 R)) (P := True) [(.aload_n 0, (0, 0, 0, 0, 0)), (.iconst 3, (0, 0, 0, 3, 0))] [] (by decide +kernel) rfl trivial ?_
  refine b_newaT (t := .char) (N := 3) (n := 229) (by decide +kernel) m_arr_char (by decide) (by decide) (by decide) (by decide) (len_MD_53 hL) rfl rfl ?_
  exact b_blk (pc' := 1062) (ls' := [some (mR (12, 0, 177))]) (st' := []) (S' := (l_MD_53 L ++ [(23, 3)], m_up (m_up (m_up (m_zap (i_MD_53 I) 229 0) 229 0 (vp_nar .char 97)) 229 1 (vp_nar .char 110)) 229 2 (vp_nar .char 100), m_zap (j_MD_53 J) 229 0, m_up (m_zap (r_MD_53 R) 229 none) 177 76 (some (23, 3, 229)))) (P := ((True ∧ vp_in 0 3) ∧ vp_in 1 3) ∧ vp_in 2 3) [(.dup, (0, 0, 0, 0, 0)), (.iconst 0, (0, 0, 0, 0, 0)), (.bipush 97, (0, 0, 0, 97, 0)), (.castore, (0, 0, 0, 0, 0)), (.dup, (0, 0, 0, 0, 0)), (.iconst 1, (0, 0, 0, 1, 0)), (.bipush 110, (0, 0, 0, 110, 0)), (.castore, (0, 0, 0, 0, 0)), (.dup, (0, 0, 0, 0, 0)), (.iconst 2, (0, 0, 0, 2, 0)), (.bipush 100, (0, 0, 0, 100, 0)), (.castore, (0, 0, 0, 0, 0)), (.putfield 174, (12, 76, 3, 0, 0))] [] (by decide +kernel) rfl ⟨⟨⟨trivial, vin (by decide)⟩, vin (by decide)⟩, vin (by decide)⟩ h
def l_MD_55 (L : List (Nat × Nat)) : List (Nat × Nat) := l_MD_54 L ++ [(23, 2)]
def i_MD_55 (I : MI) : MI := m_up (m_up (m_zap (i_MD_54 I) 230 0) 230 0 (vp_nar .char 111)) 230 1 (vp_nar .char 114)
def j_MD_55 (J : MJ) : MJ := m_zap (j_MD_54 J) 230 0
def r_MD_55 (R : MRR) : MRR := m_up (m_zap (r_MD_54 R) 230 none) 177 77 (some (23, 2, 230))
theorem len_MD_55 {L : List (Nat × Nat)} (h : L.length = 178) : (l_MD_55 L).length = 231 := len_s (len_MD_54 h)
theorem md_54 (hL : L.length = 178) (h : m_B G R0 M_MD_init Q rc rs 1079 [some (mR (12, 0, 177))] [] (l_MD_55 L, i_MD_55 I, j_MD_55 J, r_MD_55 R)) : m_B G R0 M_MD_init Q (rc + 1) (rs + 2) 1062 [some (mR (12, 0, 177))] [] (l_MD_54 L, i_MD_54 I, j_MD_54 J, r_MD_54 R) := by
  refine b_blk (pc' := 1064) (ls' := [some (mR (12, 0, 177))]) (st' := [mI 2, mR (12, 0, 177)]) (S' := (l_MD_54 L, i_MD_54 I, j_MD_54 J, r_MD_54 R)) (P := True) [(.aload_n 0, (0, 0, 0, 0, 0)), (.iconst 2, (0, 0, 0, 2, 0))] [] (by decide +kernel) rfl trivial ?_
  refine b_newaT (t := .char) (N := 2) (n := 230) (by decide +kernel) m_arr_char (by decide) (by decide) (by decide) (by decide) (len_MD_54 hL) rfl rfl ?_
  exact b_blk (pc' := 1079) (ls' := [some (mR (12, 0, 177))]) (st' := []) (S' := (l_MD_54 L ++ [(23, 2)], m_up (m_up (m_zap (i_MD_54 I) 230 0) 230 0 (vp_nar .char 111)) 230 1 (vp_nar .char 114), m_zap (j_MD_54 J) 230 0, m_up (m_zap (r_MD_54 R) 230 none) 177 77 (some (23, 2, 230)))) (P := (True ∧ vp_in 0 2) ∧ vp_in 1 2) [(.dup, (0, 0, 0, 0, 0)), (.iconst 0, (0, 0, 0, 0, 0)), (.bipush 111, (0, 0, 0, 111, 0)), (.castore, (0, 0, 0, 0, 0)), (.dup, (0, 0, 0, 0, 0)), (.iconst 1, (0, 0, 0, 1, 0)), (.bipush 114, (0, 0, 0, 114, 0)), (.castore, (0, 0, 0, 0, 0)), (.putfield 177, (12, 77, 3, 0, 0))] [] (by decide +kernel) rfl ⟨⟨trivial, vin (by decide)⟩, vin (by decide)⟩ h
def l_MD_56 (L : List (Nat × Nat)) : List (Nat × Nat) := l_MD_55 L ++ [(23, 3)]
def i_MD_56 (I : MI) : MI := m_up (m_up (m_up (m_zap (i_MD_55 I) 231 0) 231 0 (vp_nar .char 97)) 231 1 (vp_nar .char 108)) 231 2 (vp_nar .char 108)
def j_MD_56 (J : MJ) : MJ := m_zap (j_MD_55 J) 231 0
def r_MD_56 (R : MRR) : MRR := m_up (m_zap (r_MD_55 R) 231 none) 177 78 (some (23, 3, 231))
theorem len_MD_56 {L : List (Nat × Nat)} (h : L.length = 178) : (l_MD_56 L).length = 232 := len_s (len_MD_55 h)
theorem md_55 (hL : L.length = 178) (h : m_B G R0 M_MD_init Q rc rs 1101 [some (mR (12, 0, 177))] [] (l_MD_56 L, i_MD_56 I, j_MD_56 J, r_MD_56 R)) : m_B G R0 M_MD_init Q (rc + 1) (rs + 3) 1079 [some (mR (12, 0, 177))] [] (l_MD_55 L, i_MD_55 I, j_MD_55 J, r_MD_55 R) := by
  refine b_blk (pc' := 1081) (ls' := [some (mR (12, 0, 177))]) (st' := [mI 3, mR (12, 0, 177)]) (S' := (l_MD_55 L, i_MD_55 I, j_MD_55 J, r_MD_55 R)) (P := True) [(.aload_n 0, (0, 0, 0, 0, 0)), (.iconst 3, (0, 0, 0, 3, 0))] [] (by decide +kernel) rfl trivial ?_
  refine b_newaT (t := .char) (N := 3) (n := 231) (by decide +kernel) m_arr_char (by decide) (by decide) (by decide) (by decide) (len_MD_55 hL) rfl rfl ?_
  exact b_blk (pc' := 1101) (ls' := [some (mR (12, 0, 177))]) (st' := []) (S' := (l_MD_55 L ++ [(23, 3)], m_up (m_up (m_up (m_zap (i_MD_55 I) 231 0) 231 0 (vp_nar .char 97)) 231 1 (vp_nar .char 108)) 231 2 (vp_nar .char 108), m_zap (j_MD_55 J) 231 0, m_up (m_zap (r_MD_55 R) 231 none) 177 78 (some (23, 3, 231)))) (P := ((True ∧ vp_in 0 3) ∧ vp_in 1 3) ∧ vp_in 2 3) [(.dup, (0, 0, 0, 0, 0)), (.iconst 0, (0, 0, 0, 0, 0)), (.bipush 97, (0, 0, 0, 97, 0)), (.castore, (0, 0, 0, 0, 0)), (.dup, (0, 0, 0, 0, 0)), (.iconst 1, (0, 0, 0, 1, 0)), (.bipush 108, (0, 0, 0, 108, 0)), (.castore, (0, 0, 0, 0, 0)), (.dup, (0, 0, 0, 0, 0)), (.iconst 2, (0, 0, 0, 2, 0)), (.bipush 108, (0, 0, 0, 108, 0)), (.castore, (0, 0, 0, 0, 0)), (.putfield 180, (12, 78, 3, 0, 0))] [] (by decide +kernel) rfl ⟨⟨⟨trivial, vin (by decide)⟩, vin (by decide)⟩, vin (by decide)⟩ h
def l_MD_57 (L : List (Nat × Nat)) : List (Nat × Nat) := l_MD_56 L ++ [(23, 3)]
def i_MD_57 (I : MI) : MI := m_up (m_up (m_up (m_zap (i_MD_56 I) 232 0) 232 0 (vp_nar .char 109)) 232 1 (vp_nar .char 105)) 232 2 (vp_nar .char 110)
def j_MD_57 (J : MJ) : MJ := m_zap (j_MD_56 J) 232 0
def r_MD_57 (R : MRR) : MRR := m_up (m_zap (r_MD_56 R) 232 none) 177 79 (some (23, 3, 232))
theorem len_MD_57 {L : List (Nat × Nat)} (h : L.length = 178) : (l_MD_57 L).length = 233 := len_s (len_MD_56 h)
theorem md_56 (hL : L.length = 178) (h : m_B G R0 M_MD_init Q rc rs 1123 [some (mR (12, 0, 177))] [] (l_MD_57 L, i_MD_57 I, j_MD_57 J, r_MD_57 R)) : m_B G R0 M_MD_init Q (rc + 1) (rs + 3) 1101 [some (mR (12, 0, 177))] [] (l_MD_56 L, i_MD_56 I, j_MD_56 J, r_MD_56 R) := by
  refine b_blk (pc' := 1103) (ls' := [some (mR (12, 0, 177))]) (st' := [mI 3, mR (12, 0, 177)]) (S' := (l_MD_56 L, i_MD_56 I, j_MD_56 J, r_MD_56 R)) (P := True) [(.aload_n 0, (0, 0, 0, 0, 0)), (.iconst 3, (0, 0, 0, 3, 0))] [] (by decide +kernel) rfl trivial ?_
  refine b_newaT (t := .char) (N := 3) (n := 232) (by decide +kernel) m_arr_char (by decide) (by decide) (by decide) (by decide) (len_MD_56 hL) rfl rfl ?_
  exact b_blk (pc' := 1123) (ls' := [some (mR (12, 0, 177))]) (st' := []) (S' := (l_MD_56 L ++ [(23, 3)], m_up (m_up (m_up (m_zap (i_MD_56 I) 232 0) 232 0 (vp_nar .char 109)) 232 1 (vp_nar .char 105)) 232 2 (vp_nar .char 110), m_zap (j_MD_56 J) 232 0, m_up (m_zap (r_MD_56 R) 232 none) 177 79 (some (23, 3, 232)))) (P := ((True ∧ vp_in 0 3) ∧ vp_in 1 3) ∧ vp_in 2 3) [(.dup, (0, 0, 0, 0, 0)), (.iconst 0, (0, 0, 0, 0, 0)), (.bipush 109, (0, 0, 0, 109, 0)), (.castore, (0, 0, 0, 0, 0)), (.dup, (0, 0, 0, 0, 0)), (.iconst 1, (0, 0, 0, 1, 0)), (.bipush 105, (0, 0, 0, 105, 0)), (.castore, (0, 0, 0, 0, 0)), (.dup, (0, 0, 0, 0, 0)), (.iconst 2, (0, 0, 0, 2, 0)), (.bipush 110, (0, 0, 0, 110, 0)), (.castore, (0, 0, 0, 0, 0)), (.putfield 183, (12, 79, 3, 0, 0))] [] (by decide +kernel) rfl ⟨⟨⟨trivial, vin (by decide)⟩, vin (by decide)⟩, vin (by decide)⟩ h
def l_MD_58 (L : List (Nat × Nat)) : List (Nat × Nat) := l_MD_57 L ++ [(23, 3)]
def i_MD_58 (I : MI) : MI := m_up (m_up (m_up (m_zap (i_MD_57 I) 233 0) 233 0 (vp_nar .char 109)) 233 1 (vp_nar .char 97)) 233 2 (vp_nar .char 120)
def j_MD_58 (J : MJ) : MJ := m_zap (j_MD_57 J) 233 0
def r_MD_58 (R : MRR) : MRR := m_up (m_zap (r_MD_57 R) 233 none) 177 80 (some (23, 3, 233))
theorem len_MD_58 {L : List (Nat × Nat)} (h : L.length = 178) : (l_MD_58 L).length = 234 := len_s (len_MD_57 h)
theorem md_57 (hL : L.length = 178) (h : m_B G R0 M_MD_init Q rc rs 1145 [some (mR (12, 0, 177))] [] (l_MD_58 L, i_MD_58 I, j_MD_58 J, r_MD_58 R)) : m_B G R0 M_MD_init Q (rc + 1) (rs + 3) 1123 [some (mR (12, 0, 177))] [] (l_MD_57 L, i_MD_57 I, j_MD_57 J, r_MD_57 R) := by
  refine b_blk (pc' := 1125) (ls' := [some (mR (12, 0, 177))]) (st' := [mI 3, mR (12, 0, 177)]) (S' := (l_MD_57 L, i_MD_57 I, j_MD_57 J, r_MD_57 R)) (P := True) [(.aload_n 0, (0, 0, 0, 0, 0)), (.iconst 3, (0, 0, 0, 3, 0))] [] (by decide +kernel) rfl trivial ?_
  refine b_newaT (t := .char) (N := 3) (n := 233) (by decide +kernel) m_arr_char (by decide) (by decide) (by decide) (by decide) (len_MD_57 hL) rfl rfl ?_
  exact b_blk (pc' := 1145) (ls' := [some (mR (12, 0, 177))]) (st' := []) (S' := (l_MD_57 L ++ [(23, 3)], m_up (m_up (m_up (m_zap (i_MD_57 I) 233 0) 233 0 (vp_nar .char 109)) 233 1 (vp_nar .char 97)) 233 2 (vp_nar .char 120), m_zap (j_MD_57 J) 233 0, m_up (m_zap (r_MD_57 R) 233 none) 177 80 (some (23, 3, 233)))) (P := ((True ∧ vp_in 0 3) ∧ vp_in 1 3) ∧ vp_in 2 3) [(.dup, (0, 0, 0, 0, 0)), (.iconst 0, (0, 0, 0, 0, 0)), (.bipush 109, (0, 0, 0, 109, 0)), (.castore, (0, 0, 0, 0, 0)), (.dup, (0, 0, 0, 0, 0)), (.iconst 1, (0, 0, 0, 1, 0)), (.bipush 97, (0, 0, 0, 97, 0)), (.castore, (0, 0, 0, 0, 0)), (.dup, (0, 0, 0, 0, 0)), (.iconst 2, (0, 0, 0, 2, 0)), (.bipush 120, (0, 0, 0, 120, 0)), (.castore, (0, 0, 0, 0, 0)), (.putfield 186, (12, 80, 3, 0, 0))] [] (by decide +kernel) rfl ⟨⟨⟨trivial, vin (by decide)⟩, vin (by decide)⟩, vin (by decide)⟩ h
def l_MD_59 (L : List (Nat × Nat)) : List (Nat × Nat) := l_MD_58 L ++ [(23, 3)]
def i_MD_59 (I : MI) : MI := m_up (m_up (m_up (m_zap (i_MD_58 I) 234 0) 234 0 (vp_nar .char 97)) 234 1 (vp_nar .char 103)) 234 2 (vp_nar .char 101)
def j_MD_59 (J : MJ) : MJ := m_zap (j_MD_58 J) 234 0
def r_MD_59 (R : MRR) : MRR := m_up (m_zap (r_MD_58 R) 234 none) 177 81 (some (23, 3, 234))
theorem len_MD_59 {L : List (Nat × Nat)} (h : L.length = 178) : (l_MD_59 L).length = 235 := len_s (len_MD_58 h)
theorem md_58 (hL : L.length = 178) (h : m_B G R0 M_MD_init Q rc rs 1167 [some (mR (12, 0, 177))] [] (l_MD_59 L, i_MD_59 I, j_MD_59 J, r_MD_59 R)) : m_B G R0 M_MD_init Q (rc + 1) (rs + 3) 1145 [some (mR (12, 0, 177))] [] (l_MD_58 L, i_MD_58 I, j_MD_58 J, r_MD_58 R) := by
  refine b_blk (pc' := 1147) (ls' := [some (mR (12, 0, 177))]) (st' := [mI 3, mR (12, 0, 177)]) (S' := (l_MD_58 L, i_MD_58 I, j_MD_58 J, r_MD_58 R)) (P := True) [(.aload_n 0, (0, 0, 0, 0, 0)), (.iconst 3, (0, 0, 0, 3, 0))] [] (by decide +kernel) rfl trivial ?_
  refine b_newaT (t := .char) (N := 3) (n := 234) (by decide +kernel) m_arr_char (by decide) (by decide) (by decide) (by decide) (len_MD_58 hL) rfl rfl ?_
  exact b_blk (pc' := 1167) (ls' := [some (mR (12, 0, 177))]) (st' := []) (S' := (l_MD_58 L ++ [(23, 3)], m_up (m_up (m_up (m_zap (i_MD_58 I) 234 0) 234 0 (vp_nar .char 97)) 234 1 (vp_nar .char 103)) 234 2 (vp_nar .char 101), m_zap (j_MD_58 J) 234 0, m_up (m_zap (r_MD_58 R) 234 none) 177 81 (some (23, 3, 234)))) (P := ((True ∧ vp_in 0 3) ∧ vp_in 1 3) ∧ vp_in 2 3) [(.dup, (0, 0, 0, 0, 0)), (.iconst 0, (0, 0, 0, 0, 0)), (.bipush 97, (0, 0, 0, 97, 0)), (.castore, (0, 0, 0, 0, 0)), (.dup, (0, 0, 0, 0, 0)), (.iconst 1, (0, 0, 0, 1, 0)), (.bipush 103, (0, 0, 0, 103, 0)), (.castore, (0, 0, 0, 0, 0)), (.dup, (0, 0, 0, 0, 0)), (.iconst 2, (0, 0, 0, 2, 0)), (.bipush 101, (0, 0, 0, 101, 0)), (.castore, (0, 0, 0, 0, 0)), (.putfield 189, (12, 81, 3, 0, 0))] [] (by decide +kernel) rfl ⟨⟨⟨trivial, vin (by decide)⟩, vin (by decide)⟩, vin (by decide)⟩ h
def l_MD_60 (L : List (Nat × Nat)) : List (Nat × Nat) := l_MD_59 L ++ [(23, 5)]
def i_MD_60 (I : MI) : MI := m_up (m_up (m_up (m_up (m_up (m_zap (i_MD_59 I) 235 0) 235 0 (vp_nar .char 115)) 235 1 (vp_nar .char 116)) 235 2 (vp_nar .char 101)) 235 3 (vp_nar .char 101)) 235 4 (vp_nar .char 112)
def j_MD_60 (J : MJ) : MJ := m_zap (j_MD_59 J) 235 0
def r_MD_60 (R : MRR) : MRR := m_up (m_zap (r_MD_59 R) 235 none) 177 82 (some (23, 5, 235))
theorem len_MD_60 {L : List (Nat × Nat)} (h : L.length = 178) : (l_MD_60 L).length = 236 := len_s (len_MD_59 h)
theorem md_59 (hL : L.length = 178) (h : m_B G R0 M_MD_init Q rc rs 1199 [some (mR (12, 0, 177))] [] (l_MD_60 L, i_MD_60 I, j_MD_60 J, r_MD_60 R)) : m_B G R0 M_MD_init Q (rc + 1) (rs + 5) 1167 [some (mR (12, 0, 177))] [] (l_MD_59 L, i_MD_59 I, j_MD_59 J, r_MD_59 R) := by
  refine b_blk (pc' := 1169) (ls' := [some (mR (12, 0, 177))]) (st' := [mI 5, mR (12, 0, 177)]) (S' := (l_MD_59 L, i_MD_59 I, j_MD_59 J, r_MD_59 R)) (P := True) [(.aload_n 0, (0, 0, 0, 0, 0)), (.iconst 5, (0, 0, 0, 5, 0))] [] (by decide +kernel) rfl trivial ?_
  refine b_newaT (t := .char) (N := 5) (n := 235) (by decide +kernel) m_arr_char (by decide) (by decide) (by decide) (by decide) (len_MD_59 hL) rfl rfl ?_
  exact b_blk (pc' := 1199) (ls' := [some (mR (12, 0, 177))]) (st' := []) (S' := (l_MD_59 L ++ [(23, 5)], m_up (m_up (m_up (m_up (m_up (m_zap (i_MD_59 I) 235 0) 235 0 (vp_nar .char 115)) 235 1 (vp_nar .char 116)) 235 2 (vp_nar .char 101)) 235 3 (vp_nar .char 101)) 235 4 (vp_nar .char 112), m_zap (j_MD_59 J) 235 0, m_up (m_zap (r_MD_59 R) 235 none) 177 82 (some (23, 5, 235)))) (P := ((((True ∧ vp_in 0 5) ∧ vp_in 1 5) ∧ vp_in 2 5) ∧ vp_in 3 5) ∧ vp_in 4 5) [(.dup, (0, 0, 0, 0, 0)), (.iconst 0, (0, 0, 0, 0, 0)), (.bipush 115, (0, 0, 0, 115, 0)), (.castore, (0, 0, 0, 0, 0)), (.dup, (0, 0, 0, 0, 0)), (.iconst 1, (0, 0, 0, 1, 0)), (.bipush 116, (0, 0, 0, 116, 0)), (.castore, (0, 0, 0, 0, 0)), (.dup, (0, 0, 0, 0, 0)), (.iconst 2, (0, 0, 0, 2, 0)), (.bipush 101, (0, 0, 0, 101, 0)), (.castore, (0, 0, 0, 0, 0)), (.dup, (0, 0, 0, 0, 0)), (.iconst 3, (0, 0, 0, 3, 0)), (.bipush 101, (0, 0, 0, 101, 0)), (.castore, (0, 0, 0, 0, 0)), (.dup, (0, 0, 0, 0, 0)), (.iconst 4, (0, 0, 0, 4, 0)), (.bipush 112, (0, 0, 0, 112, 0)), (.castore, (0, 0, 0, 0, 0)), (.putfield 192, (12, 82, 3, 0, 0))] [] (by decide +kernel) rfl ⟨⟨⟨⟨⟨trivial, vin (by decide)⟩, vin (by decide)⟩, vin (by decide)⟩, vin (by decide)⟩, vin (by decide)⟩ h
def l_MD_61 (L : List (Nat × Nat)) : List (Nat × Nat) := l_MD_60 L ++ [(23, 4)]
def i_MD_61 (I : MI) : MI := m_up (m_up (m_up (m_up (m_zap (i_MD_60 I) 236 0) 236 0 (vp_nar .char 121)) 236 1 (vp_nar .char 101)) 236 2 (vp_nar .char 97)) 236 3 (vp_nar .char 114)
def j_MD_61 (J : MJ) : MJ := m_zap (j_MD_60 J) 236 0
def r_MD_61 (R : MRR) : MRR := m_up (m_zap (r_MD_60 R) 236 none) 177 83 (some (23, 4, 236))
theorem len_MD_61 {L : List (Nat × Nat)} (h : L.length = 178) : (l_MD_61 L).length = 237 := len_s (len_MD_60 h)
theorem md_60 (hL : L.length = 178) (h : m_B G R0 M_MD_init Q rc rs 1226 [some (mR (12, 0, 177))] [] (l_MD_61 L, i_MD_61 I, j_MD_61 J, r_MD_61 R)) : m_B G R0 M_MD_init Q (rc + 1) (rs + 4) 1199 [some (mR (12, 0, 177))] [] (l_MD_60 L, i_MD_60 I, j_MD_60 J, r_MD_60 R) := by
  refine b_blk (pc' := 1201) (ls' := [some (mR (12, 0, 177))]) (st' := [mI 4, mR (12, 0, 177)]) (S' := (l_MD_60 L, i_MD_60 I, j_MD_60 J, r_MD_60 R)) (P := True) [(.aload_n 0, (0, 0, 0, 0, 0)), (.iconst 4, (0, 0, 0, 4, 0))] [] (by decide +kernel) rfl trivial ?_
  refine b_newaT (t := .char) (N := 4) (n := 236) (by decide +kernel) m_arr_char (by decide) (by decide) (by decide) (by decide) (len_MD_60 hL) rfl rfl ?_
  exact b_blk (pc' := 1226) (ls' := [some (mR (12, 0, 177))]) (st' := []) (S' := (l_MD_60 L ++ [(23, 4)], m_up (m_up (m_up (m_up (m_zap (i_MD_60 I) 236 0) 236 0 (vp_nar .char 121)) 236 1 (vp_nar .char 101)) 236 2 (vp_nar .char 97)) 236 3 (vp_nar .char 114), m_zap (j_MD_60 J) 236 0, m_up (m_zap (r_MD_60 R) 236 none) 177 83 (some (23, 4, 236)))) (P := (((True ∧ vp_in 0 4) ∧ vp_in 1 4) ∧ vp_in 2 4) ∧ vp_in 3 4) [(.dup, (0, 0, 0, 0, 0)), (.iconst 0, (0, 0, 0, 0, 0)), (.bipush 121, (0, 0, 0, 121, 0)), (.castore, (0, 0, 0, 0, 0)), (.dup, (0, 0, 0, 0, 0)), (.iconst 1, (0, 0, 0, 1, 0)), (.bipush 101, (0, 0, 0, 101, 0)), (.castore, (0, 0, 0, 0, 0)), (.dup, (0, 0, 0, 0, 0)), (.iconst 2, (0, 0, 0, 2, 0)), (.bipush 97, (0, 0, 0, 97, 0)), (.castore, (0, 0, 0, 0, 0)), (.dup, (0, 0, 0, 0, 0)), (.iconst 3, (0, 0, 0, 3, 0)), (.bipush 114, (0, 0, 0, 114, 0)), (.castore, (0, 0, 0, 0, 0)), (.putfield 195, (12, 83, 3, 0, 0))] [] (by decide +kernel) rfl ⟨⟨⟨⟨trivial, vin (by decide)⟩, vin (by decide)⟩, vin (by decide)⟩, vin (by decide)⟩ h
def l_MD_62 (L : List (Nat × Nat)) : List (Nat × Nat) := l_MD_61 L ++ [(23, 3)]
def i_MD_62 (I : MI) : MI := m_up (m_up (m_up (m_zap (i_MD_61 I) 237 0) 237 0 (vp_nar .char 114)) 237 1 (vp_nar .char 111)) 237 2 (vp_nar .char 119)
def j_MD_62 (J : MJ) : MJ := m_zap (j_MD_61 J) 237 0
def r_MD_62 (R : MRR) : MRR := m_up (m_zap (r_MD_61 R) 237 none) 177 84 (some (23, 3, 237))
theorem len_MD_62 {L : List (Nat × Nat)} (h : L.length = 178) : (l_MD_62 L).length = 238 := len_s (len_MD_61 h)
theorem md_61 (hL : L.length = 178) (h : m_B G R0 M_MD_init Q rc rs 1248 [some (mR (12, 0, 177))] [] (l_MD_62 L, i_MD_62 I, j_MD_62 J, r_MD_62 R)) : m_B G R0 M_MD_init Q (rc + 1) (rs + 3) 1226 [some (mR (12, 0, 177))] [] (l_MD_61 L, i_MD_61 I, j_MD_61 J, r_MD_61 R) := by
  refine b_blk (pc' := 1228) (ls' := [some (mR (12, 0, 177))]) (st' := [mI 3, mR (12, 0, 177)]) (S' := (l_MD_61 L, i_MD_61 I, j_MD_61 J, r_MD_61 R)) (P := True) [(.aload_n 0, (0, 0, 0, 0, 0)), (.iconst 3, (0, 0, 0, 3, 0))] [] (by decide +kernel) rfl trivial ?_
  refine b_newaT (t := .char) (N := 3) (n := 237) (by decide +kernel) m_arr_char (by decide) (by decide) (by decide) (by decide) (len_MD_61 hL) rfl rfl ?_
  exact b_blk (pc' := 1248) (ls' := [some (mR (12, 0, 177))]) (st' := []) (S' := (l_MD_61 L ++ [(23, 3)], m_up (m_up (m_up (m_zap (i_MD_61 I) 237 0) 237 0 (vp_nar .char 114)) 237 1 (vp_nar .char 111)) 237 2 (vp_nar .char 119), m_zap (j_MD_61 J) 237 0, m_up (m_zap (r_MD_61 R) 237 none) 177 84 (some (23, 3, 237)))) (P := ((True ∧ vp_in 0 3) ∧ vp_in 1 3) ∧ vp_in 2 3) [(.dup, (0, 0, 0, 0, 0)), (.iconst 0, (0, 0, 0, 0, 0)), (.bipush 114, (0, 0, 0, 114, 0)), (.castore, (0, 0, 0, 0, 0)), (.dup, (0, 0, 0, 0, 0)), (.iconst 1, (0, 0, 0, 1, 0)), (.bipush 111, (0, 0, 0, 111, 0)), (.castore, (0, 0, 0, 0, 0)), (.dup, (0, 0, 0, 0, 0)), (.iconst 2, (0, 0, 0, 2, 0)), (.bipush 119, (0, 0, 0, 119, 0)), (.castore, (0, 0, 0, 0, 0)), (.putfield 198, (12, 84, 3, 0, 0))] [] (by decide +kernel) rfl ⟨⟨⟨trivial, vin (by decide)⟩, vin (by decide)⟩, vin (by decide)⟩ h
def l_MD_63 (L : List (Nat × Nat)) : List (Nat × Nat) := l_MD_62 L ++ [(23, 4)]
def i_MD_63 (I : MI) : MI := m_up (m_up (m_up (m_up (m_zap (i_MD_62 I) 238 0) 238 0 (vp_nar .char 108)) 238 1 (vp_nar .char 101)) 238 2 (vp_nar .char 102)) 238 3 (vp_nar .char 116)
def j_MD_63 (J : MJ) : MJ := m_zap (j_MD_62 J) 238 0
def r_MD_63 (R : MRR) : MRR := m_up (m_zap (r_MD_62 R) 238 none) 177 85 (some (23, 4, 238))
theorem len_MD_63 {L : List (Nat × Nat)} (h : L.length = 178) : (l_MD_63 L).length = 239 := len_s (len_MD_62 h)
theorem md_62 (hL : L.length = 178) (h : m_B G R0 M_MD_init Q rc rs 1275 [some (mR (12, 0, 177))] [] (l_MD_63 L, i_MD_63 I, j_MD_63 J, r_MD_63 R)) : m_B G R0 M_MD_init Q (rc + 1) (rs + 4) 1248 [some (mR (12, 0, 177))] [] (l_MD_62 L, i_MD_62 I, j_MD_62 J, r_MD_62 R) := by
  refine b_blk (pc' := 1250) (ls' := [some (mR (12, 0, 177))]) (st' := [mI 4, mR (12, 0, 177)]) (S' := (l_MD_62 L, i_MD_62 I, j_MD_62 J, r_MD_62 R)) (P := True) [(.aload_n 0, (0, 0, 0, 0, 0)), (.iconst 4, (0, 0, 0, 4, 0))] [] (by decide +kernel) rfl trivial ?_
  refine b_newaT (t := .char) (N := 4) (n := 238) (by decide +kernel) m_arr_char (by decide) (by decide) (by decide) (by decide) (len_MD_62 hL) rfl rfl ?_
  exact b_blk (pc' := 1275) (ls' := [some (mR (12, 0, 177))]) (st' := []) (S' := (l_MD_62 L ++ [(23, 4)], m_up (m_up (m_up (m_up (m_zap (i_MD_62 I) 238 0) 238 0 (vp_nar .char 108)) 238 1 (vp_nar .char 101)) 238 2 (vp_nar .char 102)) 238 3 (vp_nar .char 116), m_zap (j_MD_62 J) 238 0, m_up (m_zap (r_MD_62 R) 238 none) 177 85 (some (23, 4, 238)))) (P := (((True ∧ vp_in 0 4) ∧ vp_in 1 4) ∧ vp_in 2 4) ∧ vp_in 3 4) [(.dup, (0, 0, 0, 0, 0)), (.iconst 0, (0, 0, 0, 0, 0)), (.bipush 108, (0, 0, 0, 108, 0)), (.castore, (0, 0, 0, 0, 0)), (.dup, (0, 0, 0, 0, 0)), (.iconst 1, (0, 0, 0, 1, 0)), (.bipush 101, (0, 0, 0, 101, 0)), (.castore, (0, 0, 0, 0, 0)), (.dup, (0, 0, 0, 0, 0)), (.iconst 2, (0, 0, 0, 2, 0)), (.bipush 102, (0, 0, 0, 102, 0)), (.castore, (0, 0, 0, 0, 0)), (.dup, (0, 0, 0, 0, 0)), (.iconst 3, (0, 0, 0, 3, 0)), (.bipush 116, (0, 0, 0, 116, 0)), (.castore, (0, 0, 0, 0, 0)), (.putfield 201, (12, 85, 3, 0, 0))] [] (by decide +kernel) rfl ⟨⟨⟨⟨trivial, vin (by decide)⟩, vin (by decide)⟩, vin (by decide)⟩, vin (by decide)⟩ h
def l_MD_64 (L : List (Nat × Nat)) : List (Nat × Nat) := l_MD_63 L ++ [(23, 6)]
def i_MD_64 (I : MI) : MI := m_up (m_up (m_up (m_up (m_up (m_up (m_zap (i_MD_63 I) 239 0) 239 0 (vp_nar .char 110)) 239 1 (vp_nar .char 117)) 239 2 (vp_nar .char 109)) 239 3 (vp_nar .char 98)) 239 4 (vp_nar .char 101)) 239 5 (vp_nar .char 114)
def j_MD_64 (J : MJ) : MJ := m_zap (j_MD_63 J) 239 0
def r_MD_64 (R : MRR) : MRR := m_up (m_zap (r_MD_63 R) 239 none) 177 86 (some (23, 6, 239))
theorem len_MD_64 {L : List (Nat × Nat)} (h : L.length = 178) : (l_MD_64 L).length = 240 := len_s (len_MD_63 h)
theorem md_63 (hL : L.length = 178) (h : m_B G R0 M_MD_init Q rc rs 1313 [some (mR (12, 0, 177))] [] (l_MD_64 L, i_MD_64 I, j_MD_64 J, r_MD_64 R)) : m_B G R0 M_MD_init Q (rc + 1) (rs + 6) 1275 [some (mR (12, 0, 177))] [] (l_MD_63 L, i_MD_63 I, j_MD_63 J, r_MD_63 R) := by
  refine b_blk (pc' := 1278) (ls' := [some (mR (12, 0, 177))]) (st' := [mI 6, mR (12, 0, 177)]) (S' := (l_MD_63 L, i_MD_63 I, j_MD_63 J, r_MD_63 R)) (P := True) [(.aload_n 0, (0, 0, 0, 0, 0)), (.bipush 6, (0, 0, 0, 6, 0))] [] (by decide +kernel) rfl trivial ?_
  refine b_newaT (t := .char) (N := 6) (n := 239) (by decide +kernel) m_arr_char (by decide) (by decide) (by decide) (by decide) (len_MD_63 hL) rfl rfl ?_
  exact b_blk (pc' := 1313) (ls' := [some (mR (12, 0, 177))]) (st' := []) (S' := (l_MD_63 L ++ [(23, 6)], m_up (m_up (m_up (m_up (m_up (m_up (m_zap (i_MD_63 I) 239 0) 239 0 (vp_nar .char 110)) 239 1 (vp_nar .char 117)) 239 2 (vp_nar .char 109)) 239 3 (vp_nar .char 98)) 239 4 (vp_nar .char 101)) 239 5 (vp_nar .char 114), m_zap (j_MD_63 J) 239 0, m_up (m_zap (r_MD_63 R) 239 none) 177 86 (some (23, 6, 239)))) (P := (((((True ∧ vp_in 0 6) ∧ vp_in 1 6) ∧ vp_in 2 6) ∧ vp_in 3 6) ∧ vp_in 4 6) ∧ vp_in 5 6) [(.dup, (0, 0, 0, 0, 0)), (.iconst 0, (0, 0, 0, 0, 0)), (.bipush 110, (0, 0, 0, 110, 0)), (.castore, (0, 0, 0, 0, 0)), (.dup, (0, 0, 0, 0, 0)), (.iconst 1, (0, 0, 0, 1, 0)), (.bipush 117, (0, 0, 0, 117, 0)), (.castore, (0, 0, 0, 0, 0)), (.dup, (0, 0, 0, 0, 0)), (.iconst 2, (0, 0, 0, 2, 0)), (.bipush 109, (0, 0, 0, 109, 0)), (.castore, (0, 0, 0, 0, 0)), (.dup, (0, 0, 0, 0, 0)), (.iconst 3, (0, 0, 0, 3, 0)), (.bipush 98, (0, 0, 0, 98, 0)), (.castore, (0, 0, 0, 0, 0)), (.dup, (0, 0, 0, 0, 0)), (.iconst 4, (0, 0, 0, 4, 0)), (.bipush 101, (0, 0, 0, 101, 0)), (.castore, (0, 0, 0, 0, 0)), (.dup, (0, 0, 0, 0, 0)), (.iconst 5, (0, 0, 0, 5, 0)), (.bipush 114, (0, 0, 0, 114, 0)), (.castore, (0, 0, 0, 0, 0)), (.putfield 204, (12, 86, 3, 0, 0))] [] (by decide +kernel) rfl ⟨⟨⟨⟨⟨⟨trivial, vin (by decide)⟩, vin (by decide)⟩, vin (by decide)⟩, vin (by decide)⟩, vin (by decide)⟩, vin (by decide)⟩ h
def l_MD_65 (L : List (Nat × Nat)) : List (Nat × Nat) := l_MD_64 L ++ [(23, 5)]
def i_MD_65 (I : MI) : MI := m_up (m_up (m_up (m_up (m_up (m_zap (i_MD_64 I) 240 0) 240 0 (vp_nar .char 102)) 240 1 (vp_nar .char 105)) 240 2 (vp_nar .char 101)) 240 3 (vp_nar .char 108)) 240 4 (vp_nar .char 100)
def j_MD_65 (J : MJ) : MJ := m_zap (j_MD_64 J) 240 0
def r_MD_65 (R : MRR) : MRR := m_up (m_zap (r_MD_64 R) 240 none) 177 87 (some (23, 5, 240))
theorem len_MD_65 {L : List (Nat × Nat)} (h : L.length = 178) : (l_MD_65 L).length = 241 := len_s (len_MD_64 h)
theorem md_64 (hL : L.length = 178) (h : m_B G R0 M_MD_init Q rc rs 1345 [some (mR (12, 0, 177))] [] (l_MD_65 L, i_MD_65 I, j_MD_65 J, r_MD_65 R)) : m_B G R0 M_MD_init Q (rc + 1) (rs + 5) 1313 [some (mR (12, 0, 177))] [] (l_MD_64 L, i_MD_64 I, j_MD_64 J, r_MD_64 R) := by
  refine b_blk (pc' := 1315) (ls' := [some (mR (12, 0, 177))]) (st' := [mI 5, mR (12, 0, 177)]) (S' := (l_MD_64 L, i_MD_64 I, j_MD_64 J, r_MD_64 R)) (P := True) [(.aload_n 0, (0, 0, 0, 0, 0)), (.iconst 5, (0, 0, 0, 5, 0))] [] (by decide +kernel) rfl trivial ?_
  refine b_newaT (t := .char) (N := 5) (n := 240) (by decide +kernel) m_arr_char (by decide) (by decide) (by decide) (by decide) (len_MD_64 hL) rfl rfl ?_
  exact b_blk (pc' := 1345) (ls' := [some (mR (12, 0, 177))]) (st' := []) (S' := (l_MD_64 L ++ [(23, 5)], m_up (m_up (m_up (m_up (m_up (m_zap (i_MD_64 I) 240 0) 240 0 (vp_nar .char 102)) 240 1 (vp_nar .char 105)) 240 2 (vp_nar .char 101)) 240 3 (vp_nar .char 108)) 240 4 (vp_nar .char 100), m_zap (j_MD_64 J) 240 0, m_up (m_zap (r_MD_64 R) 240 none) 177 87 (some (23, 5, 240)))) (P := ((((True ∧ vp_in 0 5) ∧ vp_in 1 5) ∧ vp_in 2 5) ∧ vp_in 3 5) ∧ vp_in 4 5) [(.dup, (0, 0, 0, 0, 0)), (.iconst 0, (0, 0, 0, 0, 0)), (.bipush 102, (0, 0, 0, 102, 0)), (.castore, (0, 0, 0, 0, 0)), (.dup, (0, 0, 0, 0, 0)), (.iconst 1, (0, 0, 0, 1, 0)), (.bipush 105, (0, 0, 0, 105, 0)), (.castore, (0, 0, 0, 0, 0)), (.dup, (0, 0, 0, 0, 0)), (.iconst 2, (0, 0, 0, 2, 0)), (.bipush 101, (0, 0, 0, 101, 0)), (.castore, (0, 0, 0, 0, 0)), (.dup, (0, 0, 0, 0, 0)), (.iconst 3, (0, 0, 0, 3, 0)), (.bipush 108, (0, 0, 0, 108, 0)), (.castore, (0, 0, 0, 0, 0)), (.dup, (0, 0, 0, 0, 0)), (.iconst 4, (0, 0, 0, 4, 0)), (.bipush 100, (0, 0, 0, 100, 0)), (.castore, (0, 0, 0, 0, 0)), (.putfield 207, (12, 87, 3, 0, 0))] [] (by decide +kernel) rfl ⟨⟨⟨⟨⟨trivial, vin (by decide)⟩, vin (by decide)⟩, vin (by decide)⟩, vin (by decide)⟩, vin (by decide)⟩ h
def l_MD_66 (L : List (Nat × Nat)) : List (Nat × Nat) := l_MD_65 L ++ [(23, 3)]
def i_MD_66 (I : MI) : MI := m_up (m_up (m_up (m_zap (i_MD_65 I) 241 0) 241 0 (vp_nar .char 99)) 241 1 (vp_nar .char 117)) 241 2 (vp_nar .char 116)
def j_MD_66 (J : MJ) : MJ := m_zap (j_MD_65 J) 241 0
def r_MD_66 (R : MRR) : MRR := m_up (m_zap (r_MD_65 R) 241 none) 177 88 (some (23, 3, 241))
theorem len_MD_66 {L : List (Nat × Nat)} (h : L.length = 178) : (l_MD_66 L).length = 242 := len_s (len_MD_65 h)
theorem md_65 (hL : L.length = 178) (h : m_B G R0 M_MD_init Q rc rs 1367 [some (mR (12, 0, 177))] [] (l_MD_66 L, i_MD_66 I, j_MD_66 J, r_MD_66 R)) : m_B G R0 M_MD_init Q (rc + 1) (rs + 3) 1345 [some (mR (12, 0, 177))] [] (l_MD_65 L, i_MD_65 I, j_MD_65 J, r_MD_65 R) := by
  refine b_blk (pc' := 1347) (ls' := [some (mR (12, 0, 177))]) (st' := [mI 3, mR (12, 0, 177)]) (S' := (l_MD_65 L, i_MD_65 I, j_MD_65 J, r_MD_65 R)) (P := True) [(.aload_n 0, (0, 0, 0, 0, 0)), (.iconst 3, (0, 0, 0, 3, 0))] [] (by decide +kernel) rfl trivial ?_
  refine b_newaT (t := .char) (N := 3) (n := 241) (by decide +kernel) m_arr_char (by decide) (by decide) (by decide) (by decide) (len_MD_65 hL) rfl rfl ?_
  exact b_blk (pc' := 1367) (ls' := [some (mR (12, 0, 177))]) (st' := []) (S' := (l_MD_65 L ++ [(23, 3)], m_up (m_up (m_up (m_zap (i_MD_65 I) 241 0) 241 0 (vp_nar .char 99)) 241 1 (vp_nar .char 117)) 241 2 (vp_nar .char 116), m_zap (j_MD_65 J) 241 0, m_up (m_zap (r_MD_65 R) 241 none) 177 88 (some (23, 3, 241)))) (P := ((True ∧ vp_in 0 3) ∧ vp_in 1 3) ∧ vp_in 2 3) [(.dup, (0, 0, 0, 0, 0)), (.iconst 0, (0, 0, 0, 0, 0)), (.bipush 99, (0, 0, 0, 99, 0)), (.castore, (0, 0, 0, 0, 0)), (.dup, (0, 0, 0, 0, 0)), (.iconst 1, (0, 0, 0, 1, 0)), (.bipush 117, (0, 0, 0, 117, 0)), (.castore, (0, 0, 0, 0, 0)), (.dup, (0, 0, 0, 0, 0)), (.iconst 2, (0, 0, 0, 2, 0)), (.bipush 116, (0, 0, 0, 116, 0)), (.castore, (0, 0, 0, 0, 0)), (.putfield 210, (12, 88, 3, 0, 0))] [] (by decide +kernel) rfl ⟨⟨⟨trivial, vin (by decide)⟩, vin (by decide)⟩, vin (by decide)⟩ h
def l_MD_67 (L : List (Nat × Nat)) : List (Nat × Nat) := l_MD_66 L ++ [(23, 3)]
def i_MD_67 (I : MI) : MI := m_up (m_up (m_up (m_zap (i_MD_66 I) 242 0) 242 0 (vp_nar .char 114)) 242 1 (vp_nar .char 111)) 242 2 (vp_nar .char 119)
def j_MD_67 (J : MJ) : MJ := m_zap (j_MD_66 J) 242 0
def r_MD_67 (R : MRR) : MRR := m_up (m_zap (r_MD_66 R) 242 none) 177 89 (some (23, 3, 242))
theorem len_MD_67 {L : List (Nat × Nat)} (h : L.length = 178) : (l_MD_67 L).length = 243 := len_s (len_MD_66 h)
theorem md_66 (hL : L.length = 178) (h : m_B G R0 M_MD_init Q rc rs 1389 [some (mR (12, 0, 177))] [] (l_MD_67 L, i_MD_67 I, j_MD_67 J, r_MD_67 R)) : m_B G R0 M_MD_init Q (rc + 1) (rs + 3) 1367 [some (mR (12, 0, 177))] [] (l_MD_66 L, i_MD_66 I, j_MD_66 J, r_MD_66 R) := by
  refine b_blk (pc' := 1369) (ls' := [some (mR (12, 0, 177))]) (st' := [mI 3, mR (12, 0, 177)]) (S' := (l_MD_66 L, i_MD_66 I, j_MD_66 J, r_MD_66 R)) (P := True) [(.aload_n 0, (0, 0, 0, 0, 0)), (.iconst 3, (0, 0, 0, 3, 0))] [] (by decide +kernel) rfl trivial ?_
  refine b_newaT (t := .char) (N := 3) (n := 242) (by decide +kernel) m_arr_char (by decide) (by decide) (by decide) (by decide) (len_MD_66 hL) rfl rfl ?_
  exact b_blk (pc' := 1389) (ls' := [some (mR (12, 0, 177))]) (st' := []) (S' := (l_MD_66 L ++ [(23, 3)], m_up (m_up (m_up (m_zap (i_MD_66 I) 242 0) 242 0 (vp_nar .char 114)) 242 1 (vp_nar .char 111)) 242 2 (vp_nar .char 119), m_zap (j_MD_66 J) 242 0, m_up (m_zap (r_MD_66 R) 242 none) 177 89 (some (23, 3, 242)))) (P := ((True ∧ vp_in 0 3) ∧ vp_in 1 3) ∧ vp_in 2 3) [(.dup, (0, 0, 0, 0, 0)), (.iconst 0, (0, 0, 0, 0, 0)), (.bipush 114, (0, 0, 0, 114, 0)), (.castore, (0, 0, 0, 0, 0)), (.dup, (0, 0, 0, 0, 0)), (.iconst 1, (0, 0, 0, 1, 0)), (.bipush 111, (0, 0, 0, 111, 0)), (.castore, (0, 0, 0, 0, 0)), (.dup, (0, 0, 0, 0, 0)), (.iconst 2, (0, 0, 0, 2, 0)), (.bipush 119, (0, 0, 0, 119, 0)), (.castore, (0, 0, 0, 0, 0)), (.putfield 213, (12, 89, 3, 0, 0))] [] (by decide +kernel) rfl ⟨⟨⟨trivial, vin (by decide)⟩, vin (by decide)⟩, vin (by decide)⟩ h
def l_MD_68 (L : List (Nat × Nat)) : List (Nat × Nat) := l_MD_67 L ++ [(23, 5)]
def i_MD_68 (I : MI) : MI := m_up (m_up (m_up (m_up (m_up (m_zap (i_MD_67 I) 243 0) 243 0 (vp_nar .char 98)) 243 1 (vp_nar .char 101)) 243 2 (vp_nar .char 108)) 243 3 (vp_nar .char 111)) 243 4 (vp_nar .char 119)
def j_MD_68 (J : MJ) : MJ := m_zap (j_MD_67 J) 243 0
def r_MD_68 (R : MRR) : MRR := m_up (m_zap (r_MD_67 R) 243 none) 177 90 (some (23, 5, 243))
theorem len_MD_68 {L : List (Nat × Nat)} (h : L.length = 178) : (l_MD_68 L).length = 244 := len_s (len_MD_67 h)
theorem md_67 (hL : L.length = 178) (h : m_B G R0 M_MD_init Q rc rs 1421 [some (mR (12, 0, 177))] [] (l_MD_68 L, i_MD_68 I, j_MD_68 J, r_MD_68 R)) : m_B G R0 M_MD_init Q (rc + 1) (rs + 5) 1389 [some (mR (12, 0, 177))] [] (l_MD_67 L, i_MD_67 I, j_MD_67 J, r_MD_67 R) := by
  refine b_blk (pc' := 1391) (ls' := [some (mR (12, 0, 177))]) (st' := [mI 5, mR (12, 0, 177)]) (S' := (l_MD_67 L, i_MD_67 I, j_MD_67 J, r_MD_67 R)) (P := True) [(.aload_n 0, (0, 0, 0, 0, 0)), (.iconst 5, (0, 0, 0, 5, 0))] [] (by decide +kernel) rfl trivial ?_
  refine b_newaT (t := .char) (N := 5) (n := 243) (by decide +kernel) m_arr_char (by decide) (by decide) (by decide) (by decide) (len_MD_67 hL) rfl rfl ?_
  exact b_blk (pc' := 1421) (ls' := [some (mR (12, 0, 177))]) (st' := []) (S' := (l_MD_67 L ++ [(23, 5)], m_up (m_up (m_up (m_up (m_up (m_zap (i_MD_67 I) 243 0) 243 0 (vp_nar .char 98)) 243 1 (vp_nar .char 101)) 243 2 (vp_nar .char 108)) 243 3 (vp_nar .char 111)) 243 4 (vp_nar .char 119), m_zap (j_MD_67 J) 243 0, m_up (m_zap (r_MD_67 R) 243 none) 177 90 (some (23, 5, 243)))) (P := ((((True ∧ vp_in 0 5) ∧ vp_in 1 5) ∧ vp_in 2 5) ∧ vp_in 3 5) ∧ vp_in 4 5) [(.dup, (0, 0, 0, 0, 0)), (.iconst 0, (0, 0, 0, 0, 0)), (.bipush 98, (0, 0, 0, 98, 0)), (.castore, (0, 0, 0, 0, 0)), (.dup, (0, 0, 0, 0, 0)), (.iconst 1, (0, 0, 0, 1, 0)), (.bipush 101, (0, 0, 0, 101, 0)), (.castore, (0, 0, 0, 0, 0)), (.dup, (0, 0, 0, 0, 0)), (.iconst 2, (0, 0, 0, 2, 0)), (.bipush 108, (0, 0, 0, 108, 0)), (.castore, (0, 0, 0, 0, 0)), (.dup, (0, 0, 0, 0, 0)), (.iconst 3, (0, 0, 0, 3, 0)), (.bipush 111, (0, 0, 0, 111, 0)), (.castore, (0, 0, 0, 0, 0)), (.dup, (0, 0, 0, 0, 0)), (.iconst 4, (0, 0, 0, 4, 0)), (.bipush 119, (0, 0, 0, 119, 0)), (.castore, (0, 0, 0, 0, 0)), (.putfield 216, (12, 90, 3, 0, 0))] [] (by decide +kernel) rfl ⟨⟨⟨⟨⟨trivial, vin (by decide)⟩, vin (by decide)⟩, vin (by decide)⟩, vin (by decide)⟩, vin (by decide)⟩ h
def l_MD_69 (L : List (Nat × Nat)) : List (Nat × Nat) := l_MD_68 L ++ [(20, 1700)]
def i_MD_69 (I : MI) : MI := m_zap (i_MD_68 I) 244 0
def j_MD_69 (J : MJ) : MJ := m_zap (j_MD_68 J) 244 0
def r_MD_69 (R : MRR) : MRR := m_up (m_zap (r_MD_68 R) 244 none) 177 91 (some (20, 1700, 244))
theorem len_MD_69 {L : List (Nat × Nat)} (h : L.length = 178) : (l_MD_69 L).length = 245 := len_s (len_MD_68 h)
theorem md_68 (hL : L.length = 178) (h : m_B G R0 M_MD_init Q rc rs 1430 [some (mR (12, 0, 177))] [] (l_MD_69 L, i_MD_69 I, j_MD_69 J, r_MD_69 R)) : m_B G R0 M_MD_init Q (rc + 1) (rs + 1700) 1421 [some (mR (12, 0, 177))] [] (l_MD_68 L, i_MD_68 I, j_MD_68 J, r_MD_68 R) := by
  refine b_blk (pc' := 1425) (ls' := [some (mR (12, 0, 177))]) (st' := [mI 1700, mR (12, 0, 177)]) (S' := (l_MD_68 L, i_MD_68 I, j_MD_68 J, r_MD_68 R)) (P := True) [(.aload_n 0, (0, 0, 0, 0, 0)), (.sipush 1700, (0, 0, 0, 1700, 0))] [] (by decide +kernel) rfl trivial ?_
  refine b_newaT (t := .int) (N := 1700) (n := 244) (by decide +kernel) m_arr_int (by decide) (by decide) (by decide) (by decide) (len_MD_68 hL) rfl rfl ?_
  exact b_blk (pc' := 1430) (ls' := [some (mR (12, 0, 177))]) (st' := []) (S' := (l_MD_68 L ++ [(20, 1700)], m_zap (i_MD_68 I) 244 0, m_zap (j_MD_68 J) 244 0, m_up (m_zap (r_MD_68 R) 244 none) 177 91 (some (20, 1700, 244)))) (P := True) [(.putfield 219, (12, 91, 3, 0, 0))] [] (by decide +kernel) rfl trivial h
def l_MD_70 (L : List (Nat × Nat)) : List (Nat × Nat) := l_MD_69 L ++ [(20, 1700)]
def i_MD_70 (I : MI) : MI := m_zap (i_MD_69 I) 245 0
def j_MD_70 (J : MJ) : MJ := m_zap (j_MD_69 J) 245 0
def r_MD_70 (R : MRR) : MRR := m_up (m_zap (r_MD_69 R) 245 none) 177 93 (some (20, 1700, 245))
theorem len_MD_70 {L : List (Nat × Nat)} (h : L.length = 178) : (l_MD_70 L).length = 246 := len_s (len_MD_69 h)
theorem md_69 (hL : L.length = 178) (h : m_B G R0 M_MD_init Q rc rs 1439 [some (mR (12, 0, 177))] [] (l_MD_70 L, i_MD_70 I, j_MD_70 J, r_MD_70 R)) : m_B G R0 M_MD_init Q (rc + 1) (rs + 1700) 1430 [some (mR (12, 0, 177))] [] (l_MD_69 L, i_MD_69 I, j_MD_69 J, r_MD_69 R) := by
  refine b_blk (pc' := 1434) (ls' := [some (mR (12, 0, 177))]) (st' := [mI 1700, mR (12, 0, 177)]) (S' := (l_MD_69 L, i_MD_69 I, j_MD_69 J, r_MD_69 R)) (P := True) [(.aload_n 0, (0, 0, 0, 0, 0)), (.sipush 1700, (0, 0, 0, 1700, 0))] [] (by decide +kernel) rfl trivial ?_
  refine b_newaT (t := .int) (N := 1700) (n := 245) (by decide +kernel) m_arr_int (by decide) (by decide) (by decide) (by decide) (len_MD_69 hL) rfl rfl ?_
  exact b_blk (pc' := 1439) (ls' := [some (mR (12, 0, 177))]) (st' := []) (S' := (l_MD_69 L ++ [(20, 1700)], m_zap (i_MD_69 I) 245 0, m_zap (j_MD_69 J) 245 0, m_up (m_zap (r_MD_69 R) 245 none) 177 93 (some (20, 1700, 245)))) (P := True) [(.putfield 222, (12, 93, 3, 0, 0))] [] (by decide +kernel) rfl trivial h
def l_MD_71 (L : List (Nat × Nat)) : List (Nat × Nat) := l_MD_70 L ++ [(21, 1700)]
def i_MD_71 (I : MI) : MI := m_zap (i_MD_70 I) 246 0
def j_MD_71 (J : MJ) : MJ := m_zap (j_MD_70 J) 246 0
def r_MD_71 (R : MRR) : MRR := m_up (m_zap (r_MD_70 R) 246 none) 177 97 (some (21, 1700, 246))
theorem len_MD_71 {L : List (Nat × Nat)} (h : L.length = 178) : (l_MD_71 L).length = 247 := len_s (len_MD_70 h)
theorem md_70 (hL : L.length = 178) (h : m_B G R0 M_MD_init Q rc rs 1448 [some (mR (12, 0, 177))] [] (l_MD_71 L, i_MD_71 I, j_MD_71 J, r_MD_71 R)) : m_B G R0 M_MD_init Q (rc + 1) (rs + 1700) 1439 [some (mR (12, 0, 177))] [] (l_MD_70 L, i_MD_70 I, j_MD_70 J, r_MD_70 R) := by
  refine b_blk (pc' := 1443) (ls' := [some (mR (12, 0, 177))]) (st' := [mI 1700, mR (12, 0, 177)]) (S' := (l_MD_70 L, i_MD_70 I, j_MD_70 J, r_MD_70 R)) (P := True) [(.aload_n 0, (0, 0, 0, 0, 0)), (.sipush 1700, (0, 0, 0, 1700, 0))] [] (by decide +kernel) rfl trivial ?_
  refine b_newaT (t := .long) (N := 1700) (n := 246) (by decide +kernel) m_arr_long (by decide) (by decide) (by decide) (by decide) (len_MD_70 hL) rfl rfl ?_
  exact b_blk (pc' := 1448) (ls' := [some (mR (12, 0, 177))]) (st' := []) (S' := (l_MD_70 L ++ [(21, 1700)], m_zap (i_MD_70 I) 246 0, m_zap (j_MD_70 J) 246 0, m_up (m_zap (r_MD_70 R) 246 none) 177 97 (some (21, 1700, 246)))) (P := True) [(.putfield 225, (12, 97, 3, 0, 0))] [] (by decide +kernel) rfl trivial h
def l_MD_72 (L : List (Nat × Nat)) : List (Nat × Nat) := l_MD_71 L ++ [(20, 100)]
def i_MD_72 (I : MI) : MI := m_zap (i_MD_71 I) 247 0
def j_MD_72 (J : MJ) : MJ := m_zap (j_MD_71 J) 247 0
def r_MD_72 (R : MRR) : MRR := m_up (m_zap (r_MD_71 R) 247 none) 177 101 (some (20, 100, 247))
theorem len_MD_72 {L : List (Nat × Nat)} (h : L.length = 178) : (l_MD_72 L).length = 248 := len_s (len_MD_71 h)
theorem md_71 (hL : L.length = 178) (h : m_B G R0 M_MD_init Q rc rs 1456 [some (mR (12, 0, 177))] [] (l_MD_72 L, i_MD_72 I, j_MD_72 J, r_MD_72 R)) : m_B G R0 M_MD_init Q (rc + 1) (rs + 100) 1448 [some (mR (12, 0, 177))] [] (l_MD_71 L, i_MD_71 I, j_MD_71 J, r_MD_71 R) := by
  refine b_blk (pc' := 1451) (ls' := [some (mR (12, 0, 177))]) (st' := [mI 100, mR (12, 0, 177)]) (S' := (l_MD_71 L, i_MD_71 I, j_MD_71 J, r_MD_71 R)) (P := True) [(.aload_n 0, (0, 0, 0, 0, 0)), (.bipush 100, (0, 0, 0, 100, 0))] [] (by decide +kernel) rfl trivial ?_
  refine b_newaT (t := .int) (N := 100) (n := 247) (by decide +kernel) m_arr_int (by decide) (by decide) (by decide) (by decide) (len_MD_71 hL) rfl rfl ?_
  exact b_blk (pc' := 1456) (ls' := [some (mR (12, 0, 177))]) (st' := []) (S' := (l_MD_71 L ++ [(20, 100)], m_zap (i_MD_71 I) 247 0, m_zap (j_MD_71 J) 247 0, m_up (m_zap (r_MD_71 R) 247 none) 177 101 (some (20, 100, 247)))) (P := True) [(.putfield 228, (12, 101, 3, 0, 0))] [] (by decide +kernel) rfl trivial h
end GI4
def l_MD (L : List (Nat × Nat)) : List (Nat × Nat) := l_MD_72 L
def i_MD (I : MI) : MI := i_MD_72 I
def j_MD (J : MJ) : MJ := j_MD_72 J
def r_MD (R : MRR) : MRR := r_MD_72 R
theorem len_MD {L : List (Nat × Nat)} (h : L.length = 178) : (l_MD L).length = 248 := len_MD_72 h
theorem c_MD_init {G : MG} {L : List (Nat × Nat)} {I : MI} {J : MJ} {R : MRR} (hL : L.length = 178) : m_met G 1 70 20112 y_MD_init M_MD_init [mR (12, 0, 177)] (L, I, J, R) (m_is none (l_MD L, i_MD I, j_MD J, r_MD R)) := by
  refine m_met_in n_MD_init (plainFor_of_name (by decide)) (by decide) (Nat.le_of_ble_eq_true rfl) (ls := [some (mR (12, 0, 177))]) rfl ?_
  refine b_blk (pc' := 1) (ls' := [some (mR (12, 0, 177))]) (st' := [mR (12, 0, 177)]) (S' := (L, I, J, R)) (P := True) [(.aload_n 0, (0, 0, 0, 0, 0))] [] (by decide +kernel) rfl trivial ?_
  refine b_obj (by decide +kernel) ko_MD (by decide) (by decide) ?_
  show m_B _ _ _ _ 70 20112 4 _ _ (l_MD_0 L, i_MD_0 I, j_MD_0 J, r_MD_0 R)
  refine md_0 hL ?_
  refine md_1 ?_
  refine md_2 hL ?_
  refine md_3 hL ?_
  refine md_4 hL ?_
  refine md_5 hL ?_
  refine md_6 hL ?_
  refine md_7 hL ?_
  refine md_8 hL ?_
  refine md_9 hL ?_
  refine md_10 hL ?_
  refine md_11 hL ?_
  refine md_12 hL ?_
  refine md_13 hL ?_
  refine md_14 hL ?_
  refine md_15 hL ?_
  refine md_16 hL ?_
  refine md_17 hL ?_
  refine md_18 hL ?_
  refine md_19 hL ?_
  refine md_20 hL ?_
  refine md_21 hL ?_
  refine md_22 hL ?_
  refine md_23 hL ?_
  refine md_24 hL ?_
  refine md_25 hL ?_
  refine md_26 hL ?_
  refine md_27 hL ?_
  refine md_28 hL ?_
  refine md_29 hL ?_
  refine md_30 hL ?_
  refine md_31 hL ?_
  refine md_32 hL ?_
  refine md_33 hL ?_
  refine md_34 hL ?_
  refine md_35 hL ?_
  refine md_36 hL ?_
  refine md_37 hL ?_
  refine md_38 hL ?_
  refine md_39 hL ?_
  refine md_40 hL ?_
  refine md_41 hL ?_
  refine md_42 hL ?_
  refine md_43 hL ?_
  refine md_44 hL ?_
  refine md_45 ?_
  refine md_46 hL ?_
  refine md_47 hL ?_
  refine md_48 hL ?_
  refine md_49 hL ?_
  refine md_50 hL ?_
  refine md_51 hL ?_
  refine md_52 hL ?_
  refine md_53 hL ?_
  refine md_54 hL ?_
  refine md_55 hL ?_
  refine md_56 hL ?_
  refine md_57 hL ?_
  refine md_58 hL ?_
  refine md_59 hL ?_
  refine md_60 hL ?_
  refine md_61 hL ?_
  refine md_62 hL ?_
  refine md_63 hL ?_
  refine md_64 hL ?_
  refine md_65 hL ?_
  refine md_66 hL ?_
  refine md_67 hL ?_
  refine md_68 hL ?_
  refine md_69 hL ?_
  refine md_70 hL ?_
  refine md_71 hL ?_
  exact b_vret (by decide +kernel) rfl ⟨rfl, rfl⟩
