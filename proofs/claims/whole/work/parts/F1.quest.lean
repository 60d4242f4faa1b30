/-! a question is read -/
/-- the word of a kind of question -/
def qw (k : Nat) : Nat := if k = 0 then 16 else k + 23
/-- the reference reads a question, and goes on -/
noncomputable def askG (Y : MI) (J : MJ) : Option (Int64 × MI × MJ) := (F_MD_qKind Y).bind fun r3 => if (r3.2 177 5) = (0 : Int32) then (if (3 : Int32) ≤ r3.1 then (F_MD_ask_98 r3.2 J r3.1) else ((F_MD_qTest r3.2).bind fun r6 => F_MD_ask_109 r6 J r3.1)) else (F_MD_ask_98 r3.2 J r3.1)
/-- a row of codes of a question, read on both sides -/
def qsR (F : Option (Int32 × MI)) (G : MI → Option MI) (X : MI) (sd : Nat) (tb : Nat → Nat) (n e : Nat) (b : Bool) (tt : Bool) : Prop :=
  (∃ e' b' cs X', F = some (1, X') ∧ CE X' sd tb n e' b' cs 2 ∧ FX sd X' X ∧ q_ty cs [] = some [tt] ∧ alk 2 cs ∧ ∀ Y, RE Y tb n e b [] [] 0 0 2 → ∃ Y', G Y = some Y' ∧ RE Y' tb n e' b' [] cs 0 0 2 ∧ fsL LQ2 Y' Y) ∨
  (∃ k at' X', F = some (0, X') ∧ FTt X' k at' ∧ FX sd X' X ∧ (1 ≤ k ∧ k < 100) ∧ ∀ Y, RE Y tb n e b [] [] 0 0 2 → ∃ Y', G Y = some Y' ∧ MFt Y' k at' ∧ fsL LQ2 Y' Y)
/-- a question read on both sides -/
def QO (F : Option (Int32 × MI)) (G : MI → MJ → Option (Int64 × MI × MJ)) (X : MI) (sd : Nat) (tb : Nat → Nat) (n e : Nat) (b : Bool) : Prop :=
  (∃ kq cs X', kq < 6 ∧ F = some (1, X') ∧ (X' sd 9 = X sd 9 ∧ X' sd 10 = nI cs.length ∧ (∀ i, i < cs.length → X' (sd + 7) i = nI (q_tau (cs.getD i 0))) ∧ cs.length ≤ 1600) ∧ FC sd X' X ∧ X' 19 3 = nI (qw kq) ∧ (X' 19 1 = 0 ∧ X' 19 2 = -1) ∧ q_ty cs [] = some [decide (kq < 3)] ∧ alk 2 cs ∧ ∀ Y J, RE Y tb n e b [] [] 0 0 2 → ∃ Y', G Y J = F_MD_ask_133 Y' J (nI kq) ∧ (Y' 177 5 = 0 ∧ Y' 177 6 = -1) ∧ (Y' 177 92 = nI cs.length ∧ ∀ i, i < cs.length → Y' 244 i = nI (cs.getD i 0)) ∧ fsL LQ2 Y' Y) ∨
  (∃ k at' X', F = some (0, X') ∧ FTt X' k at' ∧ FC sd X' X ∧ (1 ≤ k ∧ k < 100) ∧ ∀ Y J, RE Y tb n e b [] [] 0 0 2 → ∃ v Y', G Y J = F_MD_ask_133 Y' J v ∧ MFt Y' k at' ∧ fsL LQ2 Y' Y)
section LF1
variable {I X Y Z V A : MI} {J : MJ} {sd n e : Nat} {b : Bool} {tb : Nat → Nat} {F : Option (Int32 × MI)} {G : MI → Option MI}
theorem qsR_s (hq : sd = 3 ∨ sd = 11) (h : CE X sd tb n e b [] 2) : qsR (F_Reader_sum0 sd X 0) F_MD_qSums X sd tb n e b false := by
  rcases sum0_j hq (by decide) h with ⟨e1, b1, cs, X1, s1, s2, s3, s4, s5, s6, s7, s8, s9⟩ | ⟨k, at', X1, s1, s2, s3, s4, s5⟩
  · left
    refine ⟨e1, b1, cs, X1, s1, s2, s3, s6 [] (by simp), s7, fun Y hY => ?_⟩
    exact s9 Y [] [] 0 hY tp_0
  · right
    refine ⟨k, at', X1, s1, s2, s3, s4, fun Y hY => ?_⟩
    obtain ⟨Y', y1, y2, y3⟩ := s5 Y [] [] 0 hY tp_0
    exact ⟨Y', y1, y2.1, y3⟩
theorem qsR_t (hq : sd = 3 ∨ sd = 11) (h : CE X sd tb n e b [] 2) : qsR (F_Reader_test0 sd X 0) F_MD_qTest X sd tb n e b true := by
  rcases test0_j hq (by decide) h with ⟨e1, b1, cs, X1, s1, s2, s3, s4, s5, s6, s7, s9⟩ | ⟨k, at', X1, s1, s2, s3, s4, s5⟩
  · left
    exact ⟨e1, b1, cs, X1, s1, s2, s3, s6 [] (by simp), s7, fun Y hY => s9 Y [] hY⟩
  · right
    exact ⟨k, at', X1, s1, s2, s3, s4, fun Y hY => s5 Y [] hY⟩
theorem LM_Q2 : subL LM LQ2 = true := by decide
/-- the end is wanted -/
theorem tailq (hq : sd = 3 ∨ sd = 11) {tt : Bool} {kq : Nat} (hk : kq < 6) (ht : tt = decide (kq < 3)) (h3 : X 19 3 = nI (qw kq)) (h : qsR F G X sd tb n e b tt) : QO (F.bind fun r => F_Reader_readQuestion_148 sd r.2 r.1) (fun Y J => (G Y).bind fun r => F_MD_ask_109 r J (nI kq)) X sd tb n e b := by
  rcases h with ⟨e1, b1, cs, X1, s1, s2, s3, s6, s7, s9⟩ | ⟨k, at', X1, s1, s2, s3, s4, s5⟩
  · rw [s1]
    simp only [Option.bind_some]
    obtain ⟨r1, ⟨r2, r3, r4⟩, -, -⟩ := id s2
    have hb : ∀ j, j < n → tb j < 256 := fun j hj => (r1.1.2.2.1 j hj).1
    have n16 := r1.1.2.1
    have en := r1.2.2
    unfold F_Reader_readQuestion_148
    rw [if_neg (by decide), up_k _ _ _ (show (19 : Nat) ≠ sd by omega)]
    by_cases k8 : kd tb n e1 b1 = 258
    · rw [if_pos ((kd_is r1 (by decide) (show (258 : Int32) = nI 258 from rfl)).mpr k8), r2]
      left
      refine ⟨kq, cs, m_up X1 sd 10 (nI cs.length), hk, rfl, ⟨?_, up_e _ _ _ _, fun i hi => ?_, by omega⟩, FC_up (by omega) (FC_X s3), ?_, ⟨?_, ?_⟩, by rw [s6, ht], s7, fun Y J hY => ?_⟩
      · rw [up_j _ _ _ (by decide), s3.1 sd (by omega) (by omega)]
      · rw [up_k _ _ _ (by omega)]; exact r3 i hi
      · rw [up_k _ _ _ (by omega), s3.2.1]; exact h3
      · rw [up_k _ _ _ (by omega)]; exact r1.1.2.2.2.2.1
      · rw [up_k _ _ _ (by omega)]; exact r1.1.2.2.2.2.2
      · obtain ⟨Y1, y1, y2, y3⟩ := s9 Y hY
        obtain ⟨k1, k2, k3⟩ := LK_s y2.1
        refine ⟨LK' Y1 tb n e1, ?_, ⟨k1.1.1, k1.2.2.2.2.2.2⟩, ⟨?_, fun i hi => ?_⟩, fs_tr (fs_sub LM_Q2 k3) y3⟩
        · show (G Y).bind _ = _
          rw [y1]
          simp only [Option.bind_some]
          unfold F_MD_ask_109
          rw [if_pos y2.1.1.1, look_m y2.1]
          simp only [Option.bind_some]
          rw [if_pos ((ch_end hb en).mpr k8)]
        · rw [k3 177 92 (by decide)]; exact y2.2.1.2.1.1
        · rw [fs_k k3 (k := 244) (by decide)]; exact y2.2.1.2.1.2 i hi
    · rw [if_neg (fun z => k8 ((kd_is r1 (by decide) (show (258 : Int32) = nI 258 from rfl)).mp z)), r1.2.1.2.1, show (1 : Int32) = nI 1 from rfl, wrong_e]
      simp only [Option.bind_some]
      rw [if_pos trivial]
      right
      refine ⟨1, sk tb n e1, _, rfl, wrm_t _ 1 _, FC_t (FC_N (wrm_f 1 _ (by decide))) (FC_up (by omega) (FC_X s3)), ⟨by decide, by decide⟩, fun Y J hY => ?_⟩
      obtain ⟨Y1, y1, y2, y3⟩ := s9 Y hY
      obtain ⟨k1, k2, k3⟩ := LK_s y2.1
      refine ⟨nI kq, m_up (m_up (LK' Y1 tb n e1) 177 5 (nI 1)) 177 6 (nI (sk tb n e1)), ?_, ⟨?_, up_e _ _ _ _⟩, fs_up (LX := LQ2) (by decide) (by decide) (fs_up (LX := LQ2) (by decide) (by decide) (fs_tr (fs_sub LM_Q2 k3) y3))⟩
      · show (G Y).bind _ = _
        rw [y1]
        simp only [Option.bind_some]
        unfold F_MD_ask_109
        rw [if_pos y2.1.1.1, look_m y2.1]
        simp only [Option.bind_some]
        rw [if_neg (fun z => k8 ((ch_end hb en).mp z)), k2, show (1 : Int32) = nI 1 from rfl, fail_m k1.1.1]
        rfl
      · rw [up_j _ _ _ (by decide), up_e]
  · rw [s1]
    simp only [Option.bind_some]
    unfold F_Reader_readQuestion_148
    rw [if_pos rfl]
    right
    refine ⟨k, at', _, rfl, ?_, FC_up (by omega) (FC_X s3), s4, fun Y J hY => ?_⟩
    · exact ⟨by rw [up_k _ _ _ (by omega)]; exact s2.1, by rw [up_k _ _ _ (by omega)]; exact s2.2⟩
    · obtain ⟨Y1, y1, y2, y3⟩ := s5 Y hY
      refine ⟨nI kq, Y1, ?_, y2, y3⟩
      show (G Y).bind _ = _
      rw [y1]
      simp only [Option.bind_some]
      unfold F_MD_ask_109
      rw [if_neg (mf_ne y2 s4.1 s4.2)]
theorem takes1N (h : QP Y tb n e b) {w i lw : Nat} (hw : (w, i) ∈ w_tab) (hl : (w_ds.getD i []).length = lw) (hn : ¬ wo tb n e b = some i) : F_MD_takes w lw Y = some (0, LK' Y tb n e) := by
  obtain ⟨⟨r1, U⟩, er, hr⟩ := takes_m h hw hl
  rcases hr with ⟨x1, -⟩ | ⟨-, x2⟩
  · rw [isw_o (w_tab_29 _ hw), decide_eq_false hn] at x1; cases x1
  · rw [er, x2]
theorem takes1Y (h : QP Y tb n e b) {w i lw : Nat} (hw : (w, i) ∈ w_tab) (hl : (w_ds.getD i []).length = lw) (hn : wo tb n e b = some i) : ∃ U, F_MD_takes w lw Y = some (1, U) ∧ QP U tb n (tke tb n e) true ∧ fsL LM U Y := by
  obtain ⟨⟨r1, U⟩, er, hr⟩ := takes_m h hw hl
  rcases hr with ⟨x1, x2, x3, x4⟩ | ⟨x1, -⟩
  · have x2 : r1 = 1 := x2
    exact ⟨U, by rw [er, x2], x3, x4⟩
  · rw [isw_o (w_tab_29 _ hw), decide_eq_true hn] at x1; cases x1
theorem k76 (U : MI) {k : Nat} (hk : k < 5) : F_MD_qKind_76 U (nI k) = some (nI k, U) := by
  unfold F_MD_qKind_76
  rw [if_neg]
  intro z
  have := (n_eq (by omega) (by decide) (show (5 : Int32) = nI 5 from rfl)).mp z
  omega
theorem kindY (h : QP Y tb n e b) {k : Nat} (hk : k < 6) (hw : wo tb n e b = some (qw k)) : ∃ U, F_MD_qKind Y = some (nI k, U) ∧ QP U tb n (tke tb n e) true ∧ fsL LM U Y := by
  obtain ⟨l1, l2, l3⟩ := LK_s h
  have ne : ∀ i : Nat, qw k ≠ i → ¬ wo tb n e b = some i := fun i hi z => hi (by rw [hw] at z; exact Option.some.inj z)
  rcases (by omega : k = 0 ∨ k = 1 ∨ k = 2 ∨ k = 3 ∨ k = 4 ∨ k = 5) with z | z | z | z | z | z <;> subst z
  · obtain ⟨U, u1, u2, u3⟩ := takes1Y h (w := 222) (i := 16) (lw := 5) (by decide) rfl hw
    refine ⟨U, ?_, u2, u3⟩
    unfold F_MD_qKind
    rw [u1]
    simp only [Option.bind_some]
    rw [if_neg (by decide)]; exact k76 U (k := 0) (by decide)
  · obtain ⟨U, u1, u2, u3⟩ := takesY h (w := 223) (i := 24) (lw := 4) (by decide) rfl hw
    refine ⟨U, ?_, u2, u3⟩
    unfold F_MD_qKind
    rw [takes1N h (w := 222) (i := 16) (lw := 5) (by decide) rfl (ne 16 (by decide))]
    simp only [Option.bind_some]
    rw [if_pos trivial, u1]
    simp only [Option.bind_some]
    rw [if_neg (by decide)]; exact k76 U (k := 1) (by decide)
  · obtain ⟨U, u1, u2, u3⟩ := takesY h (w := 224) (i := 25) (lw := 5) (by decide) rfl hw
    refine ⟨U, ?_, u2, u3⟩
    unfold F_MD_qKind
    rw [takes1N h (w := 222) (i := 16) (lw := 5) (by decide) rfl (ne 16 (by decide))]
    simp only [Option.bind_some]
    rw [if_pos trivial, takesN h (w := 223) (i := 24) (lw := 4) (by decide) rfl (ne 24 (by decide))]
    simp only [Option.bind_some]
    rw [if_pos trivial, u1]
    simp only [Option.bind_some]
    rw [if_neg (by decide)]; exact k76 U (k := 2) (by decide)
  · obtain ⟨U, u1, u2, u3⟩ := takesY h (w := 225) (i := 26) (lw := 5) (by decide) rfl hw
    refine ⟨U, ?_, u2, u3⟩
    unfold F_MD_qKind
    rw [takes1N h (w := 222) (i := 16) (lw := 5) (by decide) rfl (ne 16 (by decide))]
    simp only [Option.bind_some]
    rw [if_pos trivial, takesN h (w := 223) (i := 24) (lw := 4) (by decide) rfl (ne 24 (by decide))]
    simp only [Option.bind_some]
    rw [if_pos trivial, takesN h (w := 224) (i := 25) (lw := 5) (by decide) rfl (ne 25 (by decide))]
    simp only [Option.bind_some]
    rw [if_pos trivial, u1]
    simp only [Option.bind_some]
    rw [if_neg (by decide)]; exact k76 U (k := 3) (by decide)
  · obtain ⟨U, u1, u2, u3⟩ := takesY h (w := 226) (i := 27) (lw := 4) (by decide) rfl hw
    refine ⟨U, ?_, u2, u3⟩
    unfold F_MD_qKind
    rw [takes1N h (w := 222) (i := 16) (lw := 5) (by decide) rfl (ne 16 (by decide))]
    simp only [Option.bind_some]
    rw [if_pos trivial, takesN h (w := 223) (i := 24) (lw := 4) (by decide) rfl (ne 24 (by decide))]
    simp only [Option.bind_some]
    rw [if_pos trivial, takesN h (w := 224) (i := 25) (lw := 5) (by decide) rfl (ne 25 (by decide))]
    simp only [Option.bind_some]
    rw [if_pos trivial, takesN h (w := 225) (i := 26) (lw := 5) (by decide) rfl (ne 26 (by decide))]
    simp only [Option.bind_some]
    rw [if_pos trivial, u1]
    simp only [Option.bind_some]
    rw [if_neg (by decide)]; exact k76 U (k := 4) (by decide)
  · obtain ⟨U, eu, u1, u2⟩ := asks_m l1 (w := 227) (i := 28) (lw := 5) (by decide) rfl
    rcases u2 with ⟨-, u2⟩ | ⟨z, -⟩
    · refine ⟨U, ?_, u2, fs_tr u1 l3⟩
      unfold F_MD_qKind
      rw [takes1N h (w := 222) (i := 16) (lw := 5) (by decide) rfl (ne 16 (by decide))]
      simp only [Option.bind_some]
      rw [if_pos trivial, takesN h (w := 223) (i := 24) (lw := 4) (by decide) rfl (ne 24 (by decide))]
      simp only [Option.bind_some]
      rw [if_pos trivial, takesN h (w := 224) (i := 25) (lw := 5) (by decide) rfl (ne 25 (by decide))]
      simp only [Option.bind_some]
      rw [if_pos trivial, takesN h (w := 225) (i := 26) (lw := 5) (by decide) rfl (ne 26 (by decide))]
      simp only [Option.bind_some]
      rw [if_pos trivial, takesN h (w := 226) (i := 27) (lw := 4) (by decide) rfl (ne 27 (by decide))]
      simp only [Option.bind_some]
      rw [if_pos trivial]
      unfold F_MD_qKind_76
      rw [if_pos rfl, eu]; rfl
    · rw [isw_o (by decide), decide_eq_true (show wo tb n e b = some 28 from hw)] at z; cases z
theorem kindN (h : QP Y tb n e b) (hw : ∀ k, k < 6 → ¬ wo tb n e b = some (qw k)) : ∃ U, F_MD_qKind Y = some (5, U) ∧ MFt U 1 (sk tb n e) ∧ fsL LM U Y := by
  obtain ⟨l1, l2, l3⟩ := LK_s h
  obtain ⟨U, eu, u1, u2⟩ := asks_m l1 (w := 227) (i := 28) (lw := 5) (by decide) rfl
  rcases u2 with ⟨z, -⟩ | ⟨-, u2⟩
  · rw [isw_o (by decide), decide_eq_false (show ¬ wo tb n e b = some 28 from hw 5 (by decide))] at z; cases z
  · refine ⟨U, ?_, u2, fs_tr u1 l3⟩
    unfold F_MD_qKind
    rw [takes1N h (w := 222) (i := 16) (lw := 5) (by decide) rfl (hw 0 (by decide))]
    simp only [Option.bind_some]
    rw [if_pos trivial, takesN h (w := 223) (i := 24) (lw := 4) (by decide) rfl (hw 1 (by decide))]
    simp only [Option.bind_some]
    rw [if_pos trivial, takesN h (w := 224) (i := 25) (lw := 5) (by decide) rfl (hw 2 (by decide))]
    simp only [Option.bind_some]
    rw [if_pos trivial, takesN h (w := 225) (i := 26) (lw := 5) (by decide) rfl (hw 3 (by decide))]
    simp only [Option.bind_some]
    rw [if_pos trivial, takesN h (w := 226) (i := 27) (lw := 4) (by decide) rfl (hw 4 (by decide))]
    simp only [Option.bind_some]
    rw [if_pos trivial]
    unfold F_MD_qKind_76
    rw [if_pos rfl, eu]; rfl
end LF1
