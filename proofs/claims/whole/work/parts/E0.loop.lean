/-! the statements of a slope -/
section LE0
variable {I X Y Z V A : MI} {J : MJ} {sd n e td cn : Nat} {b : Bool} {tb : Nat → Nat} {p : CF} {w : WD} {nm : Nat → List Nat} {L : List Nat} {F : Option (Int32 × MI)} {G : MI → MJ → Option (MI × MJ)}
/-- a statement: class to .inl or a fault, reference -/
def JT (F : Option ((Int32 × MI) ⊕ ((MI) ⊕ (Int32 × MI)))) (G : MI → MJ → Option (MI × MJ)) (X : MI) (sd : Nat) (tb : Nat → Nat) (n e e2 : Nat) (b2 : Bool) (p : CF) (w : WD) (td : Nat) (nm : Nat → List Nat) (L : List Nat) (cn : Nat) : Prop :=
  (∃ e' b' p' w' td' nm' L' X', F = some (.inl (nI (cn + 1), X')) ∧ RS X' tb n e' b' ∧ L'.length ≤ e' ∧ DrC X' sd p' w' td' nm' L' (cn + 1) ∧ DrI p' w' td' nm' L' ∧ FC sd X' X ∧ e < e' ∧ ∀ Y J, QP Y tb n e2 b2 → DrM Y J p w td nm L cn → ∃ Y' J', G Y J = some (Y', J') ∧ QP Y' tb n e' b' ∧ DrM Y' J' p' w' td' nm' L' (cn + 1) ∧ FS Y' Y ∧ FJ J' J) ∨
  (∃ k at' X', F = some (.inr (.inr (0, X'))) ∧ FTt X' k at' ∧ FC sd X' X ∧ (1 ≤ k ∧ k < 100) ∧ ∀ Y J, QP Y tb n e2 b2 → DrM Y J p w td nm L cn → ∃ Y' J', G Y J = some (Y', J') ∧ MFt Y' k at' ∧ FS Y' Y ∧ FJ J' J)
theorem FS_48 {x : Int32} (h : FS Z Y) : FS (m_up Z 177 48 x) Y := ⟨fs_up (LX := LSl) (by decide) (by decide) h.1, fun j hj => by rw [up_k _ _ _ (by decide)]; exact h.2 j hj⟩
theorem tail_j (hq : sd = 3 ∨ sd = 11) {e2 : Nat} {b2 : Bool} (h : JL F G X sd tb n e e2 b2 p w td nm L cn) : JT (F.bind fun r => F_Reader_readSlope_174 sd r.2 (nI cn) r.1) (fun Y J => (G Y J).bind fun r => F_MD_statementTold_154 r.1 r.2) X sd tb n e e2 b2 p w td nm L cn := by
  rcases h with ⟨e1, b1, p', w', td', nm', L', X1, s1, s2, s3, s4, s5, s6, s7, s8⟩ | ⟨k, at', X1, s1, s2, s3, s4, s5⟩
  · rw [s1]
    simp only [Option.bind_some]
    unfold F_Reader_readSlope_174
    rw [if_neg (by decide)]
    rcases need_j (sd := sd) s2 sg59 with ⟨g1, g2, V, ev, v1, v2, v3⟩ | ⟨V, ev, v1, v2, v3⟩
    · have ev : F_Reader_need sd X1 59 = some (1, V) := ev
      have dV := DrC_N hq s4 v2
      rw [ev]
      simp only [Option.bind_some]
      rw [if_neg (by decide), dV.2.1.1, nI_s]
      left
      refine ⟨_, false, p', w', td', nm', L', m_up V sd 0 (nI (cn + 1)), rfl, RS_u v1 (by omega), by have := sk_ge (tb := tb) (n := n) e1; omega, ?_, s5, FC_up (by omega) (FC_t (FC_N v2) s6), by have := sk_ge (tb := tb) (n := n) e1; omega, fun Y J hY hD => ?_⟩
      · have d0 := dV
        unfold DrC CC WC rgC at d0 ⊢
        rw [up_k _ _ _ (show sd + 1 ≠ sd by omega), up_k _ _ _ (show sd + 2 ≠ sd by omega), up_k _ _ _ (show sd + 3 ≠ sd by omega), up_k _ _ _ (show sd + 3 + 1 ≠ sd by omega), up_k _ _ _ (show sd + 3 + 2 ≠ sd by omega), up_k _ _ _ (show sd + 3 + 3 ≠ sd by omega), up_k _ _ _ (show sd + 7 ≠ sd by omega), up_k _ _ _ (show 19 ≠ sd by omega), up_j _ _ _ (show (4 : Nat) ≠ 0 by decide), up_j _ _ _ (show (1 : Nat) ≠ 0 by decide), up_j _ _ _ (show (2 : Nat) ≠ 0 by decide), up_j _ _ _ (show (3 : Nat) ≠ 0 by decide), up_j _ _ _ (show (9 : Nat) ≠ 0 by decide), up_j _ _ _ (show (10 : Nat) ≠ 0 by decide), up_j _ _ _ (show (11 : Nat) ≠ 0 by decide), up_j _ _ _ (show (12 : Nat) ≠ 0 by decide), up_e]
        exact ⟨d0.1, ⟨rfl, d0.2.1.2⟩, d0.2.2⟩
      · obtain ⟨Y1, J1, y1, y2, y3, y4, y5⟩ := s8 Y J hY hD
        obtain ⟨U, u1, u2, u3⟩ := v3 Y1 y2
        have u1 : F_MD_asksSign Y1 59 = some U := u1
        have dU := DrM_M y3 u3
        have f3 : fsL [(177, some 48)] (m_up U 177 48 (nI (cn + 1))) U := fs_up (LX := [(177, some 48)]) (by decide) (by decide) (fs_r U)
        refine ⟨m_up U 177 48 (nI (cn + 1)), J1, ?_, QP_f u2 f3 (by decide) (by decide +kernel), ?_, FS_48 (FS_t (FS_M u3) y4), y5⟩
        · show (G Y J).bind _ = _
          rw [y1]
          simp only [Option.bind_some]
          unfold F_MD_statementTold_154
          rw [u1]
          simp only [Option.bind_some]
          rw [dU.2.2.1.2, nI_s]
        · unfold DrM rgM at dU ⊢
          rw [fs_k f3 (k := 204) (by decide), fs_k f3 (k := 205) (by decide), fs_k f3 (k := 207) (by decide), fs_k f3 (k := 208) (by decide), fs_k f3 (k := 209) (by decide), fs_k f3 (k := 210) (by decide), fs_k f3 (k := 211) (by decide), fs_k f3 (k := 212) (by decide), f3 177 47 (by decide), f3 177 42 (by decide)]
          exact ⟨dU.1, dU.2.1, ⟨dU.2.2.1.1, up_e _ _ _ _⟩, dU.2.2.2⟩
    · have ev : F_Reader_need sd X1 59 = some (0, V) := ev
      rw [ev]
      simp only [Option.bind_some]
      rw [if_pos trivial]
      right
      refine ⟨1, _, V, rfl, v1, FC_t (FC_N v2) s6, ⟨by decide, by decide⟩, fun Y J hY hD => ?_⟩
      obtain ⟨Y1, J1, y1, y2, y3, y4, y5⟩ := s8 Y J hY hD
      obtain ⟨U, u1, u2, u3⟩ := v3 Y1 y2
      have u1 : F_MD_asksSign Y1 59 = some U := u1
      refine ⟨m_up U 177 48 (U 177 48 + 1), J1, ?_, ⟨by rw [up_j _ _ _ (by decide)]; exact u2.1, by rw [up_j _ _ _ (by decide)]; exact u2.2⟩, FS_48 (FS_t (FS_M u3) y4), y5⟩
      show (G Y J).bind _ = _
      rw [y1]
      simp only [Option.bind_some]
      unfold F_MD_statementTold_154
      rw [u1]; rfl
  · rw [s1]
    simp only [Option.bind_some]
    unfold F_Reader_readSlope_174
    rw [if_pos rfl]
    right
    refine ⟨k, at', X1, rfl, s2, s3, s4, fun Y J hY hD => ?_⟩
    obtain ⟨Y1, J1, y1, y2, y4, y5⟩ := s5 Y J hY hD
    have nb := mf_ne y2 s4.1 s4.2
    refine ⟨m_up Y1 177 48 (Y1 177 48 + 1), J1, ?_, ⟨by rw [up_j _ _ _ (by decide)]; exact y2.1, by rw [up_j _ _ _ (by decide)]; exact y2.2⟩, FS_48 y4, y5⟩
    show (G Y J).bind _ = _
    rw [y1]
    simp only [Option.bind_some]
    unfold F_MD_statementTold_154
    rw [asign_b nb]; rfl
theorem takesN (h : QP Y tb n e b) {w i lw : Nat} (hw : (w, i) ∈ w_tab) (hl : (w_ds.getD i []).length = lw) (hn : ¬ wo tb n e b = some i) : F_MD_takes w lw (LK' Y tb n e) = some (0, LK' Y tb n e) := by
  unfold F_MD_takes
  rw [hereL h hw hl, decide_eq_false hn]; rfl
theorem takesY (h : QP Y tb n e b) {w i lw : Nat} (hw : (w, i) ∈ w_tab) (hl : (w_ds.getD i []).length = lw) (hn : wo tb n e b = some i) : ∃ U, F_MD_takes w lw (LK' Y tb n e) = some (1, U) ∧ QP U tb n (tke tb n e) true ∧ fsL LM U Y := by
  obtain ⟨k1, k2, k3⟩ := LK_s h
  obtain ⟨⟨r1, U⟩, er, hr⟩ := takes_m k1 hw hl
  rcases hr with ⟨x1, x2, x3, x4⟩ | ⟨x1, -⟩
  · have x2 : r1 = 1 := x2
    exact ⟨U, by rw [er, x2], x3, fs_tr x4 k3⟩
  · rw [isw_o (w_tab_29 _ hw), decide_eq_true hn] at x1; cases x1
/-- one case of a statement -/
theorem case_j {F' : Option ((Int32 × MI) ⊕ ((MI) ⊕ (Int32 × MI)))} {G' : MI → MJ → Option (MI × MJ)} (h : JT F' G X sd tb n e (tke tb n e) true p w td nm L cn) (hG : ∀ Y J, QP Y tb n e b → DrM Y J p w td nm L cn → ∃ U, QP U tb n (tke tb n e) true ∧ fsL LM U Y ∧ G' Y J = G U J) : JT F' G' X sd tb n e e b p w td nm L cn := by
  rcases h with ⟨e1, b1, p', w', td', nm', L', X1, s1, s2, s3, s4, s5, s6, s7, s8⟩ | ⟨k, at', X1, s1, s2, s3, s4, s5⟩
  · left
    refine ⟨e1, b1, p', w', td', nm', L', X1, s1, s2, s3, s4, s5, s6, s7, fun Y J hY hD => ?_⟩
    obtain ⟨U, u1, u2, u3⟩ := hG Y J hY hD
    obtain ⟨Y', J', y1, y2, y3, y4, y5⟩ := s8 U J u1 (DrM_M hD u2)
    exact ⟨Y', J', u3.trans y1, y2, y3, FS_t y4 (FS_M u2), y5⟩
  · right
    refine ⟨k, at', X1, s1, s2, s3, s4, fun Y J hY hD => ?_⟩
    obtain ⟨U, u1, u2, u3⟩ := hG Y J hY hD
    obtain ⟨Y', J', y1, y2, y4, y5⟩ := s5 U J u1 (DrM_M hD u2)
    exact ⟨Y', J', u3.trans y1, y2, FS_t y4 (FS_M u2), y5⟩
theorem stm_j (hq : sd = 3 ∨ sd = 11) (h : RS X tb n e b) (hd : DrC X sd p w td nm L cn) (hi : DrI p w td nm L) (hl : L.length ≤ e) (h80 : cn < 80) (hk : ¬ kd tb n e b = 258) : JT (F_Reader_readSlope_25 sd X (nI cn)) (fun Y J => F_MD_statementTold (LK' Y tb n e) J) X sd tb n e e b p w td nm L cn := by
  have hb : ∀ j, j < n → tb j < 256 := fun j hj => (h.1.2.2.1 j hj).1
  have e258 : ¬ X 19 6 = 258 := fun z => hk ((kd_is h (by decide) (show (258 : Int32) = nI 258 from rfl)).mp z)
  have e25 : F_Reader_readSlope_25 sd X (nI cn) = F_Reader_readSlope_59 sd X (nI cn) (if kd tb n e b = 256 then w_no (lets tb n e) else -1) := by
    unfold F_Reader_readSlope_25
    rw [if_neg (show ¬ (80 : Int32) ≤ nI cn from nI_ge (b := 80) h80 (by decide)), if_neg e258]
    by_cases k : kd tb n e b = 256
    · rw [if_pos ((kd_is h (by decide) (show (256 : Int32) = nI 256 from rfl)).mpr k), if_pos k, h.2.1.2.2.2 k]
    · rw [if_neg (fun z => k ((kd_is h (by decide) (show (256 : Int32) = nI 256 from rfl)).mp z)), if_neg k]
  have e80 : ∀ {Y : MI} {J : MJ}, DrM Y J p w td nm L cn → ¬ LK' Y tb n e 177 48 = 80 := fun {Y J} hD z => by
    have : LK' Y tb n e 177 48 = Y 177 48 := by unfold LK'; rw [up_j _ _ _ (by decide)]
    rw [this, hD.2.2.1.2] at z
    have := (n_eq (by omega) (by decide) (show (80 : Int32) = nI 80 from rfl)).mp z
    omega
  have at2 : ∀ {Y : MI}, QP Y tb n e b → LK' Y tb n e 177 2 = nI (sk tb n e) := fun hY => (LK_s hY).2.1
  rw [e25]
  have y0 : ∀ i, i < 29 → wo tb n e b = some i → (if kd tb n e b = 256 then w_no (lets tb n e) else -1) = nI i := fun i hi hw => by
    obtain ⟨-, k, hn⟩ := wo_s.mp hw
    rw [if_pos k, hn]
  have kk : ∀ i, wo tb n e b = some i → kd tb n e b = 256 := fun i hw => (wo_s.mp hw).2.1
  by_cases w2 : wo tb n e b = some 2
  · rw [y0 2 (by decide) w2]
    unfold F_Reader_readSlope_59
    rw [if_pos (by decide)]
    refine case_j (tail_j hq (steep_j hq h (kk _ w2) hd hi hl)) (fun Y J hY hD => ?_)
    obtain ⟨U, u1, u2, u3⟩ := takesY hY (w := 182) (i := 2) (lw := 5) (by decide) rfl w2
    refine ⟨U, u2, u3, ?_⟩
    unfold F_MD_statementTold
    rw [if_neg (e80 hD), u1]
    simp only [Option.bind_some]
    rw [if_neg (by decide)]
    cases F_MD_steepTold U <;> rfl
  by_cases w3 : wo tb n e b = some 3
  · rw [y0 3 (by decide) w3]
    unfold F_Reader_readSlope_59
    rw [if_neg (by decide), if_pos (by decide)]
    refine case_j (tail_j hq (iron_j hq h (kk _ w3) hd hi hl)) (fun Y J hY hD => ?_)
    obtain ⟨U, u1, u2, u3⟩ := takesY hY (w := 183) (i := 3) (lw := 4) (by decide) rfl w3
    refine ⟨U, u2, u3, ?_⟩
    unfold F_MD_statementTold
    rw [if_neg (e80 hD), takesN hY (w := 182) (i := 2) (lw := 5) (by decide) rfl w2]
    simp only [Option.bind_some]
    rw [if_pos trivial, u1, at2 hY]
    simp only [Option.bind_some]
    rw [if_neg (by decide)]
    cases F_MD_ironTold U (nI (sk tb n e)) <;> rfl
  by_cases w4 : wo tb n e b = some 4
  · rw [y0 4 (by decide) w4]
    unfold F_Reader_readSlope_59
    rw [if_neg (by decide), if_neg (by decide), if_pos (by decide)]
    refine case_j (tail_j hq (fence_j hq h (kk _ w4) hd hi hl)) (fun Y J hY hD => ?_)
    obtain ⟨U, u1, u2, u3⟩ := takesY hY (w := 184) (i := 4) (lw := 5) (by decide) rfl w4
    refine ⟨U, u2, u3, ?_⟩
    unfold F_MD_statementTold
    rw [if_neg (e80 hD), takesN hY (w := 182) (i := 2) (lw := 5) (by decide) rfl w2]
    simp only [Option.bind_some]
    rw [if_pos trivial, takesN hY (w := 183) (i := 3) (lw := 4) (by decide) rfl w3]
    simp only [Option.bind_some]
    rw [if_pos trivial, u1, at2 hY]
    simp only [Option.bind_some]
    rw [if_neg (by decide)]
  by_cases w7 : wo tb n e b = some 7
  · rw [y0 7 (by decide) w7]
    unfold F_Reader_readSlope_59
    rw [if_neg (by decide), if_neg (by decide), if_neg (by decide), if_neg (by decide), if_neg (by decide), if_pos (by decide)]
    refine case_j (tail_j hq (stake_j hq h (kk _ w7) hd hi hl)) (fun Y J hY hD => ?_)
    obtain ⟨U, u1, u2, u3⟩ := takesY hY (w := 187) (i := 7) (lw := 5) (by decide) rfl w7
    refine ⟨U, u2, u3, ?_⟩
    unfold F_MD_statementTold
    rw [if_neg (e80 hD), takesN hY (w := 182) (i := 2) (lw := 5) (by decide) rfl w2]
    simp only [Option.bind_some]
    rw [if_pos trivial, takesN hY (w := 183) (i := 3) (lw := 4) (by decide) rfl w3]
    simp only [Option.bind_some]
    rw [if_pos trivial, takesN hY (w := 184) (i := 4) (lw := 5) (by decide) rfl w4]
    simp only [Option.bind_some]
    rw [if_pos trivial, u1]
    simp only [Option.bind_some]
    rw [if_neg (by decide)]
    cases F_MD_stakeTold U J <;> rfl
  by_cases w8 : wo tb n e b = some 8
  · rw [y0 8 (by decide) w8]
    unfold F_Reader_readSlope_59
    rw [if_neg (by decide), if_neg (by decide), if_neg (by decide), if_neg (by decide), if_neg (by decide), if_neg (by decide), if_pos (by decide)]
    refine case_j (tail_j hq (code_j (F := F_Reader_walksLine sd X) (G := F_MD_qSums) (v := 0) (S := fun X => F_Reader_sum0 sd X 0) hq h (kk _ w8) hd hi hl (Or.inl rfl) rfl (fun X e b L h => codR_s hq h) rfl)) (fun Y J hY hD => ?_)
    obtain ⟨U, u1, u2, u3⟩ := takesY hY (w := 188) (i := 8) (lw := 5) (by decide) rfl w8
    refine ⟨U, u2, u3, ?_⟩
    unfold F_MD_statementTold
    rw [if_neg (e80 hD), takesN hY (w := 182) (i := 2) (lw := 5) (by decide) rfl w2]
    simp only [Option.bind_some]
    rw [if_pos trivial, takesN hY (w := 183) (i := 3) (lw := 4) (by decide) rfl w3]
    simp only [Option.bind_some]
    rw [if_pos trivial, takesN hY (w := 184) (i := 4) (lw := 5) (by decide) rfl w4]
    simp only [Option.bind_some]
    rw [if_pos trivial, takesN hY (w := 187) (i := 7) (lw := 5) (by decide) rfl w7]
    simp only [Option.bind_some]
    rw [if_pos trivial, u1, at2 hY]
    simp only [Option.bind_some]
    rw [if_neg (by decide)]
    show (F_MD_codesTold U 0 (nI (sk tb n e))).bind _ = ((F_MD_codesTold U 0 (nI (sk tb n e))).bind _).bind _
    cases F_MD_codesTold U 0 (nI (sk tb n e)) <;> rfl
  by_cases w9 : wo tb n e b = some 9
  · rw [y0 9 (by decide) w9]
    unfold F_Reader_readSlope_59
    rw [if_neg (by decide), if_neg (by decide), if_neg (by decide), if_neg (by decide), if_neg (by decide), if_neg (by decide), if_neg (by decide), if_pos (by decide)]
    refine case_j (tail_j hq (code_j (F := F_Reader_rootsLine sd X) (G := F_MD_qTest) (v := 1) (S := fun X => F_Reader_test0 sd X 0) hq h (kk _ w9) hd hi hl (Or.inr rfl) rfl (fun X e b L h => codR_t hq h) rfl)) (fun Y J hY hD => ?_)
    obtain ⟨U, u1, u2, u3⟩ := takesY hY (w := 189) (i := 9) (lw := 5) (by decide) rfl w9
    refine ⟨U, u2, u3, ?_⟩
    unfold F_MD_statementTold
    rw [if_neg (e80 hD), takesN hY (w := 182) (i := 2) (lw := 5) (by decide) rfl w2]
    simp only [Option.bind_some]
    rw [if_pos trivial, takesN hY (w := 183) (i := 3) (lw := 4) (by decide) rfl w3]
    simp only [Option.bind_some]
    rw [if_pos trivial, takesN hY (w := 184) (i := 4) (lw := 5) (by decide) rfl w4]
    simp only [Option.bind_some]
    rw [if_pos trivial, takesN hY (w := 187) (i := 7) (lw := 5) (by decide) rfl w7]
    simp only [Option.bind_some]
    rw [if_pos trivial, takesN hY (w := 188) (i := 8) (lw := 5) (by decide) rfl w8]
    simp only [Option.bind_some]
    rw [if_pos trivial, u1, at2 hY]
    simp only [Option.bind_some]
    rw [if_neg (by decide)]
    show (F_MD_codesTold U 1 (nI (sk tb n e))).bind _ = ((F_MD_codesTold U 1 (nI (sk tb n e))).bind _).bind _
    cases F_MD_codesTold U 1 (nI (sk tb n e)) <;> rfl
  -- the reference asks for a tide
  have ref10 : ∀ {Y : MI} {J : MJ}, QP Y tb n e b → DrM Y J p w td nm L cn → F_MD_statementTold (LK' Y tb n e) J = (F_MD_asks 190 4 (LK' Y tb n e)).bind fun r14 => (F_MD_number r14 0 100).bind fun r15 => F_MD_statementTold_154 (m_up r15.2 177 42 r15.1) J := fun {Y J} hY hD => by
    unfold F_MD_statementTold
    rw [if_neg (e80 hD), takesN hY (w := 182) (i := 2) (lw := 5) (by decide) rfl w2]
    simp only [Option.bind_some]
    rw [if_pos trivial, takesN hY (w := 183) (i := 3) (lw := 4) (by decide) rfl w3]
    simp only [Option.bind_some]
    rw [if_pos trivial, takesN hY (w := 184) (i := 4) (lw := 5) (by decide) rfl w4]
    simp only [Option.bind_some]
    rw [if_pos trivial, takesN hY (w := 187) (i := 7) (lw := 5) (by decide) rfl w7]
    simp only [Option.bind_some]
    rw [if_pos trivial, takesN hY (w := 188) (i := 8) (lw := 5) (by decide) rfl w8]
    simp only [Option.bind_some]
    rw [if_pos trivial, takesN hY (w := 189) (i := 9) (lw := 5) (by decide) rfl w9]
    simp only [Option.bind_some]
    rw [if_pos trivial]
  by_cases w10 : wo tb n e b = some 10
  · rw [y0 10 (by decide) w10]
    unfold F_Reader_readSlope_59
    rw [if_neg (by decide), if_neg (by decide), if_neg (by decide), if_neg (by decide), if_neg (by decide), if_neg (by decide), if_neg (by decide), if_neg (by decide), if_pos (by decide)]
    refine case_j (tail_j hq (tide_j hq h (kk _ w10) hd hi hl)) (fun Y J hY hD => ?_)
    obtain ⟨k1, -, k3⟩ := LK_s hY
    obtain ⟨U, eu, u1, u2⟩ := asks_m k1 (w := 190) (i := 10) (lw := 4) (by decide) rfl
    rcases u2 with ⟨-, u2⟩ | ⟨z, -⟩
    · refine ⟨U, u2, fs_tr u1 k3, ?_⟩
      show F_MD_statementTold (LK' Y tb n e) J = _
      rw [ref10 hY hD, eu]
      simp only [Option.bind_some]
      cases F_MD_number U 0 100 <;> rfl
    · rw [isw_o (by decide), decide_eq_true w10] at z; cases z
  · have bad : F_Reader_readSlope_59 sd X (nI cn) (if kd tb n e b = 256 then w_no (lets tb n e) else -1) = some (.inr (.inr (0, wrm X 1 (sk tb n e)))) := by
      have wr : ((F_Reader_wrong sd X (1 : Int32) (X 19 7)).bind fun r8 => F_Reader_readSlope_174 sd r8.2 (nI cn) r8.1) = some (.inr (.inr (0, wrm X 1 (sk tb n e)))) := by
        rw [h.2.1.2.1, show (1 : Int32) = nI 1 from rfl, wrong_e]
        simp only [Option.bind_some]
        unfold F_Reader_readSlope_174
        rw [if_pos rfl]
      have gen : ∀ y : Int32, y ≠ 2 → y ≠ 3 → y ≠ 4 → y ≠ 7 → y ≠ 8 → y ≠ 9 → y ≠ 10 → F_Reader_readSlope_59 sd X (nI cn) y = some (.inr (.inr (0, wrm X 1 (sk tb n e)))) := by
        intro y a2 a3 a4 a7 a8 a9 a10
        unfold F_Reader_readSlope_59
        rw [if_neg a2, if_neg a3, if_neg a4, if_neg a7, if_neg a8, if_neg a9, if_neg a10, wr]
        repeat' split
        all_goals rfl
      by_cases k : kd tb n e b = 256
      · rw [if_pos k]
        rcases w_no_v (lets tb n e) with hw | ⟨j, j29, -, hw⟩
        · rw [hw]; exact gen _ (by decide) (by decide) (by decide) (by decide) (by decide) (by decide) (by decide)
        · have hwo : wo tb n e b = some j := wo_s.mpr ⟨j29, k, hw⟩
          have nj : ∀ i : Nat, i < 29 → ¬ wo tb n e b = some i → nI j ≠ nI i := fun i hi hn z => hn (by rw [hwo, (nI_inj (by omega) (by omega)).mp z])
          rw [hw]
          exact gen _ (nj 2 (by decide) w2) (nj 3 (by decide) w3) (nj 4 (by decide) w4) (nj 7 (by decide) w7) (nj 8 (by decide) w8) (nj 9 (by decide) w9) (nj 10 (by decide) w10)
      · rw [if_neg k]
        exact gen _ (by decide) (by decide) (by decide) (by decide) (by decide) (by decide) (by decide)
    rw [bad]
    right
    refine ⟨1, sk tb n e, wrm X 1 (sk tb n e), rfl, wrm_t X 1 _, FC_N (wrm_f 1 _ (by decide)), ⟨by decide, by decide⟩, fun Y J hY hD => ?_⟩
    obtain ⟨k1, -, k3⟩ := LK_s hY
    obtain ⟨U, eu, u1, u2⟩ := asks_m k1 (w := 190) (i := 10) (lw := 4) (by decide) rfl
    rcases u2 with ⟨z, -⟩ | ⟨-, u2⟩
    · rw [isw_o (by decide), decide_eq_false w10] at z; cases z
    · have nb := mf_ne u2 (by decide) (by decide)
      have nb2 : ¬ (m_up U 177 42 0) 177 5 = 0 := by rw [up_j _ _ _ (by decide)]; exact nb
      refine ⟨m_up (m_up U 177 42 0) 177 48 ((m_up U 177 42 0) 177 48 + 1), J, ?_, ⟨by rw [up_j _ _ _ (by decide), up_j _ _ _ (by decide)]; exact u2.1, by rw [up_j _ _ _ (by decide), up_j _ _ _ (by decide)]; exact u2.2⟩, FS_48 ⟨fs_up (LX := LSl) (by decide) (by decide) (FS_M (fs_tr u1 k3)).1, fun j hj => by rw [up_k _ _ _ (by decide)]; exact (FS_M (fs_tr u1 k3)).2 j hj⟩, FJ_r J⟩
      show F_MD_statementTold (LK' Y tb n e) J = _
      rw [ref10 hY hD, eu]
      simp only [Option.bind_some]
      rw [num_b nb]
      simp only [Option.bind_some]
      unfold F_MD_statementTold_154
      rw [asign_b nb2]; rfl
end LE0
