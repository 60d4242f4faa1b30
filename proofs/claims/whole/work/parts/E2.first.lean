/-! the first line of a slope, and all of it -/
def p_0 (C R : Nat) : CF := (C, R, 0, fun _ => 1, [], [])
def w_0 : WD := (0, fun _ => 0, fun _ => 0, fun _ => 0, fun _ _ => -1)
/-- the reference before the first line -/
def D0M (Y : MI) : Prop := (Y 205 0 = 0 ∧ Y 205 1 = 0) ∧ ((∀ c, c < 6 → Y 207 c = 1) ∧ ∀ c, c < 6 → Y 208 c = 0) ∧ (Y 210 0 = -1 ∧ Y 210 1 = -1) ∧ Y 177 42 = 0 ∧ Y 177 47 = 0
/-- the class before the first line -/
def D0C (X : MI) (sd : Nat) : Prop := (X sd 3 = 0 ∧ X sd 4 = 0 ∧ X sd 9 = 0 ∧ X sd 10 = 0 ∧ X sd 11 = 0 ∧ X sd 12 = 0) ∧ (∀ c, c < 6 → X (sd + 1) c = 1) ∧ WC X (sd + 3) w_0 ∧ X 19 5 = 0
section LE2
variable {I X Y Z V A : MI} {J : MJ} {sd n e td cn : Nat} {b : Bool} {tb : Nat → Nat} {p : CF} {w : WD} {nm : Nat → List Nat} {L : List Nat}
theorem D0C_c (hq : sd = 3 ∨ sd = 11) (h : D0C X sd) (e : ∀ q, sd ≤ q → q ≤ sd + 7 → Y q = X q) (e5 : Y 19 5 = X 19 5) : D0C Y sd := by
  unfold D0C WC at *
  rw [e sd (by omega) (by omega), e (sd + 1) (by omega) (by omega), e (sd + 3) (by omega) (by omega), e (sd + 3 + 1) (by omega) (by omega), e (sd + 3 + 2) (by omega) (by omega), e (sd + 3 + 3) (by omega) (by omega), e5]
  exact h
theorem D0C_N (hq : sd = 3 ∨ sd = 11) (h : D0C X sd) (f : fsL LN Y X) : D0C Y sd := D0C_c hq h (fun q a c => (FX_N (sd := 20) f).1 q (by omega) (by omega)) (f 19 5 (by decide))
theorem D0M_M (h : D0M Y) (f : fsL LM Z Y) : D0M Z := by
  unfold D0M at *
  rw [fs_k f (k := 205) (by decide), fs_k f (k := 207) (by decide), fs_k f (k := 208) (by decide), fs_k f (k := 210) (by decide), f 177 42 (by decide), f 177 47 (by decide)]
  exact h
theorem D0M_u (h : D0M Y) {j : Nat} {v : Int32} : D0M (m_up Y 204 j v) := by
  unfold D0M at *
  rw [up_k _ _ _ (show (205 : Nat) ≠ 204 by decide), up_k _ _ _ (show (207 : Nat) ≠ 204 by decide), up_k _ _ _ (show (208 : Nat) ≠ 204 by decide), up_k _ _ _ (show (210 : Nat) ≠ 204 by decide), up_k _ _ _ (show (177 : Nat) ≠ 204 by decide)]
  exact h
theorem QP_4 (h : QP Y tb n e b) {j : Nat} {v : Int32} : QP (m_up Y 204 j v) tb n e b := QP_f h (L := [(204, none)]) (fs_up (LX := [(204, none)]) (by decide) (by simp [inL]) (fs_r Y)) (by decide) (by decide +kernel)
theorem MF_4 {k at' : Nat} (h : MFt Y k at') {j : Nat} {v : Int32} : MFt (m_up Y 204 j v) k at' := ⟨by rw [up_k _ _ _ (by decide)]; exact h.1, by rw [up_k _ _ _ (by decide)]; exact h.2⟩
theorem FS_4 (h : FS Z Y) {j : Nat} {v : Int32} (hj : j = 0 ∨ j = 1) : FS (m_up Z 204 j v) Y := ⟨by rcases hj with z | z <;> subst z <;> exact fs_up (LX := LSl) (by decide) (by decide) h.1, fun i hi => by rw [up_k _ _ _ (by decide)]; exact h.2 i hi⟩
theorem w0_p : n_pst w_0 = 0 := by decide +kernel
theorem I0 {C R : Nat} (hC : 1 ≤ C) (hC6 : C ≤ 6) (hR : 4 ≤ R) (hR3 : R ≤ 30) : DrI (p_0 C R) w_0 0 (fun _ => []) [] := by
  refine ⟨⟨⟨hC6, hR3, show (0 : Nat) ≤ 6 by decide, fun c => ⟨show (0 : Int32) ≤ 1 by decide, show (1 : Int32) ≤ 9 by decide⟩⟩, hC, hR, Or.inl rfl, Or.inl rfl⟩, ⟨⟨⟨show (0 : Int32) ≤ 0 by decide, show (0 : Int32) ≤ 2000 by decide⟩, fun f => Or.inl rfl, fun f => ⟨show (0 : Int32) ≤ 0 by decide, show (0 : Int32) ≤ 99 by decide⟩, fun c => ⟨show (0 : Int32) ≤ 0 by decide, show (0 : Int32) < 1073741824 by decide⟩, fun f c => Or.inr rfl, fun f c _ => rfl⟩, ⟨fun f _ => rfl, fun c _ => rfl, fun c => ?_, show (0 : Int32) ≤ 999 by decide, by rw [w0_p]; decide⟩, rfl, fun f => rfl, by rw [w0_p]; decide⟩, by decide, fun f hf => absurd hf (by show ¬ f < 0; omega), by simp⟩
  have h1 : 2 ^ R ≤ 2 ^ 30 := Nat.pow_le_pow_right (by decide) hR3
  have h2 : 0 < 2 ^ R := Nat.pow_pos (by decide)
  show nI 0 < nI (2 ^ R)
  exact nI_lt h2 (by omega)
/-- the rest of the reference, after a fault -/
theorem sT2 {k at' : Nat} (h : MFt Y k at') (kk : 1 ≤ k ∧ k < 100) (f : FS Y Z) : ∃ Y', ((F_MD_number Y 4 30).bind fun r4 => (F_MD_asksSign (m_up r4.2 204 1 r4.1) 59).bind fun r5 => some r5) = some Y' ∧ MFt Y' k at' ∧ FS Y' Z := by
  rw [num_b (mf_ne h kk.1 kk.2)]
  simp only [Option.bind_some]
  have h2 := MF_4 h (j := 1) (v := 0)
  rw [asign_b (mf_ne h2 kk.1 kk.2)]
  exact ⟨_, rfl, h2, FS_4 f (Or.inr rfl)⟩
theorem sT1 {k at' : Nat} (h : MFt Y k at') (kk : 1 ≤ k ∧ k < 100) (f : FS Y Z) (x : Int32) : ∃ Y', ((F_MD_asks 181 2 (m_up Y 204 0 x)).bind fun r3 => (F_MD_number r3 4 30).bind fun r4 => (F_MD_asksSign (m_up r4.2 204 1 r4.1) 59).bind fun r5 => some r5) = some Y' ∧ MFt Y' k at' ∧ FS Y' Z := by
  have h2 := MF_4 h (j := 0) (v := x)
  rw [asks_b (mf_ne h2 kk.1 kk.2)]
  simp only [Option.bind_some]
  exact sT2 h2 kk (FS_4 f (Or.inl rfl))
/-- the first line -/
theorem first_j (hq : sd = 3 ∨ sd = 11) (h : RS X tb n 0 false) (hd : D0C X sd) :
    (∃ e' C R X', F_Reader_slopeLine sd X = some (1, X') ∧ RS X' tb n e' false ∧ DrI (p_0 C R) w_0 0 (fun _ => []) [] ∧ DrC (m_up X' sd 0 1) sd (p_0 C R) w_0 0 (fun _ => []) [] 1 ∧ FC sd X' X ∧ ∀ Y J, QP Y tb n 0 false → D0M Y → ∃ Y', F_MD_slopeTold Y = some Y' ∧ QP Y' tb n e' false ∧ DrM (m_up Y' 177 48 1) J (p_0 C R) w_0 0 (fun _ => []) [] 1 ∧ FS Y' Y) ∨
    (∃ k at' X', F_Reader_slopeLine sd X = some (0, X') ∧ FTt X' k at' ∧ FC sd X' X ∧ (1 ≤ k ∧ k < 100) ∧ ∀ Y, QP Y tb n 0 false → D0M Y → ∃ Y', F_MD_slopeTold Y = some Y' ∧ MFt Y' k at' ∧ FS Y' Y) := by
  unfold F_Reader_slopeLine
  rcases needW_j (sd := sd) h (w := 180) (i := 0) (lw := 5) (by decide) rfl with ⟨g1, A, ea, a1, a2, a3⟩ | ⟨A, ea, a1, a2, a3⟩
  · have ea : F_Reader_needWord sd X 0 = some (1, A) := ea
    have dA := D0C_N hq hd a2
    have fA : FC sd A X := FC_N a2
    rw [ea]
    simp only [Option.bind_some]
    rw [if_neg (by decide)]
    rcases num_j (sd := sd) a1 (a := 1) (m := 6) (by decide) (by decide) with ⟨c1, c2, c3, B, eb, b1, b2, b3, b4⟩ | ⟨k, at', B, kk, eb, b1, b2, b3⟩
    · have eb : F_Reader_number sd A 1 6 = some (1, B) := eb
      have dB := D0C_N hq dA b3
      have fB : FC sd B X := FC_t (FC_N b3) fA
      rw [eb]
      simp only [Option.bind_some]
      rw [if_neg (by decide), b2]
      rcases needW_j (sd := sd) b1 (w := 181) (i := 1) (lw := 2) (by decide) rfl with ⟨g2, V, ev, v1, v2, v3⟩ | ⟨V, ev, v1, v2, v3⟩
      · have ev : F_Reader_needWord sd B 1 = some (1, V) := ev
        have dV := D0C_N hq dB v2
        have fV : FC sd V X := FC_t (FC_N v2) fB
        rw [ev]
        simp only [Option.bind_some]
        rw [if_neg (by decide)]
        rcases num_j (sd := sd) v1 (a := 4) (m := 30) (by decide) (by decide) with ⟨d1, d2, d3, T, et, t1, t2, t3, t4⟩ | ⟨k, at', T, kk, et, t1, t2, t3⟩
        · have et : F_Reader_number sd V 4 30 = some (1, T) := et
          have dT := D0C_N hq dV t3
          have fT : FC sd T X := FC_t (FC_N t3) fV
          rw [et]
          simp only [Option.bind_some]
          generalize hC : n_val tb n (tke tb n 0) = C at *
          generalize hR : n_val tb n (tke tb n (tke tb n (tke tb n 0))) = R at *
          have e10 : (m_up T sd 1 (nI C)) 19 10 = nI R := by rw [up_k _ _ _ (by omega)]; exact t2
          rw [if_neg (by decide), e10]
          have rM : RS (m_up (m_up T sd 1 (nI C)) sd 2 (nI R)) tb n _ true := RS_u (RS_u t1 (by omega)) (by omega)
          have kM : ∀ q, q ≠ sd → m_up (m_up T sd 1 (nI C)) sd 2 (nI R) q = T q := fun q hq => by rw [up_k _ _ _ hq, up_k _ _ _ hq]
          have kMj : ∀ j, j ≠ 1 → j ≠ 2 → m_up (m_up T sd 1 (nI C)) sd 2 (nI R) sd j = T sd j := fun j x y => by rw [up_j _ _ _ y, up_j _ _ _ x]
          have m1 : m_up (m_up T sd 1 (nI C)) sd 2 (nI R) sd 1 = nI C := by rw [up_j _ _ _ (by decide), up_e]
          have m2 : m_up (m_up T sd 1 (nI C)) sd 2 (nI R) sd 2 = nI R := up_e _ _ _ _
          have fM : FC sd (m_up (m_up T sd 1 (nI C)) sd 2 (nI R)) X := FC_up (by omega) (FC_up (by omega) fT)
          generalize m_up (m_up T sd 1 (nI C)) sd 2 (nI R) = M at *
          have mid : ∀ Y, QP Y tb n 0 false → D0M Y → ∃ U, QP U tb n (tke tb n (tke tb n (tke tb n (tke tb n 0)))) true ∧ D0M U ∧ U 204 0 = nI C ∧ U 204 1 = nI R ∧ FS U Y ∧ F_MD_slopeTold Y = (F_MD_asksSign U 59).bind fun r5 => some r5 := by
            intro Y hY hD
            obtain ⟨U1, u1, u2, u3⟩ := a3 Y hY
            obtain ⟨U2, x1, x2, -, x3⟩ := b4 U1 u2
            have x1 : F_MD_number U1 1 6 = some (nI C, U2) := x1
            obtain ⟨U3, y1, y2, y3⟩ := v3 _ (QP_4 x2 (j := 0) (v := nI C))
            obtain ⟨U4, z1, z2, -, z3⟩ := t4 U3 y2
            have z1 : F_MD_number U3 4 30 = some (nI R, U4) := z1
            refine ⟨m_up U4 204 1 (nI R), QP_4 z2, D0M_u (D0M_M (D0M_M (D0M_u (D0M_M (D0M_M hD u3) x3)) y3) z3), ?_, up_e _ _ _ _, FS_4 (FS_t (FS_M z3) (FS_t (FS_M y3) (FS_4 (FS_t (FS_M x3) (FS_M u3)) (Or.inl rfl)))) (Or.inr rfl), ?_⟩
            · rw [up_j _ _ _ (by decide), fs_k z3 (k := 204) (by decide), fs_k y3 (k := 204) (by decide), up_e]
            · unfold F_MD_slopeTold
              rw [u1]
              simp only [Option.bind_some]
              rw [x1]
              simp only [Option.bind_some]
              rw [y1]
              simp only [Option.bind_some]
              rw [z1]; rfl
          rcases need_j (sd := sd) rM sg59 with ⟨g3, g4, S, es, s1, s2, s3⟩ | ⟨S, es, s1, s2, s3⟩
          · have es : F_Reader_need sd M 59 = some (1, S) := es
            rw [es]
            simp only [Option.bind_some]
            rw [gq_e (Or.inr trivial)]
            have kS : ∀ q, q ≠ 19 → S q = M q := fun q hq' => (FX_N (sd := q) s2).1 q hq' (by omega)
            have s5 : S 19 5 = 0 := by rw [s2 19 5 (by decide), kM 19 (by omega)]; exact dT.2.2.2
            left
            refine ⟨_, C, R, S, rfl, s1, I0 c1 c2 d1 d2, ⟨⟨⟨?_, ?_, ?_, fun c hc => ?_⟩, ?_⟩, ⟨up_e _ _ _ _, ?_⟩, fun f hf => absurd hf (by show ¬ f < 0; omega), ⟨?_, ?_⟩, ?_, fun i hi => absurd hi (by simp)⟩, FC_t (FC_N s2) fM, fun Y J hY hD => ?_⟩
            · rw [up_j _ _ _ (by decide), kS sd (by omega)]; exact m1
            · rw [up_j _ _ _ (by decide), kS sd (by omega)]; exact m2
            · rw [up_j _ _ _ (by decide), kS sd (by omega), kMj 3 (by decide) (by decide)]; exact dT.1.1
            · rw [up_k _ _ _ (by omega), kS (sd + 1) (by omega), kM (sd + 1) (by omega)]; exact dT.2.1 c hc
            · have := dT.2.2.1
              unfold WC at this ⊢
              rw [up_k _ _ _ (show sd + 3 ≠ sd by omega), up_k _ _ _ (show sd + 3 + 1 ≠ sd by omega), up_k _ _ _ (show sd + 3 + 2 ≠ sd by omega), up_k _ _ _ (show sd + 3 + 3 ≠ sd by omega), kS (sd + 3) (by omega), kS (sd + 3 + 1) (by omega), kS (sd + 3 + 2) (by omega), kS (sd + 3 + 3) (by omega), kM (sd + 3) (by omega), kM (sd + 3 + 1) (by omega), kM (sd + 3 + 2) (by omega), kM (sd + 3 + 3) (by omega)]; exact this
            · rw [up_j _ _ _ (by decide), kS sd (by omega), kMj 4 (by decide) (by decide)]; exact dT.1.2.1
            · show m_up S sd 0 1 sd 10 ≤ m_up S sd 0 1 sd 9
              rw [up_j _ _ _ (by decide), up_j _ _ _ (by decide), kS sd (by omega), kMj 10 (by decide) (by decide), kMj 9 (by decide) (by decide), dT.1.2.2.1, dT.1.2.2.2.1]; decide
            · show m_up S sd 0 1 sd 12 ≤ m_up S sd 0 1 sd 11
              rw [up_j _ _ _ (by decide), up_j _ _ _ (by decide), kS sd (by omega), kMj 12 (by decide) (by decide), kMj 11 (by decide) (by decide), dT.1.2.2.2.2.1, dT.1.2.2.2.2.2]; decide
            · rw [up_k _ _ _ (by omega)]; exact s5
            · obtain ⟨U, u1, u2, u3, u4, u5, u6⟩ := mid Y hY hD
              obtain ⟨U2, x1, x2, x3⟩ := s3 U u1
              have x1 : F_MD_asksSign U 59 = some U2 := x1
              rw [x1] at u6
              have dU := D0M_M u2 x3
              refine ⟨U2, u6, x2, ?_, FS_t (FS_M x3) u5⟩
              refine ⟨⟨?_, ?_, ?_, ?_⟩, ⟨fun c hc => ?_, fun c hc => ?_, fun f hf => absurd hf (by show ¬ f < 0; omega), fun f c hf => absurd hf (by show ¬ f < 0; omega)⟩, ⟨?_, up_e _ _ _ _⟩, fun f hf => absurd hf (by show ¬ f < 0; omega), ⟨?_, ?_⟩, ?_, fun i hi => absurd hi (by simp)⟩
              · rw [up_k _ _ _ (by decide), fs_k x3 (k := 204) (by decide)]; exact u3
              · rw [up_k _ _ _ (by decide), fs_k x3 (k := 204) (by decide)]; exact u4
              · rw [up_k _ _ _ (by decide)]; exact dU.1.1
              · rw [up_k _ _ _ (by decide), w0_p]; exact dU.1.2
              · rw [up_k _ _ _ (by decide)]; exact dU.2.1.1 c hc
              · rw [up_k _ _ _ (by decide)]; exact dU.2.1.2 c hc
              · rw [up_j _ _ _ (by decide)]; exact dU.2.2.2.1
              · show m_up U2 177 48 1 210 0 = -1
                rw [up_k _ _ _ (by decide)]; exact dU.2.2.1.1
              · show m_up U2 177 48 1 210 1 = -1
                rw [up_k _ _ _ (by decide)]; exact dU.2.2.1.2
              · rw [up_j _ _ _ (by decide)]; exact dU.2.2.2.2
          · have es : F_Reader_need sd M 59 = some (0, S) := es
            rw [es]
            simp only [Option.bind_some]
            rw [gq_e (Or.inl trivial)]
            right
            refine ⟨1, _, S, rfl, s1, FC_t (FC_N s2) fM, ⟨by decide, by decide⟩, fun Y hY hD => ?_⟩
            obtain ⟨U, u1, u2, u3, u4, u5, u6⟩ := mid Y hY hD
            obtain ⟨U2, x1, x2, x3⟩ := s3 U u1
            have x1 : F_MD_asksSign U 59 = some U2 := x1
            rw [x1] at u6
            exact ⟨U2, u6, x2, FS_t (FS_M x3) u5⟩
        · have et : F_Reader_number sd V 4 30 = some (0, T) := et
          rw [et]
          simp only [Option.bind_some]
          rw [if_pos trivial]
          right
          refine ⟨k, at', T, rfl, t1, FC_t (FC_N t2) fV, kk, fun Y hY hD => ?_⟩
          obtain ⟨U1, u1, u2, u3⟩ := a3 Y hY
          obtain ⟨U2, x1, x2, -, x3⟩ := b4 U1 u2
          have x1 : F_MD_number U1 1 6 = some (_, U2) := x1
          obtain ⟨U3, y1, y2, y3⟩ := v3 _ (QP_4 x2 (j := 0) (v := nI (n_val tb n (tke tb n 0))))
          obtain ⟨x, U4, z1, z2, z3⟩ := t3 U3 y2
          have z1 : F_MD_number U3 4 30 = some (x, U4) := z1
          have bt := MF_4 z2 (j := 1) (v := x)
          refine ⟨m_up U4 204 1 x, ?_, bt, FS_4 (FS_t (FS_M z3) (FS_t (FS_M y3) (FS_4 (FS_t (FS_M x3) (FS_M u3)) (Or.inl rfl)))) (Or.inr rfl)⟩
          unfold F_MD_slopeTold
          rw [u1]
          simp only [Option.bind_some]
          rw [x1]
          simp only [Option.bind_some]
          rw [y1]
          simp only [Option.bind_some]
          rw [z1]
          simp only [Option.bind_some]
          rw [asign_b (mf_ne bt kk.1 kk.2)]; rfl
      · have ev : F_Reader_needWord sd B 1 = some (0, V) := ev
        rw [ev]
        simp only [Option.bind_some]
        rw [if_pos trivial]
        right
        refine ⟨1, _, V, rfl, v1, FC_t (FC_N v2) fB, ⟨by decide, by decide⟩, fun Y hY hD => ?_⟩
        obtain ⟨U1, u1, u2, u3⟩ := a3 Y hY
        obtain ⟨U2, x1, x2, -, x3⟩ := b4 U1 u2
        have x1 : F_MD_number U1 1 6 = some (_, U2) := x1
        obtain ⟨U3, y1, y2, y3⟩ := v3 _ (QP_4 x2 (j := 0) (v := nI (n_val tb n (tke tb n 0))))
        obtain ⟨Y', z1, z2, z3⟩ := sT2 y2 ⟨by decide, by decide⟩ (FS_t (FS_M y3) (FS_4 (FS_t (FS_M x3) (FS_M u3)) (Or.inl rfl)))
        refine ⟨Y', ?_, z2, z3⟩
        unfold F_MD_slopeTold
        rw [u1]
        simp only [Option.bind_some]
        rw [x1]
        simp only [Option.bind_some]
        rw [y1]
        exact z1
    · have eb : F_Reader_number sd A 1 6 = some (0, B) := eb
      rw [eb]
      simp only [Option.bind_some]
      rw [if_pos trivial]
      right
      refine ⟨k, at', B, rfl, b1, FC_t (FC_N b2) fA, kk, fun Y hY hD => ?_⟩
      obtain ⟨U1, u1, u2, u3⟩ := a3 Y hY
      obtain ⟨x, U2, x1, x2, x3⟩ := b3 U1 u2
      have x1 : F_MD_number U1 1 6 = some (x, U2) := x1
      obtain ⟨Y', z1, z2, z3⟩ := sT1 x2 kk (FS_t (FS_M x3) (FS_M u3)) x
      refine ⟨Y', ?_, z2, z3⟩
      unfold F_MD_slopeTold
      rw [u1]
      simp only [Option.bind_some]
      rw [x1]
      exact z1
  · have ea : F_Reader_needWord sd X 0 = some (0, A) := ea
    rw [ea]
    simp only [Option.bind_some]
    rw [if_pos trivial]
    right
    refine ⟨1, _, A, rfl, a1, FC_N a2, ⟨by decide, by decide⟩, fun Y hY hD => ?_⟩
    obtain ⟨U1, u1, u2, u3⟩ := a3 Y hY
    obtain ⟨Y', z1, z2, z3⟩ := sT1 u2 ⟨by decide, by decide⟩ (FS_M u3) 0
    refine ⟨Y', ?_, z2, z3⟩
    unfold F_MD_slopeTold
    rw [u1]
    simp only [Option.bind_some]
    rw [num_b (mf_ne u2 (by decide) (by decide))]
    exact z1
end LE2
