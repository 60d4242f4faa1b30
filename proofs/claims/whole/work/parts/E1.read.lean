/-! a slope is read -/
section LE1
variable {I X Y Z V A : MI} {J : MJ} {sd n e td cn : Nat} {b : Bool} {tb : Nat → Nat} {p : CF} {w : WD} {nm : Nat → List Nat} {L : List Nat}
noncomputable def KL (sd : Nat) (cn : Int32) (X : MI) : Option (Int32 × MI) := (wl (fun s : Int32 × MI => F_Reader_readSlope_25 sd s.2 s.1) (cn, X)).bind <| sel (fun q => some q) fun t4 => F_Reader_readSlope_205 sd t4
/-- both sides behind all statements -/
def JR (F : Option (Int32 × MI)) (G : MI → MJ → Option (MI × MJ)) (X : MI) (sd : Nat) (Q : MI → MJ → Prop) : Prop :=
  (∃ p' w' td' nm' L' cn' X', F = some (1, X') ∧ (1 ≤ cn' ∧ cn' ≤ 80) ∧ DrC X' sd p' w' td' nm' L' cn' ∧ DrI p' w' td' nm' L' ∧ FC sd X' X ∧ (X' 19 1 = 0 ∧ X' 19 2 = -1) ∧ ∀ Y J, Q Y J → ∃ Y' J', G Y J = some (Y', J') ∧ (Y' 177 5 = 0 ∧ Y' 177 6 = -1) ∧ DrM Y' J' p' w' td' nm' L' cn' ∧ FS Y' Y ∧ FJ J' J) ∨
  (∃ k at' X', F = some (0, X') ∧ FTt X' k at' ∧ FC sd X' X ∧ (1 ≤ k ∧ k < 100) ∧ ∀ Y J, Q Y J → ∃ Y' J', G Y J = some (Y', J') ∧ MFt Y' k at' ∧ FS Y' Y ∧ FJ J' J)
theorem ch_end (hb : ∀ j, j < n → tb j < 256) (he : e ≤ n) : ch tb n e = -1 ↔ kd tb n e b = 258 := by
  unfold ch
  rcases kd_end (tb := tb) b he with q | ⟨q, q2⟩
  · rw [if_pos q]
    constructor
    · intro z
      have := nI_pos' (n := tb (sk tb n e)) (by have := hb _ q; omega)
      rw [z] at this; exact absurd this (by decide)
    · intro z
      exfalso
      have c := hb _ q
      rcases Bool.eq_false_or_eq_true (cL (tb (sk tb n e))) with q1 | q1
      · rw [kd_let q q1] at z; split at z <;> omega
      · rcases Bool.eq_false_or_eq_true (cD (tb (sk tb n e))) with q2 | q2
        · rw [kd_dig q q2] at z; split at z <;> omega
        · rw [kd_oth q q1 q2] at z; omega
  · rw [if_neg (by omega)]
    exact ⟨fun _ => q2, fun _ => rfl⟩
theorem loop_j (hq : sd = 3 ∨ sd = 11) : ∀ d e, n - e ≤ d → ∀ X b p w td nm L cn, RS X tb n e b → DrC X sd p w td nm L cn → DrI p w td nm L → L.length ≤ e → 1 ≤ cn → cn ≤ 80 → JR (KL sd (nI cn) X) (fun Y J => wl (fun s : MI × MJ => F_MD_slope_108 s.1 s.2) (Y, J)) X sd (fun Y J => QP Y tb n e b ∧ DrM Y J p w td nm L cn) := by
  have badL : ∀ {Y : MI} {J : MJ}, ¬ Y 177 5 = 0 → wl (fun s : MI × MJ => F_MD_slope_108 s.1 s.2) (Y, J) = some (Y, J) := fun {Y J} h => wl_in (by
    show F_MD_slope_108 Y J = _
    unfold F_MD_slope_108
    rw [if_neg h])
  intro d
  induction d with
  | zero =>
    intro e hd X b p w td nm L cn h dX iX hl c1 c80
    have hb : ∀ j, j < n → tb j < 256 := fun j hj => (h.1.2.2.1 j hj).1
    have he := h.2.2
    have kE : kd tb n e b = 258 := by
      rcases kd_end (tb := tb) b he with z | z
      · have := sk_ge (tb := tb) (n := n) e; omega
      · exact z.2
    have e6 : X 19 6 = 258 := (kd_is h (by decide) (show (258 : Int32) = nI 258 from rfl)).mpr kE
    have st : F_Reader_readSlope_25 sd X (nI cn) = some (.inr (.inl X)) := by
      unfold F_Reader_readSlope_25
      by_cases z : (80 : Int32) ≤ nI cn
      · rw [if_pos z]
      · rw [if_neg z, if_pos e6]
    left
    refine ⟨p, w, td, nm, L, cn, X, ?_, ⟨c1, c80⟩, dX, iX, FC_r sd X, h.1.2.2.2.2, fun Y J hY => ?_⟩
    · unfold KL
      have : wl (fun s : Int32 × MI => F_Reader_readSlope_25 sd s.2 s.1) (nI cn, X) = some (.inl X) := wl_in st
      rw [this]
      show F_Reader_readSlope_205 sd X = _
      unfold F_Reader_readSlope_205
      rw [if_pos e6]
    · obtain ⟨k1, k2, k3⟩ := LK_s hY.1
      refine ⟨LK' Y tb n e, J, wl_in ?_, ⟨k1.1.1, k1.2.2.2.2.2.2⟩, DrM_M hY.2 k3, FS_M k3, FJ_r J⟩
      show F_MD_slope_108 Y J = _
      unfold F_MD_slope_108
      rw [if_pos hY.1.1.1, look_m hY.1]
      simp only [Option.bind_some]
      rw [if_pos ((ch_end (b := b) hb he).mpr kE)]
  | succ d ih =>
    intro e hd X b p w td nm L cn h dX iX hl c1 c80
    have hb : ∀ j, j < n → tb j < 256 := fun j hj => (h.1.2.2.1 j hj).1
    have he := h.2.2
    by_cases kE : kd tb n e b = 258
    · have e6 : X 19 6 = 258 := (kd_is h (by decide) (show (258 : Int32) = nI 258 from rfl)).mpr kE
      have st : F_Reader_readSlope_25 sd X (nI cn) = some (.inr (.inl X)) := by
        unfold F_Reader_readSlope_25
        by_cases z : (80 : Int32) ≤ nI cn
        · rw [if_pos z]
        · rw [if_neg z, if_pos e6]
      left
      refine ⟨p, w, td, nm, L, cn, X, ?_, ⟨c1, c80⟩, dX, iX, FC_r sd X, h.1.2.2.2.2, fun Y J hY => ?_⟩
      · unfold KL
        have : wl (fun s : Int32 × MI => F_Reader_readSlope_25 sd s.2 s.1) (nI cn, X) = some (.inl X) := wl_in st
        rw [this]
        show F_Reader_readSlope_205 sd X = _
        unfold F_Reader_readSlope_205
        rw [if_pos e6]
      · obtain ⟨k1, k2, k3⟩ := LK_s hY.1
        refine ⟨LK' Y tb n e, J, wl_in ?_, ⟨k1.1.1, k1.2.2.2.2.2.2⟩, DrM_M hY.2 k3, FS_M k3, FJ_r J⟩
        show F_MD_slope_108 Y J = _
        unfold F_MD_slope_108
        rw [if_pos hY.1.1.1, look_m hY.1]
        simp only [Option.bind_some]
        rw [if_pos ((ch_end (b := b) hb he).mpr kE)]
    · have n6 : ¬ X 19 6 = 258 := fun z => kE ((kd_is h (by decide) (show (258 : Int32) = nI 258 from rfl)).mp z)
      have rst : ∀ {Y : MI} {J Jx : MJ} {Yx : MI}, QP Y tb n e b → F_MD_statementTold (LK' Y tb n e) J = some (Yx, Jx) → wl (fun s : MI × MJ => F_MD_slope_108 s.1 s.2) (Y, J) = wl (fun s : MI × MJ => F_MD_slope_108 s.1 s.2) (Yx, Jx) := fun {Y J Jx Yx} hY hs => wl_st (by
        show F_MD_slope_108 Y J = _
        unfold F_MD_slope_108
        rw [if_pos hY.1.1, look_m hY]
        simp only [Option.bind_some]
        rw [if_neg (fun z => kE ((ch_end (b := b) hb he).mp z)), hs]; rfl)
      by_cases c : cn < 80
      · rcases stm_j hq h dX iX hl c kE with ⟨e1, b1, p', w', td', nm', L', X1, s1, s2, s3, s4, s5, s6, s7, s8⟩ | ⟨k, at', X1, s1, s2, s3, s4, s5⟩
        · have e2 : KL sd (nI cn) X = KL sd (nI (cn + 1)) X1 := by
            unfold KL
            have : wl (fun s : Int32 × MI => F_Reader_readSlope_25 sd s.2 s.1) (nI cn, X) = wl (fun s : Int32 × MI => F_Reader_readSlope_25 sd s.2 s.1) (nI (cn + 1), X1) := wl_st s1
            rw [this]
          rw [e2]
          rcases ih e1 (by omega) X1 b1 p' w' td' nm' L' (cn + 1) s2 s4 s5 s3 (by omega) (by omega) with ⟨p2, w2, td2, nm2, L2, cn2, X2, t1, t2, t3, t4, t5, t6, t7⟩ | ⟨k, at', X2, t1, t2, t3, t4, t5⟩
          · left
            refine ⟨p2, w2, td2, nm2, L2, cn2, X2, t1, t2, t3, t4, FC_t t5 s6, t6, fun Y J hY => ?_⟩
            obtain ⟨Y1, J1, y1, y2, y3, y4, y5⟩ := s8 Y J hY.1 hY.2
            obtain ⟨Y2, J2, z1, z2, z3, z4, z5⟩ := t7 Y1 J1 ⟨y2, y3⟩
            exact ⟨Y2, J2, (rst hY.1 y1).trans z1, z2, z3, FS_t z4 y4, FJ_t z5 y5⟩
          · right
            refine ⟨k, at', X2, t1, t2, FC_t t3 s6, t4, fun Y J hY => ?_⟩
            obtain ⟨Y1, J1, y1, y2, y3, y4, y5⟩ := s8 Y J hY.1 hY.2
            obtain ⟨Y2, J2, z1, z2, z4, z5⟩ := t5 Y1 J1 ⟨y2, y3⟩
            exact ⟨Y2, J2, (rst hY.1 y1).trans z1, z2, FS_t z4 y4, FJ_t z5 y5⟩
        · right
          refine ⟨k, at', X1, ?_, s2, s3, s4, fun Y J hY => ?_⟩
          · unfold KL
            have : wl (fun s : Int32 × MI => F_Reader_readSlope_25 sd s.2 s.1) (nI cn, X) = some (.inr (0, X1)) := wl_in s1
            rw [this]; rfl
          · obtain ⟨Y1, J1, y1, y2, y4, y5⟩ := s5 Y J hY.1 hY.2
            exact ⟨Y1, J1, (rst hY.1 y1).trans (badL (mf_ne y2 s4.1 s4.2)), y2, y4, y5⟩
      · have e80 : cn = 80 := by omega
        have st : F_Reader_readSlope_25 sd X (nI cn) = some (.inr (.inl X)) := by
          unfold F_Reader_readSlope_25
          rw [if_pos (show (80 : Int32) ≤ nI cn from nI_le (a := 80) (by omega) (by omega))]
        right
        refine ⟨5, sk tb n e, wrm X 5 (sk tb n e), ?_, wrm_t X 5 _, FC_N (wrm_f 5 _ (by decide)), ⟨by decide, by decide⟩, fun Y J hY => ?_⟩
        · unfold KL
          have : wl (fun s : Int32 × MI => F_Reader_readSlope_25 sd s.2 s.1) (nI cn, X) = some (.inl X) := wl_in st
          rw [this]
          show F_Reader_readSlope_205 sd X = _
          unfold F_Reader_readSlope_205
          rw [if_neg n6, h.2.1.2.1, show (5 : Int32) = nI 5 from rfl, wrong_e]; rfl
        · obtain ⟨k1, k2, k3⟩ := LK_s hY.1
          have ff : F_MD_fail (LK' Y tb n e) 5 (nI (sk tb n e)) = _ := fail_m k1.1.1 5 _
          have bt := fail_t (LK' Y tb n e) 5 (sk tb n e)
          have dL := DrM_M hY.2 k3
          have hs : F_MD_statementTold (LK' Y tb n e) J = some (m_up (m_up (LK' Y tb n e) 177 5 (nI 5)) 177 6 (nI (sk tb n e)), J) := by
            unfold F_MD_statementTold
            rw [dL.2.2.1.2, if_pos (by rw [e80]; rfl), k2, ff]; rfl
          exact ⟨_, J, (rst hY.1 hs).trans (badL (mf_ne bt (by decide) (by decide))), bt, FS_M (fs_tr (fail_f _ 5 _) k3), FJ_r J⟩
end LE1
