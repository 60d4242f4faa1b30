/-! a slope is read, whole -/
section LE3
variable {I X Y Z V A : MI} {J : MJ} {sd n e td cn : Nat} {b : Bool} {tb : Nat → Nat}
theorem fl_k (I : MI) {a k : Nat} (v : Int32) (m : Nat) (h : k ≠ a) : m_fil I a v m k = I k := by
  funext j
  unfold m_fil
  rw [if_neg h]
theorem fl_e (I : MI) (a : Nat) (v : Int32) {m j : Nat} (h : j < m) : m_fil I a v m a j = v := by
  unfold m_fil
  rw [if_pos rfl, if_pos h]
/-- the class's new draft -/
def clr (B : MI) (sd : Nat) : MI := m_fil (m_fil (uI_Slope_clear_1 B sd) (sd + 1) (1 : Int32) 6) (sd + 2) (0 : Int32) 36
theorem clr_k {B : MI} {q : Nat} (h : q < sd ∨ sd + 6 < q) : clr B sd q = B q := by
  unfold clr uI_Slope_clear_1 uI_Slope_clear_0
  rw [fl_k _ _ _ (by omega), fl_k _ _ _ (by omega), fl_k _ _ _ (by omega), fl_k _ _ _ (by omega), fl_k _ _ _ (by omega), up_k _ _ _ (by omega), up_k _ _ _ (by omega), up_k _ _ _ (by omega), up_k _ _ _ (by omega), up_k _ _ _ (by omega), up_k _ _ _ (by omega), up_k _ _ _ (by omega), up_k _ _ _ (by omega), up_k _ _ _ (by omega), up_k _ _ _ (by omega), up_k _ _ _ (by omega)]
theorem clr_0 {B : MI} (h5 : B 19 5 = 0) (hq : sd = 3 ∨ sd = 11) : D0C (clr B sd) sd := by
  have k0 : clr B sd sd = (m_up (m_up (m_up (m_up (m_up (m_up (m_up (m_up (m_up B sd 0 0) sd 1 0) sd 2 0) sd 3 0) sd 4 0) sd 9 0) sd 10 0) sd 11 0) sd 12 0) sd := by
    unfold clr uI_Slope_clear_1 uI_Slope_clear_0
    rw [fl_k _ _ _ (by omega), fl_k _ _ _ (by omega), fl_k _ _ _ (by omega), fl_k _ _ _ (by omega), fl_k _ _ _ (by omega), up_k _ _ _ (by omega), up_k _ _ _ (by omega)]
  refine ⟨⟨?_, ?_, ?_, ?_, ?_, ?_⟩, fun c hc => ?_, ⟨?_, ?_, fun f hf => ?_, fun c hc => ?_, fun f c hf hc => ?_⟩, ?_⟩
  · rw [k0, up_j _ _ _ (by decide), up_j _ _ _ (by decide), up_j _ _ _ (by decide), up_j _ _ _ (by decide), up_j _ _ _ (by decide), up_e]
  · rw [k0, up_j _ _ _ (by decide), up_j _ _ _ (by decide), up_j _ _ _ (by decide), up_j _ _ _ (by decide), up_e]
  · rw [k0, up_j _ _ _ (by decide), up_j _ _ _ (by decide), up_j _ _ _ (by decide), up_e]
  · rw [k0, up_j _ _ _ (by decide), up_j _ _ _ (by decide), up_e]
  · rw [k0, up_j _ _ _ (by decide), up_e]
  · rw [k0, up_e]
  · unfold clr
    rw [fl_k _ _ _ (by omega), fl_e _ _ _ hc]
  · unfold clr uI_Slope_clear_1
    rw [fl_k _ _ _ (by omega), fl_k _ _ _ (by omega), fl_k _ _ _ (by omega), fl_k _ _ _ (by omega), fl_k _ _ _ (by omega), up_j _ _ _ (by decide), up_e]; rfl
  · unfold clr uI_Slope_clear_1
    rw [fl_k _ _ _ (by omega), fl_k _ _ _ (by omega), fl_k _ _ _ (by omega), fl_k _ _ _ (by omega), fl_k _ _ _ (by omega), up_e]; rfl
  · unfold clr uI_Slope_clear_1
    rw [fl_k _ _ _ (by omega), fl_k _ _ _ (by omega), fl_k _ _ _ (by omega), fl_k _ _ _ (by omega), fl_e _ _ _ hf]; rfl
  · unfold clr uI_Slope_clear_1
    rw [fl_k _ _ _ (by omega), fl_k _ _ _ (by omega), fl_k _ _ _ (by omega), fl_e _ _ _ hc]; rfl
  · unfold clr uI_Slope_clear_1
    rw [fl_k _ _ _ (by omega), fl_k _ _ _ (by omega), fl_e _ _ _ (by omega)]; rfl
  · rw [clr_k (by omega)]; exact h5
theorem read_j (hq : sd = 3 ∨ sd = 11) (h1 : I 1 1 = nI n) (n16 : n ≤ 1600) (hb : ∀ j, j < n → tb j < 256 ∧ I 2 j &&& 255 = nI (tb j)) (hg : gByte I) : JR (F_Reader_readSlope sd I) (fun Y J => (F_MD_slopeTold Y).bind fun r3 => wl (fun s : MI × MJ => F_MD_slope_108 s.1 s.2) (m_up r3 177 48 1, J)) I sd (fun Y J => QP Y tb n 0 false ∧ D0M Y) := by
  have badL : ∀ {Y : MI} {J : MJ}, ¬ Y 177 5 = 0 → wl (fun s : MI × MJ => F_MD_slope_108 s.1 s.2) (Y, J) = some (Y, J) := fun {Y J} h => wl_in (by
    show F_MD_slope_108 Y J = _
    unfold F_MD_slope_108
    rw [if_neg h])
  have kx : ∀ q, q ≠ 19 → (m_up (m_up (m_up (m_up (m_up I 19 5 0) 19 1 0) 19 2 (-1)) 19 8 0) 19 6 258) q = I q := fun q hq => by rw [up_k _ _ _ hq, up_k _ _ _ hq, up_k _ _ _ hq, up_k _ _ _ hq, up_k _ _ _ hq]
  have c0 : CTp (m_up (m_up (m_up (m_up (m_up I 19 5 0) 19 1 0) 19 2 (-1)) 19 8 0) 19 6 258) tb n := by
    refine ⟨?_, n16, fun j hj => ?_, fun j => ?_, ?_, ?_⟩
    · rw [kx 1 (by decide)]; exact h1
    · rw [kx 2 (by decide)]; exact hb j hj
    · rw [kx 2 (by decide)]; exact hg j
    · rw [up_j _ _ _ (by decide), up_j _ _ _ (by decide), up_j _ _ _ (by decide), up_e]
    · rw [up_j _ _ _ (by decide), up_j _ _ _ (by decide), up_e]
  have x8 : (m_up (m_up (m_up (m_up (m_up I 19 5 0) 19 1 0) 19 2 (-1)) 19 8 0) 19 6 258) 19 8 = nI 0 := by rw [up_j _ _ _ (by decide), up_e]; rfl
  have x6 : (m_up (m_up (m_up (m_up (m_up I 19 5 0) 19 1 0) 19 2 (-1)) 19 8 0) 19 6 258) 19 6 = 258 := up_e _ _ _ _
  have x5 : (m_up (m_up (m_up (m_up (m_up I 19 5 0) 19 1 0) 19 2 (-1)) 19 8 0) 19 6 258) 19 5 = 0 := by rw [up_j _ _ _ (by decide), up_j _ _ _ (by decide), up_j _ _ _ (by decide), up_j _ _ _ (by decide), up_e]
  obtain ⟨B, eb, b1, b2⟩ := adv_c (sd := sd) (b := false) c0 (Nat.zero_le n) x8 (by rw [x6]; exact ⟨fun z => by rcases z with z | z <;> exact absurd z (by decide), fun z => by cases z⟩)
  have eB : F_Reader_begin sd I = some B := by
    unfold F_Reader_begin
    simp only [bnd]
    rw [eb]; rfl
  have kB : ∀ q, q ≠ 19 → B q = I q := fun q hq' => ((FX_R (sd := q) b2).1 q hq' (by omega)).trans (kx q hq')
  have B5 : B 19 5 = 0 := (b2 19 5 (by decide)).trans x5
  have rC : RS (clr B sd) tb n 0 false := RS_c b1 (clr_k (by omega)) (clr_k (by omega)) (clr_k (by omega))
  have fC : FC sd (clr B sd) I := fun q a c => by rw [clr_k (by omega)]; exact kB q a
  unfold F_Reader_readSlope
  rw [eB]
  simp only [Option.bind_some]
  show JR ((F_Reader_slopeLine sd (clr B sd)).bind _) _ _ _ _
  rcases first_j hq rC (clr_0 B5 hq) with ⟨e1, C, R, X1, s1, s2, s3, s4, s5, s6⟩ | ⟨k, at', X1, s1, s2, s3, s4, s5⟩
  · rw [s1]
    simp only [Option.bind_some]
    rw [if_neg (by decide)]
    have fX : FC sd (m_up X1 sd 0 1) I := FC_up (by omega) (FC_t s5 fC)
    rcases loop_j hq (n - e1) e1 (Nat.le_refl _) (m_up X1 sd 0 1) false (p_0 C R) w_0 0 (fun _ => []) [] 1 (RS_u s2 (by omega)) s4 s3 (by simp) (by decide) (by decide) with ⟨p2, w2, td2, nm2, L2, cn2, X2, t1, t2, t3, t4, t5, t6, t7⟩ | ⟨k, at', X2, t1, t2, t3, t4, t5⟩
    · left
      refine ⟨p2, w2, td2, nm2, L2, cn2, X2, t1, t2, t3, t4, FC_t t5 fX, t6, fun Y J hY => ?_⟩
      obtain ⟨Y1, y1, y2, y3, y4⟩ := s6 Y J hY.1 hY.2
      have q1 : QP (m_up Y1 177 48 1) tb n e1 false := QP_f y2 (L := [(177, some 48)]) (fs_up (LX := [(177, some 48)]) (by decide) (by decide) (fs_r Y1)) (by decide) (by decide +kernel)
      obtain ⟨Y2, J2, z1, z2, z3, z4, z5⟩ := t7 _ J ⟨q1, y3⟩
      refine ⟨Y2, J2, ?_, z2, z3, FS_t z4 (FS_48 y4), z5⟩
      show (F_MD_slopeTold Y).bind _ = _
      rw [y1]; exact z1
    · right
      refine ⟨k, at', X2, t1, t2, FC_t t3 fX, t4, fun Y J hY => ?_⟩
      obtain ⟨Y1, y1, y2, y3, y4⟩ := s6 Y J hY.1 hY.2
      have q1 : QP (m_up Y1 177 48 1) tb n e1 false := QP_f y2 (L := [(177, some 48)]) (fs_up (LX := [(177, some 48)]) (by decide) (by decide) (fs_r Y1)) (by decide) (by decide +kernel)
      obtain ⟨Y2, J2, z1, z2, z4, z5⟩ := t5 _ J ⟨q1, y3⟩
      refine ⟨Y2, J2, ?_, z2, FS_t z4 (FS_48 y4), z5⟩
      show (F_MD_slopeTold Y).bind _ = _
      rw [y1]; exact z1
  · rw [s1]
    simp only [Option.bind_some]
    rw [if_pos trivial]
    right
    refine ⟨k, at', X1, rfl, s2, FC_t s3 fC, s4, fun Y J hY => ?_⟩
    obtain ⟨Y1, y1, y2, y3⟩ := s5 Y hY.1 hY.2
    have b3 : MFt (m_up Y1 177 48 1) k at' := ⟨by rw [up_j _ _ _ (by decide)]; exact y2.1, by rw [up_j _ _ _ (by decide)]; exact y2.2⟩
    refine ⟨m_up Y1 177 48 1, J, ?_, b3, FS_48 y3, FJ_r J⟩
    show (F_MD_slopeTold Y).bind _ = _
    rw [y1]; exact badL (mf_ne b3 s4.1 s4.2)
end LE3
