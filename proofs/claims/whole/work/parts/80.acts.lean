/-! acts: the reference keeps too; what an act leaves -/
section L80
variable {I X Z B : MI} {J JX J2 : MJ} {k o sl sd : Nat} {p : CF} {w w' : WD} {kl kl' : List NT} {un un' : List (WD × List NT)}
abbrev LK : List (Nat × Option Nat) := [(177, some 66), (177, some 67), (221, none)]
theorem WMg_c (ho : CO p) {g g' : Nat → Int32} (h : WMg g p w) (e : ∀ j, j < 55 → g' j = g j) : WMg g' p w := by
  have hF := ho.2.2.1; have hC := ho.1
  obtain ⟨a1, a2, a3, a4, a5⟩ := h
  refine ⟨?_, fun f hf => ?_, fun f hf => ?_, fun c hc => ?_, fun f c hf hc => ?_⟩
  · rw [e 0 (by omega)]; exact a1
  · rw [e _ (by omega)]; exact a2 f hf
  · rw [e _ (by omega)]; exact a3 f hf
  · rw [e _ (by omega)]; exact a4 c hc
  · rw [e _ (by omega)]; exact a5 f c hf hc
theorem KMg_c {g g' : Nat → Int32} (h : KMg g kl) (e : ∀ j, j < 176 → g' j = g j) : KMg g' kl := by
  obtain ⟨h1, h2, h3⟩ := h
  exact ⟨by rw [e 55 (by omega)]; exact h1, h2, fun i hi => by rw [e _ (by omega), e _ (by omega), e _ (by omega)]; exact h3 i hi⟩
theorem keep_m (ho : CO p) (h : HM I p un) (hu : un.length ≤ 20) (hw : WM I p w) (hk : KM I kl) : ok (F_MD_keeps I) (fun X => HM X p (u_add (w, kl) un) ∧ fsL LK X I) := by
  obtain ⟨h3, ne, h1, h2, h4⟩ := h
  unfold F_MD_keeps
  have a1 : I 177 67 + 1 = nI (ne + 1) := by rw [h2, nI_s]
  have a3 : m_rem (nI (ne + 1)) 20 = nI ((ne + 1) % 20) := rem_n (b := 20) (by omega) (by decide) (by decide)
  rw [a1, a3]
  have hm : (ne + 1) % 20 < 20 := Nat.mod_lt _ (by decide)
  have ad : ∀ a j : Nat, (176 : Int32) * nI a + nI j = nI (176 * a + j) := fun a j => by
    have : (176 : Int32) * nI a = nI (176 * a) := nI_m3 176 a
    rw [this, nI_add]
  have loop : ok (wl (fun s : Int32 × MI => F_MD_keeps_15 s.2 s.1) ((0 : Int32), m_up I 177 67 (nI ((ne + 1) % 20)))) (fun Y => (∀ j, j < 176 → Y 221 (176 * ((ne + 1) % 20) + j) = I 213 j) ∧ (∀ j, j < 176 * ((ne + 1) % 20) ∨ 176 * ((ne + 1) % 20) + 176 ≤ j → Y 221 j = I 221 j) ∧ ∀ k, k ≠ 221 → Y k = m_up I 177 67 (nI ((ne + 1) % 20)) k) := by
    refine ok_cnt 176 (fun m Y => (∀ j, j < m → Y 221 (176 * ((ne + 1) % 20) + j) = I 213 j) ∧ (∀ j, j < 176 * ((ne + 1) % 20) ∨ 176 * ((ne + 1) % 20) + 176 ≤ j → Y 221 j = I 221 j) ∧ ∀ k, k ≠ 221 → Y k = m_up I 177 67 (nI ((ne + 1) % 20)) k) ⟨fun j h => absurd h (by omega), fun j _ => by rw [up_k _ _ _ (by decide)], fun _ _ => rfl⟩ ?_ ?_
    · rintro m hm2 Y ⟨g1, g2, g3⟩
      simp only [F_MD_keeps_15]
      have e67 : Y 177 67 = nI ((ne + 1) % 20) := by rw [g3 177 (by decide), up_e]
      have e213 : Y 213 = I 213 := by rw [g3 213 (by decide), up_k _ _ _ (by decide)]
      rw [e67, ad, e213]
      refine ok_f (show ¬ (176 : Int32) ≤ nI m from nI_ge (b := 176) hm2 (by decide)) (ok_gd rfl hm2 (by decide) (ok_gd rfl (by omega) (by decide) (ok_s ⟨nI_s m, fun j hj => ?_, fun j hj => ?_, fun k hk => ?_⟩)))
      · show m_up Y 221 (nI (176 * ((ne + 1) % 20) + m)).toNatClampNeg (I 213 (nI m).toNatClampNeg) 221 _ = _
        rw [nI_clamp (by omega), nI_clamp (by omega)]
        by_cases e : j = m
        · subst e; rw [up_e]
        · rw [up_j _ _ _ (by omega)]; exact g1 j (by omega)
      · show m_up Y 221 (nI (176 * ((ne + 1) % 20) + m)).toNatClampNeg (I 213 (nI m).toNatClampNeg) 221 _ = _
        rw [nI_clamp (by omega), up_j _ _ _ (by omega)]; exact g2 j hj
      · show m_up Y 221 _ _ k = _
        rw [up_k _ _ _ hk]; exact g3 k hk
    · rintro Y h
      simp only [F_MD_keeps_15]
      exact ok_t (by decide) (ok_s h)
  refine ok_b loop ?_
  rintro Y ⟨g1, g2, g3⟩
  have e66 : Y 177 66 = nI un.length := by rw [g3 177 (by decide), up_j _ _ _ (by decide)]; exact h3
  have e67 : Y 177 67 = nI ((ne + 1) % 20) := by rw [g3 177 (by decide), up_e]
  have fY : fsL LK Y I := fs_tr (fs_fr (P := fun q => q = 221) (fun k hk => g3 k hk) (fun k hk => by subst hk; decide)) (fs_up (LX := LK) (by decide) (by decide) (fs_r I))
  have tail : ∀ U : MI, U 177 66 = nI (min 20 (un.length + 1)) → U 177 67 = nI ((ne + 1) % 20) → U 221 = Y 221 → HM U p (u_add (w, kl) un) := by
    intro U u1 u2 u3
    refine ⟨by rw [u1, u_len], (ne + 1) % 20, hm, u2, fun i hi q hq => ?_⟩
    rw [u_len] at hi
    rw [u3]
    cases i with
    | zero =>
      rw [u_0] at hq
      cases hq
      rw [show ((ne + 1) % 20 + 20 - 0) % 20 = (ne + 1) % 20 by omega]
      exact ⟨WMg_c ho (g := I 213) hw (fun j hj => g1 j (by omega)), KMg_c (g := I 213) hk (fun j hj => g1 j hj)⟩
    | succ i =>
      rw [u_s _ (by omega)] at hq
      have e : ((ne + 1) % 20 + 20 - (i + 1)) % 20 = (ne + 20 - i) % 20 := by omega
      have nn : (ne + 20 - i) % 20 ≠ (ne + 1) % 20 := by omega
      rw [e]
      obtain ⟨g4, g5⟩ := h4 i (by omega) q hq
      exact ⟨WMg_c ho g4 (fun j hj => g2 _ (by omega)), KMg_c g5 (fun j hj => g2 _ (by omega))⟩
  by_cases q : 20 ≤ un.length
  · refine ok_t (by rw [e66]; exact nI_le (a := 20) q (by omega)) (ok_s ⟨tail Y ?_ e67 rfl, fY⟩)
    rw [e66, show min 20 (un.length + 1) = un.length by omega]
  · refine ok_f (by rw [e66]; exact nI_ge (b := 20) (by omega) (by decide)) (ok_s ⟨tail _ ?_ ?_ ?_, fs_up (LX := LK) (by decide) (by decide) fY⟩)
    · rw [up_e, e66, nI_s, show min 20 (un.length + 1) = un.length + 1 by omega]
    · rw [up_j _ _ _ (by decide)]; exact e67
    · rw [up_k _ _ _ (by decide)]
/-- what the class's act may touch -/
abbrev DA : List (Nat × Option Nat) := (0, some 12) :: (20, none) :: (21, none) :: (22, none) :: (23, none) :: (45, none) :: (46, none) :: (26, none) :: (27, none) :: (30, some 7) :: DH
abbrev LA : List (Nat × Option Nat) := LK ++ LY
theorem begin_c (h : RelX I J sl p w kl un) : ok (F_WF_beginAct sl sd I) (fun A => A 30 7 = -1 ∧ HC A (u_add (w, kl) un) ∧ WC A 20 w ∧ KC A 45 kl ∧ A 0 12 = I 0 12 ∧ fsL ((30, some 7) :: DH) A I) := by
  obtain ⟨⟨hu, -⟩, hc, -⟩ := gHist_i.mp h.2.1.2.2.2
  obtain ⟨-, hw, -, hk, -⟩ := h.2.1.2.2.1
  unfold F_WF_beginAct
  refine ok_b (keep_c hc hu hw hk) ?_
  rintro A ⟨a1, a2⟩
  have f0 : fsL ((30, some 7) :: DH) (m_up A 30 7 (-1)) I := fs_up (LX := [(30, some 7)]) (by decide) (by decide) (fs_sub (by decide +kernel) a2)
  have kA : ∀ q, q ≠ 30 → m_up A 30 7 (-1) q = A q := fun q h => up_k _ _ _ h
  have kf : ∀ q, q < 30 → m_up A 30 7 (-1) q = I q := fun q h => by
    funext j
    refine f0 q j ?_
    cases e : inL ((30, some 7) :: DH) q j with
    | false => rfl
    | true =>
      exfalso
      obtain ⟨x, x1, x2⟩ := List.any_eq_true.mp e
      have : x.1 = q := by
        have := Bool.and_eq_true_iff.mp x2
        exact eq_of_beq this.1
      rcases List.mem_cons.mp x1 with z | z
      · subst z; simp at this; omega
      · rcases List.mem_cons.mp z with z | z
        · subst z; simp at this; omega
        · rcases List.mem_cons.mp z with z | z
          · subst z; simp at this; omega
          · obtain ⟨i, -, e⟩ := List.mem_map.mp z
            subst e; simp at this; omega
  refine ok_s ⟨up_e _ _ _ _, ⟨by rw [kA 47 (by decide)]; exact a1.1, ?_⟩, WC_c hw (fun q a b => kf q (by omega)), KC_c hk (fun q hq => ?_), by rw [kf 0 (by omega)], f0⟩
  · obtain ⟨-, nx, n1, n2, n3⟩ := a1
    refine ⟨nx, n1, by rw [kA 47 (by decide)]; exact n2, fun i hi q hq => ?_⟩
    obtain ⟨g1, g2⟩ := n3 i hi q hq
    exact ⟨WC_c g1 (fun q a b => kA q (by omega)), KC_c g2 (fun q hq => kA q (by omega))⟩
  · rw [kA q (by omega)]
    rcases hq with z | z <;> subst z <;> exact fs_k a2 (by decide +kernel)
/-- the relation behind an act -/
theorem RelX_a {DJ : List (Nat × Option Nat)} (hq : sl = 3 ∨ sl = 11) (h : RelX I J sl p w kl un) (hz : fsL DA Z I) (hb : fsL LA B Z) (hj : fsL DJ J2 J) (e1 : disL DJ [(206, none)] = true) (hsd : gSeed B J2) (hO : WO p w' ∧ WX p w' ∧ KN kl') (hU : HO p un')
    (c1 : HC Z un') (c2 : WC Z 20 w') (c3 : KC Z 45 kl') (c4 : Z 30 7 = -1) (m1 : HM B p un') (m2 : WM B p w') (m3 : KM B kl') : RelX B J2 sl p w' kl' un' := by
  obtain ⟨⟨h1, h2, h3, h4, h5⟩, ⟨h6, h7, h8, h9⟩, h10, h11, h12⟩ := h
  have hx : fsL (LA ++ DA) B I := fs_tr (fs_sub (by decide +kernel) hb) (fs_sub (by decide +kernel) hz)
  have a := ag_of e1 hj
  have kB : ∀ q, q < 177 → B q = Z q := fun q hq => fs_k hb (by
    simp only [LA, LK, LY, List.cons_append, List.nil_append, List.all_cons, List.all_nil, Bool.and_true, Bool.and_eq_true, Bool.not_eq_true', beq_eq_false_iff_ne]
    omega)
  refine ⟨⟨gTape_c (ag_of (by decide +kernel) hx) h1, gFault_c (ag_of (by decide +kernel) hx) h2, gRef_c (ag_of (by decide +kernel) hx) h3, gImg_c (ag_of (by decide +kernel) hx) h4, hsd⟩, ⟨gSeen_c (ag_of (by decide +kernel) hx) h6, gSlope_c hq (ag_of (by decide +kernel) hx) (a (206, none) (by decide)) h7, ⟨hO, WC_c c2 (fun q c d => kB q (by omega)), m2, KC_c c3 (fun q hq => kB q (by omega)), m3⟩, gHist_i.mpr ⟨hU, ⟨by rw [kB 47 (by decide)]; exact c1.1, ?_⟩, m1⟩⟩, ?_, (hx 177 55 (by decide +kernel)).trans h11, gWord_c (ag_of (by decide +kernel) hx) h12⟩
  · obtain ⟨-, nx, n1, n2, n3⟩ := c1
    refine ⟨nx, n1, by rw [kB 47 (by decide)]; exact n2, fun i hi q hq => ?_⟩
    obtain ⟨g1, g2⟩ := n3 i hi q hq
    have := hU.1
    exact ⟨WC_c g1 (fun q a b => kB q (by omega)), KC_c g2 (fun q hq => kB q (by omega))⟩
  · intro f n hf _ _ _ e
    exfalso
    rw [kB 30 (by decide), c4] at e
    have hF := h7.1.1.2.2.1
    have := nI_pos' (n := f) (by omega)
    rw [← e] at this
    exact absurd this (by decide)
end L80
