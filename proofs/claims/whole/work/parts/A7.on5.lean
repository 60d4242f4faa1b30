/-! on -/
section LA7
variable {I X Y Z B : MI} {J : MJ} {sl sd : Nat} {p : CF} {tb : Nat → Nat} {n : Nat}
abbrev D4 : List (Nat × Option Nat) := [(31, none), (32, none), (33, none), (34, none)]
theorem fr4_D (h : fr4 Y X) : fsL D4 Y X := fs_fr (P := fun q => 31 ≤ q ∧ q ≤ 34) (fun q hq => h q (by have : ¬ (31 ≤ q ∧ q ≤ 34) := hq; omega)) (fun q hq => by
  rcases (by omega : q = 31 ∨ q = 32 ∨ q = 33 ∨ q = 34) with z | z | z | z <;> subst z <;> decide)
theorem Rel_4 (hr : Rel I J sl) (h : fsL D4 Y I) : Rel Y J sl := by
  obtain ⟨hq, p, w, kl, un, h0⟩ := hr
  exact ⟨hq, p, w, kl, un, RelX_f hq h0 h (DJ := []) (fs_r J) (by decide) (by decide) (by decide) (by decide) (by decide) (by decide) (by decide) (by decide) (by decide +kernel) (by decide) (by decide +kernel) (by decide) (by decide)⟩
/-- begin anew from the lay that was read -/
abbrev DN : List (Nat × Option Nat) := (1, some 1) :: (20, none) :: (21, none) :: (22, none) :: (23, none) :: (30, some 7) :: (45, none) :: (47, some 3) :: D4
theorem on_fail (hr : Rel I J sl) (h : fsL D4 Y I) (e : F_MD_on (m_up (m_up Y 1 1 0) 176 5 (Y 176 5 + 1)) = some (0, m_up (m_up (m_up (m_up Y 1 1 0) 176 5 (Y 176 5 + 1)) 177 1 0) 179 5 ((m_up (m_up Y 1 1 0) 176 5 (Y 176 5 + 1)) 179 5 + 1))) : ∃ I1 I2, F_WF_on_40 sl sd Y 0 = some (0, I1) ∧ F_MD_on I1 = some (0, I2) ∧ Rel I2 J sl := by
  have href := Rel_ref (Rel_tp (Rel_4 hr h)) (k := 5) (by decide)
  refine ⟨m_up (m_up Y 1 1 0) 176 5 (Y 176 5 + 1), _, ?_, e, ?_⟩
  · unfold F_WF_on_40
    rw [if_pos rfl, show (5 : Int32) = nI 5 from rfl, refuse_c (by decide)]
    simp only [Option.bind_some]
    rw [up_k Y _ _ (show (176 : Nat) ≠ 1 by decide)]
  · have eq : m_up (m_up (m_up (m_up Y 1 1 0) 176 5 (Y 176 5 + 1)) 177 1 0) 179 5 ((m_up (m_up Y 1 1 0) 176 5 (Y 176 5 + 1)) 179 5 + 1) = m_up (m_up (m_up (m_up Y 1 1 0) 177 1 0) 176 5 ((m_up (m_up Y 1 1 0) 177 1 0) 176 5 + 1)) 179 5 ((m_up (m_up Y 1 1 0) 177 1 0) 179 5 + 1) := by
      rw [up_cm (a := 176) (b := 177) (by decide), up_k (m_up Y 1 1 0) (k := 177) (k' := 176) _ _ (by decide), up_k (m_up Y 1 1 0) (k := 177) (k' := 179) _ _ (by decide), up_k (m_up Y 1 1 0) (k := 176) (k' := 179) _ _ (by decide), up_k Y (k := 1) (k' := 176) _ _ (by decide)]
    rw [eq]
    exact href
theorem op_on (hr : Rel I J sl) : ∃ a I1 I2, F_WF_on sl sd I = some (a, I1) ∧ F_MD_on I1 = some (a, I2) ∧ Rel I2 J sl := by
  obtain ⟨hq, p, w, kl, un, h⟩ := id hr
  obtain ⟨⟨h1, h2, h3, h4, h5⟩, ⟨h6, h7, h8, h9⟩, h10, h11, h12⟩ := id h
  obtain ⟨⟨ho, hQ, h00, h04⟩, ⟨hc, hcd, hm, hcn⟩, ht, -⟩ := id h7
  obtain ⟨-, hw, hwm, hkc, hkm⟩ := id h8
  obtain ⟨n, tb, n1, e1, e2, hb⟩ := id h1
  obtain ⟨hU, hHC, hHM⟩ := gHist_i.mp h9
  have hT : TP I n tb := ⟨n1, hb⟩
  -- what the reference sees behind the class's refusal
  have refM : ∀ Y : MI, fsL D4 Y I → ∀ X : MI, fsL [(1, some 1), (176, none)] X Y → CM X p ∧ X 177 49 = bI (decide (0 < cC p)) ∧ TP X n tb ∧ X 177 1 = nI n := by
    intro Y hY X hX
    refine ⟨CM_c hm (fun k hk => ?_), ?_, TP_c hT ?_ ?_, ?_⟩
    · rw [fs_k hX (by rcases hk with z | z | z <;> subst z <;> decide)]
      exact fs_k hY (by rcases hk with z | z | z <;> subst z <;> decide)
    · rw [fs_k hX (by decide), fs_k hY (by decide)]; exact ht
    · rw [fs_k hX (by decide), fs_k hY (by decide)]
    · rw [fs_k hX (by decide), fs_k hY (by decide)]
    · rw [fs_k hX (by decide), fs_k hY (by decide)]; exact e2
  have fX : ∀ Y : MI, fsL [(1, some 1), (176, none)] (m_up (m_up Y 1 1 0) 176 5 (Y 176 5 + 1)) Y := fun Y => fs_up (LX := [(176, none)]) (by decide) (by simp [inL]) (fs_up (LX := [(1, some 1)]) (by decide) (by decide) (fs_r Y))
  unfold F_WF_on
  rw [told_c ho hc]
  by_cases c0 : 0 < cC p
  · rw [decide_eq_true c0, if_neg (show ¬ bI true = 0 by decide)]
    obtain ⟨⟨r1, Y⟩, er, k1, k2⟩ := read_c ho hc hq hT e1
    have k1 : fr4 Y I := k1
    have fY := fr4_D k1
    rw [er]
    simp only [Option.bind_some]
    rcases k2 with ⟨g, g2, g3⟩ | ⟨g, g2⟩
    · have g2 : r1 = 1 := g2
      have g3 : WC Y 31 (o_w p tb) := g3
      rw [g2, if_neg (by decide)]
      have cA : ∀ q, q ≠ 1 → m_up Y 1 1 (0 : Int32) q = Y q := fun q hq => up_k _ _ _ hq
      have eC : F_WF_on_40 sl sd Y 1 = some (1, m_up (m_up (m_up (m_up (w_take (m_up Y 1 1 0) 20 31) 45 1 0) 45 2 0) 47 3 0) 30 7 (-1)) := by
        unfold F_WF_on_40 F_WF_beginAnew F_History_clear
        rw [if_neg (by decide)]
        rfl
      have kT : ∀ q, q < 20 ∨ 23 < q → w_take (m_up Y 1 1 0) 20 31 q = m_up Y 1 1 0 q := fun q hq => take_k _ _ _ hq
      have wT : WC (w_take (m_up Y 1 1 0) 20 31) 20 (o_w p tb) := take_c (WC_c g3 (fun q a b => cA q (by omega))) (by omega)
      have fT : fsL DN (w_take (m_up Y 1 1 0) 20 31) I := by
        refine fs_tr (fs_fr (P := fun q => 20 ≤ q ∧ q ≤ 23) (fun q hq => kT q (by have : ¬ (20 ≤ q ∧ q ≤ 23) := hq; omega)) (fun q hq => ?_)) (fs_up (LX := [(1, some 1)]) (by decide) (by decide) (fs_sub (by decide) fY))
        rcases (by omega : q = 20 ∨ q = 21 ∨ q = 22 ∨ q = 23) with z | z | z | z <;> subst z <;> decide
      have t1 : w_take (m_up Y 1 1 0) 20 31 1 1 = 0 := by rw [kT 1 (by omega), up_e]
      generalize w_take (m_up Y 1 1 0) 20 31 = T at *
      have kZ : ∀ q, q ≠ 45 → q ≠ 47 → q ≠ 30 → (m_up (m_up (m_up (m_up T 45 1 0) 45 2 0) 47 3 0) 30 7 (-1)) q = T q := fun q a b c => by rw [up_k _ _ _ c, up_k _ _ _ b, up_k _ _ _ a, up_k _ _ _ a]
      have z1 : (m_up (m_up (m_up (m_up T 45 1 0) 45 2 0) 47 3 0) 30 7 (-1)) 45 1 = 0 := by rw [up_k _ _ _ (by decide), up_k _ _ _ (by decide), up_j _ _ _ (by decide), up_e]
      have z2 : (m_up (m_up (m_up (m_up T 45 1 0) 45 2 0) 47 3 0) 30 7 (-1)) 45 2 = 0 := by rw [up_k _ _ _ (by decide), up_k _ _ _ (by decide), up_e]
      have z3 : (m_up (m_up (m_up (m_up T 45 1 0) 45 2 0) 47 3 0) 30 7 (-1)) 47 3 = 0 := by rw [up_k _ _ _ (by decide), up_e]
      have z4 : (m_up (m_up (m_up (m_up T 45 1 0) 45 2 0) 47 3 0) 30 7 (-1)) 30 7 = -1 := up_e _ _ _ _
      have fZ : fsL DN (m_up (m_up (m_up (m_up T 45 1 0) 45 2 0) 47 3 0) 30 7 (-1)) I := fs_up (LX := DN) (by decide) (by decide) (fs_up (LX := DN) (by decide) (by decide) (fs_up (LX := DN) (by decide) (by decide) (fs_up (LX := DN) (by decide) (by decide) fT)))
      generalize m_up (m_up (m_up (m_up T 45 1 0) 45 2 0) 47 3 0) 30 7 (-1) = Z at *
      have hmZ : CM Z p := CM_c hm (fun k hk => fs_k fZ (by rcases hk with z | z | z <;> subst z <;> decide))
      have tZ : TP Z n tb := TP_c hT (fs_k fZ (by decide)) (fs_k fZ (by decide))
      obtain ⟨-, mG⟩ := on_m (X := Z) ho hmZ (by rw [fs_k fZ (by decide)]; exact ht) tZ (by rw [fs_k fZ (by decide)]; exact e2)
      obtain ⟨⟨t, B⟩, eb, b1, b2, b3, b4, b5, b6⟩ := mG ⟨c0, g⟩
      have b1 : t = 1 := b1
      have b2 : WM B p (o_w p tb) := b2
      have b3 : B 213 55 = 0 := b3
      have b4 : B 177 66 = 0 := b4
      have b5 : B 177 1 = 0 := b5
      have b6 : fsL [(177, some 1), (177, some 66), (213, none)] B Z := b6
      have kB : ∀ q, q < 177 → B q = Z q := fun q hq => fs_k b6 (by
        simp only [List.all_cons, List.all_nil, Bool.and_true, Bool.and_eq_true, Bool.not_eq_true', beq_eq_false_iff_ne]
        omega)
      have hx : fsL ((177, some 1) :: (177, some 66) :: (213, none) :: DN) B I := fs_tr (fs_sub (by decide) b6) (fs_sub (by decide) fZ)
      have hO := o_O ho (fun j hj => (hb j hj).1) g (by have := h04 c0; omega)
      obtain ⟨-, nx, x1, x2, -⟩ := hHC
      obtain ⟨-, ne, y1, y2, -⟩ := hHM
      refine ⟨1, Z, B, eC, by rw [eb, b1], hq, p, o_w p tb, [], [], ⟨⟨0, fun _ => 0, by omega, ?_, b5, fun j hj => absurd hj (by omega)⟩, gFault_c (ag_of (by decide) hx) h2, gRef_c (ag_of (by decide) hx) h3, gImg_c (ag_of (by decide) hx) h4, gSeed_c (ag_of (by decide) hx) rfl h5⟩, ⟨gSeen_c (ag_of (by decide) hx) h6, gSlope_c hq (ag_of (by decide) hx) rfl h7, ⟨⟨hO.1, hO.2, fun x hx => by cases hx⟩, WC_c wT (fun q a b => (kB q (by omega)).trans (kZ q (by omega) (by omega) (by omega))), b2, ⟨by decide, ?_, 0, by decide, ?_, fun i hi => absurd hi (by simp)⟩, ⟨b3, by decide, fun i hi => absurd hi (by simp)⟩⟩, gHist_i.mpr ⟨⟨by decide, fun q hq => by cases hq⟩, ⟨?_, nx, x1, ?_, fun i hi => absurd hi (by simp)⟩, ⟨b4, ne, y1, ?_, fun i hi => absurd hi (by simp)⟩⟩⟩, ?_, (hx 177 55 (by decide)).trans h11, gWord_c (ag_of (by decide +kernel) hx) h12⟩
      · rw [kB 1 (by decide), kZ 1 (by decide) (by decide) (by decide)]; exact t1
      · rw [kB 45 (by decide)]; exact z2
      · rw [kB 45 (by decide)]; exact z1
      · rw [kB 47 (by decide)]; exact z3
      · rw [kB 47 (by decide), fZ 47 2 (by decide)]; exact x2
      · rw [hx 177 67 (by decide)]; exact y2
      · intro f n hf _ _ _ e
        exfalso
        rw [kB 30 (by decide), z4] at e
        have hF := ho.2.2.1
        have := nI_pos' (n := f) (by omega)
        rw [← e] at this
        exact absurd this (by decide)
    · have g2 : r1 = 0 := g2
      rw [g2, if_pos rfl]
      unfold F_WF_on_39
      obtain ⟨m1, m2, m3, m4⟩ := refM Y fY _ (fX Y)
      obtain ⟨I1, I2, i1, i2, i3⟩ := on_fail (sd := sd) hr fY ((on_m ho m1 m2 m3 m4).1 (fun z => g z.2))
      exact ⟨0, I1, I2, i1, i2, i3⟩
  · rw [decide_eq_false c0, if_pos (show bI false = 0 from rfl)]
    unfold F_WF_on_39
    obtain ⟨m1, m2, m3, m4⟩ := refM I (fs_r I) _ (fX I)
    obtain ⟨I1, I2, i1, i2, i3⟩ := on_fail (sd := sd) hr (fs_r I) ((on_m ho m1 m2 m3 m4).1 (fun z => c0 z.1))
    exact ⟨0, I1, I2, i1, i2, i3⟩
end LA7
