/-! tells -/
section L78
variable {I X : MI} {J JX : MJ} {k o sl sd : Nat} {p : CF} {w : WD} {kl : List NT} {un : List (WD × List NT)}
theorem op_tells (hr : Rel I J sl) (v : Int32) : ∃ a I1 I2 J2, F_WF_tells sl sd I v = some (a, I1) ∧ F_MD_tells I1 J v = some (a, I2, J2) ∧ Rel I2 J2 sl := by
  obtain ⟨hq, p, w, kl, un, h⟩ := id hr
  obtain ⟨⟨ho, hQ, h00, -⟩, ⟨hc, hcd, hm, hcn⟩, ht, -⟩ := h.2.1.2.1
  have hC := ho.1; have hR := ho.2.1
  unfold F_WF_tells
  rw [told_c ho hc]
  by_cases hC0 : 0 < cC p
  · obtain ⟨sn, y, y1, y2, s1, e1, e2, e3, ⟨⟨b1, b2, b3, b4⟩, b5⟩, rest⟩ := fits_two (sd := sd) hq h hC0
    rw [decide_eq_true hC0, if_neg (show ¬ bI true = 0 by decide), e1]
    simp only [Option.bind_some]
    rw [gq_e e2]
    have fcl := fc_le (a_fit p w sn y) 31
    -- the class
    have eZ : ∃ Z : MI, ft_c (ft_0 I sl (nI (min 30 (999 - y)))) sl (ft_N (ft_0 I sl (nI (min 30 (999 - y)))) sl) = Z ∧ (Z 30 15, Z 30 16, Z 30 17) = tC (fc (a_fit p w sn y) 31) (if fc (a_fit p w sn y) 31 = 0 then none else t_c (fun c r => a_mx p w (a_fit p w sn y) c r 31) (cR p) (cC p)) ∧ fsL ((30, some 15) :: (30, some 16) :: (30, some 17) :: DF) Z I := by
      refine ⟨_, rfl, ?_⟩
      have e0 : ft_0 I sl (nI (min 30 (999 - y))) = m_up (m_up (m_up (ff I sl (min 30 (999 - y) + 1)) 30 15 (-1)) 30 16 (-1)) 30 17 (nI (fc (a_fit p w sn y) 31 + 1)) := by
        unfold ft_0
        rw [e3, b1, nI_s]
      rw [e0]
      generalize ff I sl (min 30 (999 - y) + 1) = A at *
      have uk : ∀ q, q ≠ 30 → (m_up (m_up (m_up A 30 15 (-1)) 30 16 (-1)) 30 17 (nI (fc (a_fit p w sn y) 31 + 1))) q = A q := fun q hq => by rw [up_k _ _ _ hq, up_k _ _ _ hq, up_k _ _ _ hq]
      have u0 : fsL ((30, some 15) :: (30, some 16) :: (30, some 17) :: DF) (m_up (m_up (m_up A 30 15 (-1)) 30 16 (-1)) 30 17 (nI (fc (a_fit p w sn y) 31 + 1))) I := fs_up (LX := [(30, some 15), (30, some 16), (30, some 17)]) (by decide) (by decide) (fs_up (LX := [(30, some 15), (30, some 16), (30, some 17)]) (by decide) (by decide) (fs_up (LX := [(30, some 15), (30, some 16), (30, some 17)]) (by decide) (by decide) (fs_sub (by decide) b5)))
      have u12 : (m_up (m_up (m_up A 30 15 (-1)) 30 16 (-1)) 30 17 (nI (fc (a_fit p w sn y) 31 + 1))) 30 12 = nI (fc (a_fit p w sn y) 31) := by rw [up_j _ _ _ (by decide), up_j _ _ _ (by decide), up_j _ _ _ (by decide)]; exact b1
      have ut : ((m_up (m_up (m_up A 30 15 (-1)) 30 16 (-1)) 30 17 (nI (fc (a_fit p w sn y) 31 + 1))) 30 15, (m_up (m_up (m_up A 30 15 (-1)) 30 16 (-1)) 30 17 (nI (fc (a_fit p w sn y) 31 + 1))) 30 16, (m_up (m_up (m_up A 30 15 (-1)) 30 16 (-1)) 30 17 (nI (fc (a_fit p w sn y) 31 + 1))) 30 17) = tC (fc (a_fit p w sn y) 31) none := by
        rw [up_j _ _ _ (by decide), up_j _ _ _ (by decide), up_e, up_j _ _ _ (by decide), up_e, up_e]; rfl
      have slk : ∀ j, (m_up (m_up (m_up A 30 15 (-1)) 30 16 (-1)) 30 17 (nI (fc (a_fit p w sn y) 31 + 1))) sl j = I sl j := fun j => by rw [fs_k u0 (by rcases hq with z | z <;> subst z <;> decide)]
      have u44 : ∀ c r k, c < cC p → r < cR p → k < 7 → (m_up (m_up (m_up A 30 15 (-1)) 30 16 (-1)) 30 17 (nI (fc (a_fit p w sn y) 31 + 1))) 44 ((c * 30 + r) * 7 + k) = nI (fo (a_fit p w sn y) (fun i => a_k p (a_it p w i) c (nI r)) k 31) := fun c r k x1 x2 x3 => by rw [uk 44 (by decide)]; exact b4 c r k x1 x2 x3
      generalize (m_up (m_up (m_up A 30 15 (-1)) 30 16 (-1)) 30 17 (nI (fc (a_fit p w sn y) 31 + 1))) = B at *
      unfold ft_N
      rw [u12, slk 1, hc.1]
      by_cases z : fc (a_fit p w sn y) 31 = 0
      · rw [z, if_pos (by decide), if_pos rfl]
        rw [z] at ut
        exact ⟨ut, u0⟩
      · rw [if_neg (show ¬ nI (fc (a_fit p w sn y) 31) ≤ 0 from nI_ge (a := 0) (by omega) (by omega)), if_neg z, nI_clamp (by omega)]
        obtain ⟨g1, g2⟩ := ft_c_e (p := p) (w := w) fcl hC hR hq (by rw [slk 2]; exact hc.2.1) u44 ut (cC p) (Nat.le_refl _)
        exact ⟨g1, fs_tr (fs_sub (by decide) g2) u0⟩
    obtain ⟨Z, eZ, z2, z3⟩ := eZ
    rw [eZ]
    have hB : TB (fc (a_fit p w sn y) 31) (if fc (a_fit p w sn y) 31 = 0 then none else t_c (fun c r => a_mx p w (a_fit p w sn y) c r 31) (cR p) (cC p)) := by
      split
      · intro t e; cases e
      · exact TB_c (fun c r => mx_N _ c r 31) _ hC
    obtain ⟨z1, ⟨C, JC⟩, ez, c1, c2, c3, c4, c5⟩ := rest Z z3
    have c5 : RelX C JC sl p w kl un := c5
    obtain ⟨⟨t1, t2, t3, E⟩, et, x1, x2⟩ := tells_c ho (X := C) (φ := a_fit p w sn y) ⟨c1, c2, c3, c4⟩ v
    have x1 : (t1, t2, t3) = tM (if fc (a_fit p w sn y) 31 = 0 then none else t_c (fun c r => a_mx p w (a_fit p w sn y) c r 31) (cR p) (cC p)) := x1
    have x2 : ∀ k, k ≠ 220 → E k = C k := x2
    have rE : Rel E JC sl := ⟨hq, p, w, kl, un, RelX_f (D := [(220, none)]) (DJ := []) hq c5 (fs_fr (P := fun q => q = 220) (fun k hk => x2 k hk) (fun k hk => by subst hk; decide)) (fs_r JC) (by decide) (by decide) (by decide) (by decide) (by decide) (by decide) (by decide) (by decide) (by decide +kernel) (by decide) (by decide +kernel) (by decide) (by decide)⟩
    generalize (if fc (a_fit p w sn y) 31 = 0 then none else t_c (fun c r => a_mx p w (a_fit p w sn y) c r 31) (cR p) (cC p)) = T at *
    by_cases u : 0 ≤ v ∧ v ≤ 2
    · have eM : F_MD_tells Z J v = F_MD_tells_114 E JC v t1 t2 t3 := by
        unfold F_MD_tells
        rw [z1, if_neg (by decide), show (0 : Int64) = (0 : Int32).toInt64 by decide, show (2 : Int64) = (2 : Int32).toInt64 by decide, isIn_i]
        simp only [Option.bind_some]
        rw [if_pos u, if_neg (by decide), ez]
        simp only [Option.bind_some]
        rw [et]
        rfl
      have e15 : Z 30 15 = (tC (fc (a_fit p w sn y) 31) T).1 := by rw [← z2]
      have e16 : Z 30 16 = (tC (fc (a_fit p w sn y) 31) T).2.1 := by rw [← z2]
      have e17 : Z 30 17 = (tC (fc (a_fit p w sn y) 31) T).2.2 := by rw [← z2]
      have f1 : t1 = (tM T).1 := by rw [← x1]
      have f2 : t2 = (tM T).2.1 := by rw [← x1]
      have f3 : t3 = (tM T).2.2 := by rw [← x1]
      rw [e15, e16, e17]
      subst f1 f2 f3
      unfold F_MD_tells_114 at eM
      cases T with
      | none =>
        rw [if_pos (show (tM none).1 = -1 from rfl)] at eM
        refine ⟨-1, Z, E, JC, ?_, eM, rE⟩
        have w2 : v = 0 ∨ v = 1 ∨ v = 2 := by grind
        rcases w2 with z | z | z <;> subst z <;> rfl
      | some t =>
        have n1 : ¬ nI t.1 = -1 := fun e => by have b := (hB t rfl).2; have := nI_pos' (n := t.1) (by omega); rw [e] at this; exact absurd this (by decide)
        rw [if_neg (show ¬ (tM (some t)).1 = -1 from n1)] at eM
        by_cases v0 : v = 0
        · rw [if_pos v0] at eM ⊢
          exact ⟨_, Z, E, JC, rfl, eM, rE⟩
        rw [if_neg v0] at eM ⊢
        by_cases v1 : v = 1
        · rw [if_pos v1] at eM ⊢
          exact ⟨_, Z, E, JC, rfl, eM, rE⟩
        rw [if_neg v1] at eM ⊢
        rw [if_pos (show v = 2 by grind), if_neg (show ¬ (tC (fc (a_fit p w sn y) 31) (some t)).1 = -1 from n1)]
        exact ⟨_, Z, E, JC, rfl, eM, rE⟩
    · refine ⟨-1, Z, Z, J, ?_, ?_, hq, p, w, kl, un, RelX_f (DJ := []) hq h z3 (fs_r J) (by decide) (by decide) (by decide) (by decide) (by decide) (by decide) (by decide) (by decide) (by decide +kernel) (by decide) (by decide +kernel) (by decide) (by decide)⟩
      · rw [if_neg (by rintro rfl; exact u ⟨by decide, by decide⟩), if_neg (by rintro rfl; exact u ⟨by decide, by decide⟩), if_neg (by rintro rfl; exact u ⟨by decide, by decide⟩)]
      · unfold F_MD_tells
        rw [z1, if_neg (by decide), show (0 : Int64) = (0 : Int32).toInt64 by decide, show (2 : Int64) = (2 : Int32).toInt64 by decide, isIn_i]
        simp only [Option.bind_some]
        rw [if_neg u, if_pos rfl]
  · refine ⟨-1, I, I, J, ?_, ?_, hr⟩
    · rw [decide_eq_false hC0, if_pos (show bI false = 0 from rfl)]
    · unfold F_MD_tells
      rw [ht, decide_eq_false hC0, if_pos (show bI false = 0 from rfl)]
end L78
