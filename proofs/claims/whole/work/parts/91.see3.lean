/-! see -/
section L91
variable {I X Z B : MI} {J : MJ} {sl sd : Nat} {p : CF} {tb : Nat → Nat} {n : Nat}
/-- the j-th of what is written down, three to a thing -/
def s_w (tb : Nat → Nat) (j : Nat) : Int32 := if j % 3 = 2 then s_v (tb j) else nI (tb j)
theorem see_m2 (h : TP I n tb) {m : Nat} (hn : n = 3 * m) (hm2 : m ≤ 16) : ok (wl (fun s : Int32 × MI => F_MD_see_126 s.2 (nI n) s.1) ((0 : Int32), I)) (fun Y => (∀ j, j < n → Y 217 j = s_w tb j) ∧ ∀ k, k ≠ 217 → Y k = I k) := by
  have h1 := h.1
  refine ok_cnt n (fun q Y => (∀ j, j < q → Y 217 j = s_w tb j) ∧ ∀ k, k ≠ 217 → Y k = I k) ⟨fun i hi => absurd hi (by omega), fun _ _ => rfl⟩ ?_ ?_
  · rintro q hq Y ⟨g1, g2⟩
    have b := (h.2 q hq).1
    have e1 : Y 178 q = nI (tb q) := by rw [g2 178 (by decide)]; exact (h.2 q hq).2.1
    have e2 : m_rem (nI q) (3 : Int32) = nI (q % 3) := rem_n (b := 3) (by omega) (by decide) (by decide)
    have fin : ∀ v : Int32, v = s_w tb q → (∀ j, j < q + 1 → m_up Y 217 q v 217 j = s_w tb j) ∧ ∀ k, k ≠ 217 → m_up Y 217 q v k = I k := by
      intro v ev
      refine ⟨fun j hj => ?_, fun k hk => by rw [up_k _ _ _ hk]; exact g2 k hk⟩
      by_cases z : j = q
      · subst z; rw [up_e, ev]
      · rw [up_j _ _ _ z]; exact g1 j (by omega)
    simp only [F_MD_see_126]
    rw [e2, nI_clamp (by omega), e1]
    have hq3 : q % 3 < 3 := Nat.mod_lt _ (by decide)
    refine ok_f (nI_ge hq (by omega)) (ok_if (fun c => ?_) (fun c => ?_))
    · have c3 : q % 3 = 2 := by have := congrArg Int32.toNatClampNeg c; rw [nI_clamp (by omega)] at this; exact this
      refine ok_gd rfl (by omega) (by decide) (ok_if (fun d => ?_) (fun d => ?_))
      · exact ok_gd rfl (by omega) (by decide) (ok_s ⟨nI_s q, fin _ (by unfold s_w s_v; rw [if_pos c3, if_pos ((n_255 b).mp d)])⟩)
      · exact ok_gd rfl (by omega) (by decide) (ok_gd rfl (by omega) (by decide) (ok_s ⟨nI_s q, fin _ (by unfold s_w s_v; rw [if_pos c3, if_neg (fun z => d ((n_255 b).mpr z))])⟩))
    · have c3 : ¬ q % 3 = 2 := fun z => c (by rw [z]; rfl)
      exact ok_gd rfl (by omega) (by decide) (ok_gd rfl (by omega) (by decide) (ok_s ⟨nI_s q, fin _ (by unfold s_w; rw [if_neg c3])⟩))
  · rintro Y hY
    simp only [F_MD_see_126]
    exact ok_t (Int32.le_refl _) (ok_s hY)
/-- an empty tape -/
theorem Rel_tp (h : Rel I J sl) : Rel (m_up (m_up I 1 1 0) 177 1 0) J sl := by
  obtain ⟨hq, p, w, kl, un, ⟨h1, h2, h3, h4, h5⟩, ⟨h6, h7, h8, h9⟩, h10, h11, h12⟩ := h
  have hx : fsL [(1, some 1), (177, some 1)] (m_up (m_up I 1 1 0) 177 1 0) I := fs_up (LX := [(1, some 1), (177, some 1)]) (by decide) (by decide) (fs_up (LX := [(1, some 1), (177, some 1)]) (by decide) (by decide) (fs_r I))
  refine ⟨hq, p, w, kl, un, ⟨⟨0, fun _ => 0, by omega, ?_, up_e _ _ _ _, fun j hj => absurd hj (by omega)⟩, gFault_c (ag_of (by decide) hx) h2, gRef_c (ag_of (by decide) hx) h3, gImg_c (ag_of (by decide) hx) h4, gSeed_c (ag_of (by decide) hx) rfl h5⟩, ⟨gSeen_c (ag_of (by decide) hx) h6, gSlope_c hq (ag_of (by decide) hx) rfl h7, gNow_c (ag_of (by decide) hx) h8, gHist_c (ag_of (by decide +kernel) hx) h9⟩, gIron_c (ag_of (by decide) hx) h10, ?_, gWord_c (ag_of (by decide +kernel) hx) h12⟩
  · rw [up_k _ _ _ (by decide), up_e]; rfl
  · exact (hx 177 55 (by decide)).trans h11
theorem up_cm {X : MI} {a b i j : Nat} {u v : Int32} (h : a ≠ b) : m_up (m_up X a i u) b j v = m_up (m_up X b j v) a i u := by
  funext k l
  by_cases z1 : k = a
  · subst z1
    rw [up_k _ _ _ h]
    by_cases z2 : l = i
    · subst z2; rw [up_e, up_e]
    · rw [up_j _ _ _ z2, up_j _ _ _ z2, up_k _ _ _ h]
  · rw [up_k _ _ _ z1]
    by_cases z2 : k = b
    · subst z2
      by_cases z3 : l = j
      · subst z3; rw [up_e, up_e]
      · rw [up_j _ _ _ z3, up_j _ _ _ z3, up_k _ _ _ z1]
    · rw [up_k _ _ _ z2, up_k _ _ _ z2, up_k _ _ _ z1]
end L91
