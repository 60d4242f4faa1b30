/-! the reference begins to read a slope -/
abbrev LBg : List (Nat × Option Nat) := [(177, some 1), (177, some 2), (177, some 3), (177, some 4), (177, some 5), (177, some 6), (177, some 42), (177, some 47), (205, some 0), (205, some 1), (207, some 0), (207, some 1), (207, some 2), (207, some 3), (207, some 4), (207, some 5), (208, none), (210, some 0), (210, some 1)]
section LE6
variable {I X Y Z V A : MI} {J : MJ} {sd n e td cn : Nat} {tb : Nat → Nat}
theorem s54 (B0 : MI) : ∃ Z, wl (fun s : Int32 × MI => F_MD_slope_54 s.2 s.1) ((0 : Int32), B0) = some Z ∧ fsL LBg Z B0 ∧ (∀ k, k ≠ 207 → k ≠ 208 → Z k = B0 k) ∧ (∀ c, c < 6 → Z 207 c = 1) ∧ ∀ c, c < 6 → Z 208 c = 0 := by
  have st : ∀ v (B : MI), v < 6 → F_MD_slope_54 B (nI v) = some (.inl (nI (v + 1), m_up (m_up B 207 v 1) 208 v 0)) := by
    intro v B hv
    unfold F_MD_slope_54
    rw [if_neg (show ¬ (6 : Int32) ≤ nI v from nI_ge (b := 6) hv (by decide)), gd_n (by omega) (by decide), gd_n (by omega) (by decide), nI_clamp (by omega), nI_s]
  have en : ∀ B : MI, F_MD_slope_54 B (nI 6) = some (.inr B) := fun B => by
    unfold F_MD_slope_54
    rw [if_pos (by decide)]
  have lp : ∀ d v (B : MI), v + d = 6 → fsL LBg B B0 → (∀ k, k ≠ 207 → k ≠ 208 → B k = B0 k) → (∀ c, c < v → B 207 c = 1) → (∀ c, c < v → B 208 c = 0) → ∃ Z, wl (fun s : Int32 × MI => F_MD_slope_54 s.2 s.1) (nI v, B) = some Z ∧ fsL LBg Z B0 ∧ (∀ k, k ≠ 207 → k ≠ 208 → Z k = B0 k) ∧ (∀ c, c < 6 → Z 207 c = 1) ∧ ∀ c, c < 6 → Z 208 c = 0 := by
    intro d
    induction d with
    | zero =>
      intro v B hv h1 h2 h3 h4
      have e : v = 6 := by omega
      subst e
      exact ⟨B, wl_in (en B), h1, h2, h3, h4⟩
    | succ d ih =>
      intro v B hv h1 h2 h3 h4
      have f1 : fsL LBg (m_up (m_up B 207 v 1) 208 v 0) B0 := by
        refine fs_up (LX := [(208, none)]) (by decide) (by simp [inL]) (fs_up (LX := LBg) (by decide) ?_ h1)
        rcases (by omega : v = 0 ∨ v = 1 ∨ v = 2 ∨ v = 3 ∨ v = 4 ∨ v = 5) with z | z | z | z | z | z <;> subst z <;> decide
      obtain ⟨Z, z1, z2⟩ := ih (v + 1) (m_up (m_up B 207 v 1) 208 v 0) (by omega) f1 (fun k a c => by rw [up_k _ _ _ c, up_k _ _ _ a]; exact h2 k a c) (fun c hc => by
        rw [up_k _ _ _ (by decide)]
        by_cases z : c = v
        · subst z; rw [up_e]
        · rw [up_j _ _ _ z]; exact h3 c (by omega)) (fun c hc => by
        by_cases z : c = v
        · subst z; rw [up_e]
        · rw [up_j _ _ _ z, up_k _ _ _ (by decide)]; exact h4 c (by omega))
      exact ⟨Z, (wl_st (st v B (by omega))).trans z1, z2⟩
  exact lp 6 0 B0 (by omega) (fs_r B0) (fun _ _ _ => rfl) (fun c hc => by omega) (fun c hc => by omega)
theorem start_m (n16 : n ≤ 1600) (h1 : X 177 1 = nI n) (hb : ∀ j, j < n → tb j < 256 ∧ X 178 j = nI (tb j)) (hw : gWds X) : ∃ S, (QP S tb n 0 false ∧ D0M S) ∧ fsL LBg S X ∧ S 177 1 = 0 ∧ F_MD_slope X J = ((F_MD_slopeTold S).bind fun r3 => wl (fun s : MI × MJ => F_MD_slope_108 s.1 s.2) (m_up r3 177 48 1, J)).bind fun t4 => F_MD_slope_130 t4.1 t4.2 := by
  have fx : fsL LBg (m_up (m_up (m_up (m_up (m_up (m_up (m_up (m_up (m_up X 177 3 (X 177 1)) 177 1 0) 177 2 0) 177 4 (-1)) 177 5 0) 177 6 (-1)) 177 47 0) 205 0 0) 205 1 0) X := fs_up (LX := LBg) (by decide) (by decide) (fs_up (LX := LBg) (by decide) (by decide) (fs_up (LX := LBg) (by decide) (by decide) (fs_up (LX := LBg) (by decide) (by decide) (fs_up (LX := LBg) (by decide) (by decide) (fs_up (LX := LBg) (by decide) (by decide) (fs_up (LX := LBg) (by decide) (by decide) (fs_up (LX := LBg) (by decide) (by decide) (fs_up (LX := LBg) (by decide) (by decide) (fs_r X)))))))))
  obtain ⟨T, t1, t2, t3, t4, t5⟩ := s54 (m_up (m_up (m_up (m_up (m_up (m_up (m_up (m_up (m_up X 177 3 (X 177 1)) 177 1 0) 177 2 0) 177 4 (-1)) 177 5 0) 177 6 (-1)) 177 47 0) 205 0 0) 205 1 0)
  have q177 := t3 177 (by decide) (by decide)
  have q205 := t3 205 (by decide) (by decide)
  have fT : fsL LBg T X := fs_tr t2 fx
  have fS : fsL LBg (m_up (m_up (m_up T 210 0 (-1)) 210 1 (-1)) 177 42 0) X := fs_up (LX := LBg) (by decide) (by decide) (fs_up (LX := LBg) (by decide) (by decide) (fs_up (LX := LBg) (by decide) (by decide) fT))
  have k177 : ∀ j, j ≠ 42 → (m_up (m_up (m_up T 210 0 (-1)) 210 1 (-1)) 177 42 0) 177 j = T 177 j := fun j hj => by rw [up_j _ _ _ hj, up_k _ _ _ (by decide), up_k _ _ _ (by decide)]
  have hT : ∀ j, T 177 j = (m_up (m_up (m_up (m_up (m_up (m_up (m_up X 177 3 (X 177 1)) 177 1 0) 177 2 0) 177 4 (-1)) 177 5 0) 177 6 (-1)) 177 47 0) 177 j := fun j => by rw [q177, up_k _ _ _ (by decide), up_k _ _ _ (by decide)]
  refine ⟨m_up (m_up (m_up T 210 0 (-1)) 210 1 (-1)) 177 42 0, ⟨⟨⟨?_, ?_, Nat.zero_le _⟩, ⟨0, ?_, Nat.le_refl _, Nat.zero_le _⟩, ?_, n16, fun j hj => ?_, fun q hq j hj => ?_, ?_⟩, ⟨?_, ?_⟩, ⟨fun c hc => ?_, fun c hc => ?_⟩, ⟨?_, ?_⟩, ?_, ?_⟩, fS, ?_, ?_⟩
  · rw [k177 5 (by decide), hT]; simp [m_up]
  · rw [k177 3 (by decide), hT]; simp [m_up, h1]
  · rw [k177 2 (by decide), hT]; simp [m_up]; rfl
  · rw [if_neg (by decide)]
    left
    rw [k177 4 (by decide), hT]; simp [m_up]
  · rw [fs_k fS (k := 178) (by decide)]; exact hb j hj
  · rw [fs_k fS (k := q.1) (by
      have : ∀ q, q ∈ m_wds → (LBg.all fun r => !(r.1 == q.1)) = true := by decide +kernel
      exact this q hq)]
    exact hw q hq j hj
  · rw [k177 6 (by decide), hT]; simp [m_up]
  · rw [up_k _ _ _ (by decide), up_k _ _ _ (by decide), up_k _ _ _ (by decide), q205]; simp [m_up]
  · rw [up_k _ _ _ (by decide), up_k _ _ _ (by decide), up_k _ _ _ (by decide), q205]; simp [m_up]
  · rw [up_k _ _ _ (by decide), up_k _ _ _ (by decide), up_k _ _ _ (by decide)]; exact t4 c hc
  · rw [up_k _ _ _ (by decide), up_k _ _ _ (by decide), up_k _ _ _ (by decide)]; exact t5 c hc
  · simp [m_up]
  · simp [m_up]
  · exact up_e _ _ _ _
  · rw [k177 47 (by decide), hT]; simp [m_up]
  · rw [k177 1 (by decide), hT]; simp [m_up]
  · unfold F_MD_slope
    simp only [bnd]
    rw [t1]
    simp only [Option.bind_some]
    cases F_MD_slopeTold (m_up (m_up (m_up T 210 0 (-1)) 210 1 (-1)) 177 42 0) <;> rfl
end LE6
