/-! slope -/
section LE8
variable {I X Y Z V A : MI} {J J' : MJ} {sl sd n e td cn : Nat} {R : MRR} {tb : Nat → Nat} {p : CF} {w : WD} {nm : Nat → List Nat} {L : List Nat}
theorem FC_D (hs : sd = 3 ∨ sd = 11) (h : FC sd X I) : fsL (Dsl sd) X I := by
  rcases hs with s | s <;> subst s
  · refine fs_fr (P := fun q => q = 19 ∨ (3 ≤ q ∧ q ≤ 10)) (fun q hq => h q (by have : ¬ (q = 19 ∨ (3 ≤ q ∧ q ≤ 10)) := hq; omega) (by have : ¬ (q = 19 ∨ (3 ≤ q ∧ q ≤ 10)) := hq; omega)) (fun q hq => ?_)
    have hq : q = 19 ∨ (3 ≤ q ∧ q ≤ 10) := hq
    rcases (by omega : q = 19 ∨ q = 3 ∨ q = 4 ∨ q = 5 ∨ q = 6 ∨ q = 7 ∨ q = 8 ∨ q = 9 ∨ q = 10) with z | z | z | z | z | z | z | z | z <;> subst z <;> decide
  · refine fs_fr (P := fun q => q = 19 ∨ (11 ≤ q ∧ q ≤ 18)) (fun q hq => h q (by have : ¬ (q = 19 ∨ (11 ≤ q ∧ q ≤ 18)) := hq; omega) (by have : ¬ (q = 19 ∨ (11 ≤ q ∧ q ≤ 18)) := hq; omega)) (fun q hq => ?_)
    have hq : q = 19 ∨ (11 ≤ q ∧ q ≤ 18) := hq
    rcases (by omega : q = 19 ∨ q = 11 ∨ q = 12 ∨ q = 13 ∨ q = 14 ∨ q = 15 ∨ q = 16 ∨ q = 17 ∨ q = 18) with z | z | z | z | z | z | z | z | z <;> subst z <;> decide
theorem sub_D (hs : sd = 3 ∨ sd = 11) : subL LBg (Dsl sd) = true ∧ subL LSl (Dsl sd) = true := by rcases hs with s | s <;> subst s <;> exact ⟨by decide, by decide⟩
theorem wds_ge : ∀ q, q ∈ m_wds → 177 ≤ q.1 := by decide +kernel
/-- the class refused the text -/
theorem slope_no (hs : (sl = 3 ∧ sd = 11) ∨ (sl = 11 ∧ sd = 3)) (hr : Rel I J sl) {k at' : Nat} (kk : 1 ≤ k ∧ k < 100) {G : MI → MJ → Option (MI × MJ)} (hG : G = fun Y J => (F_MD_slopeTold Y).bind fun r3 => wl (fun s : MI × MJ => F_MD_slope_108 s.1 s.2) (m_up r3 177 48 1, J)) (n16 : n ≤ 1600) (t2 : I 177 1 = nI n) (t3 : ∀ j, j < n → tb j < 256 ∧ I 178 j = nI (tb j)) (s1 : F_Reader_readSlope sd I = some (0, X)) (s2 : FTt X k at') (s3 : FC sd X I) (s5 : ∀ Y J, QP Y tb n 0 false ∧ D0M Y → ∃ Y' J', G Y J = some (Y', J') ∧ MFt Y' k at' ∧ FS Y' Y ∧ FJ J' J) : ∃ I1 I2 J2, F_WF_slope sl sd R I = some (-1, I1, m_up R 19 4 (some (8, 0, sd))) ∧ F_MD_slope I1 J = some (-1, I2, J2) ∧ Rel I2 J2 sl := by
  obtain ⟨hq, p, w, kl, un, h⟩ := hr
  have hq2 : sd = 3 ∨ sd = 11 := by omega
  obtain ⟨dB, dS⟩ := sub_D hq2
  have fX := FC_D hq2 s3
  have hW := h.2.2.2.2.1
  have hRf := h.1.2.2.1
  have e1 : F_WF_refuse sl sd (m_up X 1 1 0) (nI 1) = some (-1, m_up (m_up X 1 1 0) 176 1 ((m_up X 1 1 0) 176 1 + 1)) := refuse_c (by decide)
  have e1 : F_WF_refuse sl sd (m_up X 1 1 0) 1 = some (-1, m_up (m_up X 1 1 0) 176 1 ((m_up X 1 1 0) 176 1 + 1)) := e1
  have x176 : (m_up X 1 1 0) 176 = I 176 := by rw [up_k _ _ _ (by decide)]; exact s3 176 (by decide) (by omega)
  have kI : ∀ q, 177 ≤ q → (m_up (m_up X 1 1 0) 176 1 ((m_up X 1 1 0) 176 1 + 1)) q = I q := fun q hq' => by rw [up_k _ _ _ (by omega), up_k _ _ _ (by omega)]; exact s3 q (by omega) (by omega)
  have i176 : ∀ j, (m_up (m_up X 1 1 0) 176 1 ((m_up X 1 1 0) 176 1 + 1)) 176 j = if j = 1 then I 176 1 + 1 else I 176 j := fun j => by
    by_cases z : j = 1
    · subst z; rw [up_e, if_pos rfl, x176]
    · rw [up_j _ _ _ z, if_neg z, x176]
  have i1 : (m_up (m_up X 1 1 0) 176 1 ((m_up X 1 1 0) 176 1 + 1)) 1 1 = 0 := by rw [up_k _ _ _ (by decide), up_e]
  have i19 : (m_up (m_up X 1 1 0) 176 1 ((m_up X 1 1 0) 176 1 + 1)) 19 = X 19 := by rw [up_k _ _ _ (by decide), up_k _ _ _ (by decide)]
  have fI : fsL (Dsl sd) (m_up (m_up X 1 1 0) 176 1 ((m_up X 1 1 0) 176 1 + 1)) I := by
    rcases hq2 with s | s <;> subst s <;> exact fs_up (LX := [(176, some 1)]) (by decide) (by decide) (fs_up (LX := [(1, some 1)]) (by decide) (by decide) fX)
  have eC : F_WF_slope sl sd R I = some (-1, m_up (m_up X 1 1 0) 176 1 ((m_up X 1 1 0) 176 1 + 1), m_up R 19 4 (some (8, 0, sd))) := by
    unfold F_WF_slope
    rw [s1]
    simp only [Option.bind_some]
    rw [if_pos trivial, e1]; rfl
  generalize m_up (m_up X 1 1 0) 176 1 ((m_up X 1 1 0) 176 1 + 1) = I1 at *
  obtain ⟨S, q1, q2, q3, q4⟩ := start_m (X := I1) (J := J) (tb := tb) n16 (by rw [kI 177 (by omega)]; exact t2) (fun j hj => by rw [kI 178 (by omega)]; exact t3 j hj) (fun q hq' j hj => by rw [kI q.1 (wds_ge q hq')]; exact hW q hq' j hj)
  obtain ⟨Y1, J1, y1, y2, y3, y4⟩ := s5 S J q1
  rw [hG] at y1
  have y1 : ((F_MD_slopeTold S).bind fun r3 => wl (fun s : MI × MJ => F_MD_slope_108 s.1 s.2) (m_up r3 177 48 1, J)) = some (Y1, J1) := y1
  rw [y1] at q4
  simp only [Option.bind_some] at q4
  unfold F_MD_slope_130 at q4
  rw [if_neg (mf_ne y2 kk.1 kk.2)] at q4
  refine ⟨I1, _, J1, eC, q4, hq, p, w, kl, un, ?_⟩
  have k179 : ∀ j, Y1 179 j = I 179 j := fun j => by rw [fs_k y3.1 (k := 179) (by decide), fs_k q2 (k := 179) (by decide), kI 179 (by omega)]
  have k176 : ∀ j, Y1 176 j = if j = 1 then I 176 1 + 1 else I 176 j := fun j => by rw [fs_k y3.1 (k := 176) (by decide), fs_k q2 (k := 176) (by decide)]; exact i176 j
  have k19 : Y1 19 = X 19 := by rw [fs_k y3.1 (k := 19) (by decide), fs_k q2 (k := 19) (by decide)]; exact i19
  have fY : fsL (Dsl sd) Y1 I := fs_tr (fs_sub dS y3.1) (fs_tr (fs_sub dB q2) fI)
  have fZ : fsL (Dsl sd) (m_up (m_up (m_up Y1 177 7 (Y1 177 5)) 177 8 (Y1 177 6)) 179 1 (Y1 179 1 + 1)) I := by
    rcases hq2 with s | s <;> subst s <;> exact fs_up (LX := [(179, some 1)]) (by decide) (by decide) (fs_up (LX := [(177, some 8)]) (by decide) (by decide) (fs_up (LX := [(177, some 7)]) (by decide) (by decide) fY))
  refine Rel_sf hs h fZ (fun j hj => ?_) y4 ?_ ?_ ⟨?_, ?_⟩ (fun j hj => ?_)
  · rw [up_k _ _ _ (by decide), up_k _ _ _ (by decide), up_k _ _ _ (by decide), y3.2 j hj, fs_k q2 (k := 212) (by decide), kI 212 (by omega)]
  · rw [up_k _ _ _ (by decide), up_k _ _ _ (by decide), up_k _ _ _ (by decide), fs_k y3.1 (k := 1) (by decide), fs_k q2 (k := 1) (by decide)]; exact i1
  · rw [up_k _ _ _ (by decide), up_j _ _ _ (by decide), up_j _ _ _ (by decide), y3.1 177 1 (by decide)]; exact q3
  · rw [up_k _ _ _ (by decide), up_k _ _ _ (by decide), up_k _ _ _ (by decide), k19, up_k _ _ _ (by decide), up_j _ _ _ (by decide), up_e, s2.1, y2.1]
  · rw [up_k _ _ _ (by decide), up_k _ _ _ (by decide), up_k _ _ _ (by decide), k19, up_k _ _ _ (by decide), up_e, s2.2, y2.2]
  · rw [up_k _ _ _ (by decide), up_k _ _ _ (by decide), up_k _ _ _ (by decide), k176]
    by_cases z : j = 1
    · subst z; rw [if_pos rfl, up_e, k179, hRf 1 (by decide)]
    · rw [if_neg z, up_j _ _ _ z, up_k _ _ _ (by decide), up_k _ _ _ (by decide), k179]; exact hRf j hj
end LE8
