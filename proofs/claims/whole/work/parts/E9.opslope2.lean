/-! slope, told well -/
section LE9
variable {I X Y Z V A : MI} {J J' : MJ} {sl sd n e td cn : Nat} {R : MRR} {tb : Nat → Nat} {p : CF} {w : WD} {nm : Nat → List Nat} {L : List Nat}
theorem rgC_cod {a b : Nat} {cs : List Nat} (h : rgC X sd a b L cs) (hl : L.length ≤ 1600) (hr : ∀ i, i < L.length → X (sd + 7) i = nI (q_tau (L.getD i 0))) : codC X sd a b cs := by
  unfold rgC at h
  unfold codC
  by_cases y : cs = []
  · rw [if_pos y] at h ⊢; exact h
  · rw [if_neg y] at h ⊢
    obtain ⟨i, h1, h2, h3, h4⟩ := h
    exact ⟨i, h1, h2, by omega, fun j hj => by rw [hr (i + j) (by omega), h4 j hj]⟩
theorem slope_yes (hs : (sl = 3 ∧ sd = 11) ∨ (sl = 11 ∧ sd = 3)) (hr : Rel I J sl) {G : MI → MJ → Option (MI × MJ)} (hG : G = fun Y J => (F_MD_slopeTold Y).bind fun r3 => wl (fun s : MI × MJ => F_MD_slope_108 s.1 s.2) (m_up r3 177 48 1, J)) (n16 : n ≤ 1600) (t2 : I 177 1 = nI n) (t3 : ∀ j, j < n → tb j < 256 ∧ I 178 j = nI (tb j)) (s1 : F_Reader_readSlope sd I = some (1, X)) (dX : DrC X sd p w td nm L cn) (iX : DrI p w td nm L) (s3 : FC sd X I) (s4 : X 19 1 = 0 ∧ X 19 2 = -1) (s5 : ∀ Y J, QP Y tb n 0 false ∧ D0M Y → ∃ Y' J', G Y J = some (Y', J') ∧ (Y' 177 5 = 0 ∧ Y' 177 6 = -1) ∧ DrM Y' J' p w td nm L cn ∧ FS Y' Y ∧ FJ J' J) : ∃ a I1 I2 J2, F_WF_slope sl sd R I = some (a, I1, m_up (m_up (m_up (m_up R 19 4 (some (8, 0, sd))) 0 2 (some (8, 0, sl))) 0 1 (some (8, 0, sd))) 24 1 (some (8, 0, sd))) ∧ F_MD_slope I1 J = some (a, I2, J2) ∧ Rel I2 J2 sd := by
  obtain ⟨hq, p0, w0, kl, un, h⟩ := hr
  have hq2 : sd = 3 ∨ sd = 11 := by omega
  obtain ⟨⟨h1, h2, h3, h4, h5⟩, ⟨h6, h7, h8, h9⟩, h10, h11, h12⟩ := h
  obtain ⟨-, hHC, hHM⟩ := gHist_i.mp h9
  obtain ⟨-, nx, x1, x2, -⟩ := hHC
  obtain ⟨-, ne, y1', y2', -⟩ := hHM
  have kT : ∀ q, q < 20 ∨ 23 < q → w_take (m_up X 1 1 0) 20 (sd + 3) q = m_up X 1 1 0 q := fun q hq' => take_k _ _ _ hq'
  have wT : WC (w_take (m_up X 1 1 0) 20 (sd + 3)) 20 w := take_c (WC_c dX.1.2 (fun q a c => up_k _ _ _ (by omega))) (by omega)
  have eB : F_WF_beginAnew (sd + 3) (m_up X 1 1 0) = some (m_up (m_up (m_up (m_up (w_take (m_up X 1 1 0) 20 (sd + 3)) 45 1 0) 45 2 0) 47 3 0) 30 7 (-1)) := by
    unfold F_WF_beginAnew F_History_clear; rfl
  have eC : F_WF_slope sl sd R I = some ((m_up (m_up (m_up (m_up (m_up (w_take (m_up X 1 1 0) 20 (sd + 3)) 45 1 0) 45 2 0) 47 3 0) 30 7 (-1)) 170 3 0) sd 0, m_up (m_up (m_up (m_up (m_up (w_take (m_up X 1 1 0) 20 (sd + 3)) 45 1 0) 45 2 0) 47 3 0) 30 7 (-1)) 170 3 0, m_up (m_up (m_up (m_up R 19 4 (some (8, 0, sd))) 0 2 (some (8, 0, sl))) 0 1 (some (8, 0, sd))) 24 1 (some (8, 0, sd))) := by
    unfold F_WF_slope
    rw [s1]
    simp only [Option.bind_some]
    rw [if_neg (by decide), eB]; rfl
  have kZ : ∀ q, q ≠ 45 → q ≠ 47 → q ≠ 30 → q ≠ 170 → (m_up (m_up (m_up (m_up (m_up (w_take (m_up X 1 1 0) 20 (sd + 3)) 45 1 0) 45 2 0) 47 3 0) 30 7 (-1)) 170 3 0) q = w_take (m_up X 1 1 0) 20 (sd + 3) q := fun q a c d f => by rw [up_k _ _ _ f, up_k _ _ _ d, up_k _ _ _ c, up_k _ _ _ a, up_k _ _ _ a]
  have kX : ∀ q, q ≠ 45 → q ≠ 47 → q ≠ 30 → q ≠ 170 → q ≠ 1 → (q < 20 ∨ 23 < q) → (m_up (m_up (m_up (m_up (m_up (w_take (m_up X 1 1 0) 20 (sd + 3)) 45 1 0) 45 2 0) 47 3 0) 30 7 (-1)) 170 3 0) q = X q := fun q a c d f g i => by rw [kZ q a c d f, kT q i, up_k _ _ _ g]
  have z1 : (m_up (m_up (m_up (m_up (m_up (w_take (m_up X 1 1 0) 20 (sd + 3)) 45 1 0) 45 2 0) 47 3 0) 30 7 (-1)) 170 3 0) 1 1 = 0 := by rw [kZ 1 (by decide) (by decide) (by decide) (by decide), kT 1 (by omega), up_e]
  have z2 : (m_up (m_up (m_up (m_up (m_up (w_take (m_up X 1 1 0) 20 (sd + 3)) 45 1 0) 45 2 0) 47 3 0) 30 7 (-1)) 170 3 0) 2 = X 2 := kX 2 (by decide) (by decide) (by decide) (by decide) (by decide) (by omega)
  have z45 : ∀ j, j = 1 ∨ j = 2 → (m_up (m_up (m_up (m_up (m_up (w_take (m_up X 1 1 0) 20 (sd + 3)) 45 1 0) 45 2 0) 47 3 0) 30 7 (-1)) 170 3 0) 45 j = 0 := fun j hj => by
    rw [up_k _ _ _ (by decide), up_k _ _ _ (by decide), up_k _ _ _ (by decide)]
    rcases hj with z | z <;> subst z
    · rw [up_j _ _ _ (by decide), up_e]
    · rw [up_e]
  have z47 : (m_up (m_up (m_up (m_up (m_up (w_take (m_up X 1 1 0) 20 (sd + 3)) 45 1 0) 45 2 0) 47 3 0) 30 7 (-1)) 170 3 0) 47 3 = 0 := by rw [up_k _ _ _ (by decide), up_k _ _ _ (by decide), up_e]
  have z472 : (m_up (m_up (m_up (m_up (m_up (w_take (m_up X 1 1 0) 20 (sd + 3)) 45 1 0) 45 2 0) 47 3 0) 30 7 (-1)) 170 3 0) 47 2 = X 47 2 := by rw [up_k _ _ _ (by decide), up_k _ _ _ (by decide), up_j _ _ _ (by decide), up_k _ _ _ (by decide), up_k _ _ _ (by decide), kT 47 (by omega), up_k _ _ _ (by decide)]
  have z30 : (m_up (m_up (m_up (m_up (m_up (w_take (m_up X 1 1 0) 20 (sd + 3)) 45 1 0) 45 2 0) 47 3 0) 30 7 (-1)) 170 3 0) 30 7 = -1 := by rw [up_k _ _ _ (by decide), up_e]
  have z170 : (m_up (m_up (m_up (m_up (m_up (w_take (m_up X 1 1 0) 20 (sd + 3)) 45 1 0) 45 2 0) 47 3 0) 30 7 (-1)) 170 3 0) 170 3 = 0 := up_e _ _ _ _
  have wZ : WC (m_up (m_up (m_up (m_up (m_up (w_take (m_up X 1 1 0) 20 (sd + 3)) 45 1 0) 45 2 0) 47 3 0) 30 7 (-1)) 170 3 0) 20 w := WC_c wT (fun q a c => kZ q (by omega) (by omega) (by omega) (by omega))
  generalize m_up (m_up (m_up (m_up (m_up (w_take (m_up X 1 1 0) 20 (sd + 3)) 45 1 0) 45 2 0) 47 3 0) 30 7 (-1)) 170 3 0 = I1 at *
  have kI : ∀ q, 171 ≤ q → I1 q = I q := fun q hq' => by rw [kX q (by omega) (by omega) (by omega) (by omega) (by omega) (by omega)]; exact s3 q (by omega) (by omega)
  have ksd : ∀ q, sd ≤ q → q ≤ sd + 7 → I1 q = X q := fun q a c => kX q (by omega) (by omega) (by omega) (by omega) (by omega) (by omega)
  obtain ⟨S, q1, q2, q3, q4⟩ := start_m (X := I1) (J := J) (tb := tb) n16 (by rw [kI 177 (by omega)]; exact t2) (fun j hj => by rw [kI 178 (by omega)]; exact t3 j hj) (fun q hq' j hj => by rw [kI q.1 (by have := wds_ge q hq'; omega)]; exact h12.1 q hq' j hj)
  obtain ⟨Y1, J1, y1, y2, y3, y4, y5⟩ := s5 S J q1
  rw [hG] at y1
  have y1 : ((F_MD_slopeTold S).bind fun r3 => wl (fun s : MI × MJ => F_MD_slope_108 s.1 s.2) (m_up r3 177 48 1, J)) = some (Y1, J1) := y1
  rw [y1] at q4
  simp only [Option.bind_some] at q4
  unfold F_MD_slope_130 at q4
  rw [if_pos y2.1] at q4
  have fP : fsL [(177, some 7), (177, some 8)] (m_up (m_up Y1 177 7 (Y1 177 5)) 177 8 (Y1 177 6)) Y1 := fs_up (LX := [(177, some 8)]) (by decide) (by decide) (fs_up (LX := [(177, some 7)]) (by decide) (by decide) (fs_r Y1))
  have dP : DrM (m_up (m_up Y1 177 7 (Y1 177 5)) 177 8 (Y1 177 6)) J1 p w td nm L cn := by
    have d0 := y3
    unfold DrM rgM at d0 ⊢
    rw [fs_k fP (k := 204) (by decide), fs_k fP (k := 205) (by decide), fs_k fP (k := 207) (by decide), fs_k fP (k := 208) (by decide), fs_k fP (k := 209) (by decide), fs_k fP (k := 210) (by decide), fs_k fP (k := 211) (by decide), fs_k fP (k := 212) (by decide), fP 177 42 (by decide), fP 177 47 (by decide), fP 177 48 (by decide)]
    exact d0
  obtain ⟨Y2, J2, u1, u2, u3, u4, u5, u6, u7, u8, u9⟩ := stands_m iX dP
  rw [u1] at q4
  simp only [Option.bind_some] at q4
  have e48 : Y2 177 48 = I1 sd 0 := by rw [u8 177 48 (by decide), dP.2.2.1.2, ksd sd (by omega) (by omega)]; exact dX.2.1.1.symm
  rw [e48] at q4
  have fT : fsL ([(177, some 7), (177, some 8)] ++ LUp ++ LSl ++ LBg) Y2 I1 := fs_tr (fs_sub (by decide) u8) (fs_tr (fs_sub (by decide) fP) (fs_tr (fs_sub (by decide) y4.1) (fs_sub (by decide) q2)))
  have kY : ∀ q, q < 177 → Y2 q = I1 q := fun q hq' => fs_k fT (by
    simp only [LUp, LSl, LBg, LQ5, LQ2, LQ, LM, LSt, List.cons_append, List.nil_append, List.all_cons, List.all_nil, Bool.and_true, Bool.and_eq_true, Bool.not_eq_true', beq_eq_false_iff_ne]
    omega)
  obtain ⟨⟨ho, hC1, hR4, hQ⟩, ⟨hv, hx, hy0, hk0, h12'⟩, hi3, hi4, hi5⟩ := iX
  have kI2 : ∀ q, q ≠ 45 → q ≠ 47 → q ≠ 30 → q ≠ 170 → q ≠ 1 → q ≠ 19 → (q < 20 ∨ 23 < q) → (q < sd ∨ sd + 7 < q) → q < 177 → Y2 q = I q := fun q a c d f g i k l m => by rw [kY q m, kX q a c d f g k]; exact s3 q i l
  have cM : ∀ k j, inL ([(177, some 7), (177, some 8)] ++ LUp ++ LSl ++ LBg) k j = false → 177 ≤ k → Y2 k j = I k j := fun k j a c => by rw [fT k j a, kI k (by omega)]
  have s178 : Y2 178 = I 178 := by rw [fs_k fT (k := 178) (by decide), kI 178 (by omega)]
  refine ⟨I1 sd 0, I1, Y2, J2, eC, q4, hq2, p, w, [], [], ⟨⟨0, fun _ => 0, by omega, ?_, ?_, fun j hj => absurd hj (by omega)⟩, ⟨?_, ?_⟩, fun j hj => ?_, ?_, ?_⟩, ⟨⟨[], by decide, ?_, ?_, fun i hi => absurd hi (by simp)⟩, ⟨⟨ho, hQ, fun z => by omega, fun _ => hR4⟩, ⟨?_, ⟨?_, ?_⟩, u2, u3⟩, ?_, ⟨?_, ?_, ?_⟩, nm, fun f hf => ?_⟩, ⟨⟨hv, hx, fun x hx => (by cases hx)⟩, ?_, u4, ⟨by decide, ?_, 0, by decide, ?_, fun i hi => absurd hi (by simp)⟩, ⟨u5, by decide, fun i hi => absurd hi (by simp)⟩⟩, gHist_i.mpr ⟨⟨by decide, fun q hq => (by cases hq)⟩, ⟨?_, nx, x1, ?_, fun i hi => absurd hi (by simp)⟩, ⟨u6.2.2.1, ne, y1', ?_, fun i hi => absurd hi (by simp)⟩⟩⟩, ?_, ?_, fun q hq' j hj => ?_, fun j => ?_⟩
  · rw [kY 1 (by decide)]; exact z1
  · rw [u8 177 1 (by decide), fP 177 1 (by decide), y4.1 177 1 (by decide)]; exact q3
  · rw [kY 19 (by decide), kX 19 (by decide) (by decide) (by decide) (by decide) (by decide) (by omega), s4.1, u8 177 7 (by decide), up_j _ _ _ (by decide), up_e]; exact y2.1.symm
  · rw [kY 19 (by decide), kX 19 (by decide) (by decide) (by decide) (by decide) (by decide) (by omega), s4.2, u8 177 8 (by decide), up_e]; exact y2.2.symm
  · rw [kI2 176 (by decide) (by decide) (by decide) (by decide) (by decide) (by decide) (by omega) (by omega) (by decide), fs_k fT (k := 179) (by decide), kI 179 (by omega)]; exact h3 j hj
  · obtain ⟨m, tb2, g1, g2, g3, g4⟩ := h4
    refine ⟨m, tb2, g1, ?_, ?_, fun j hj => ?_⟩
    · rw [kI2 174 (by decide) (by decide) (by decide) (by decide) (by decide) (by decide) (by omega) (by omega) (by decide)]; exact g2
    · rw [cM 177 102 (by decide) (by decide)]; exact g3
    · rw [kI2 175 (by decide) (by decide) (by decide) (by decide) (by decide) (by decide) (by omega) (by omega) (by decide), fs_k fT (k := 247) (by decide), kI 247 (by omega)]; exact g4 j hj
  · obtain ⟨sd', g1, g2, g3⟩ := h5
    refine ⟨sd', g1, ?_, ?_⟩
    · rw [kI2 0 (by decide) (by decide) (by decide) (by decide) (by decide) (by decide) (by omega) (by omega) (by decide)]; exact g2
    · rw [u9 177 (by decide), y5 177 68 (Or.inl (by decide))]; exact g3
  · rw [kY 170 (by decide)]; exact z170
  · exact u6.2.2.2
  · exact CC_c dX.1.1 (fun q a c => by rw [kY q (by omega), ksd q a c])
  · have := rgC_cod dX.2.2.2.1.1 hi5 dX.2.2.2.2.2
    unfold codC at this ⊢
    rw [kY sd (by omega), kY (sd + 7) (by omega), ksd sd (by omega) (by omega), ksd (sd + 7) (by omega) (by omega)]; exact this
  · have := rgC_cod dX.2.2.2.1.2 hi5 dX.2.2.2.2.2
    unfold codC at this ⊢
    rw [kY sd (by omega), kY (sd + 7) (by omega), ksd sd (by omega) (by omega), ksd (sd + 7) (by omega) (by omega)]; exact this
  · rw [u6.2.1, decide_eq_true (show 0 < cC p by omega)]; rfl
  · rw [kY sd (by omega), ksd sd (by omega) (by omega), dX.2.1.2]; exact u6.1.symm
  · rw [kY sd (by omega), ksd sd (by omega) (by omega), dX.2.1.2]; exact nI_pos' (by omega)
  · rw [kY sd (by omega), ksd sd (by omega) (by omega), dX.2.1.2]; exact nI_le (b := 100) hi3 (by decide)
  · obtain ⟨g1, g2, g3⟩ := hi4 f hf
    refine ⟨g1, g2, g3, u7 f hf, fun k hk => ?_⟩
    rw [kY (sd + 2) (by omega), ksd (sd + 2) (by omega) (by omega)]; exact dX.2.2.1 f hf k hk
  · exact WC_c wZ (fun q a c => kY q (by omega))
  · rw [kY 45 (by decide)]; exact z45 2 (Or.inr rfl)
  · rw [kY 45 (by decide)]; exact z45 1 (Or.inl rfl)
  · rw [kY 47 (by decide)]; exact z47
  · rw [kY 47 (by decide), z472, s3 47 (by decide) (by omega)]; exact x2
  · rw [cM 177 67 (by decide) (by decide)]; exact y2'
  · intro f m hf _ _ _ e30
    exfalso
    rw [kY 30 (by decide), z30] at e30
    have hF := ho.2.2.1
    have := nI_pos' (n := f) (by omega)
    rw [← e30] at this
    exact absurd this (by decide)
  · rw [cM 177 55 (by decide) (by decide)]; exact h11
  · have hw2 : ∀ q, q ∈ m_wds → (([(177, some 7), (177, some 8)] ++ LUp ++ LSl ++ LBg).all fun r => !(r.1 == q.1)) = true := by decide +kernel
    rw [fs_k fT (hw2 q hq'), kI q.1 (by have := wds_ge q hq'; omega)]; exact h12.1 q hq' j hj
  · rw [kI2 2 (by decide) (by decide) (by decide) (by decide) (by decide) (by decide) (by omega) (by omega) (by decide)]; exact h12.2 j
end LE9
