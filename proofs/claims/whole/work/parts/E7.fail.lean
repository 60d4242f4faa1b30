/-! a slope that is refused changes nothing that counts -/
abbrev Dsl (sd : Nat) : List (Nat × Option Nat) := [(1, some 1), (19, none), (176, some 1), (sd, none), (sd + 1, none), (sd + 2, none), (sd + 3, none), (sd + 4, none), (sd + 5, none), (sd + 6, none), (sd + 7, none), (177, some 7), (177, some 8), (179, some 1)] ++ LBg ++ LSl
section LE7
variable {I X Y Z V A : MI} {J J' : MJ} {sl sd n e td cn : Nat} {tb : Nat → Nat} {p : CF} {w : WD} {kl : List NT} {un : List (WD × List NT)}
theorem codM_p {v : Nat} {cs : List Nat} (h : codM I v cs) (h1 : Z 210 (2 + v) = I 210 (2 + v)) (h2 : Z 211 (2 + v) = I 211 (2 + v)) (h3 : ∀ j, 1600 ≤ j → Z 212 j = I 212 j) : codM Z v cs := by
  unfold codM at h ⊢
  rw [h1, h2]
  by_cases y : cs = []
  · rw [if_pos y] at h ⊢; exact h
  · rw [if_neg y] at h ⊢
    obtain ⟨a, a1, a2, a3, a4⟩ := h
    exact ⟨a, a1, a2, a3, fun i hi => by rw [h3 _ (by omega)]; exact a4 i hi⟩
theorem Rel_sf (hs : (sl = 3 ∧ sd = 11) ∨ (sl = 11 ∧ sd = 3)) (h : RelX I J sl p w kl un) (hx : fsL (Dsl sd) Z I) (h212 : ∀ j, 1600 ≤ j → Z 212 j = I 212 j) (hJ : FJ J' J) (z1 : Z 1 1 = 0) (z177 : Z 177 1 = 0) (zf : gFault Z) (zr : gRef Z) : RelX Z J' sl p w kl un := by
  obtain ⟨⟨h1, h2, h3, h4, h5⟩, ⟨h6, h7, h8, h9⟩, h10, h11, h12⟩ := h
  have hq : sl = 3 ∨ sl = 11 := by omega
  have ksl : ∀ q, sl ≤ q → q ≤ sl + 7 → Z q = I q := by
    intro q a c
    rcases hs with ⟨r, s⟩ | ⟨r, s⟩ <;> subst r <;> subst s
    · rcases (by omega : q = 3 ∨ q = 4 ∨ q = 5 ∨ q = 6 ∨ q = 7 ∨ q = 8 ∨ q = 9 ∨ q = 10) with z | z | z | z | z | z | z | z <;> subst z <;> exact fs_k hx (by decide)
    · rcases (by omega : q = 11 ∨ q = 12 ∨ q = 13 ∨ q = 14 ∨ q = 15 ∨ q = 16 ∨ q = 17 ∨ q = 18) with z | z | z | z | z | z | z | z <;> subst z <;> exact fs_k hx (by decide)
  have cell : ∀ k j, inL (Dsl 3) k j = false → inL (Dsl 11) k j = false → Z k j = I k j := by
    intro k j a c
    rcases hs with ⟨r, s⟩ | ⟨r, s⟩ <;> subst r <;> subst s
    · exact hx k j c
    · exact hx k j a
  obtain ⟨h7a, ⟨c1, c2, c3, c4⟩, c5, c6, nm, c7⟩ := h7
  have gS : gSlope Z J' sl p := by
    refine ⟨h7a, ⟨CC_c c1 ksl, CD_c c2 ksl, ⟨?_, ?_, ?_, fun c hc => ?_⟩, codM_p c4.1 ?_ ?_ h212, codM_p c4.2 ?_ ?_ h212⟩, ?_, ?_, nm, fun f hf => ?_⟩
    · rw [cell 204 2 (by decide) (by decide)]; exact c3.1
    · rw [cell 204 3 (by decide) (by decide)]; exact c3.2.1
    · rw [cell 205 2 (by decide) (by decide)]; exact c3.2.2.1
    · have : Z 207 (6 + c) = I 207 (6 + c) := by
        rcases (by omega : c = 0 ∨ c = 1 ∨ c = 2 ∨ c = 3 ∨ c = 4 ∨ c = 5) with z | z | z | z | z | z <;> subst z <;> exact cell _ _ (by decide) (by decide)
      rw [this]; exact c3.2.2.2 c hc
    · exact cell 210 2 (by decide) (by decide)
    · exact cell 211 2 (by decide) (by decide)
    · exact cell 210 3 (by decide) (by decide)
    · exact cell 211 3 (by decide) (by decide)
    · rw [cell 177 49 (by decide) (by decide)]; exact c5
    · rw [ksl sl (by omega) (by omega), cell 177 43 (by decide) (by decide)]; exact c6
    · obtain ⟨d1, d2, d3, d4, d5⟩ := c7 f hf
      refine ⟨d1, d2, d3, by rw [hJ 206 (6 + f) (Or.inr (by omega))]; exact d4, fun k hk => ?_⟩
      rw [ksl (sl + 2) (by omega) (by omega)]; exact d5 k hk
  have t0 : gTape Z := ⟨0, fun _ => 0, by omega, z1, z177, fun j hj => absurd hj (by omega)⟩
  rcases hs with ⟨r, s⟩ | ⟨r, s⟩ <;> subst r <;> subst s
  · exact ⟨⟨t0, zf, zr, gImg_c (ag_of (by decide) hx) h4, gSeed_c (ag_of (by decide) hx) (hJ 177 68 (Or.inl (by decide))) h5⟩, ⟨gSeen_c (ag_of (by decide) hx) h6, gS, gNow_c (ag_of (by decide) hx) h8, gHist_c (ag_of (by decide +kernel) hx) h9⟩, gIron_c (ag_of (by decide) hx) h10, (cell 177 55 (by decide) (by decide)).trans h11, gWord_c (ag_of (by decide +kernel) hx) h12⟩
  · exact ⟨⟨t0, zf, zr, gImg_c (ag_of (by decide) hx) h4, gSeed_c (ag_of (by decide) hx) (hJ 177 68 (Or.inl (by decide))) h5⟩, ⟨gSeen_c (ag_of (by decide) hx) h6, gS, gNow_c (ag_of (by decide) hx) h8, gHist_c (ag_of (by decide +kernel) hx) h9⟩, gIron_c (ag_of (by decide) hx) h10, (cell 177 55 (by decide) (by decide)).trans h11, gWord_c (ag_of (by decide +kernel) hx) h12⟩
end LE7
