/-! the reference puts a new slope up, whole -/
abbrev LUp : List (Nat × Option Nat) := [(177, some 43), (177, some 49), (177, some 59), (177, some 66), (204, some 2), (204, some 3), (205, some 2), (205, some 3), (207, none), (210, some 2), (210, some 3), (211, some 2), (211, some 3), (212, none), (213, none)]
section LE5
variable {I X Y Z V A : MI} {J : MJ} {sd n e td cn : Nat} {p : CF} {w : WD} {nm : Nat → List Nat} {L : List Nat}
def s210P (v : Nat) (B B0 : MI) : Prop := (∀ q, q ≠ 213 → B q = B0 q) ∧ (∀ f, f < v → B 213 (7 + 8 * f) = B0 209 (7 * f) ∧ ∀ c, c < 6 → B 213 (9 + 8 * f + c) = B0 209 (7 * f + 1 + c)) ∧ (∀ f, B 213 (8 + 8 * f) = B0 213 (8 + 8 * f)) ∧ ∀ j, j < 7 ∨ 7 + 8 * v ≤ j → B 213 j = B0 213 j
theorem s210 {F : Nat} (hF : F ≤ 6) (B0 : MI) (h : B0 205 0 = nI F) : ∃ Z, wl (fun s : Int32 × MI => F_MD_stands_210 s.2 s.1) ((0 : Int32), B0) = some Z ∧ s210P F Z B0 := by
  have lp : ∀ d v (B : MI), v + d = F → s210P v B B0 → ∃ Z, wl (fun s : Int32 × MI => F_MD_stands_210 s.2 s.1) (nI v, B) = some Z ∧ s210P F Z B0 := by
    intro d
    induction d with
    | zero =>
      intro v B hv hP
      have e : v = F := by omega
      subst e
      refine ⟨B, wl_in ?_, hP⟩
      show F_MD_stands_210 B (nI v) = _
      unfold F_MD_stands_210
      rw [hP.1 205 (by decide), h, if_pos (Int32.le_refl _)]
    | succ d ih =>
      intro v B hv hP
      have i1 : (7 : Int32) * nI v = nI (7 * v) := (Int32.ofNat_mul 7 v).symm
      obtain ⟨Z, z1, z2, z3⟩ := s243 (f := v) (by omega) (m_up B 213 (7 + 8 * v) (B 209 (7 * v)))
      have st : F_MD_stands_210 B (nI v) = some (.inl (nI (v + 1), Z)) := by
        unfold F_MD_stands_210
        rw [hP.1 205 (by decide), h, if_neg (nI_ge (by omega) (by omega)), i1, ad_age, gd_n (by omega) (by decide), gd_n (by omega) (by decide), nI_clamp (by omega), nI_clamp (by omega), z1, nI_s]; rfl
      have zz : ∀ j, Z 213 j = if 9 + 8 * v ≤ j ∧ j < 9 + 8 * v + 6 then B0 209 (7 * v + 1 + (j - (9 + 8 * v))) else if j = 7 + 8 * v then B0 209 (7 * v) else B 213 j := fun j => by
        rw [z3 j]
        by_cases y : 9 + 8 * v ≤ j ∧ j < 9 + 8 * v + 6
        · rw [if_pos y, if_pos y, up_k _ _ _ (by decide), hP.1 209 (by decide)]
        · rw [if_neg y, if_neg y]
          by_cases y2 : j = 7 + 8 * v
          · rw [if_pos y2, y2, up_e, hP.1 209 (by decide)]
          · rw [if_neg y2, up_j _ _ _ y2]
      have hP' : s210P (v + 1) Z B0 := by
        refine ⟨fun q hq => by rw [z2 q hq, up_k _ _ _ hq]; exact hP.1 q hq, fun f hf => ?_, fun f => ?_, fun j hj => ?_⟩
        · by_cases y : f = v
          · subst y
            refine ⟨by rw [zz, if_neg (by omega), if_pos rfl], fun c hc => ?_⟩
            rw [zz, if_pos (by omega), show 9 + 8 * f + c - (9 + 8 * f) = c by omega]
          · obtain ⟨q1, q2⟩ := hP.2.1 f (by omega)
            refine ⟨by rw [zz, if_neg (by omega), if_neg (by omega)]; exact q1, fun c hc => ?_⟩
            rw [zz, if_neg (by omega), if_neg (by omega)]; exact q2 c hc
        · rw [zz, if_neg (by omega), if_neg (by omega)]; exact hP.2.2.1 f
        · rw [zz, if_neg (by omega), if_neg (by omega)]; exact hP.2.2.2 j (by omega)
      obtain ⟨W, w1, w2⟩ := ih (v + 1) Z (by omega) hP'
      exact ⟨W, (wl_st st).trans w1, w2⟩
  exact lp F 0 B0 (by omega) ⟨fun _ _ => rfl, fun f hf => by omega, fun _ => rfl, fun _ _ => rfl⟩
theorem stands_m (hi : DrI p w td nm L) (hD : DrM Y J p w td nm L cn) : ∃ Y2 J2, F_MD_stands Y J = some (Y2, J2) ∧ CM Y2 p ∧ CN Y2 p ∧ WM Y2 p w ∧ Y2 213 55 = 0 ∧ (Y2 177 43 = nI td ∧ Y2 177 49 = 1 ∧ Y2 177 66 = 0 ∧ Y2 177 59 = 0) ∧ (∀ f, f < cF p → J2 206 (6 + f) = lN (n27 (nm f) 0)) ∧ fsL LUp Y2 Y ∧ ∀ k, k ≠ 206 → J2 k = J k := by
  obtain ⟨⟨ho, hC1, hR4, hQ⟩, ⟨hv, hx, hy0, hk0, h12⟩, hi3, hi4, hi5⟩ := hi
  have hF := ho.2.2.1; have hC := ho.1
  obtain ⟨A1, a1, a2, a3, a4, a5⟩ := s7 (m_up Y 177 49 1)
  have fA : fsL LUp A1 Y := fs_tr (fs_sub (by decide) a2) (fs_up (LX := LUp) (by decide) (by decide) (fs_r Y))
  have kA : ∀ {k j : Nat}, k ≠ 177 → m_up Y 177 49 1 k j = Y k j := fun hk => by rw [up_k _ _ _ hk]
  obtain ⟨A2, J2, b1, b2, b3, b4⟩ := s76 A1 J
  have f2 : fsL [(207, none)] A2 A1 := fs_fr (P := fun q => q = 207) (fun q hq => b2.1 q hq) (fun q hq => by subst hq; simp)
  have fM : fsL [(177, some 43)] (m_up A2 177 43 (A2 177 42)) A2 := fs_up (LX := [(177, some 43)]) (by decide) (by decide) (fs_r A2)
  have f3' : fsL LUp (m_up A2 177 43 (A2 177 42)) Y := fs_tr (fs_sub (by decide) fM) (fs_tr (fs_sub (by decide) f2) fA)
  have m43 : m_up A2 177 43 (A2 177 42) 177 43 = nI td := by rw [up_e, f2 177 42 (by decide), fA 177 42 (by decide)]; exact hD.2.2.1.1
  obtain ⟨A3, c1, c2⟩ := s128 hi5 (m_up A2 177 43 (A2 177 42)) (by rw [f3' 177 47 (by decide)]; exact hD.2.2.2.2.2.1)
  have f3 : fsL [(212, none)] A3 (m_up A2 177 43 (A2 177 42)) := fs_fr (P := fun q => q = 212) (fun q hq => c2.1 q hq) (fun q hq => by subst hq; simp)
  obtain ⟨A4, d1, d2⟩ := s160 A3
  have f4 : fsL [(213, none)] A4 A3 := fs_fr (P := fun q => q = 213) (fun q hq => d2.1 q hq) (fun q hq => by subst hq; simp)
  obtain ⟨A5, e1, e2⟩ := s182 A4
  have f5 : fsL [(213, none)] A5 A4 := fs_fr (P := fun q => q = 213) (fun q hq => e2.1 q hq) (fun q hq => by subst hq; simp)
  have f5Y : fsL LUp A5 Y := fs_tr (fs_sub (by decide) f5) (fs_tr (fs_sub (by decide) f4) (fs_tr (fs_sub (by decide) f3) f3'))
  obtain ⟨A6, g1, g2⟩ := s210 hF A5 (by rw [f5Y 205 0 (by decide)]; exact hD.1.2.2.1)
  have f6 : fsL [(213, none)] A6 A5 := fs_fr (P := fun q => q = 213) (fun q hq => g2.1 q hq) (fun q hq => by subst hq; simp)
  have fE : fsL [(177, some 66), (177, some 59)] (m_up (m_up A6 177 66 0) 177 59 0) A6 := fs_up (LX := [(177, some 66), (177, some 59)]) (by decide) (by decide) (fs_up (LX := [(177, some 66), (177, some 59)]) (by decide) (by decide) (fs_r A6))
  have fY : fsL LUp (m_up (m_up A6 177 66 0) 177 59 0) Y := fs_tr (fs_sub (by decide) fE) (fs_tr (fs_sub (by decide) f6) f5Y)
  have f61 : fsL [(213, none), (212, none), (177, some 43), (207, none), (177, some 66), (177, some 59)] (m_up (m_up A6 177 66 0) 177 59 0) A1 := fs_tr (fs_sub (by decide) fE) (fs_tr (fs_sub (by decide) f6) (fs_tr (fs_sub (by decide) f5) (fs_tr (fs_sub (by decide) f4) (fs_tr (fs_sub (by decide) f3) (fs_tr (fs_sub (by decide) fM) (fs_sub (by decide) f2))))))
  have z5 : ∀ j, j < 176 → A4 213 j = 0 := fun j hj => by rw [d2.2 j, if_pos (by omega)]
  have k213 : ∀ j, (m_up (m_up A6 177 66 0) 177 59 0) 213 j = A6 213 j := fun j => by rw [up_k _ _ _ (by decide), up_k _ _ _ (by decide)]
  have k212 : ∀ i, i < L.length → (m_up (m_up A6 177 66 0) 177 59 0) 212 (1600 + i) = nI (L.getD i 0) := fun i hi' => by
    rw [up_k _ _ _ (by decide), up_k _ _ _ (by decide), fs_k f6 (by decide), fs_k f5 (by decide), fs_k f4 (by decide), c2.2, if_pos (by omega), show 1600 + i - 1600 = i by omega]
    show m_up A2 177 43 (A2 177 42) 212 i = _
    rw [up_k _ _ _ (by decide), fs_k f2 (by decide), fs_k a2 (by decide), kA (by decide)]
    exact hD.2.2.2.2.2.2 i hi'
  have cod : ∀ v cs, v < 2 → rgM Y v L cs → codM (m_up (m_up A6 177 66 0) 177 59 0) v cs := fun v cs hv2 hr => by
    unfold rgM at hr
    unfold codM
    have e210 : (m_up (m_up A6 177 66 0) 177 59 0) 210 (2 + v) = Y 210 v := by
      rw [fs_k f61 (k := 210) (by decide)]
      rcases (by omega : v = 0 ∨ v = 1) with z | z <;> subst z
      · exact a4.1.trans (kA (by decide))
      · exact a4.2.trans (kA (by decide))
    have e211 : (m_up (m_up A6 177 66 0) 177 59 0) 211 (2 + v) = Y 211 v := by
      rw [fs_k f61 (k := 211) (by decide)]
      rcases (by omega : v = 0 ∨ v = 1) with z | z <;> subst z
      · exact a5.1.trans (kA (by decide))
      · exact a5.2.trans (kA (by decide))
    rw [e210, e211]
    by_cases y : cs = []
    · rw [if_pos y] at hr ⊢; exact hr
    · rw [if_neg y] at hr ⊢
      obtain ⟨i, r1, r2, r3, r4⟩ := hr
      refine ⟨i, r1, r2, by omega, fun j hj => ?_⟩
      rw [k212 (i + j) (by omega), r4 j hj]
  refine ⟨m_up (m_up A6 177 66 0) 177 59 0, J2, ?_, ⟨?_, ?_, ?_, fun c hc => ?_⟩, ⟨cod 0 _ (by decide) hD.2.2.2.2.1.1, cod 1 _ (by decide) hD.2.2.2.2.1.2⟩, ⟨?_, fun f hf => ?_, fun f hf => ?_, fun c hc => ?_, fun f c hf hc => ?_⟩, ?_, ⟨?_, ?_, ?_, ?_⟩, fun f hf => ?_, fY, b3⟩
  · unfold F_MD_stands
    rw [a1]
    simp only [Option.bind_some]
    rw [b1]
    simp only [Option.bind_some]
    rw [c1]
    simp only [Option.bind_some]
    rw [d1]
    simp only [Option.bind_some]
    rw [e1]
    simp only [Option.bind_some]
    rw [g1]; rfl
  · rw [fs_k f61 (k := 204) (by decide), a3.1, kA (by decide)]; exact hD.1.1
  · rw [fs_k f61 (k := 204) (by decide), a3.2.1, kA (by decide)]; exact hD.1.2.1
  · rw [fs_k f61 (k := 205) (by decide), a3.2.2, kA (by decide)]; exact hD.1.2.2.1
  · rw [up_k _ _ _ (by decide), up_k _ _ _ (by decide), fs_k f6 (by decide), fs_k f5 (by decide), fs_k f4 (by decide), fs_k f3 (by decide), up_k _ _ _ (by decide), b2.2, if_pos (by omega), show 6 + c - 6 = c by omega]
    show A1 207 c = _
    rw [fs_k a2 (by decide), kA (by decide)]; exact hD.2.1.1 c hc
  · rw [k213, g2.2.2.2 0 (by omega), e2.2, if_neg (by omega), z5 0 (by decide)]; exact hy0.symm
  · rw [k213, g2.2.2.1 f, e2.2, if_neg (by omega), z5 _ (by omega)]; exact (hk0 f).symm
  · rw [k213, (g2.2.1 f hf).1, fs_k f5Y (by decide)]; exact hD.2.1.2.2.1 f hf
  · rw [k213, g2.2.2.2 (1 + c) (by omega), e2.2, if_pos (by omega), show 1 + c - 1 = c by omega]
    show A4 208 c = _
    rw [fs_k f4 (by decide), fs_k f3 (by decide), fs_k f3' (by decide)]; exact hD.2.1.2.1 c hc
  · rw [k213, (g2.2.1 f hf).2 c (by omega), fs_k f5Y (by decide)]; exact hD.2.1.2.2.2 f c hf hc
  · rw [k213, g2.2.2.2 55 (by omega), e2.2, if_neg (by omega), z5 55 (by decide)]
  · rw [fE 177 43 (by decide), fs_k f6 (k := 177) (by decide), fs_k f5 (k := 177) (by decide), fs_k f4 (k := 177) (by decide), fs_k f3 (k := 177) (by decide)]; exact m43
  · rw [f61 177 49 (by decide), fs_k a2 (k := 177) (by decide), up_e]
  · rw [up_j _ _ _ (by decide), up_e]
  · rw [up_e]
  · rw [b4, if_pos (by omega), show 6 + f - 6 = f by omega]; exact hD.2.2.2.1 f hf
end LE5
