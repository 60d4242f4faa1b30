/-! the reference puts a new slope up -/
def cpd (k a v : Nat) (f : Nat → Int32) (B B0 : MI) : Prop := (∀ q, q ≠ k → B q = B0 q) ∧ ∀ j, B k j = if a ≤ j ∧ j < a + v then f (j - a) else B0 k j
theorem cp_l {bd : MI → Int32 → Option ((Int32 × MI) ⊕ (MI))} {k a N : Nat} {f : Nat → Int32} {B0 : MI} (hb : ∀ v B, v < N → cpd k a v f B B0 → bd B (nI v) = some (.inl (nI (v + 1), m_up B k (a + v) (f v)))) (he : ∀ B, cpd k a N f B B0 → bd B (nI N) = some (.inr B)) : ∃ Z, wl (fun s : Int32 × MI => bd s.2 s.1) ((0 : Int32), B0) = some Z ∧ cpd k a N f Z B0 := by
  have lp : ∀ d v (B : MI), v + d = N → cpd k a v f B B0 → ∃ Z, wl (fun s : Int32 × MI => bd s.2 s.1) (nI v, B) = some Z ∧ cpd k a N f Z B0 := by
    intro d
    induction d with
    | zero =>
      intro v B hv h
      have e : v = N := by omega
      subst e
      exact ⟨B, wl_in (he B h), h⟩
    | succ d ih =>
      intro v B hv h
      obtain ⟨Z, z1, z2⟩ := ih (v + 1) (m_up B k (a + v) (f v)) (by omega) ⟨fun q hq => by rw [up_k _ _ _ hq]; exact h.1 q hq, fun j => by
        by_cases z : j = a + v
        · subst z; rw [up_e, if_pos (by omega), show a + v - a = v by omega]
        · rw [up_j _ _ _ z, h.2 j]
          by_cases y : a ≤ j ∧ j < a + v
          · rw [if_pos y, if_pos (by omega)]
          · rw [if_neg y, if_neg (by omega)]⟩
      exact ⟨Z, (wl_st (hb v B (by omega) h)).trans z1, z2⟩
  exact lp N 0 B0 (by omega) ⟨fun _ _ => rfl, fun j => by rw [if_neg (by omega)]⟩
section LE4
variable {I X Y Z V A : MI} {J : MJ} {sd n e td cn : Nat} {p : CF} {w : WD} {nm : Nat → List Nat} {L : List Nat}
theorem s7 (B0 : MI) : ∃ Z, wl (fun s : Int32 × MI => F_MD_stands_7 s.2 s.1) ((0 : Int32), B0) = some Z ∧ fsL [(204, some 2), (204, some 3), (205, some 2), (205, some 3), (210, some 2), (210, some 3), (211, some 2), (211, some 3)] Z B0 ∧ (Z 204 2 = B0 204 0 ∧ Z 204 3 = B0 204 1 ∧ Z 205 2 = B0 205 0) ∧ (Z 210 2 = B0 210 0 ∧ Z 210 3 = B0 210 1) ∧ (Z 211 2 = B0 211 0 ∧ Z 211 3 = B0 211 1) := by
  have st : ∀ v (B : MI), v < 2 → F_MD_stands_7 B (nI v) = some (.inl (nI (v + 1), m_up (m_up (m_up (m_up B 204 (2 + v) (B 204 v)) 205 (2 + v) (B 205 v)) 210 (2 + v) (B 210 v)) 211 (2 + v) (B 211 v))) := by
    intro v B hv
    have e2 : (2 : Int32) + nI v = nI (2 + v) := nI_add 2 v
    unfold F_MD_stands_7
    rw [if_neg (show ¬ (2 : Int32) ≤ nI v from nI_ge (b := 2) hv (by decide)), e2]
    simp only [gd_n (show v < 4 by omega) (show (4 : Nat) < 2 ^ 31 by decide), gd_n (show 2 + v < 4 by omega) (show (4 : Nat) < 2 ^ 31 by decide), nI_clamp (show v < 2 ^ 31 by omega), nI_clamp (show 2 + v < 2 ^ 31 by omega), nI_s, bnd]
    rw [up_k _ _ _ (show (210 : Nat) ≠ 205 by decide), up_k _ _ _ (show (210 : Nat) ≠ 204 by decide), up_k _ _ _ (show (211 : Nat) ≠ 205 by decide), up_k _ _ _ (show (211 : Nat) ≠ 204 by decide)]
  have en : ∀ B : MI, F_MD_stands_7 B (nI 2) = some (.inr B) := fun B => by
    unfold F_MD_stands_7
    rw [if_pos (by decide)]
  have r0 := st 0 B0 (by decide)
  have r1 := fun B => st 1 B (by decide)
  refine ⟨_, (wl_st r0).trans ((wl_st (r1 _)).trans (wl_in (en _))), ?_, ⟨?_, ?_, ?_⟩, ⟨?_, ?_⟩, ?_, ?_⟩
  · refine fs_up (LX := [(211, some 3)]) (by decide) (by decide) (fs_up (LX := [(210, some 3)]) (by decide) (by decide) (fs_up (LX := [(205, some 3)]) (by decide) (by decide) (fs_up (LX := [(204, some 3)]) (by decide) (by decide) (fs_up (LX := [(211, some 2)]) (by decide) (by decide) (fs_up (LX := [(210, some 2)]) (by decide) (by decide) (fs_up (LX := [(205, some 2)]) (by decide) (by decide) (fs_up (LX := [(204, some 2)]) (by decide) (by decide) (fs_r B0))))))))
  all_goals simp [m_up]
theorem s76 (B0 : MI) (J0 : MJ) : ∃ Z J', wl (fun s : Int32 × MI × MJ => F_MD_stands_76 s.2.1 s.2.2 s.1) ((0 : Int32), B0, J0) = some (Z, J') ∧ cpd 207 6 6 (fun i => B0 207 i) Z B0 ∧ (∀ k, k ≠ 206 → J' k = J0 k) ∧ ∀ j, J' 206 j = if 6 ≤ j ∧ j < 12 then J0 206 (j - 6) else J0 206 j := by
  have lp : ∀ d v (B : MI) (J : MJ), v + d = 6 → cpd 207 6 v (fun i => B0 207 i) B B0 → (∀ k, k ≠ 206 → J k = J0 k) → (∀ j, J 206 j = if 6 ≤ j ∧ j < 6 + v then J0 206 (j - 6) else J0 206 j) → ∃ Z J', wl (fun s : Int32 × MI × MJ => F_MD_stands_76 s.2.1 s.2.2 s.1) (nI v, B, J) = some (Z, J') ∧ cpd 207 6 6 (fun i => B0 207 i) Z B0 ∧ (∀ k, k ≠ 206 → J' k = J0 k) ∧ ∀ j, J' 206 j = if 6 ≤ j ∧ j < 12 then J0 206 (j - 6) else J0 206 j := by
    intro d
    induction d with
    | zero =>
      intro v B J hv h1 h2 h3
      have e : v = 6 := by omega
      subst e
      refine ⟨B, J, wl_in ?_, h1, h2, h3⟩
      show F_MD_stands_76 B J (nI 6) = _
      unfold F_MD_stands_76
      rw [if_pos (by decide)]
    | succ d ih =>
      intro v B J hv h1 h2 h3
      have st : F_MD_stands_76 B J (nI v) = some (.inl (nI (v + 1), m_up B 207 (6 + v) (B0 207 v), m_up J 206 (6 + v) (J0 206 v))) := by
        unfold F_MD_stands_76
        rw [if_neg (show ¬ (6 : Int32) ≤ nI v from nI_ge (b := 6) (by omega) (by decide)), ad_6]
        simp only [gd_n (show v < 12 by omega) (show (12 : Nat) < 2 ^ 31 by decide), gd_n (show 6 + v < 12 by omega) (show (12 : Nat) < 2 ^ 31 by decide), nI_clamp (show v < 2 ^ 31 by omega), nI_clamp (show 6 + v < 2 ^ 31 by omega), nI_s]
        rw [h1.2 v, if_neg (by omega), h3 v, if_neg (by omega)]
      obtain ⟨Z, J', z1, z2⟩ := ih (v + 1) (m_up B 207 (6 + v) (B0 207 v)) (m_up J 206 (6 + v) (J0 206 v)) (by omega) ⟨fun q hq => by rw [up_k _ _ _ hq]; exact h1.1 q hq, fun j => by
        by_cases z : j = 6 + v
        · subst z; rw [up_e, if_pos (by omega), show 6 + v - 6 = v by omega]
        · rw [up_j _ _ _ z, h1.2 j]
          by_cases y : 6 ≤ j ∧ j < 6 + v
          · rw [if_pos y, if_pos (by omega)]
          · rw [if_neg y, if_neg (by omega)]⟩ (fun k hk => by rw [up_k _ _ _ hk]; exact h2 k hk) (fun j => by
        by_cases z : j = 6 + v
        · subst z; rw [up_e, if_pos (by omega), show 6 + v - 6 = v by omega]
        · rw [up_j _ _ _ z, h3 j]
          by_cases y : 6 ≤ j ∧ j < 6 + v
          · rw [if_pos y, if_pos (by omega)]
          · rw [if_neg y, if_neg (by omega)])
      exact ⟨Z, J', (wl_st st).trans z1, z2⟩
  exact lp 6 0 B0 J0 (by omega) ⟨fun _ _ => rfl, fun j => by rw [if_neg (by omega)]⟩ (fun _ _ => rfl) (fun j => by rw [if_neg (by omega)])
theorem s128 {l : Nat} (hl : l ≤ 1600) (B0 : MI) (h : B0 177 47 = nI l) : ∃ Z, wl (fun s : Int32 × MI => F_MD_stands_128 s.2 s.1) ((0 : Int32), B0) = some Z ∧ cpd 212 1600 l (fun i => B0 212 i) Z B0 := by
  refine cp_l (fun v B hv hc => ?_) (fun B hc => ?_)
  · unfold F_MD_stands_128
    have e : (1600 : Int32) + nI v = nI (1600 + v) := nI_add 1600 v
    rw [hc.1 177 (by decide), h, if_neg (nI_ge hv (by omega)), e, gd_n (by omega) (by decide), gd_n (by omega) (by decide), nI_clamp (by omega), nI_clamp (by omega), nI_s, hc.2 v, if_neg (by omega)]
  · unfold F_MD_stands_128
    rw [hc.1 177 (by decide), h, if_pos (Int32.le_refl _)]
theorem s160 (B0 : MI) : ∃ Z, wl (fun s : Int32 × MI => F_MD_stands_160 s.2 s.1) ((0 : Int32), B0) = some Z ∧ cpd 213 0 176 (fun _ => 0) Z B0 := by
  refine cp_l (fun v B hv hc => ?_) (fun B hc => ?_)
  · unfold F_MD_stands_160
    rw [if_neg (show ¬ (176 : Int32) ≤ nI v from nI_ge (b := 176) hv (by decide)), gd_n hv (by decide), nI_clamp (by omega), nI_s, Nat.zero_add]
  · unfold F_MD_stands_160
    rw [if_pos (by decide)]
theorem s182 (B0 : MI) : ∃ Z, wl (fun s : Int32 × MI => F_MD_stands_182 s.2 s.1) ((0 : Int32), B0) = some Z ∧ cpd 213 1 6 (fun i => B0 208 i) Z B0 := by
  refine cp_l (fun v B hv hc => ?_) (fun B hc => ?_)
  · unfold F_MD_stands_182
    have e : (1 : Int32) + nI v = nI (1 + v) := nI_add 1 v
    rw [if_neg (show ¬ (6 : Int32) ≤ nI v from nI_ge (b := 6) hv (by decide)), e, gd_n hv (by decide), gd_n (by omega) (by decide), nI_clamp (by omega), nI_clamp (by omega), nI_s, hc.1 208 (by decide)]
  · unfold F_MD_stands_182
    rw [if_pos (by decide)]
theorem s243 {f : Nat} (hf : f < 6) (B0 : MI) : ∃ Z, wl (fun s : Int32 × MI => F_MD_stands_243 s.2 (nI f) s.1) ((0 : Int32), B0) = some Z ∧ cpd 213 (9 + 8 * f) 6 (fun i => B0 209 (7 * f + 1 + i)) Z B0 := by
  refine cp_l (bd := fun B v => F_MD_stands_243 B (nI f) v) (fun v B hv hc => ?_) (fun B hc => ?_)
  · show F_MD_stands_243 B (nI f) (nI v) = _
    unfold F_MD_stands_243
    have i1 : (7 : Int32) * nI f = nI (7 * f) := (Int32.ofNat_mul 7 f).symm
    have i2 : (((7 : Int32) * nI f) + 1) + nI v = nI (7 * f + 1 + v) := by rw [i1, nI_s]; exact nI_add _ _
    rw [if_neg (show ¬ (6 : Int32) ≤ nI v from nI_ge (b := 6) hv (by decide)), i2, ad_row, gd_n (by omega) (by decide), gd_n (by omega) (by decide), nI_clamp (by omega), nI_clamp (by omega), nI_s, hc.1 209 (by decide)]; rfl
  · show F_MD_stands_243 B (nI f) (nI 6) = _
    unfold F_MD_stands_243
    rw [if_pos (by decide)]
end LE4
