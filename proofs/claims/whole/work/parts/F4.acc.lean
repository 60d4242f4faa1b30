/-! the answers of the fences, taken together -/
def stepA (k f : Nat) (v : Int) (a : Int64) : Int64 :=
  if k = 0 then (if a = -1 then (if v = 0 then a else xL (f : Int)) else a)
  else if k = 1 then (if v = 0 then a else xL (f : Int))
  else if k = 4 then (if f = 0 then xL v else if a < xL v then xL v else a)
  else if k = 5 then (if f = 0 then xL v else if xL v < a then xL v else a)
  else a + xL v
def accQ (k : Nat) (vv : Nat → Int) (a : Int64) : Nat → Int64
  | 0 => a
  | n + 1 => stepA k n (vv n) (accQ k vv a n)
def cel4 (q : Nat) : Prop := q ≠ 26 ∧ q ≠ 27 ∧ q ≠ 28 ∧ q ≠ 29
abbrev LA4 : List (Nat × Option Nat) := [(177, some 50), (177, some 98), (177, some 100)]
abbrev LA4J : List (Nat × Option Nat) := [(177, some 99), (246, none)]
section LF4
variable {I X Y Z Z' : MI} {J : MJ} {sl sd : Nat}
theorem ans23 {k f : Nat} {v : Int} {a : Int64} (hk : k < 6) (hf : f < 6) (hv : smv v) (h3 : ¬ Z sl 3 ≤ nI f) (hr : F_Walker_reckonQuestion sl sd Z (nI f) = some (xI v, Z')) : F_WF_answer_23 sl sd Z (nI (qw k)) a (nI f) = some (.inl (stepA k f v a, nI (f + 1), Z')) := by
  have eV : (xI v).toInt64 = xL v := xI_L (by have := hv.1; omega) (by have := hv.2; omega)
  have eF : (nI f).toInt64 = xL (f : Int) := by rw [toL, nI_toInt (by omega)]
  have v0 : xI v = 0 ↔ v = 0 := by
    have e0 : (0 : Int32) = xI 0 := by decide
    rw [e0]; exact xI_eq hv (by unfold smv; omega)
  have f0 : nI f = 0 ↔ f = 0 := by rw [show (0 : Int32) = nI 0 from rfl]; exact nI_inj (by omega) (by decide)
  unfold F_WF_answer_23
  rw [if_neg h3, hr]
  simp only [Option.bind_some, nI_s, eV, eF, lg_cmp_eq, v0, f0]
  unfold stepA
  rcases (by omega : k = 0 ∨ k = 1 ∨ k = 2 ∨ k = 3 ∨ k = 4 ∨ k = 5) with z | z | z | z | z | z <;> subst z
  · rw [if_pos (show nI (qw 0) = 16 from rfl), if_pos rfl]
    by_cases y : a = -1
    · rw [if_pos y, if_pos y]
      by_cases x : v = 0
      · rw [if_pos x, if_pos x]
      · rw [if_neg x, if_neg x]
    · rw [if_neg y, if_neg y]
  · rw [if_neg (show ¬ nI (qw 1) = 16 by decide), if_pos (show nI (qw 1) = 24 from rfl), if_neg (show ¬ (1 : Nat) = 0 by decide), if_pos rfl]
    by_cases x : v = 0
    · rw [if_pos x, if_pos x]
    · rw [if_neg x, if_neg x]
  · rw [if_neg (show ¬ nI (qw 2) = 16 by decide), if_neg (show ¬ nI (qw 2) = 24 by decide), if_neg (show ¬ nI (qw 2) = 27 by decide), if_neg (show ¬ nI (qw 2) = 28 by decide), if_neg (show ¬ (2 : Nat) = 0 by decide), if_neg (show ¬ (2 : Nat) = 1 by decide), if_neg (show ¬ (2 : Nat) = 4 by decide), if_neg (show ¬ (2 : Nat) = 5 by decide)]
  · rw [if_neg (show ¬ nI (qw 3) = 16 by decide), if_neg (show ¬ nI (qw 3) = 24 by decide), if_neg (show ¬ nI (qw 3) = 27 by decide), if_neg (show ¬ nI (qw 3) = 28 by decide), if_neg (show ¬ (3 : Nat) = 0 by decide), if_neg (show ¬ (3 : Nat) = 1 by decide), if_neg (show ¬ (3 : Nat) = 4 by decide), if_neg (show ¬ (3 : Nat) = 5 by decide)]
  · rw [if_neg (show ¬ nI (qw 4) = 16 by decide), if_neg (show ¬ nI (qw 4) = 24 by decide), if_pos (show nI (qw 4) = 27 from rfl), if_neg (show ¬ (4 : Nat) = 0 by decide), if_neg (show ¬ (4 : Nat) = 1 by decide), if_pos rfl]
    unfold f_Math_max_JJ
    simp only [lg_cmp_lt]
    by_cases x : f = 0
    · rw [if_pos x, if_pos x]
    · rw [if_neg x, if_neg x]
  · rw [if_neg (show ¬ nI (qw 5) = 16 by decide), if_neg (show ¬ nI (qw 5) = 24 by decide), if_neg (show ¬ nI (qw 5) = 27 by decide), if_pos (show nI (qw 5) = 28 from rfl), if_neg (show ¬ (5 : Nat) = 0 by decide), if_neg (show ¬ (5 : Nat) = 1 by decide), if_neg (show ¬ (5 : Nat) = 4 by decide), if_pos rfl]
    unfold f_Math_min_JJ
    simp only [lg_cmp_gt]
    by_cases x : f = 0
    · rw [if_pos x, if_pos x]
    · rw [if_neg x, if_neg x]
theorem ans_c {k F : Nat} {vv : Nat → Int} (hk : k < 6) (hF : F ≤ 6) (hsl : sl < 20) (h3 : I sl 3 = nI F) (hv : ∀ f, f < F → smv (vv f)) (hr : ∀ f, f < F → ∀ Z : MI, (∀ q, cel4 q → Z q = I q) → ∃ Z', F_Walker_reckonQuestion sl sd Z (nI f) = some (xI (vv f), Z') ∧ ∀ q, cel4 q → Z' q = I q) : ∃ Z', F_WF_answer sl sd I (nI (qw k)) = some (accQ k vv (if k < 2 then -1 else 0) F, Z') ∧ ∀ q, cel4 q → Z' q = I q := by
  have c3 : cel4 sl := by unfold cel4; omega
  have lp : ∀ (a0 : Int64) d f (Z : MI), f + d = F → (∀ q, cel4 q → Z q = I q) → ∃ Z', wl (fun s : Int64 × Int32 × MI => F_WF_answer_23 sl sd s.2.2 (nI (qw k)) s.1 s.2.1) (accQ k vv a0 f, nI f, Z) = some (accQ k vv a0 F, Z') ∧ ∀ q, cel4 q → Z' q = I q := by
    intro a0 d
    induction d with
    | zero =>
      intro f Z hf hZ
      have e : f = F := by omega
      subst e
      refine ⟨Z, wl_in ?_, hZ⟩
      show F_WF_answer_23 sl sd Z (nI (qw k)) (accQ k vv a0 f) (nI f) = _
      unfold F_WF_answer_23
      rw [hZ sl c3, h3, if_pos (Int32.le_refl _)]
    | succ d ih =>
      intro f Z hf hZ
      obtain ⟨Z1, z1, z2⟩ := hr f (by omega) Z hZ
      have st : F_WF_answer_23 sl sd Z (nI (qw k)) (accQ k vv a0 f) (nI f) = some (.inl (accQ k vv a0 (f + 1), nI (f + 1), Z1)) := ans23 hk (by omega) (hv f (by omega)) (by rw [hZ sl c3, h3]; exact nI_ge (by omega) (by omega)) z1
      obtain ⟨Z', y1, y2⟩ := ih (f + 1) Z1 (by omega) z2
      exact ⟨Z', (wl_st st).trans y1, y2⟩
  have l19 : ∀ a0, ∃ Z', F_WF_answer_19 sl sd I (nI (qw k)) a0 = some (accQ k vv a0 F, Z') ∧ ∀ q, cel4 q → Z' q = I q := by
    intro a0
    obtain ⟨Z', y1, y2⟩ := lp a0 F 0 I (by omega) (fun _ _ => rfl)
    refine ⟨Z', ?_, y2⟩
    unfold F_WF_answer_19
    have y1 : wl (fun s : Int64 × Int32 × MI => F_WF_answer_23 sl sd s.2.2 (nI (qw k)) s.1 s.2.1) (a0, (0 : Int32), I) = some (accQ k vv a0 F, Z') := y1
    rw [y1]; rfl
  unfold F_WF_answer F_WF_answer_12
  rcases (by omega : k = 0 ∨ k = 1 ∨ k = 2 ∨ k = 3 ∨ k = 4 ∨ k = 5) with z | z | z | z | z | z <;> subst z
  · rw [if_pos (show nI (qw 0) = 16 from rfl)]; exact l19 (-1)
  · rw [if_neg (show ¬ nI (qw 1) = 16 by decide), if_pos (show nI (qw 1) = 24 from rfl)]; exact l19 (-1)
  · rw [if_neg (show ¬ nI (qw 2) = 16 by decide), if_neg (show ¬ nI (qw 2) = 24 by decide)]; exact l19 0
  · rw [if_neg (show ¬ nI (qw 3) = 16 by decide), if_neg (show ¬ nI (qw 3) = 24 by decide)]; exact l19 0
  · rw [if_neg (show ¬ nI (qw 4) = 16 by decide), if_neg (show ¬ nI (qw 4) = 24 by decide)]; exact l19 0
  · rw [if_neg (show ¬ nI (qw 5) = 16 by decide), if_neg (show ¬ nI (qw 5) = 24 by decide)]; exact l19 0
theorem takes_q {k f : Nat} {v : Int} (hk : k < 6) (hf : f < 6) (hv : smv v) (h01 : k < 3 → v = 0 ∨ v = 1) (h100 : Y 177 100 = if f = 0 then 1 else 0) : ∃ J', F_MD_qTakes Y J (nI k) (xL v) (nI f) = some (m_up Y 177 100 0, J') ∧ J' 177 99 = stepA k f v (J 177 99) ∧ fsL LA4J J' J := by
  have eF : (nI f).toInt64 = xL (f : Int) := by rw [toL, nI_toInt (by omega)]
  have up99 : ∀ x, fsL LA4J (m_up J 177 99 x) J := fun x => fs_up (LX := LA4J) (by decide) (by decide) (fs_r J)
  have e1 : (1 : Int64) = xL 1 := by decide
  have v1 : lg_cmp (xL v) (1 : Int64) = 0 ↔ v = 1 := by rw [lg_cmp_eq, e1]; exact xL_eq (smb hv) (by unfold bgv; omega)
  unfold F_MD_qTakes F_MD_qTakes_15 F_MD_qTakes_16 F_MD_qTakes_38 F_MD_qTakes_48 F_MD_qTakes_55 F_MD_qTakes_75 F_MD_qTakes_90 stepA
  rcases (by omega : k = 0 ∨ k = 1 ∨ k = 2 ∨ k = 3 ∨ k = 4 ∨ k = 5) with z | z | z | z | z | z <;> subst z
  · simp only [v1, show nI 0 = (0 : Int32) from rfl, show ¬ (3 : Int32) ≤ 0 by decide, show ¬ (0 : Int32) = 1 by decide, show ¬ (0 : Int32) = 2 by decide, show ¬ (0 : Int32) = 3 by decide, show (0 : Int32) ≤ 3 by decide, if_true, if_false, lg_cmp_eq, eF, show ¬ (1 : Int32) = 0 by decide]
    rcases h01 (by decide) with x | x
    · subst x
      rw [if_neg (by decide)]
      refine ⟨J, rfl, ?_, fs_r J⟩
      split <;> simp
    · subst x
      rw [if_pos rfl]
      by_cases y : J 177 99 = -1
      · simp only [if_pos y]
        exact ⟨_, rfl, by rw [up_e]; simp, up99 _⟩
      · simp only [if_neg y]
        exact ⟨J, rfl, rfl, fs_r J⟩
  · simp only [v1, show nI 1 = (1 : Int32) from rfl, show ¬ (3 : Int32) ≤ 1 by decide, show ¬ (1 : Int32) = 0 by decide, show ¬ (1 : Int32) = 2 by decide, show ¬ (1 : Int32) = 3 by decide, show (1 : Int32) ≤ 3 by decide, if_true, if_false, lg_cmp_eq, eF, show ¬ (1 : Nat) = 0 by decide]
    rcases h01 (by decide) with x | x
    · subst x
      rw [if_neg (by decide)]
      exact ⟨J, rfl, by simp, fs_r J⟩
    · subst x
      rw [if_pos rfl]
      exact ⟨_, rfl, by rw [up_e]; simp, up99 _⟩
  · simp only [v1, show nI 2 = (2 : Int32) from rfl, show ¬ (3 : Int32) ≤ 2 by decide, show ¬ (2 : Int32) = 0 by decide, show ¬ (2 : Int32) = 1 by decide, show ¬ (2 : Int32) = 3 by decide, show (2 : Int32) ≤ 3 by decide, if_true, if_false, lg_cmp_eq, eF, show ¬ (1 : Int32) = 0 by decide, show ¬ (2 : Nat) = 0 by decide, show ¬ (2 : Nat) = 1 by decide, show ¬ (2 : Nat) = 4 by decide, show ¬ (2 : Nat) = 5 by decide]
    rcases h01 (by decide) with x | x
    · subst x
      rw [if_neg (by decide)]
      exact ⟨J, rfl, by rw [show xL 0 = 0 by decide, Int64.add_zero], fs_r J⟩
    · subst x
      rw [if_pos rfl]
      exact ⟨_, rfl, by rw [up_e, e1], up99 _⟩
  · simp only [show nI 3 = (3 : Int32) from rfl, show (3 : Int32) ≤ 3 by decide, show ¬ (3 : Int32) = 0 by decide, show ¬ (3 : Int32) = 1 by decide, show ¬ (3 : Int32) = 2 by decide, if_true, if_false, show ¬ (3 : Nat) = 0 by decide, show ¬ (3 : Nat) = 1 by decide, show ¬ (3 : Nat) = 4 by decide, show ¬ (3 : Nat) = 5 by decide]
    exact ⟨_, rfl, by rw [up_e], up99 _⟩
  · simp only [show nI 4 = (4 : Int32) from rfl, show (3 : Int32) ≤ 4 by decide, show ¬ (4 : Int32) ≤ 3 by decide, show ¬ (4 : Int32) = 0 by decide, show ¬ (4 : Int32) = 1 by decide, show ¬ (4 : Int32) = 2 by decide, show ¬ (4 : Int32) = 3 by decide, if_true, if_false, show ¬ (4 : Nat) = 0 by decide, show ¬ (4 : Nat) = 1 by decide, h100, lg_cmp_le]
    by_cases x : f = 0
    · simp only [if_pos x]
      rw [if_neg (by decide)]
      exact ⟨_, rfl, by rw [up_e], up99 _⟩
    · simp only [if_neg x]
      rw [if_pos trivial]
      by_cases y : xL v ≤ J 177 99
      · rw [if_pos y, if_neg (Int64.not_lt.mpr y)]
        exact ⟨J, rfl, rfl, fs_r J⟩
      · rw [if_neg y, if_pos (Int64.not_le.mp y)]
        exact ⟨_, rfl, by rw [up_e], up99 _⟩
  · simp only [show nI 5 = (5 : Int32) from rfl, show (3 : Int32) ≤ 5 by decide, show ¬ (5 : Int32) ≤ 3 by decide, show ¬ (5 : Int32) = 0 by decide, show ¬ (5 : Int32) = 1 by decide, show ¬ (5 : Int32) = 2 by decide, show ¬ (5 : Int32) = 3 by decide, show ¬ (5 : Int32) = 4 by decide, if_true, if_false, show ¬ (5 : Nat) = 0 by decide, show ¬ (5 : Nat) = 1 by decide, show ¬ (5 : Nat) = 4 by decide, h100, lg_cmp_ge]
    by_cases x : f = 0
    · simp only [if_pos x]
      rw [if_neg (by decide)]
      exact ⟨_, rfl, by rw [up_e], up99 _⟩
    · simp only [if_neg x]
      rw [if_pos trivial]
      by_cases y : J 177 99 ≤ xL v
      · rw [if_pos y, if_neg (Int64.not_lt.mpr y)]
        exact ⟨J, rfl, rfl, fs_r J⟩
      · rw [if_neg y, if_pos (Int64.not_le.mp y)]
        exact ⟨_, rfl, by rw [up_e], up99 _⟩
theorem ask173 {k F : Nat} {vv : Nat → Int} (hk : k < 6) (hF : F ≤ 6) (h2 : I 205 2 = nI F) (hv : ∀ f, f < F → smv (vv f) ∧ (k < 3 → vv f = 0 ∨ vv f = 1)) (hr : ∀ f, f < F → ∀ (Y : MI) (J : MJ), fsL LA4 Y I → ∃ J', F_MD_qTold Y J (nI f) = some (xL (vv f), m_up Y 177 98 1, J') ∧ fsL [(246, none)] J' J) (a0 : Int64) (J : MJ) : ∃ Y' J', F_MD_ask_173 I J (nI k) a0 = some (accQ k vv a0 F, Y', J') ∧ fsL LA4 Y' I ∧ fsL LA4J J' J := by
  have lp : ∀ d f (Y : MI) (J1 : MJ), f + d = F → fsL LA4 Y I → fsL LA4J J1 J → (Y 177 100 = if f = 0 then 1 else 0) → J1 177 99 = accQ k vv a0 f → ∃ Y' J', wl (fun s : Int32 × MI × MJ => F_MD_ask_188 s.2.1 s.2.2 (nI k) s.1) (nI f, Y, J1) = some (Y', J') ∧ J' 177 99 = accQ k vv a0 F ∧ fsL LA4 Y' I ∧ fsL LA4J J' J := by
    intro d
    induction d with
    | zero =>
      intro f Y J1 hf hY hJ h100 h99
      have e : f = F := by omega
      subst e
      refine ⟨Y, J1, wl_in ?_, h99, hY, hJ⟩
      show F_MD_ask_188 Y J1 (nI k) (nI f) = _
      unfold F_MD_ask_188 F_MD_fenceMany
      simp only [Option.bind_some]
      rw [fs_k hY (k := 205) (by decide), h2, if_pos (Int32.le_refl _)]
    | succ d ih =>
      intro f Y J1 hf hY hJ h100 h99
      obtain ⟨J2, t1, t2⟩ := hr f (by omega) Y J1 hY
      obtain ⟨hv1, hv2⟩ := hv f (by omega)
      obtain ⟨J3, s1, s2, s3⟩ := takes_q (Y := m_up Y 177 98 1) (J := J2) (f := f) hk (by omega) hv1 hv2 (by rw [up_j _ _ _ (by decide)]; exact h100)
      have st : F_MD_ask_188 Y J1 (nI k) (nI f) = some (.inl (nI (f + 1), m_up (m_up Y 177 98 1) 177 100 0, J3)) := by
        unfold F_MD_ask_188 F_MD_fenceMany
        simp only [Option.bind_some]
        rw [fs_k hY (k := 205) (by decide), h2, if_neg (nI_ge (by omega) (by omega)), t1]
        simp only [Option.bind_some]
        rw [s1, nI_s]; rfl
      obtain ⟨Y', J', y1, y2⟩ := ih (f + 1) (m_up (m_up Y 177 98 1) 177 100 0) J3 (by omega) (fs_up (LX := LA4) (by decide) (by decide) (fs_up (LX := LA4) (by decide) (by decide) hY)) (fs_tr s3 (fs_tr (fs_sub (by decide) t2) hJ)) (by rw [up_e, if_neg (by omega)]) (by rw [s2, t2 177 99 (by decide), h99]; rfl)
      exact ⟨Y', J', (wl_st st).trans y1, y2⟩
  obtain ⟨Y', J', y1, y2, y3, y4⟩ := lp F 0 (m_up (m_up I 177 100 1) 177 50 2) (m_up J 177 99 a0) (by omega) (fs_up (LX := LA4) (by decide) (by decide) (fs_up (LX := LA4) (by decide) (by decide) (fs_r I))) (fs_up (LX := LA4J) (by decide) (by decide) (fs_r J)) (by rw [up_j _ _ _ (by decide), up_e, if_pos rfl]) (up_e _ _ _ _)
  refine ⟨Y', J', ?_, y3, y4⟩
  unfold F_MD_ask_173
  have y1 : wl (fun s : Int32 × MI × MJ => F_MD_ask_188 s.2.1 s.2.2 (nI k) s.1) ((0 : Int32), m_up (m_up I 177 100 1) 177 50 2, m_up J 177 99 a0) = some (Y', J') := y1
  rw [y1]
  simp only [Option.bind_some]
  rw [y2]
end LF4
