/-! see -/
section L92
variable {I X Z B : MI} {J : MJ} {sl sd : Nat} {p : CF} {tb : Nat → Nat} {n : Nat}
def s_G (p : CF) (tb : Nat → Nat) (n : Nat) : Prop := 0 < cC p ∧ 0 < n ∧ n % 3 = 0 ∧ n / 3 ≤ 16 ∧ s_all p tb (n / 3)
theorem see_114 (X : MI) (v : Int32) : F_MD_see_114 X v 0 = some (-1, m_up X 179 1 (X 179 1 + 1)) := by
  unfold F_MD_see_114
  rw [if_pos rfl]
  unfold F_MD_refuses
  rw [show (1 : Int32) = nI 1 from rfl, gd_n (by decide) (by decide), gd_n (by decide) (by decide)]
  rfl
theorem see_39 (X : MI) (v : Int32) : F_MD_see_39 X v = some (-1, m_up X 179 1 (X 179 1 + 1)) := by
  unfold F_MD_see_39 F_MD_see_40
  have e : wl (fun s : Int32 × Int32 => F_MD_see_43 X v s.1 s.2) ((0 : Int32), (0 : Int32)) = some 0 := by
    refine wl_in ?_
    simp only [F_MD_see_43]
    split
    · rfl
    · rw [if_pos trivial]
  rw [e]
  exact see_114 X v
theorem see_m (ho : CO p) (hm : CM X p) (ht : X 177 49 = bI (decide (0 < cC p))) (h : TP X n tb) (e : X 177 1 = nI n) : (¬ s_G p tb n → F_MD_see X = some (-1, m_up (m_up X 177 1 0) 179 1 (X 179 1 + 1))) ∧ (s_G p tb n → ∃ Y, F_MD_see X = some (nI (n / 3), m_up Y 177 59 (nI (n / 3))) ∧ (∀ j, j < n → Y 217 j = s_w tb j) ∧ ∀ k, k ≠ 217 → Y k = m_up X 177 1 0 k) := by
  have h1 := h.1
  have hm2 : CM (m_up X 177 1 0) p := CM_c hm (fun k hk => up_k _ _ _ (by omega))
  have ht2 : (m_up X 177 1 0) 177 49 = bI (decide (0 < cC p)) := by rw [up_j _ _ _ (by decide)]; exact ht
  have hT2 : TP (m_up X 177 1 0) n tb := ⟨h1, fun j hj => by rw [up_k _ _ _ (by decide), up_k _ _ _ (by decide)]; exact h.2 j hj⟩
  have e79 : (m_up X 177 1 0) 179 1 = X 179 1 := by rw [up_k _ _ _ (by decide)]
  have hd : n / 3 ≤ n := Nat.div_le_self _ _
  have a1 : m_rem (nI n) (3 : Int32) = nI (n % 3) := rem_n (b := 3) (by omega) (by decide) (by decide)
  have a2 : nI n / (3 : Int32) = nI (n / 3) := nDiv (b := 3) (by omega) (by decide)
  have bad := see_39 (m_up X 177 1 0) (nI n)
  rw [e79] at bad
  have eS : F_MD_see X = if 0 < cC p then (if 0 < n then (if n % 3 = 0 then (if 16 < n / 3 then F_MD_see_39 (m_up X 177 1 0) (nI n) else F_MD_see_40 (m_up X 177 1 0) (nI n) 1) else F_MD_see_39 (m_up X 177 1 0) (nI n)) else F_MD_see_39 (m_up X 177 1 0) (nI n)) else F_MD_see_39 (m_up X 177 1 0) (nI n) := by
    unfold F_MD_see
    rw [e, ht, a1, a2]
    by_cases c1 : 0 < cC p
    · rw [decide_eq_true c1, if_neg (show ¬ bI true = 0 by decide), if_pos c1]
      by_cases c2 : 0 < n
      · rw [if_neg (show ¬ nI n ≤ 0 from nI_ge (a := 0) c2 (by omega)), if_pos c2]
        by_cases c3 : n % 3 = 0
        · rw [c3, if_pos (show nI 0 = 0 from rfl), if_pos rfl]
          by_cases c4 : 16 < n / 3
          · rw [if_pos (show (16 : Int32) < nI (n / 3) from nI_lt (a := 16) c4 (by omega)), if_pos c4]
          · rw [if_neg (show ¬ (16 : Int32) < nI (n / 3) from nI_nlt (a := 16) (b := n / 3) (by omega) (by omega)), if_neg c4]
        · rw [if_neg (fun z => c3 (by have := congrArg Int32.toNatClampNeg z; rw [nI_clamp (by omega)] at this; exact this)), if_neg c3]
      · rw [show n = 0 by omega, if_pos (show nI 0 ≤ 0 by decide), if_neg (by omega)]
    · rw [decide_eq_false c1, if_pos (show bI false = 0 from rfl), if_neg c1]
  have e40 : n % 3 = 0 → wl (fun s : Int32 × Int32 => F_MD_see_43 (m_up X 177 1 0) (nI n) s.1 s.2) ((1 : Int32), (0 : Int32)) = some (@ite _ (s_all p tb (n / 3)) (Classical.propDecidable _) 1 0) := fun c3 => see_m1 ho hm2 ht2 hT2 (m := n / 3) (by omega) (n / 3) 0 (by omega) (fun k hk => absurd hk (by omega))
  refine ⟨fun g => ?_, fun g => ?_⟩
  · rw [eS, bad]
    by_cases c1 : 0 < cC p
    · rw [if_pos c1]
      by_cases c2 : 0 < n
      · rw [if_pos c2]
        by_cases c3 : n % 3 = 0
        · rw [if_pos c3]
          by_cases c4 : 16 < n / 3
          · rw [if_pos c4]
          · rw [if_neg c4]
            unfold F_MD_see_40
            rw [e40 c3, if_neg (show ¬ s_all p tb (n / 3) from fun z => g ⟨c1, c2, c3, by omega, z⟩)]
            simp only [Option.bind_some]
            rw [see_114, e79]
        · rw [if_neg c3]
      · rw [if_neg c2]
    · rw [if_neg c1]
  · obtain ⟨c1, c2, c3, c4, c5⟩ := g
    obtain ⟨Y, ey, y1, y2⟩ := see_m2 hT2 (m := n / 3) (by omega) c4
    refine ⟨Y, ?_, y1, y2⟩
    rw [eS, if_pos c1, if_pos c2, if_pos c3, if_neg (by omega)]
    unfold F_MD_see_40
    rw [e40 c3, if_pos c5]
    simp only [Option.bind_some]
    unfold F_MD_see_114
    rw [if_neg (by decide), ey, a2]
    rfl
end L92
