/-! see -/
section L93
variable {I X Z B : MI} {J : MJ} {sl sd : Nat} {p : CF} {tb : Nat → Nat} {n : Nat}
/-- the class whole -/
theorem see_c (ho : CO p) (hc : CC I sl p) (h : TP I n tb) (e : I 1 1 = nI n) : (¬ s_G p tb n → F_WF_see sl sd I = F_WF_see_33 sl sd I 0) ∧ (s_G p tb n → ∃ Y, F_WF_see sl sd I = some (nI (n / 3), m_up (m_up Y 170 3 (nI (n / 3))) 1 1 0) ∧ (∀ i, i < n / 3 → Y 171 i = nI (tb (3 * i)) ∧ Y 172 i = nI (tb (3 * i + 1)) ∧ Y 173 i = s_v (tb (3 * i + 2))) ∧ ∀ k, k ≠ 171 → k ≠ 172 → k ≠ 173 → Y k = I k) := by
  have h1 := h.1
  have hd : n / 3 ≤ n := Nat.div_le_self _ _
  have a2 : nI n / (3 : Int32) = nI (n / 3) := nDiv (b := 3) (by omega) (by decide)
  have a3 : nI (n / 3) * (3 : Int32) = nI (n / 3 * 3) := nI_m3 _ 3
  have ck : wl (fun s : Int32 => F_Seen_readFrom_33 sl I (nI (n / 3)) s) (0 : Int32) = some (@ite _ (s_all p tb (n / 3)) (Classical.propDecidable _) (.inl ()) (.inr (0, I))) := see_c1 ho hc h e (m := n / 3) (by omega) (n / 3) 0 (by omega) (fun k hk => absurd hk (by omega))
  have three : (nI (n / 3 * 3) = nI n) ↔ n % 3 = 0 := by
    constructor
    · intro z
      have := congrArg Int32.toNatClampNeg z
      rw [nI_clamp (by omega), nI_clamp (by omega)] at this
      omega
    · intro z; rw [show n / 3 * 3 = n by omega]
  refine ⟨fun g => ?_, fun g => ?_⟩
  · unfold F_WF_see
    rw [told_c ho hc]
    by_cases c1 : 0 < cC p
    · rw [decide_eq_true c1, if_neg (show ¬ bI true = 0 by decide)]
      have eR : F_Seen_readFrom sl I = some (0, I) := by
        unfold F_Seen_readFrom
        rw [e, a2, a3]
        by_cases c2 : n / 3 < 1
        · rw [if_pos (show nI (n / 3) < 1 from nI_lt (b := 1) c2 (by decide))]
        rw [if_neg (show ¬ nI (n / 3) < 1 from nI_nlt (b := 1) (by omega) (by omega))]
        by_cases c3 : 16 < n / 3
        · rw [if_pos (show (16 : Int32) < nI (n / 3) from nI_lt (a := 16) c3 (by omega))]
        rw [if_neg (show ¬ (16 : Int32) < nI (n / 3) from nI_nlt (a := 16) (b := n / 3) (by omega) (by omega))]
        by_cases c4 : n % 3 = 0
        · rw [if_pos (three.mpr c4), ck, if_neg (show ¬ s_all p tb (n / 3) from fun z => g ⟨c1, by omega, c4, by omega, z⟩)]
          rfl
        · rw [if_neg (fun z => c4 (three.mp z))]
      rw [eR]
      simp only [Option.bind_some]
      rw [if_pos trivial]
      rfl
    · rw [decide_eq_false c1, if_pos (show bI false = 0 from rfl)]
      rfl
  · obtain ⟨c1, c2, c3, c4, c5⟩ := g
    obtain ⟨Y, ey, y1, y2⟩ := see_c2 (sl := sl) h e (m := n / 3) (by omega) c4
    refine ⟨Y, ?_, y1, y2⟩
    have eR : F_Seen_readFrom sl I = some (1, m_up Y 170 3 (nI (n / 3))) := by
      unfold F_Seen_readFrom
      rw [e, a2, a3, if_neg (show ¬ nI (n / 3) < 1 from nI_nlt (b := 1) (by omega) (by omega)), if_neg (show ¬ (16 : Int32) < nI (n / 3) from nI_nlt (a := 16) (b := n / 3) (by omega) (by omega)), if_pos (three.mpr c3), ck, if_pos c5]
      show (wl (fun s : Int32 × MI => F_Seen_readFrom_116 sl s.2 (nI (n / 3)) s.1) ((0 : Int32), I)).bind _ = _
      rw [ey]
      rfl
    unfold F_WF_see
    rw [told_c ho hc, decide_eq_true c1, if_neg (show ¬ bI true = 0 by decide), eR]
    simp only [Option.bind_some]
    rw [if_neg (by decide)]
    unfold F_WF_see_33
    rw [if_neg (by decide), up_e]
end L93
