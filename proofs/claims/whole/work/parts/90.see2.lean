/-! see: the reference's check, and what both write down -/
section L90
variable {I X Z B : MI} {J : MJ} {sl sd : Nat} {p : CF} {tb : Nat → Nat} {n : Nat}
theorem see_m1 (ho : CO p) (hm : CM I p) (ht : I 177 49 = bI (decide (0 < cC p))) (h : TP I n tb) {m : Nat} (hn : n = 3 * m) : ∀ d k, k + d = m → s_all p tb k → wl (fun s : Int32 × Int32 => F_MD_see_43 I (nI n) s.1 s.2) ((1 : Int32), nI (3 * k)) = some (@ite _ (s_all p tb m) (Classical.propDecidable _) 1 0) := by
  have h1 := h.1
  intro d
  induction d with
  | zero =>
    intro k hd ha
    have hd : k = m := by omega
    subst hd
    refine wl_in ?_
    simp only [F_MD_see_43]
    rw [hn, if_pos (Int32.le_refl _), if_pos ha]
  | succ d ih =>
    intro k hd ha
    have b2 := (h.2 (3 * k + 2) (by omega)).1
    have a33 : nI (3 * k) + (3 : Int32) = nI (3 * (k + 1)) := nI_add (3 * k) 3
    have st : F_MD_see_43 I (nI n) 1 (nI (3 * k)) = some (.inl (@ite _ (s_ok p tb k) (Classical.propDecidable _) 1 0, nI (3 * (k + 1)))) := by
      simp only [F_MD_see_43]
      rw [if_neg (nI_ge (by omega) (by omega)), if_neg (by decide), a3_1, a3_2, a33, gd_n (by omega) (by decide), gd_n (by omega) (by decide), nI_clamp (by omega), nI_clamp (by omega), nI_clamp (by omega), (h.2 (3 * k) (by omega)).2.1, (h.2 (3 * k + 1) (by omega)).2.1, (h.2 (3 * k + 2) (by omega)).2.1, isPlace_e ho hm ht]
      simp only [Option.bind_some]
      by_cases q2 : b_plc p (nI (tb (3 * k))) (nI (tb (3 * k + 1)))
      · rw [if_pos q2, if_neg (by decide), gd_n (by omega) (by decide), isFence_e ho hm]
        simp only [Option.bind_some]
        by_cases q3 : 0 ≤ nI (tb (3 * k + 2)) ∧ nI (tb (3 * k + 2)) < nI (cF p)
        · rw [if_pos q3, if_neg (by decide), if_pos (show s_ok p tb k from ⟨q2, Or.inr q3⟩)]
        · rw [if_neg q3, if_pos rfl, gd_n (by omega) (by decide)]
          by_cases q1 : tb (3 * k + 2) = 255
          · rw [if_pos ((n_255 b2).mpr q1), if_pos (show s_ok p tb k from ⟨q2, Or.inl q1⟩)]
          · rw [if_neg (fun z => q1 ((n_255 b2).mp z)), if_neg (show ¬ s_ok p tb k from fun z => z.2.elim q1 q3)]
      · rw [if_neg q2, if_pos rfl, if_neg (show ¬ s_ok p tb k from fun z => q2 z.1)]
    have e2 : wl (fun s : Int32 × Int32 => F_MD_see_43 I (nI n) s.1 s.2) ((1 : Int32), nI (3 * k)) = wl (fun s : Int32 × Int32 => F_MD_see_43 I (nI n) s.1 s.2) (@ite _ (s_ok p tb k) (Classical.propDecidable _) 1 0, nI (3 * (k + 1))) := wl_st st
    rw [e2]
    by_cases q : s_ok p tb k
    · rw [if_pos q]
      refine ih (k + 1) (by omega) (fun i hi => ?_)
      by_cases z : i = k
      · subst z; exact q
      · exact ha i (by omega)
    · rw [if_neg q, if_neg (show ¬ s_all p tb m from fun z => q (z k (by omega)))]
      refine wl_in ?_
      simp only [F_MD_see_43]
      split
      · rfl
      · rw [if_pos trivial]
/-- what is written down -/
def s_v (b : Nat) : Int32 := if b = 255 then -1 else nI b
theorem see_c2 (h : TP I n tb) (e : I 1 1 = nI n) {m : Nat} (hm : 3 * m ≤ n) (hm2 : m ≤ 16) : ok (wl (fun s : Int32 × MI => F_Seen_readFrom_116 sl s.2 (nI m) s.1) ((0 : Int32), I)) (fun Y => (∀ i, i < m → Y 171 i = nI (tb (3 * i)) ∧ Y 172 i = nI (tb (3 * i + 1)) ∧ Y 173 i = s_v (tb (3 * i + 2))) ∧ ∀ k, k ≠ 171 → k ≠ 172 → k ≠ 173 → Y k = I k) := by
  have h1 := h.1
  refine ok_cnt m (fun q Y => (∀ i, i < q → Y 171 i = nI (tb (3 * i)) ∧ Y 172 i = nI (tb (3 * i + 1)) ∧ Y 173 i = s_v (tb (3 * i + 2))) ∧ ∀ k, k ≠ 171 → k ≠ 172 → k ≠ 173 → Y k = I k) ⟨fun i hi => absurd hi (by omega), fun _ _ _ _ => rfl⟩ ?_ ?_
  · rintro q hq Y ⟨g1, g2⟩
    have hY : TP Y n tb := ⟨h1, fun j hj => by rw [g2 178 (by decide) (by decide) (by decide), g2 2 (by decide) (by decide) (by decide)]; exact h.2 j hj⟩
    have eY : Y 1 1 = nI n := by rw [g2 1 (by decide) (by decide) (by decide)]; exact e
    have hY2 : TP (m_up Y 171 q (nI (tb (3 * q)))) n tb := ⟨h1, fun j hj => by rw [up_k _ _ _ (by decide), up_k _ _ _ (by decide)]; exact hY.2 j hj⟩
    have b2 := (h.2 (3 * q + 2) (by omega)).1
    have fin : ∀ v : Int32, v = s_v (tb (3 * q + 2)) → (∀ i, i < q + 1 → (m_up (m_up (m_up Y 171 q (nI (tb (3 * q)))) 172 q (nI (tb (3 * q + 1)))) 173 q v) 171 i = nI (tb (3 * i)) ∧ (m_up (m_up (m_up Y 171 q (nI (tb (3 * q)))) 172 q (nI (tb (3 * q + 1)))) 173 q v) 172 i = nI (tb (3 * i + 1)) ∧ (m_up (m_up (m_up Y 171 q (nI (tb (3 * q)))) 172 q (nI (tb (3 * q + 1)))) 173 q v) 173 i = s_v (tb (3 * i + 2))) ∧ ∀ k, k ≠ 171 → k ≠ 172 → k ≠ 173 → (m_up (m_up (m_up Y 171 q (nI (tb (3 * q)))) 172 q (nI (tb (3 * q + 1)))) 173 q v) k = I k := by
      intro v ev
      refine ⟨fun i hi => ?_, fun k a b c => by rw [up_k _ _ _ c, up_k _ _ _ b, up_k _ _ _ a]; exact g2 k a b c⟩
      by_cases z : i = q
      · subst z
        refine ⟨?_, ?_, ?_⟩
        · rw [up_k _ _ _ (by decide), up_k _ _ _ (by decide), up_e]
        · rw [up_k _ _ _ (by decide), up_e]
        · rw [up_e, ev]
      · obtain ⟨x1, x2, x3⟩ := g1 i (by omega)
        refine ⟨?_, ?_, ?_⟩
        · rw [up_k _ _ _ (by decide), up_k _ _ _ (by decide), up_j _ _ _ z]; exact x1
        · rw [up_k _ _ _ (by decide), up_j _ _ _ z, up_k _ _ _ (by decide)]; exact x2
        · rw [up_j _ _ _ z, up_k _ _ _ (by decide), up_k _ _ _ (by decide)]; exact x3
    simp only [F_Seen_readFrom_116]
    rw [a3_0, a3_2, a3_1]
    refine ok_f (nI_ge hq (by omega)) (ok_be (byte_c hY eY (by omega)) (ok_be (byte_c hY eY (by omega)) (ok_gd rfl (by omega) (by decide) ?_)))
    rw [nI_clamp (by omega)]
    refine ok_be (byte_c hY2 (by rw [up_k _ _ _ (by decide)]; exact eY) (by omega)) (ok_gd rfl (by omega) (by decide) (ok_if (fun c => ?_) (fun c => ?_)))
    · exact ok_gd rfl (by omega) (by decide) (ok_s ⟨nI_s q, fin _ (by unfold s_v; rw [if_pos ((n_255 b2).mp c)])⟩)
    · exact ok_gd rfl (by omega) (by decide) (ok_s ⟨nI_s q, fin _ (by unfold s_v; rw [if_neg (fun z => c ((n_255 b2).mpr z))])⟩)
  · rintro Y hY
    simp only [F_Seen_readFrom_116]
    exact ok_t (Int32.le_refl _) (ok_s hY)
end L90
