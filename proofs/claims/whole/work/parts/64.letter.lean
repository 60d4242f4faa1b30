/-! letter: names by base 27 -/
theorem lN_div {a b : Nat} (ha : a < 2 ^ 31) (hb : b < 2 ^ 31) : lN a / lN b = lN (a / b) := by
  refine Int64.toInt_inj.mp ?_
  have : a / b ≤ a := Nat.div_le_self _ _
  rw [Int64.toInt_div, lN_toInt ha, lN_toInt hb, lN_toInt (by omega)]
  have e : (a : Int).tdiv (b : Int) = ((a / b : Nat) : Int) := rfl
  rw [e]
  generalize a / b = q at *
  rw [Int.bmod_eq_of_le] <;> omega
theorem n27_a : ∀ (l : List Nat) (a v : Nat), n27 (l ++ [a]) v = 27 * n27 l v + a := by
  intro l
  induction l with
  | nil => intro a v; rfl
  | cons b l ih => intro a v; simp only [List.cons_append, n27]; exact ih a _
/-- the first j letters -/
def v27 (l : List Nat) (j : Nat) : Nat := n27 (l.take j) 0
theorem v27_s {l : List Nat} {j : Nat} (h : j < l.length) : v27 l (j + 1) = 27 * v27 l j + l.getD j 0 := by
  unfold v27
  rw [q_tk h, n27_a]
theorem v27_f (l : List Nat) : v27 l l.length = n27 l 0 := by unfold v27; rw [List.take_length]
theorem getD_mem' {l : List Nat} {j : Nat} (h : j < l.length) : l.getD j 0 ∈ l := by
  rw [List.getD_eq_getElem?_getD, List.getElem?_eq_getElem h]
  exact List.getElem_mem _
theorem v27_b {l : List Nat} (hl : ∀ a, a ∈ l → 1 ≤ a ∧ a ≤ 26) : ∀ j, j ≤ l.length → v27 l j < 27 ^ j ∧ (1 ≤ j → 1 ≤ v27 l j) := by
  intro j
  induction j with
  | zero => intro _; exact ⟨by unfold v27; simp [n27], by omega⟩
  | succ j ih =>
    intro hj
    obtain ⟨h1, h2⟩ := ih (by omega)
    have h3 := hl _ (getD_mem' (show j < l.length by omega))
    rw [v27_s (by omega), Nat.pow_succ]
    omega
section L64
variable {I : MI} {J : MJ} {sl sd : Nat} {p : CF} {w : WD} {kl : List NT} {un : List (WD × List NT)}
/-- letter -/
theorem op_letter (h : RelX I J sl p w kl un) (f k : Int32) : ∃ a, F_WF_letter sl sd I f k = some a ∧ F_MD_letter I J f k = some a := by
  obtain ⟨⟨ho, -⟩, ⟨hc, -, hm, -⟩, ht, -, nm, hn⟩ := h.2.1.2.1
  have hF := ho.2.2.1
  unfold F_WF_letter F_MD_letter
  rw [hasFence_c ho hc, isFence_e ho hm]
  simp only [Option.bind_some]
  by_cases q : 0 ≤ f ∧ f < nI (cF p)
  · simp only [if_pos q, if_neg (show ¬ (1 : Int32) = 0 by decide)]
    obtain ⟨a, ha, rfl⟩ := ix_2 (by omega) q
    obtain ⟨h1, h2, h3, h4, h5⟩ := hn a ha
    rw [show (0 : Int64) = (0 : Int32).toInt64 by decide, show (5 : Int64) = (5 : Int32).toInt64 by decide, isIn_i]
    simp only [Option.bind_some]
    by_cases c0 : k < 0
    · rw [if_pos c0, if_neg (show ¬ ((0 : Int32) ≤ k ∧ k ≤ 5) by grind), if_pos rfl]; exact ⟨_, rfl, rfl⟩
    rw [if_neg c0]
    by_cases c1 : 6 ≤ k
    · rw [if_pos c1, if_neg (show ¬ ((0 : Int32) ≤ k ∧ k ≤ 5) by grind), if_pos rfl]; exact ⟨_, rfl, rfl⟩
    rw [if_neg c1, if_pos (show (0 : Int32) ≤ k ∧ k ≤ 5 by grind), if_neg (by decide)]
    obtain ⟨j, hj, rfl⟩ := ix_2 (v := k) (n := 6) (by decide) ⟨by grind, by show k < 6; grind⟩
    rw [ad_76, gd_n (by omega) (by decide), nI_clamp (by omega), h5 j hj, ad_6, gd_n (by omega) (by decide), nI_clamp (by omega), h4, ← v27_f]
    generalize hl : nm a = l at *
    have pw : ∀ i, i ≤ l.length → v27 l i < 2 ^ 31 := fun i hi => by
      have := (v27_b h3 i hi).1
      have : 27 ^ i ≤ 27 ^ 6 := Nat.pow_le_pow_right (by decide) (by omega)
      omega
    have z0 : (0 : Int32).toInt64 = lN 0 := by decide
    have z27 : (27 : Int64) = lN 27 := rfl
    have cnt : wl (fun s : Int32 × Int64 => F_MD_letter_38 (nI j) (lN (v27 l l.length)) s.1 s.2) ((0 : Int32), lN (v27 l l.length)) = some (nI l.length) := by
      refine wl_f l.length (fun n => (nI n, lN (v27 l (l.length - n)))) (by rw [Nat.sub_zero]; rfl) ?_ ?_
      · intro n hn2
        simp only [F_MD_letter_38, lg_cmp_le]
        have e1 : l.length - n = l.length - (n + 1) + 1 := by omega
        have b1 := (v27_b h3 (l.length - n) (by omega)).2 (by omega)
        rw [if_neg (show ¬ lN (v27 l (l.length - n)) ≤ 0 from fun z => by
          have := (lN_le (b := 0) (pw _ (by omega)) (by decide)).mp z
          omega), z27, lN_div (pw _ (by omega)) (by decide), nI_s]
        have h6 := h3 _ (getD_mem' (show l.length - (n + 1) < l.length by omega))
        rw [e1, v27_s (by omega), show (27 * v27 l (l.length - (n + 1)) + l.getD (l.length - (n + 1)) 0) / 27 = v27 l (l.length - (n + 1)) by omega]
      · simp only [F_MD_letter_38, lg_cmp_le]
        rw [Nat.sub_self, if_pos (show lN (v27 l 0) ≤ 0 by unfold v27; simp [n27]; decide)]
    rw [cnt]
    simp only [Option.bind_some]
    by_cases c2 : j < l.length
    · rw [if_pos (nI_lt c2 (by omega))]
      have e0 : nI l.length - 1 = nI (l.length - 1) := nI_subN (b := 1) (by omega)
      rw [e0]
      have dv : wl (fun s : Int64 × Int32 => F_MD_letter_73 (nI j) s.1 s.2) (lN (v27 l l.length), nI (l.length - 1)) = some (lN (v27 l (j + 1))) := by
        refine wl_f (l.length - 1 - j) (fun n => (lN (v27 l (l.length - n)), nI (l.length - 1 - n))) (by rw [Nat.sub_zero, Nat.sub_zero]) ?_ ?_
        · intro n hn2
          simp only [F_MD_letter_73]
          have e1 : l.length - n = l.length - (n + 1) + 1 := by omega
          have e2 : nI (l.length - 1 - n) + (-1) = nI (l.length - 1 - (n + 1)) := by
            have := nI_pred (l.length - 1 - (n + 1))
            rw [show l.length - 1 - (n + 1) + 1 = l.length - 1 - n by omega] at this
            rw [← this]
            grind
          rw [if_neg (nI_ge (by omega) (by omega)), e2, z27, lN_div (pw _ (by omega)) (by decide)]
          have h6 := h3 _ (getD_mem' (show l.length - (n + 1) < l.length by omega))
          rw [e1, v27_s (by omega), show (27 * v27 l (l.length - (n + 1)) + l.getD (l.length - (n + 1)) 0) / 27 = v27 l (l.length - (n + 1)) by omega]
        · simp only [F_MD_letter_73]
          rw [if_pos (nI_le (by omega) (by omega)), show l.length - (l.length - 1 - j) = j + 1 by omega]
      rw [dv]
      simp only [Option.bind_some]
      have h6 := h3 _ (getD_mem' c2)
      have b1 := pw (j + 1) (by omega)
      refine ⟨_, rfl, ?_⟩
      have hs := v27_s c2
      rw [z27, lN_div b1 (by decide), lN_mul, lN_sub (by omega), lN_i]
      congr 2
      omega
    · rw [if_neg (nI_nlt (by omega) (by omega))]
      refine ⟨_, rfl, ?_⟩
      rw [List.getD_eq_getElem?_getD, List.getElem?_eq_none (by omega)]; rfl
  · simp only [if_neg q, if_true]; exact ⟨_, rfl, rfl⟩
end L64
