/-! see -/
section L89
variable {I X Z B : MI} {J : MJ} {sl sd : Nat} {p : CF} {tb : Nat → Nat} {n : Nat}
def TP (I : MI) (n : Nat) (tb : Nat → Nat) : Prop := n ≤ 1600 ∧ ∀ j, j < n → tb j < 256 ∧ I 178 j = nI (tb j) ∧ I 2 j &&& 255 = nI (tb j)
/-- one thing seen is in order -/
def s_ok (p : CF) (tb : Nat → Nat) (k : Nat) : Prop := b_plc p (nI (tb (3 * k))) (nI (tb (3 * k + 1))) ∧ (tb (3 * k + 2) = 255 ∨ (0 ≤ nI (tb (3 * k + 2)) ∧ nI (tb (3 * k + 2)) < nI (cF p)))
def s_all (p : CF) (tb : Nat → Nat) (m : Nat) : Prop := ∀ k, k < m → s_ok p tb k
theorem byte_c (h : TP I n tb) (e : I 1 1 = nI n) {j : Nat} (hj : j < n) : F_Tape_byteAt I (nI j) = some (nI (tb j)) := by
  have h1 := h.1
  unfold F_Tape_byteAt
  rw [if_neg (nI_pos (by omega)), e, if_neg (nI_ge hj (by omega)), gd_n (by omega) (by decide), nI_clamp (by omega), (h.2 j hj).2.2]
theorem n_255 {b : Nat} (h : b < 256) : (nI b = 255) ↔ b = 255 := by
  constructor
  · intro e
    have := congrArg Int32.toNatClampNeg e
    rw [nI_clamp (by omega)] at this
    exact this
  · intro e; subst e; rfl
theorem a3_0 (k : Nat) : (3 : Int32) * nI k = nI (3 * k) := nI_m3 3 k
theorem a3_1 (k : Nat) : nI (3 * k) + (1 : Int32) = nI (3 * k + 1) := nI_add (3 * k) 1
theorem a3_2 (k : Nat) : nI (3 * k) + (2 : Int32) = nI (3 * k + 2) := nI_add (3 * k) 2
theorem see_c1 (ho : CO p) (hc : CC I sl p) (h : TP I n tb) (e : I 1 1 = nI n) {m : Nat} (hm : 3 * m ≤ n) : ∀ d k, k + d = m → s_all p tb k → wl (fun s : Int32 => F_Seen_readFrom_33 sl I (nI m) s) (nI k) = some (@ite _ (s_all p tb m) (Classical.propDecidable _) (.inl ()) (.inr (0, I))) := by
  have h1 := h.1
  intro d
  induction d with
  | zero =>
    intro k hd ha
    have hd : k = m := by omega
    subst hd
    refine wl_in ?_
    simp only [F_Seen_readFrom_33]
    rw [if_pos (Int32.le_refl _), if_pos ha]
  | succ d ih =>
    intro k hd ha
    have b2 := (h.2 (3 * k + 2) (by omega)).1
    have st : F_Seen_readFrom_33 sl I (nI m) (nI k) = some (@ite _ (s_ok p tb k) (Classical.propDecidable _) (.inl (nI (k + 1))) (.inr (.inr (0, I)))) := by
      simp only [F_Seen_readFrom_33, F_Seen_readFrom_68, F_Seen_readFrom_73]
      rw [if_neg (nI_ge (by omega) (by omega)), a3_0, a3_2, a3_1, byte_c h e (by omega), byte_c h e (by omega), byte_c h e (by omega)]
      simp only [Option.bind_some]
      rw [hasFence_c ho hc, hasPlace_c hc]
      by_cases q1 : tb (3 * k + 2) = 255
      · rw [if_pos ((n_255 b2).mpr q1), if_neg (by decide)]
        by_cases q2 : b_plc p (nI (tb (3 * k))) (nI (tb (3 * k + 1)))
        · rw [if_pos q2, if_neg (by decide), if_pos (show s_ok p tb k from ⟨q2, Or.inl q1⟩), nI_s]
        · rw [if_neg q2, if_pos rfl, if_neg (show ¬ s_ok p tb k from fun z => q2 z.1)]
      · rw [if_neg (fun z => q1 ((n_255 b2).mp z))]
        by_cases q3 : 0 ≤ nI (tb (3 * k + 2)) ∧ nI (tb (3 * k + 2)) < nI (cF p)
        · rw [if_pos q3, if_neg (by decide), if_neg (by decide)]
          by_cases q2 : b_plc p (nI (tb (3 * k))) (nI (tb (3 * k + 1)))
          · rw [if_pos q2, if_neg (by decide), if_pos (show s_ok p tb k from ⟨q2, Or.inr q3⟩), nI_s]
          · rw [if_neg q2, if_pos rfl, if_neg (show ¬ s_ok p tb k from fun z => q2 z.1)]
        · rw [if_neg q3, if_pos rfl, if_pos trivial, if_neg (show ¬ s_ok p tb k from fun z => z.2.elim q1 q3)]
    by_cases q : s_ok p tb k
    · rw [if_pos q] at st
      rw [wl_st st]
      refine ih (k + 1) (by omega) (fun i hi => ?_)
      by_cases z : i = k
      · subst z; exact q
      · exact ha i (by omega)
    · rw [if_neg q] at st
      rw [wl_in st, if_neg (fun z => q (z k (by omega)))]
end L89
