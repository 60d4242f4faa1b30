/-! the reference: words of a sum; brackets; what is dropped when -/
/-- which word stands next -/
def wo (tb : Nat → Nat) (n e : Nat) (b : Bool) : Option Nat := if kd tb n e b = 256 then (if w_no (lets tb n e) = -1 then none else some (w_no (lets tb n e)).toNatClampNeg) else none
def q_h (tk : Nat) (o : Option Nat) : Option Nat := if o = some 6 then some 0 else if o = some 2 then some 1 else if o = some 11 then some 2 else if tk = 0 ∧ o = some 5 then some 3 else if o = some 12 then some 4 else if o = some 13 then some 5 else if o = some 14 then some 6 else if o = some 15 then some 7 else if o = some 5 then some 8 else if o = some 17 then some 9 else none
def q_a (tk k : Nat) : Bool := if tk = 0 then decide (k < 4) else if tk = 1 then (decide (k < 3) || decide (k = 4)) else (decide (k = 0) || decide (k = 2) || decide (3 < k))
def q_o (tk f t : Nat) (o : Option Nat) : Option Nat := match q_h tk o with
  | none => none
  | some k => if f ≤ k ∧ k < t ∧ q_a tk k = true then some k else none
section LB7
variable {I X Y Z : MI} {n e o bs tk : Nat} {b : Bool} {tb : Nat → Nat} {W K S : List Nat}
theorem wo_s {j : Nat} : wo tb n e b = some j ↔ j < 29 ∧ kd tb n e b = 256 ∧ w_no (lets tb n e) = nI j := by
  unfold wo
  by_cases q : kd tb n e b = 256
  · rw [if_pos q]
    rcases w_no_v (lets tb n e) with h | ⟨i, h1, -, h2⟩
    · rw [if_pos h]
      refine ⟨fun z => (by cases z), fun z => ?_⟩
      rw [h] at z
      have := nI_pos' (n := j) (by omega)
      rw [← z.2.2] at this
      exact absurd this (by decide)
    · have hn : ¬ w_no (lets tb n e) = -1 := fun z => by
        have := nI_pos' (n := i) (by omega)
        rw [← h2, z] at this
        exact absurd this (by decide)
      rw [if_neg hn, h2, nI_clamp (by omega)]
      constructor
      · intro z
        cases z
        exact ⟨h1, q, rfl⟩
      · rintro ⟨z1, -, z2⟩
        rw [(nI_inj (by omega) (by omega)).mp z2]
  · rw [if_neg q]
    exact ⟨fun z => (by cases z), fun z => absurd z.2.1 q⟩
theorem isw_o {i : Nat} (hi : i < 29) : isw tb n e b i = decide (wo tb n e b = some i) := by
  unfold isw
  by_cases q : wo tb n e b = some i
  · obtain ⟨-, h1, h2⟩ := wo_s.mp q
    rw [decide_eq_true q, decide_eq_true ⟨h1, h2⟩]
  · rw [decide_eq_false q, decide_eq_false (fun z => q (wo_s.mpr ⟨hi, z.1, z.2⟩))]
theorem wo_n (h : ¬ kd tb n e b = 256) : wo tb n e b = none := by unfold wo; rw [if_neg h]
theorem LK_LK : LK' (LK' Y tb n e) tb n e = LK' Y tb n e := by unfold LK'; rw [up_up]
theorem hereL (h : QP Y tb n e b) {w i lw : Nat} (hw : (w, i) ∈ w_tab) (hl : (w_ds.getD i []).length = lw) : F_MD_isHere w lw (LK' Y tb n e) = some (bI (decide (wo tb n e b = some i)), LK' Y tb n e) := by
  rw [here_m (LK_s h).1 hw hl, LK_LK, isw_o (w_tab_29 _ hw)]
theorem here0 (h : QP Y tb n e b) {w i lw : Nat} (hw : (w, i) ∈ w_tab) (hl : (w_ds.getD i []).length = lw) : F_MD_isHere w lw Y = some (bI (decide (wo tb n e b = some i)), LK' Y tb n e) := by
  rw [here_m h hw hl, isw_o (w_tab_29 _ hw)]
theorem bI_if {α : Type} (q : Prop) [Decidable q] (x y : α) : (if bI (decide q) = 0 then x else y) = if q then y else x := by
  by_cases h : q
  · rw [decide_eq_true h, if_neg (by decide), if_pos h]
  · rw [decide_eq_false h, if_pos (by rfl), if_neg h]
theorem qhere_m (h : QP Y tb n e b) (ht : Y 177 50 = nI tk) (h3 : tk < 3) : F_MD_qWordHere Y = some (oI (q_h tk (wo tb n e b)), LK' Y tb n e) := by
  have e50 : LK' Y tb n e 177 50 = nI tk := by unfold LK'; rw [up_j _ _ _ (by decide)]; exact ht
  have e59 : F_MD_qWordHere_59 (LK' Y tb n e) = some (oI (if wo tb n e b = some 12 then some 4 else if wo tb n e b = some 13 then some 5 else if wo tb n e b = some 14 then some 6 else if wo tb n e b = some 15 then some 7 else if wo tb n e b = some 5 then some 8 else if wo tb n e b = some 17 then some 9 else none), LK' Y tb n e) := by
    unfold F_MD_qWordHere_59
    rw [hereL h (i := 12) (by decide +kernel) (by rfl)]
    simp only [Option.bind_some, bI_if]
    by_cases c1 : wo tb n e b = some 12
    · rw [if_pos c1, if_pos c1]; rfl
    · rw [if_neg c1, if_neg c1, hereL h (i := 13) (by decide +kernel) (by rfl)]
      simp only [Option.bind_some, bI_if]
      by_cases c2 : wo tb n e b = some 13
      · rw [if_pos c2, if_pos c2]; rfl
      · rw [if_neg c2, if_neg c2, hereL h (i := 14) (by decide +kernel) (by rfl)]
        simp only [Option.bind_some, bI_if]
        by_cases c3 : wo tb n e b = some 14
        · rw [if_pos c3, if_pos c3]; rfl
        · rw [if_neg c3, if_neg c3, hereL h (i := 15) (by decide +kernel) (by rfl)]
          simp only [Option.bind_some, bI_if]
          by_cases c4 : wo tb n e b = some 15
          · rw [if_pos c4, if_pos c4]; rfl
          · rw [if_neg c4, if_neg c4, hereL h (i := 5) (by decide +kernel) (by rfl)]
            simp only [Option.bind_some, bI_if]
            by_cases c5 : wo tb n e b = some 5
            · rw [if_pos c5, if_pos c5]; rfl
            · rw [if_neg c5, if_neg c5, hereL h (i := 17) (by decide +kernel) (by rfl)]
              simp only [Option.bind_some, bI_if]
              by_cases c6 : wo tb n e b = some 17
              · rw [if_pos c6, if_pos c6]; rfl
              · rw [if_neg c6, if_neg c6]; rfl
  unfold F_MD_qWordHere q_h
  rw [here0 h (i := 6) (by decide +kernel) (by rfl)]
  simp only [Option.bind_some, bI_if]
  by_cases c1 : wo tb n e b = some 6
  · rw [if_pos c1, if_pos c1]; rfl
  · rw [if_neg c1, if_neg c1, hereL h (i := 2) (by decide +kernel) (by rfl)]
    simp only [Option.bind_some, bI_if]
    by_cases c2 : wo tb n e b = some 2
    · rw [if_pos c2, if_pos c2]; rfl
    · rw [if_neg c2, if_neg c2, hereL h (i := 11) (by decide +kernel) (by rfl)]
      simp only [Option.bind_some, bI_if]
      by_cases c3 : wo tb n e b = some 11
      · rw [if_pos c3, if_pos c3]; rfl
      · rw [if_neg c3, if_neg c3, e50]
        by_cases t0 : tk = 0
        · rw [if_pos (show nI tk = 0 by rw [t0]; rfl), hereL h (i := 5) (by decide +kernel) (by rfl)]
          simp only [Option.bind_some, bI_if]
          by_cases c4 : wo tb n e b = some 5
          · rw [if_pos c4, if_pos ⟨t0, c4⟩]; rfl
          · rw [if_neg c4, if_neg (fun z => c4 z.2)]; exact e59
        · rw [if_neg (fun z => t0 ((n_eq (by omega) (by decide) (show (0 : Int32) = nI 0 from rfl)).mp z)), if_neg (fun z => t0 z.1)]; exact e59
theorem q_h_lt (tk : Nat) (o : Option Nat) : ∀ k, q_h tk o = some k → k < 10 := by
  intro k
  unfold q_h
  repeat' split
  all_goals first | (intro h; cases h; decide) | (intro h; cases h)
theorem allow_m (ht : Y 177 50 = nI tk) (h3 : tk < 3) {k : Nat} (hk : k < 10) : F_MD_isAllowed Y (nI k) = some (bI (q_a tk k)) := by
  unfold F_MD_isAllowed
  rw [ht]
  rcases (by omega : tk = 0 ∨ tk = 1 ∨ tk = 2) with z | z | z <;> subst z
  all_goals
    rcases (by omega : k = 0 ∨ k = 1 ∨ k = 2 ∨ k = 3 ∨ k = 4 ∨ k = 5 ∨ k = 6 ∨ k = 7 ∨ k = 8 ∨ k = 9) with z | z | z | z | z | z | z | z | z | z <;> subst z <;> decide
theorem qof_m (h : QP Y tb n e b) (ht : Y 177 50 = nI tk) (h3 : tk < 3) {f t : Nat} (hf : f < 20) (htt : t < 20) : F_MD_qWordOf Y (nI f) (nI t) = some (oI (q_o tk f t (wo tb n e b)), LK' Y tb n e) := by
  have e50 : LK' Y tb n e 177 50 = nI tk := by unfold LK'; rw [up_j _ _ _ (by decide)]; exact ht
  unfold F_MD_qWordOf q_o
  rw [qhere_m h ht h3]
  simp only [Option.bind_some]
  have hl := q_h_lt tk (wo tb n e b)
  cases hq : q_h tk (wo tb n e b) with
  | none =>
    have : (oI none : Int32) < nI f := by show (-1 : Int32) < nI f; have := nI_pos' (n := f) (by omega); grind
    rw [if_pos this]; rfl
  | some k =>
    have k10 := hl k hq
    show (if nI k < nI f then _ else if nI t ≤ nI k then _ else _) = some (oI (if f ≤ k ∧ k < t ∧ q_a tk k = true then some k else none), LK' Y tb n e)
    by_cases c1 : f ≤ k
    · rw [if_neg (nI_nlt c1 (by omega))]
      by_cases c2 : k < t
      · rw [if_neg (nI_ge c2 (by omega))]
        have al := allow_m (Y := LK' Y tb n e) e50 h3 k10
        show ((F_MD_isAllowed (LK' Y tb n e) (nI k)).bind fun r4 => if r4 = 0 then some (-1, LK' Y tb n e) else some (nI k, LK' Y tb n e)) = _
        rw [al]
        simp only [Option.bind_some]
        cases hc : q_a tk k with
        | true => rw [if_neg (by decide), if_pos ⟨c1, c2, rfl⟩]; first | done | rfl
        | false => rw [if_pos (show bI false = 0 from rfl), if_neg (fun z => by cases z.2.2)]; rfl
      · rw [if_pos (nI_le (by omega) (by omega)), if_neg (fun z => c2 z.2.1)]; rfl
    · rw [if_pos (nI_lt (by omega) (by omega)), if_neg (fun z => c1 z.1)]; rfl
/-- the word of a part is taken -/
theorem askw_m (h : QP Y tb n e b) {k : Nat} (hk : q_h tk (wo tb n e b) = some k) : ok (F_MD_qAsksWord Y (nI k)) (fun r => fsL LM r Y ∧ QP r tb n (tke tb n e) true) := by
  have key : ∀ w i lw, (w, i) ∈ w_tab → (w_ds.getD i []).length = lw → wo tb n e b = some i → ok ((F_MD_asks w lw Y).bind fun r2 => some r2) (fun r => fsL LM r Y ∧ QP r tb n (tke tb n e) true) := by
    intro w i lw hw hl hi
    refine ok_b (asks_m h hw hl) ?_
    rintro r ⟨r1, r2 | r2⟩
    · exact ok_s ⟨r1, r2.2⟩
    · rw [isw_o (w_tab_29 _ hw), decide_eq_true hi] at r2
      cases r2.1
  unfold q_h at hk
  unfold F_MD_qAsksWord
  by_cases c1 : wo tb n e b = some 6
  · rw [if_pos c1] at hk; cases hk
    rw [if_pos (by decide)]
    exact key 234 6 3 (by decide +kernel) (by rfl) c1
  · rw [if_neg c1] at hk
    by_cases c2 : wo tb n e b = some 2
    · rw [if_pos c2] at hk; cases hk
      rw [if_neg (by decide), if_pos (by decide)]
      exact key 235 2 5 (by decide +kernel) (by rfl) c2
    · rw [if_neg c2] at hk
      by_cases c3 : wo tb n e b = some 11
      · rw [if_pos c3] at hk; cases hk
        rw [if_neg (by decide), if_neg (by decide), if_pos (by decide)]
        exact key 236 11 4 (by decide +kernel) (by rfl) c3
      · rw [if_neg c3] at hk
        by_cases c4 : tk = 0 ∧ wo tb n e b = some 5
        · rw [if_pos c4] at hk; cases hk
          rw [if_neg (by decide), if_neg (by decide), if_neg (by decide), if_pos (by decide)]
          exact key 237 5 3 (by decide +kernel) (by rfl) c4.2
        · rw [if_neg c4] at hk
          by_cases c5 : wo tb n e b = some 12
          · rw [if_pos c5] at hk; cases hk
            rw [if_neg (by decide), if_neg (by decide), if_neg (by decide), if_neg (by decide), if_pos (by decide)]
            exact key 238 12 4 (by decide +kernel) (by rfl) c5
          · rw [if_neg c5] at hk
            by_cases c6 : wo tb n e b = some 13
            · rw [if_pos c6] at hk; cases hk
              rw [if_neg (by decide), if_neg (by decide), if_neg (by decide), if_neg (by decide), if_neg (by decide), if_pos (by decide)]
              exact key 239 13 6 (by decide +kernel) (by rfl) c6
            · rw [if_neg c6] at hk
              by_cases c7 : wo tb n e b = some 14
              · rw [if_pos c7] at hk; cases hk
                rw [if_neg (by decide), if_neg (by decide), if_neg (by decide), if_neg (by decide), if_neg (by decide), if_neg (by decide), if_pos (by decide)]
                exact key 240 14 5 (by decide +kernel) (by rfl) c7
              · rw [if_neg c7] at hk
                by_cases c8 : wo tb n e b = some 15
                · rw [if_pos c8] at hk; cases hk
                  rw [if_neg (by decide), if_neg (by decide), if_neg (by decide), if_neg (by decide), if_neg (by decide), if_neg (by decide), if_neg (by decide), if_pos (by decide)]
                  exact key 241 15 3 (by decide +kernel) (by rfl) c8
                · rw [if_neg c8] at hk
                  by_cases c9 : wo tb n e b = some 5
                  · rw [if_pos c9] at hk; cases hk
                    rw [if_neg (by decide), if_neg (by decide), if_neg (by decide), if_neg (by decide), if_neg (by decide), if_neg (by decide), if_neg (by decide), if_neg (by decide), if_pos (by decide)]
                    exact key 242 5 3 (by decide +kernel) (by rfl) c9
                  · rw [if_neg c9] at hk
                    by_cases c10 : wo tb n e b = some 17
                    · rw [if_pos c10] at hk; cases hk
                      rw [if_neg (by decide), if_neg (by decide), if_neg (by decide), if_neg (by decide), if_neg (by decide), if_neg (by decide), if_neg (by decide), if_neg (by decide), if_neg (by decide)]
                      exact key 243 17 5 (by decide +kernel) (by rfl) c10
                    · rw [if_neg c10] at hk; cases hk
end LB7
