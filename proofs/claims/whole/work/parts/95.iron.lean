/-! irons: where no stake comes a post changes nothing -/
theorem or_bit {q r r0 : Nat} (h : r ≠ r0) : (q ||| 2 ^ r0) / 2 ^ r % 2 = q / 2 ^ r % 2 := by
  have e : (q ||| 2 ^ r0).testBit r = q.testBit r := by rw [Nat.testBit_or, Nat.testBit_two_pow_of_ne (Ne.symm h), Bool.or_false]
  rw [Nat.testBit_eq_decide_div_mod_eq, Nat.testBit_eq_decide_div_mod_eq] at e
  have a := Nat.mod_two_eq_zero_or_one ((q ||| 2 ^ r0) / 2 ^ r)
  have b := Nat.mod_two_eq_zero_or_one (q / 2 ^ r)
  have c := decide_eq_decide.mp e
  omega
theorem w_n_or {q R r0 : Nat} : ∀ n r, (r0 < r ∨ r + n ≤ r0) → w_n (q ||| 2 ^ r0) R n r = w_n q R n r := by
  intro n
  induction n with
  | zero => intro r _; rfl
  | succ n ih =>
    intro r h
    simp only [w_n]
    rw [or_bit (by omega), ih (r + 1) (by omega)]
/-- the stake of f does not come to row r of column c in this year -/
def a_ut1 (p : CF) (w : WD) (c r f : Nat) : Prop := wR w f c = -1 ∨ r < (wR w f c).toNatClampNeg ∨ (wR w f c).toNatClampNeg + a_pn p (wA w f) (wY w) c (wR w f c) < r
def a_ut (p : CF) (w : WD) (c r : Nat) : Prop := ∀ f, a_ut1 p w c r f
section L95
variable {I X : MI} {J : MJ} {k o sl sd : Nat} {p : CF} {w : WD} {kl : List NT} {un : List (WD × List NT)}
theorem drv_P (hv : WO p w) {c r : Nat} (hr : r < 30) : (wP (a_drv w c r) c).toNatClampNeg = (wP w c).toNatClampNeg ||| 2 ^ r := by
  obtain ⟨q, h1, h2, h3⟩ := postN hv c
  have e1 : (1 : Int32) <<< (nI r &&& 31) = nI (2 ^ r) := by
    have := shl_n (a := 1) (s := r) (by omega)
    rw [Nat.mul_one] at this
    exact this
  have e : wP (a_drv w c r) c = wP w c ||| ((1 : Int32) <<< (nI r &&& 31)) := by
    show (if c = c then _ else _) = _
    rw [if_pos rfl]
  have h30 : 2 ^ r < 2 ^ 30 := Nat.pow_lt_pow_right (by decide) hr
  have hl : q ||| 2 ^ r < 2 ^ 30 := Nat.or_lt_two_pow h1 h30
  rw [e, h3, h2, e1, nx_or, nI_clamp (by omega)]
theorem drv_row (hv : WO p w) {c r : Nat} (hr : r < 30) (hu : a_ut p w c r) : a_row p (a_drv w c r) = a_row p w := by
  funext f c'
  unfold a_row
  show (if wR w f c' = -1 then (-1 : Int32) else _) = _
  by_cases q : wR w f c' = -1
  · rw [if_pos q, if_pos q]
  · rw [if_neg q, if_neg q]
    congr 1
    unfold a_o
    show w_n (wP (a_drv w c r) c').toNatClampNeg (cR p) (if wK w f = 1 then 0 else a_pn p (wA w f) (wY w) c' (wR w f c')) (wR w f c').toNatClampNeg = _
    by_cases e : c' = c
    · subst e
      rw [drv_P hv hr]
      refine w_n_or _ _ ?_
      rcases hu f with h | h | h
      · exact absurd h q
      · exact Or.inl h
      · right
        split <;> omega
    · have : wP (a_drv w c r) c' = wP w c' := by
        show (if c' = c then _ else _) = _
        rw [if_neg e]
      rw [this]
theorem year_drv (hv : WO p w) {c r : Nat} (hr : r < 30) (hu : a_ut p w c r) : a_year p (a_drv w c r) = a_drv (a_year p w) c r := by
  have e := drv_row hv hr hu
  have e2 : a_rt p (a_drv w c r) = a_rt p w := by
    funext f
    unfold a_rt
    rw [e]
    rfl
  unfold a_year
  rw [e, e2]
  rfl
theorem it_drv (ho : CO p) (hR : cF p = 0 ∨ 0 < cR p) (hv : WO p w) {y : Nat} (hy : wY w = nI y) {c r : Nat} (hr : r < 30) : ∀ n, y + n ≤ 2000 → (∀ i, i < n → a_ut p (a_it p w i) c r) → a_it p (a_drv w c r) n = a_drv (a_it p w n) c r := by
  intro n
  induction n with
  | zero => intro _ _; rfl
  | succ n ih =>
    intro hn hu
    show a_year p (a_it p (a_drv w c r) n) = a_drv (a_year p (a_it p w n)) c r
    rw [ih (by omega) (fun i hi => hu i (by omega)), year_drv (it_O ho hR hv hy n (by omega)) hr (hu n (by omega))]
theorem irr_ge (f n c : Nat) (s : NT) : ∀ r, s.2.2 ≤ (a_irr p w f n c r s).2.2 := by
  intro r
  induction r with
  | zero => exact Int32.le_refl _
  | succ r ih =>
    simp only [a_irr]
    split
    · exact ih
    · split
      · exact ih
      · rename_i _ h
        show s.2.2 ≤ nI (a_fd p (a_it p (a_drv w c r) n) f)
        exact Int32.le_trans ih (by grind)
theorem irc_ge (f n : Nat) : ∀ c, nI (a_fd p (a_it p w n) f) ≤ (a_irc p w f n c).2.2 := by
  intro c
  induction c with
  | zero => exact Int32.le_refl _
  | succ c ih => exact Int32.le_trans ih (irr_ge f n c _ _)
/-- a place to which no stake comes need not be tried -/
theorem irr_skip (ho : CO p) (hR : cF p = 0 ∨ 0 < cR p) (hv : WO p w) {y : Nat} (hy : wY w = nI y) {c r f n : Nat} (hr : r < 30) (hn : y + n ≤ 2000) (hu : ∀ i, i < n → a_ut p (a_it p w i) c r) {s : NT} (hs : nI (a_fd p (a_it p w n) f) ≤ s.2.2) : a_irr p w f n c (r + 1) s = a_irr p w f n c r s := by
  simp only [a_irr]
  split
  · rfl
  · rw [it_drv ho hR hv hy hr n hn hu]
    have e : a_fd p (a_drv (a_it p w n) c r) f = a_fd p (a_it p w n) f := rfl
    rw [e, if_pos (Int32.le_trans hs (irr_ge f n c s r))]
/-- either there is no place, or column and row are numbers -/
def ir_ok (s : NT) : Prop := (s.1 = -1 ∧ s.2.1 = -1) ∨ ¬ s.1 = -1
theorem irr_ok {f n c : Nat} (hc : c < 2 ^ 31) {s : NT} (h : ir_ok s) : ∀ r, ir_ok (a_irr p w f n c r s) := by
  intro r
  induction r with
  | zero => exact h
  | succ r ih =>
    simp only [a_irr]
    split
    · exact ih
    · split
      · exact ih
      · exact Or.inr (fun e => by have := nI_pos' (n := c) hc; rw [show nI c = -1 from e] at this; exact absurd this (by decide))
theorem irn_ok (ho : CO p) (f n : Nat) : ir_ok (a_irn p w f n) := by
  have hC := ho.1
  have : ∀ c, c ≤ cC p → ir_ok (a_irc p w f n c) := by
    intro c
    induction c with
    | zero => intro _; exact Or.inl ⟨rfl, rfl⟩
    | succ c ih => intro hc; exact irr_ok (by omega) (ih (by omega)) _
  exact this _ (Nat.le_refl _)
/-! bits -/
theorem b_1 : ∀ i, i < 32 → bt 1 i = decide (i = 0) := by decide +kernel
theorem bt_is {x : Int32} {r : Nat} (hr : r < 32) : (x >>> (nI r &&& 31)) &&& 1 = 0 ↔ bt x r = false := by
  constructor
  · intro h
    have := congrArg (fun z => bt z 0) h
    rw [b_and, b_sshr r hr x (by omega), b_1 0 (by omega), b_0, if_pos (by omega), Nat.add_zero] at this
    simpa using this
  · intro h
    refine b_ext fun i hi => ?_
    rw [b_and, b_0, b_1 i hi]
    by_cases e : i = 0
    · subst e
      rw [b_sshr r hr x (by omega), if_pos (by omega), Nat.add_zero, h]; rfl
    · rw [decide_eq_false e, Bool.and_false]
theorem reach_b : ∀ n, n < 10 → ∀ i, i < 32 → bt (((2 : Int32) <<< (nI n &&& 31)) - 1) i = decide (i ≤ n) := by decide +kernel
theorem reach_e {n r0 r : Nat} (hn : n < 10) (h0 : r0 < 32) (hr : r < 32) : bt ((((2 : Int32) <<< (nI n &&& 31)) - 1) <<< (nI r0 &&& 31)) r = (decide (r0 ≤ r) && decide (r - r0 ≤ n)) := by
  rw [b_shl r0 h0 _ hr, reach_b n hn _ (by omega)]
end L95
