/-! how far a stake comes: the class's landing, step by step -/
theorem shr_n {p r : Nat} (hp : p < 2 ^ 31) (hr : r < 32) : nI p >>> (nI r &&& 31) = nI (p / 2 ^ r) := by
  apply b_ext
  intro i hi
  rw [b_sshr r hr _ hi]
  have h31 : bt (nI p) 31 = false := by
    unfold bt
    show (BitVec.ofNat 32 p).getLsbD 31 = false
    rw [BitVec.getLsbD_ofNat, Nat.testBit_lt_two_pow hp]; rfl
  have e : bt (nI (p / 2 ^ r)) i = p.testBit (r + i) := by
    unfold bt
    show (BitVec.ofNat 32 (p / 2 ^ r)).getLsbD i = _
    rw [BitVec.getLsbD_ofNat, Nat.testBit_div_two_pow, decide_eq_true hi, Nat.add_comm i r]; rfl
  rw [e, h31]
  split
  · unfold bt
    show (BitVec.ofNat 32 p).getLsbD (r + i) = _
    rename_i h
    rw [BitVec.getLsbD_ofNat, decide_eq_true h]; rfl
  · rename_i h
    exact (Nat.testBit_lt_two_pow (Nat.lt_of_lt_of_le hp (Nat.pow_le_pow_right (by decide) (by omega)))).symm
theorem and1_n (p : Nat) : nI p &&& 1 = nI (p % 2) := by
  show nI p &&& nI 1 = _
  rw [nx_and, Nat.and_one_is_mod]
theorem bit_n {p r : Nat} (hp : p < 2 ^ 31) (hr : r < 32) : (nI p >>> (nI r &&& 31)) &&& 1 = nI (p / 2 ^ r % 2) := by
  rw [shr_n hp hr, and1_n]
theorem bit_1 {p r : Nat} (hp : p < 2 ^ 31) (hr : r < 32) : (nI p >>> (nI r &&& 31)) &&& 1 = 1 ↔ p / 2 ^ r % 2 = 1 := by
  rw [bit_n hp hr]
  exact nI_eq (b := 1) (by omega) (by decide)
theorem bit_0 {p r : Nat} (hp : p < 2 ^ 31) (hr : r < 32) : (nI p >>> (nI r &&& 31)) &&& 1 = 0 ↔ p / 2 ^ r % 2 = 0 := by
  rw [bit_n hp hr, ← nI_0]
  exact nI_eq (b := 0) (by omega) (by decide)
theorem two_odd : ∀ n m, m ≤ n → 0 < m → ∃ z q, m = 2 ^ z * (2 * q + 1) := by
  intro n
  induction n with
  | zero => intro m h1 h2; omega
  | succ n ih =>
    intro m h1 h2
    rcases Nat.mod_two_eq_zero_or_one m with h | h
    · obtain ⟨z, q, e⟩ := ih (m / 2) (by omega) (by omega)
      exact ⟨z + 1, q, by rw [Nat.pow_succ, Nat.mul_comm (2 ^ z) 2, Nat.mul_assoc, ← e]; omega⟩
    · exact ⟨0, m / 2, by omega⟩
theorem and_cmp {w q : Nat} (h : q < 2 ^ w) : (2 ^ w - (q + 1)) &&& q = 0 := by
  apply Nat.eq_of_testBit_eq
  intro i
  rw [Nat.testBit_and, Nat.testBit_two_pow_sub_succ h]
  cases q.testBit i <;> simp
theorem xm1_n {m : Nat} (h : m < 2 ^ 32) : nI m ^^^ (-1 : Int32) = nI (2 ^ 32 - (m + 1)) := by
  apply b_ext
  intro i hi
  rw [b_xor, b_m1 i hi]
  unfold bt
  show ((BitVec.ofNat 32 m).getLsbD i ^^ true) = (BitVec.ofNat 32 (2 ^ 32 - (m + 1))).getLsbD i
  rw [BitVec.getLsbD_ofNat, BitVec.getLsbD_ofNat, Nat.testBit_two_pow_sub_succ h]
  simp [hi]
theorem low_n {m z q : Nat} (e : m = 2 ^ z * (2 * q + 1)) (hm : m < 2 ^ 31) : (nI m ^^^ (-1 : Int32)) &&& (nI m - 1) = nI (2 ^ z - 1) := by
  have hp : 0 < 2 ^ z := Nat.pow_pos (by decide)
  have e1 : m = 2 ^ z + 2 ^ (z + 1) * q := by rw [e, Nat.pow_succ, Nat.mul_add, Nat.mul_one, Nat.mul_assoc, Nat.add_comm]
  have hz : z ≤ 30 := by
    by_cases h : z ≤ 30
    · exact h
    · have : 2 ^ 31 ≤ 2 ^ z := Nat.pow_le_pow_right (by decide) (by omega)
      omega
  have e2 : nI m - 1 = nI (m - 1) := nI_subN (b := 1) (by omega)
  rw [xm1_n (by omega), e2, nx_and]
  congr 1
  have hq : q < 2 ^ (31 - z) := by
    have h1 : 2 ^ (z + 1) * q < 2 ^ (z + 1) * 2 ^ (31 - z) := by
      rw [← Nat.pow_add, show z + 1 + (31 - z) = 32 by omega]; omega
    exact Nat.lt_of_mul_lt_mul_left h1
  have e3 : m - 1 = (2 ^ z - 1) + 2 ^ (z + 1) * q := by omega
  have e4 : 2 ^ 32 - (m + 1) = (2 ^ z - 1) + 2 ^ (z + 1) * (2 ^ (31 - z) - (q + 1)) := by
    have h1 : 2 ^ (z + 1) * 2 ^ (31 - z) = 2 ^ 32 := by rw [← Nat.pow_add, show z + 1 + (31 - z) = 32 by omega]
    have h2 : 2 ^ (z + 1) * (2 ^ (31 - z) - (q + 1)) = 2 ^ 32 - (2 ^ (z + 1) * q + 2 ^ (z + 1)) := by rw [Nat.mul_sub, h1, Nat.mul_add, Nat.mul_one]
    have h3 : 2 ^ (z + 1) * (q + 1) ≤ 2 ^ (z + 1) * 2 ^ (31 - z) := Nat.mul_le_mul_left _ hq
    rw [h1, Nat.mul_add, Nat.mul_one] at h3
    have h4 : 2 ^ (z + 1) = 2 * 2 ^ z := by rw [Nat.pow_succ, Nat.mul_comm]
    rw [h2]
    omega
  have hlt : 2 ^ z - 1 < 2 ^ (z + 1) := by rw [Nat.pow_succ]; omega
  rw [e3, e4, and_sp (z + 1) _ _ _ _ hlt hlt, and_cmp hq, Nat.and_self]
  omega
theorem ntz_n {m z q : Nat} (e : m = 2 ^ z * (2 * q + 1)) (hm : m < 2 ^ 31) : f_Integer_numberOfTrailingZeros (nI m) = nI z := by
  have hz : z < 31 := by
    by_cases h : z < 31
    · exact h
    · have h1 : 2 ^ 31 ≤ 2 ^ z := Nat.pow_le_pow_right (by decide) (by omega)
      have h2 : 2 ^ z ≤ m := by rw [e]; exact Nat.le_mul_of_pos_right _ (by omega)
      omega
  unfold f_Integer_numberOfTrailingZeros
  rw [low_n e hm]
  clear e hm
  revert z
  decide +kernel
/-- row by row: where a stake comes to (none: beyond the last row) -/
def w_n (p R : Nat) : Nat → Nat → Option Nat
  | 0, r => some r
  | n + 1, r => if p / 2 ^ r % 2 = 1 then some r else if r + 1 = R then none else w_n p R n (r + 1)
def oI (o : Option Nat) : Int32 := match o with
  | none => -1
  | some r => nI r
theorem w_n_e {p R : Nat} : ∀ k n r, k ≤ n → r < R → (∀ j, j < k → p / 2 ^ (r + j) % 2 = 0) → (k = n ∨ p / 2 ^ (r + k) % 2 = 1) → w_n p R n r = if r + k < R then some (r + k) else none := by
  intro k
  induction k with
  | zero =>
    intro n r h1 h2 h3 h4
    rw [Nat.add_zero, if_pos h2]
    cases n with
    | zero => rfl
    | succ n =>
      have h5 : p / 2 ^ r % 2 = 1 := by
        rcases h4 with h | h
        · omega
        · exact h
      simp only [w_n]
      rw [if_pos h5]
  | succ k ih =>
    intro n r h1 h2 h3 h4
    cases n with
    | zero => omega
    | succ n =>
      simp only [w_n]
      have h5 := h3 0 (by omega)
      rw [Nat.add_zero] at h5
      rw [if_neg (by omega)]
      by_cases q : r + 1 = R
      · rw [if_pos q, if_neg (by omega)]
      · rw [if_neg q, ih n (r + 1) (by omega) (by omega) (fun j hj => by
          have := h3 (j + 1) (by omega)
          rwa [show r + 1 + j = r + (j + 1) by omega]) (by
          rcases h4 with h | h
          · exact Or.inl (by omega)
          · exact Or.inr (by rwa [show r + 1 + k = r + (k + 1) by omega]))]
        rw [show r + 1 + k = r + (k + 1) by omega]
theorem land_c {I : MI} {sl p R r n : Nat} (hp : p < 2 ^ 30) (hR : R ≤ 30) (hr : r < R) (hn : n ≤ 9) (hs : I sl 2 = nI R) : f_Walker_landing I sl (nI p) (nI r) (nI n) = oI (w_n p R n r) := by
  unfold f_Walker_landing
  rw [shr_n (by omega) (by omega), hs]
  have fin : ∀ k, k ≤ 40 → (if nI R ≤ nI (r + k) then (-1 : Int32) else nI (r + k)) = oI (if r + k < R then some (r + k) else none) := by
    intro k hk
    by_cases q : r + k < R
    · rw [if_pos q, if_neg (nI_ge q (by omega))]; rfl
    · rw [if_neg q, if_pos (nI_le (by omega) (by omega))]; rfl
  by_cases q0 : p / 2 ^ r = 0
  · rw [if_pos (by rw [q0]; exact nI_0), nI_add, fin n (by omega), w_n_e n n r (Nat.le_refl _) hr (fun j _ => by rw [Nat.pow_add, ← Nat.div_div_eq_div_mul, q0]; simp) (Or.inl rfl)]
  · have hlt : p / 2 ^ r < 2 ^ 31 := Nat.lt_of_le_of_lt (Nat.div_le_self _ _) (by omega)
    rw [if_neg (fun z => q0 ((nI_eq (b := 0) hlt (by decide)).mp (by rw [z, nI_0])))]
    obtain ⟨z, q, e⟩ := two_odd _ (p / 2 ^ r) (Nat.le_refl _) (Nat.pos_of_ne_zero q0)
    have hz : z < 31 := by
      by_cases h : z < 31
      · exact h
      · have h1 : 2 ^ 31 ≤ 2 ^ z := Nat.pow_le_pow_right (by decide) (by omega)
        have h2 : 2 ^ z ≤ p / 2 ^ r := by rw [e]; exact Nat.le_mul_of_pos_right _ (by omega)
        omega
    have hm : f_Math_min_II (nI n) (nI z) = nI (min n z) := by
      unfold f_Math_min_II
      by_cases h : z < n
      · rw [if_pos (nI_lt h (by omega)), show min n z = z by omega]
      · rw [if_neg (nI_nlt (by omega) (by omega)), show min n z = n by omega]
    rw [ntz_n e hlt, hm, nI_add, fin _ (by omega), w_n_e (min n z) n r (by omega) hr]
    · intro j hj
      have hj2 : j < z := by omega
      rw [Nat.pow_add, ← Nat.div_div_eq_div_mul, e, show z = j + 1 + (z - (j + 1)) by omega, Nat.pow_add, Nat.pow_succ, Nat.mul_assoc, Nat.mul_assoc, Nat.mul_div_cancel_left _ (Nat.pow_pos (by decide))]
      omega
    · by_cases h : n ≤ z
      · exact Or.inl (by omega)
      · right
        rw [show min n z = z by omega, Nat.pow_add, ← Nat.div_div_eq_div_mul, e, Nat.mul_div_cancel_left _ (Nat.pow_pos (by decide))]
        omega
