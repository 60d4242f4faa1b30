/-! bits (rows bt .. nx_xor as the kit gives them for pasting), counting them -/
def bt (x : Int32) (i : Nat) : Bool := x.toBitVec.getLsbD i
theorem b_ext {x y : Int32} (h : ∀ i, i < 32 → bt x i = bt y i) : x = y := Int32.toBitVec_inj.mp (BitVec.eq_of_getLsbD_eq (fun i hi => h i hi))
theorem b_or (x y : Int32) (i : Nat) : bt (x ||| y) i = (bt x i || bt y i) := by unfold bt; rw [Int32.toBitVec_or, BitVec.getLsbD_or]
theorem b_and (x y : Int32) (i : Nat) : bt (x &&& y) i = (bt x i && bt y i) := by unfold bt; rw [Int32.toBitVec_and, BitVec.getLsbD_and]
theorem b_xor (x y : Int32) (i : Nat) : bt (x ^^^ y) i = (bt x i ^^ bt y i) := by unfold bt; rw [Int32.toBitVec_xor, BitVec.getLsbD_xor]
theorem b_big {x : Int32} {i : Nat} (h : 32 ≤ i) : bt x i = false := BitVec.getLsbD_of_ge _ _ h
theorem b_255 (i : Nat) : bt 255 i = decide (i < 8) := by
  rcases Nat.lt_or_ge i 32 with h | h
  · exact (by decide +kernel : ∀ i, i < 32 → bt 255 i = decide (i < 8)) i h
  · rw [b_big h, decide_eq_false (by omega)]
theorem b_65535 (i : Nat) : bt 65535 i = decide (i < 16) := by
  rcases Nat.lt_or_ge i 32 with h | h
  · exact (by decide +kernel : ∀ i, i < 32 → bt 65535 i = decide (i < 16)) i h
  · rw [b_big h, decide_eq_false (by omega)]
theorem b_m1 : ∀ i, i < 32 → bt (-1) i = true := by decide +kernel
theorem b_0 (i : Nat) : bt 0 i = false := BitVec.getLsbD_zero
theorem s_l : ∀ n, n < 32 → ((nI n &&& 31).toBitVec.smod 32).toNat = n := by decide +kernel
theorem s_u : ∀ n, n < 32 → (((nI n).toUInt32 &&& Int32.toUInt32 31).toBitVec % 32).toNat = n := by decide +kernel
theorem b_shl (n : Nat) (hn : n < 32) (x : Int32) {i : Nat} (hi : i < 32) : bt (x <<< (nI n &&& 31)) i = (decide (n ≤ i) && bt x (i - n)) := by
  unfold bt
  rw [Int32.toBitVec_shiftLeft]
  show (x.toBitVec <<< ((nI n &&& 31).toBitVec.smod 32).toNat).getLsbD i = _
  rw [s_l n hn, BitVec.getLsbD_shiftLeft]
  rcases Nat.lt_or_ge i n with h | h
  · simp [h, Nat.not_le.mpr h]
  · simp [hi, h, Nat.not_lt.mpr h]
theorem b_ushr (n : Nat) (hn : n < 32) (x : Int32) (i : Nat) : bt ((x.toUInt32 >>> ((nI n).toUInt32 &&& Int32.toUInt32 31)).toInt32) i = bt x (n + i) := by
  show (x.toUInt32 >>> ((nI n).toUInt32 &&& Int32.toUInt32 31)).toBitVec.getLsbD i = x.toUInt32.toBitVec.getLsbD (n + i)
  rw [UInt32.toBitVec_shiftRight]
  show (x.toUInt32.toBitVec >>> (((nI n).toUInt32 &&& Int32.toUInt32 31).toBitVec % 32).toNat).getLsbD i = _
  rw [s_u n hn, BitVec.getLsbD_ushiftRight]
theorem b_sshr (n : Nat) (hn : n < 32) (x : Int32) {i : Nat} (hi : i < 32) : bt (x >>> (nI n &&& 31)) i = if n + i < 32 then bt x (n + i) else bt x 31 := by
  unfold bt
  rw [Int32.toBitVec_shiftRight]
  show (x.toBitVec.sshiftRight ((nI n &&& 31).toBitVec.smod 32).toNat).getLsbD i = _
  rw [s_l n hn, BitVec.getLsbD_sshiftRight, BitVec.msb_eq_getLsbD_last]
  simp [hi]
theorem b_shl8 (x : Int32) {i : Nat} (hi : i < 32) : bt (x <<< ((8 : Int32) &&& 31)) i = (decide (8 ≤ i) && bt x (i - 8)) := b_shl 8 (by omega) x hi
theorem b_shl16 (x : Int32) {i : Nat} (hi : i < 32) : bt (x <<< ((16 : Int32) &&& 31)) i = (decide (16 ≤ i) && bt x (i - 16)) := b_shl 16 (by omega) x hi
theorem b_shl24 (x : Int32) {i : Nat} (hi : i < 32) : bt (x <<< ((24 : Int32) &&& 31)) i = (decide (24 ≤ i) && bt x (i - 24)) := b_shl 24 (by omega) x hi
theorem b_sshr8 (x : Int32) {i : Nat} (hi : i < 32) : bt (x >>> ((8 : Int32) &&& 31)) i = if 8 + i < 32 then bt x (8 + i) else bt x 31 := b_sshr 8 (by omega) x hi
theorem nx_and (a b : Nat) : nI a &&& nI b = nI (a &&& b) := by
  apply Int32.toBitVec_inj.1
  show BitVec.ofNat 32 a &&& BitVec.ofNat 32 b = BitVec.ofNat 32 (a &&& b)
  apply BitVec.eq_of_getLsbD_eq
  intro i hi
  simp [hi]
theorem nx_xor (a b : Nat) : nI a ^^^ nI b = nI (a ^^^ b) := by
  apply Int32.toBitVec_inj.1
  show BitVec.ofNat 32 a ^^^ BitVec.ofNat 32 b = BitVec.ofNat 32 (a ^^^ b)
  apply BitVec.eq_of_getLsbD_eq
  intro i hi
  simp [hi]
theorem nI_subN {a b : Nat} (h : b ≤ a) : nI a - nI b = nI (a - b) := by
  have e : nI a = nI (a - b) + nI b := by rw [nI_add, Nat.sub_add_cancel h]
  rw [e, Int32.add_sub_cancel]
theorem ush_n {a s : Nat} (ha : a < 2 ^ 31) (hs : s < 32) : m_ushr (nI a) (nI s) = nI (a / 2 ^ s) := by
  apply b_ext
  intro i hi
  unfold m_ushr
  rw [b_ushr s hs]
  unfold bt
  show (BitVec.ofNat 32 a).getLsbD (s + i) = (BitVec.ofNat 32 (a / 2 ^ s)).getLsbD i
  rw [BitVec.getLsbD_ofNat, BitVec.getLsbD_ofNat, Nat.testBit_div_two_pow]
  by_cases q : s + i < 32
  · simp [q, hi, Nat.add_comm]
  · rw [decide_eq_false q]
    have : a.testBit (i + s) = false := Nat.testBit_lt_two_pow (Nat.lt_of_lt_of_le ha (Nat.pow_le_pow_right (by decide) (by omega)))
    rw [this]; simp
theorem and_sp (k a b m n : Nat) (ha : a < 2 ^ k) (hm : m < 2 ^ k) : (a + 2 ^ k * b) &&& (m + 2 ^ k * n) = (a &&& m) + 2 ^ k * (b &&& n) := by
  apply Nat.eq_of_testBit_eq
  intro i
  have hl : a &&& m < 2 ^ k := Nat.lt_of_le_of_lt Nat.and_le_left ha
  rw [Nat.testBit_and, Nat.add_comm a, Nat.add_comm m, Nat.add_comm (a &&& m), Nat.testBit_two_pow_mul_add _ ha, Nat.testBit_two_pow_mul_add _ hm, Nat.testBit_two_pow_mul_add _ hl]
  by_cases q : i < k
  · simp [q]
  · simp [q]
theorem and_8 (a b m n : Nat) (ha : a < 256) (hm : m < 256) : (a + 256 * b) &&& (m + 256 * n) = (a &&& m) + 256 * (b &&& n) := and_sp 8 a b m n ha hm
/-- how many bits, of the lowest k -/
def pop : Nat → Nat → Nat
  | 0, _ => 0
  | k + 1, n => n % 2 + pop k (n / 2)
theorem pop_le : ∀ k n, pop k n ≤ k := by
  intro k
  induction k with
  | zero => intro n; exact Nat.le_refl _
  | succ k ih => intro n; simp only [pop]; have := ih (n / 2); omega
theorem pop_sp (k : Nat) : ∀ j n, pop (j + k) n = pop j (n % 2 ^ j) + pop k (n / 2 ^ j) := by
  intro j
  induction j with
  | zero => intro n; simp [pop]
  | succ j ih =>
    intro n
    rw [show j + 1 + k = (j + k) + 1 by omega]
    simp only [pop]
    rw [ih (n / 2)]
    have e1 : n % 2 ^ (j + 1) % 2 = n % 2 := by
      rw [Nat.pow_succ, Nat.mul_comm]
      exact Nat.mod_mul_right_mod n 2 (2 ^ j)
    have e2 : n % 2 ^ (j + 1) / 2 = n / 2 % 2 ^ j := by
      rw [Nat.pow_succ, Nat.mul_comm]
      exact Nat.mod_mul_right_div_self n 2 (2 ^ j)
    rw [e1, e2, Nat.div_div_eq_div_mul, Nat.pow_succ, Nat.mul_comm 2]
    omega
def sw1 (a : Nat) : Nat := a - (a / 2 &&& 85)
def sw2 (a : Nat) : Nat := (a &&& 51) + (a / 4 &&& 51)
def sw3 (a : Nat) : Nat := (a + a / 16) &&& 15
theorem by_1 : ∀ a, a < 256 → (a / 2 &&& 85) ≤ a ∧ sw1 a < 256 ∧ sw2 (sw1 a) < 69 ∧ sw2 (sw1 a) % 16 < 5 ∧ sw3 (sw2 (sw1 a)) = pop 8 a := by decide +kernel
theorem by_2 : ∀ a, a < 256 → ∀ t, t < 2 → (a / 2 + 128 * t) &&& 85 = a / 2 &&& 85 := by decide +kernel
theorem by_3 : ∀ a, a < 256 → ∀ t, t < 4 → (a / 4 + 64 * t) &&& 51 = a / 4 &&& 51 := by decide +kernel
theorem by_4 : ∀ a, a < 69 → ∀ t, t < 5 → (a + a / 16 + 16 * t) &&& 15 = sw3 a := by decide +kernel
theorem by_5 : ∀ a, a < 256 → (a &&& 51) < 52 ∧ (a / 4 &&& 51) < 52 := by decide +kernel
theorem sum4 {a b c d : Nat} (ha : a ≤ 8) (hb : b ≤ 8) (hc : c ≤ 8) (hd : d ≤ 8) {q : Nat} (e : q = a + 256 * (b + 256 * (c + 256 * d))) : q + q / 256 < 2 ^ 31 ∧ (q + q / 256 + (q + q / 256) / 65536) % 64 = a + b + c + d := by
  have e1 : q / 256 = b + 256 * (c + 256 * d) := by omega
  rw [e1, e]
  have e2 : (a + 256 * (b + 256 * (c + 256 * d)) + (b + 256 * (c + 256 * d))) / 65536 = c + d + 256 * d := by omega
  rw [e2]
  omega
theorem swar {a b c d : Nat} (ha : a < 256) (hb : b < 256) (hc : c < 256) (hd : d < 256) :
    (let x := a + 256 * (b + 256 * (c + 256 * d))
     let y := x - ((x / 2) &&& 1431655765)
     let z := (y &&& 858993459) + ((y / 4) &&& 858993459)
     let q := (z + z / 16) &&& 252645135
     let r := q + q / 256
     y ≤ x ∧ (x / 2) &&& 1431655765 ≤ x ∧ z < 2 ^ 31 ∧ z + z / 16 < 2 ^ 31 ∧ r < 2 ^ 31 ∧ (r + r / 65536) % 64 = pop 8 a + pop 8 b + pop 8 c + pop 8 d) := by
  intro x y z q r
  obtain ⟨a1, a2, a3, a4, a5⟩ := by_1 a ha
  obtain ⟨b1, b2, b3, b4, b5⟩ := by_1 b hb
  obtain ⟨c1, c2, c3, c4, c5⟩ := by_1 c hc
  obtain ⟨d1, d2, d3, d4, d5⟩ := by_1 d hd
  have m1 : (1431655765 : Nat) = 85 + 256 * (85 + 256 * (85 + 256 * 85)) := by decide
  have m2 : (858993459 : Nat) = 51 + 256 * (51 + 256 * (51 + 256 * 51)) := by decide
  have m3 : (252645135 : Nat) = 15 + 256 * (15 + 256 * (15 + 256 * 15)) := by decide
  have e1 : (x / 2) &&& 1431655765 = (a / 2 &&& 85) + 256 * ((b / 2 &&& 85) + 256 * ((c / 2 &&& 85) + 256 * (d / 2 &&& 85))) := by
    have : x / 2 = (a / 2 + 128 * (b % 2)) + 256 * ((b / 2 + 128 * (c % 2)) + 256 * ((c / 2 + 128 * (d % 2)) + 256 * (d / 2))) := by omega
    rw [this, m1, and_8 _ _ _ _ (by omega) (by omega), and_8 _ _ _ _ (by omega) (by omega), and_8 _ _ _ _ (by omega) (by omega), by_2 a ha _ (by omega), by_2 b hb _ (by omega), by_2 c hc _ (by omega)]
  have e2 : y = sw1 a + 256 * (sw1 b + 256 * (sw1 c + 256 * sw1 d)) := by
    show x - ((x / 2) &&& 1431655765) = _
    rw [e1]
    unfold sw1
    omega
  have e3 : y &&& 858993459 = (sw1 a &&& 51) + 256 * ((sw1 b &&& 51) + 256 * ((sw1 c &&& 51) + 256 * (sw1 d &&& 51))) := by
    rw [e2, m2, and_8 _ _ _ _ a2 (by omega), and_8 _ _ _ _ b2 (by omega), and_8 _ _ _ _ c2 (by omega)]
  have e4 : (y / 4) &&& 858993459 = (sw1 a / 4 &&& 51) + 256 * ((sw1 b / 4 &&& 51) + 256 * ((sw1 c / 4 &&& 51) + 256 * (sw1 d / 4 &&& 51))) := by
    have : y / 4 = (sw1 a / 4 + 64 * (sw1 b % 4)) + 256 * ((sw1 b / 4 + 64 * (sw1 c % 4)) + 256 * ((sw1 c / 4 + 64 * (sw1 d % 4)) + 256 * (sw1 d / 4))) := by omega
    rw [this, m2, and_8 _ _ _ _ (by omega) (by omega), and_8 _ _ _ _ (by omega) (by omega), and_8 _ _ _ _ (by omega) (by omega), by_3 _ a2 _ (by omega), by_3 _ b2 _ (by omega), by_3 _ c2 _ (by omega)]
  have e5 : z = sw2 (sw1 a) + 256 * (sw2 (sw1 b) + 256 * (sw2 (sw1 c) + 256 * sw2 (sw1 d))) := by
    show (y &&& 858993459) + ((y / 4) &&& 858993459) = _
    rw [e3, e4]
    unfold sw2
    omega
  have e6 : z + z / 16 = (sw2 (sw1 a) + sw2 (sw1 a) / 16 + 16 * (sw2 (sw1 b) % 16)) + 256 * ((sw2 (sw1 b) + sw2 (sw1 b) / 16 + 16 * (sw2 (sw1 c) % 16)) + 256 * ((sw2 (sw1 c) + sw2 (sw1 c) / 16 + 16 * (sw2 (sw1 d) % 16)) + 256 * (sw2 (sw1 d) + sw2 (sw1 d) / 16))) := by omega
  have e7 : q = pop 8 a + 256 * (pop 8 b + 256 * (pop 8 c + 256 * pop 8 d)) := by
    show (z + z / 16) &&& 252645135 = _
    rw [e6, m3, and_8 _ _ _ _ (by omega) (by omega), and_8 _ _ _ _ (by omega) (by omega), and_8 _ _ _ _ (by omega) (by omega), by_4 _ a3 _ b4, by_4 _ b3 _ c4, by_4 _ c3 _ d4, a5, b5, c5]
    show _ + 256 * (_ + 256 * (_ + 256 * sw3 (sw2 (sw1 d)))) = _
    rw [d5]
  have pa := pop_le 8 a; have pb := pop_le 8 b; have pcc := pop_le 8 c; have pd := pop_le 8 d
  refine ⟨by omega, ?_, by omega, by omega, ?_, ?_⟩
  · rw [e1]; omega
  · exact (sum4 pa pb pcc pd e7).1
  · exact (sum4 pa pb pcc pd e7).2
theorem bitc_n {n : Nat} (hn : n < 2 ^ 31) : f_Integer_bitCount (nI n) = nI (pop 32 n) := by
  have hp : pop 32 n = pop 8 (n % 256) + pop 8 (n / 256 % 256) + pop 8 (n / 65536 % 256) + pop 8 (n / 16777216) := by
    rw [show 32 = 8 + 24 from rfl, pop_sp, show 24 = 8 + 16 from rfl, pop_sp, show 16 = 8 + 8 from rfl, pop_sp]
    simp only [Nat.div_div_eq_div_mul, Nat.reduceMul, Nat.reducePow]
    omega
  have e : n = n % 256 + 256 * (n / 256 % 256 + 256 * (n / 65536 % 256 + 256 * (n / 16777216))) := by omega
  have S := swar (a := n % 256) (b := n / 256 % 256) (c := n / 65536 % 256) (d := n / 16777216) (by omega) (by omega) (by omega) (by omega)
  rw [← e, ← hp] at S
  obtain ⟨h1, h2, h3, h4, h5, h6⟩ := S
  have c1 : (1431655765 : Int32) = nI 1431655765 := rfl
  have c2 : (858993459 : Int32) = nI 858993459 := rfl
  have c3 : (252645135 : Int32) = nI 252645135 := rfl
  have c4 : (63 : Int32) = nI 63 := rfl
  have u1 : ∀ {a : Nat}, a < 2 ^ 31 → m_ushr (nI a) (1 : Int32) = nI (a / 2) := fun h => ush_n (s := 1) h (by decide)
  have u2 : ∀ {a : Nat}, a < 2 ^ 31 → m_ushr (nI a) (2 : Int32) = nI (a / 4) := fun h => ush_n (s := 2) h (by decide)
  have u4 : ∀ {a : Nat}, a < 2 ^ 31 → m_ushr (nI a) (4 : Int32) = nI (a / 16) := fun h => ush_n (s := 4) h (by decide)
  have u8 : ∀ {a : Nat}, a < 2 ^ 31 → m_ushr (nI a) (8 : Int32) = nI (a / 256) := fun h => ush_n (s := 8) h (by decide)
  have u6 : ∀ {a : Nat}, a < 2 ^ 31 → m_ushr (nI a) (16 : Int32) = nI (a / 65536) := fun h => ush_n (s := 16) h (by decide)
  unfold f_Integer_bitCount
  rw [u1 hn, c1, nx_and, nI_subN h2]
  generalize hy : n - (n / 2 &&& 1431655765) = y at *
  rw [u2 (by omega), c2, nx_and, nx_and, nI_add]
  generalize hz : (y &&& 858993459) + (y / 4 &&& 858993459) = z at *
  rw [u4 h3, nI_add, c3, nx_and]
  have hq : (z + z / 16 &&& 252645135) < 2 ^ 31 := Nat.lt_of_le_of_lt Nat.and_le_right (by decide)
  generalize hq2 : (z + z / 16 &&& 252645135) = q at *
  rw [u8 hq, nI_add, u6 h5, nI_add, c4, nx_and, show (63 : Nat) = 2 ^ 6 - 1 from rfl, Nat.and_two_pow_sub_one_eq_mod]
  rw [show (2 ^ 6 : Nat) = 64 from rfl, h6]
theorem and_pred : ∀ k n, 0 < n → n < 2 ^ k → (n &&& (n - 1)) < n ∧ pop k (n &&& (n - 1)) + 1 = pop k n := by
  intro k
  induction k with
  | zero => intro n h1 h2; omega
  | succ k ih =>
    intro n h1 h2
    rcases Nat.mod_two_eq_zero_or_one n with h | h
    · have e1 : n = 0 + 2 ^ 1 * (n / 2) := by omega
      have e2 : n - 1 = 1 + 2 ^ 1 * (n / 2 - 1) := by omega
      have e3 : n &&& (n - 1) = 2 * (n / 2 &&& (n / 2 - 1)) := by
        rw [e2]
        conv => lhs; lhs; rw [e1]
        rw [and_sp 1 _ _ _ _ (by decide) (by decide)]
        simp
      have hk : n / 2 < 2 ^ k := by rw [Nat.pow_succ] at h2; omega
      obtain ⟨g1, g2⟩ := ih (n / 2) (by omega) hk
      refine ⟨by omega, ?_⟩
      simp only [pop]
      rw [e3, show 2 * (n / 2 &&& (n / 2 - 1)) / 2 = (n / 2 &&& (n / 2 - 1)) by omega]
      omega
    · have e1 : n = 1 + 2 ^ 1 * (n / 2) := by omega
      have e2 : n - 1 = 0 + 2 ^ 1 * (n / 2) := by omega
      have e3 : n &&& (n - 1) = 2 * (n / 2) := by
        rw [e2]
        conv => lhs; lhs; rw [e1]
        rw [and_sp 1 _ _ _ _ (by decide) (by decide)]
        simp
      refine ⟨by omega, ?_⟩
      simp only [pop]
      rw [e3, show 2 * (n / 2) / 2 = n / 2 by omega]
      omega
theorem bits_e {n : Nat} (hn : n < 2 ^ 31) : F_MD_bits (nI n) = some (nI (pop 32 n)) := by
  unfold F_MD_bits
  have key : ∀ m, ∀ n, n < 2 ^ 31 → n ≤ m → ∀ a : Nat, wl (fun s : Int32 × Int32 => F_MD_bits_4 s.1 s.2) (nI a, nI n) = some (nI (a + pop 32 n)) := by
    intro m
    induction m with
    | zero =>
      intro n h1 h2 a
      have : n = 0 := by omega
      subst this
      rw [wl_in (t := nI a)]
      · rfl
      · simp only [F_MD_bits_4]; rw [nI_0, if_pos rfl]
    | succ m ih =>
      intro n h1 h2 a
      by_cases q : n = 0
      · exact ih n h1 (by omega) a
      · obtain ⟨g1, g2⟩ := and_pred 32 n (by omega) (by omega)
        rw [wl_st (s' := (nI (a + 1), nI (n &&& (n - 1))))]
        · rw [ih _ (by omega) (by omega), show a + pop 32 n = a + 1 + pop 32 (n &&& (n - 1)) by omega]
        · simp only [F_MD_bits_4]
          rw [if_neg (nI_ne0 (by omega) h1), nI_s]
          have : nI n - 1 = nI (n - 1) := nI_subN (b := 1) (by omega)
          rw [this, nx_and]
  have h := key n n hn (Nat.le_refl _) 0
  rw [nI_0] at h
  rw [h, Nat.zero_add]
  rfl
