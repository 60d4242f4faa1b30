/-! draws -/
theorem li32 (n : Nat) : (OfNat.ofNat n : Int32) = nI n := rfl
theorem li64 (n : Nat) : (OfNat.ofNat n : Int64) = lN n := rfl
theorem lT {a : Nat} (h : a < 2 ^ 63) : (lN a).toInt = a := Int64.toInt_ofNat_of_lt h
theorem lMul (a b : Nat) : lN a * lN b = lN (a * b) := by simp only [lN, ← Int64.ofNat_mul]
theorem lAdd (a b : Nat) : lN a + lN b = lN (a + b) := by simp only [lN, ← Int64.ofNat_add]
theorem lSub {a b : Nat} (h : b ≤ a) : lN a - lN b = lN (a - b) := by
  have e : lN (a - b) + lN b = lN a := by rw [lAdd, Nat.sub_add_cancel h]
  rw [← e, Int64.add_sub_cancel]
theorem lDiv {a b : Nat} (ha : a < 2 ^ 63) (hb : b < 2 ^ 63) : lN a / lN b = lN (a / b) := by
  refine Int64.toInt_inj.mp ?_
  have : a / b ≤ a := Nat.div_le_self _ _
  rw [Int64.toInt_div, lT ha, lT hb, lT (by omega)]
  have e : (a : Int).tdiv (b : Int) = ((a / b : Nat) : Int) := rfl
  rw [e]
  generalize a / b = q at *
  rw [Int.bmod_eq_of_le] <;> omega
theorem lMod {a b : Nat} (ha : a < 2 ^ 63) (hb : b < 2 ^ 63) : lN a - lN a / lN b * lN b = lN (a % b) := by
  have h := Nat.div_add_mod a b
  rw [Nat.mul_comm] at h
  rw [lDiv ha hb, lMul, lSub (by omega)]
  congr 1
  omega
theorem l32 (n : Nat) : (lN n).toInt32 = nI n := by
  apply Int32.toBitVec_inj.1
  show ((BitVec.ofNat 64 n).signExtend 32) = BitVec.ofNat 32 n
  apply BitVec.eq_of_getLsbD_eq
  intro i hi
  rw [BitVec.getLsbD_signExtend, BitVec.getLsbD_ofNat, BitVec.getLsbD_ofNat]
  have h1 : i < 64 := by omega
  simp [hi, h1]
theorem n64 {n : Nat} (h : n < 2 ^ 31) : (nI n).toInt64 = lN n := Int64.toInt_inj.mp (by rw [Int32.toInt_toInt64, nI_toInt h, lT (by omega)])
theorem nDiv {a b : Nat} (ha : a < 2 ^ 31) (hb : b < 2 ^ 31) : nI a / nI b = nI (a / b) := by
  refine Int32.toInt_inj.mp ?_
  have : a / b ≤ a := Nat.div_le_self _ _
  rw [Int32.toInt_div, nI_toInt ha, nI_toInt hb, nI_toInt (by omega)]
  have e : (a : Int).tdiv (b : Int) = ((a / b : Nat) : Int) := rfl
  rw [e]
  generalize a / b = q at *
  rw [Int.bmod_eq_of_le] <;> omega
/-- the next, and what is drawn -/
def a_nx (s : Nat) : Nat := (1103515245 * s + 12345) % 2147483648
def a_dr (s m : Nat) : Nat := a_nx s / 64 % m
theorem nx_lt (s : Nat) : a_nx s < 2 ^ 31 := Nat.mod_lt _ (by decide)
section L84
variable {I X Z B : MI} {J JX J2 : MJ} {k o sl sd : Nat}
theorem nx_c (s : Nat) : (((1103515245 : Int32) * nI s) + (12345 : Int32)) &&& (2147483647 : Int32) = nI (a_nx s) := by
  rw [show (1103515245 : Int32) = nI 1103515245 from li32 1103515245, show (12345 : Int32) = nI 12345 from li32 12345, show (2147483647 : Int32) = nI 2147483647 from li32 2147483647, nI_m3, nI_add, nx_and]
  have e : (1103515245 * s + 12345) &&& 2147483647 = a_nx s := by
    have := Nat.and_two_pow_sub_one_eq_mod (1103515245 * s + 12345) 31
    exact this
  rw [e]
theorem draw_c {s m : Nat} (h : I 0 12 = nI s) (h0 : 0 < m) (hm : m < 2 ^ 31) : F_WF_draw sl sd I (nI m) = some (nI (a_dr s m), m_up I 0 12 (nI (a_nx s))) := by
  have hs := nx_lt s
  have : a_nx s / 64 ≤ a_nx s := Nat.div_le_self _ _
  unfold F_WF_draw
  rw [h, nx_c, if_neg (show ¬ nI m ≤ 0 from nI_ge (a := 0) h0 hm), gq_e (show ¬ nI m = 0 from fun e => by have := congrArg Int32.toNatClampNeg e; rw [nI_clamp hm] at this; have : m = 0 := this; omega), show (64 : Int32) = nI 64 from li32 64, nDiv hs (by decide), rem_n (by omega) h0 hm]
  rfl
theorem nx_m {s : Nat} (hs : s < 2 ^ 31) : (((1103515245 : Int64) * lN s) + (12345 : Int64)) - (((1103515245 : Int64) * lN s) + (12345 : Int64)) / (2147483648 : Int64) * (2147483648 : Int64) = lN (a_nx s) := by
  rw [show (1103515245 : Int64) = lN 1103515245 from li64 1103515245, show (12345 : Int64) = lN 12345 from li64 12345, show (2147483648 : Int64) = lN 2147483648 from li64 2147483648, lMul, lAdd, lMod (by omega) (by decide)]
  rfl
theorem draw_m {s m : Nat} (h : J 177 68 = lN s) (hs : s < 2 ^ 31) (h0 : 0 < m) (hm : m < 2 ^ 31) : F_MD_drawOf J (nI m) = some (nI (a_dr s m), m_up J 177 68 (lN (a_nx s))) := by
  have hn := nx_lt s
  have hd : a_nx s / 64 ≤ a_nx s := Nat.div_le_self _ _
  unfold F_MD_drawOf
  rw [h, n64 hm, gq_e (show ¬ lN m = 0 from fun e => by have := congrArg Int64.toInt e; rw [lT (by omega)] at this; have : (m : Int) = 0 := this; omega), nx_m hs, show (64 : Int64) = lN 64 from li64 64, lDiv (by omega) (by decide), lMod (by omega) (by omega), l32]
  rfl
end L84
