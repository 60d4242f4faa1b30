/-! values of sums and tests, as Int; the class's in Int32, the reference's in Int64 -/
def xI (v : Int) : Int32 := Int32.ofInt v
def xL (v : Int) : Int64 := Int64.ofInt v
def smv (v : Int) : Prop := -1000000 ≤ v ∧ v ≤ 1000000
def q_cl (v : Int) : Int := if 1000000 < v then 1000000 else if v < -1000000 then -1000000 else v
def q_fl (a b : Int) : Int := if b = 0 then 0 else if a.tmod b = 0 then a.tdiv b else if (a < 0 ↔ b < 0) then a.tdiv b else a.tdiv b - 1
def q_bin (c : Nat) (a b : Int) : Int :=
  if c = 1 then q_cl (a + b) else if c = 2 then q_cl (a - b) else if c = 3 then q_cl (a * b) else if c = 4 then q_fl a b
  else if c = 5 then (if a < b then a else b) else if c = 6 then (if b < a then a else b) else if c = 7 then (if a < b then 1 else 0)
  else if c = 8 then (if b < a then 1 else 0) else if c = 9 then (if a = b then 1 else 0) else if c = 10 then a * b else (if 0 < a + b then 1 else 0)
theorem xI_t {v : Int} (h1 : -2147483648 ≤ v) (h2 : v < 2147483648) : (xI v).toInt = v := Int32.toInt_ofInt_of_le h1 h2
theorem xL_t {v : Int} (h1 : -9223372036854775808 ≤ v) (h2 : v < 9223372036854775808) : (xL v).toInt = v := Int64.toInt_ofInt_of_le h1 h2
theorem xI_s {v : Int} (h : smv v) : (xI v).toInt = v := xI_t (by have := h.1; omega) (by have := h.2; omega)
theorem xL_s {v : Int} (h : smv v) : (xL v).toInt = v := xL_t (by have := h.1; omega) (by have := h.2; omega)
theorem xI_of (x : Int32) : xI x.toInt = x := Int32.ofInt_toInt x
theorem xL_of (x : Int64) : xL x.toInt = x := Int64.ofInt_toInt x
theorem xI_n (n : Nat) : xI (n : Int) = nI n := Int32.ofInt_eq_ofNat
theorem xI_L {v : Int} (h1 : -2147483648 ≤ v) (h2 : v < 2147483648) : (xI v).toInt64 = xL v := Int64.toInt_inj.mp (by rw [Int32.toInt_toInt64, xI_t h1 h2, xL_t (by omega) (by omega)])
theorem xL_I {v : Int} (h1 : -2147483648 ≤ v) (h2 : v < 2147483648) : (xL v).toInt32 = xI v := Int32.toInt_inj.mp (by
  rw [Int64.toInt_toInt32, xL_t (by omega) (by omega), xI_t h1 h2, Int.bmod_eq_of_le] <;> omega)
theorem xL_add (a b : Int) : xL a + xL b = xL (a + b) := (Int64.ofInt_add a b).symm
theorem xL_sub (a b : Int) : xL a - xL b = xL (a - b) := (Int64.ofInt_sub a b).symm
theorem xL_mul (a b : Int) : xL a * xL b = xL (a * b) := (Int64.ofInt_mul a b).symm
theorem xI_sub (a b : Int) : xI a - xI b = xI (a - b) := (Int32.ofInt_sub a b).symm
theorem xI_mul (a b : Int) : xI a * xI b = xI (a * b) := (Int32.ofInt_mul a b).symm
def bgv (v : Int) : Prop := -4000000000000 ≤ v ∧ v ≤ 4000000000000
theorem xL_b {v : Int} (h : bgv v) : (xL v).toInt = v := xL_t (by have := h.1; omega) (by have := h.2; omega)
theorem xL_le {a b : Int} (ha : bgv a) (hb : bgv b) : xL a ≤ xL b ↔ a ≤ b := by rw [Int64.le_iff_toInt_le, xL_b ha, xL_b hb]
theorem xL_lt {a b : Int} (ha : bgv a) (hb : bgv b) : xL a < xL b ↔ a < b := by rw [Int64.lt_iff_toInt_lt, xL_b ha, xL_b hb]
theorem xL_eq {a b : Int} (ha : bgv a) (hb : bgv b) : xL a = xL b ↔ a = b := by rw [← Int64.toInt_inj, xL_b ha, xL_b hb]
theorem xI_le {a b : Int} (ha : smv a) (hb : smv b) : xI a ≤ xI b ↔ a ≤ b := by rw [Int32.le_iff_toInt_le, xI_s ha, xI_s hb]
theorem xI_lt {a b : Int} (ha : smv a) (hb : smv b) : xI a < xI b ↔ a < b := by rw [Int32.lt_iff_toInt_lt, xI_s ha, xI_s hb]
theorem xI_eq {a b : Int} (ha : smv a) (hb : smv b) : xI a = xI b ↔ a = b := by rw [← Int32.toInt_inj, xI_s ha, xI_s hb]
theorem smb {v : Int} (h : smv v) : bgv v := ⟨by have := h.1; omega, by have := h.2; omega⟩
theorem q_cl_s (v : Int) : smv (q_cl v) := by
  unfold q_cl smv
  split
  · omega
  · split <;> omega
theorem q_cl_e {v : Int} (h : smv v) : q_cl v = v := by
  unfold q_cl
  rw [if_neg (by have := h.2; omega), if_neg (by have := h.1; omega)]
/-- both cut a value off alike -/
theorem clipC {v : Int} (h : bgv v) : (if (lg_cmp (xL v) (1000000 : Int64)) ≤ (0 : Int32) then (if (0 : Int32) ≤ (lg_cmp (xL v) (-1000000 : Int64)) then (xL v).toInt32 else (-1000000 : Int32)) else (1000000 : Int32)) = xI (q_cl v) := by
  have e1 : (1000000 : Int64) = xL 1000000 := by decide
  have e2 : (-1000000 : Int64) = xL (-1000000) := by decide
  have b1 : bgv 1000000 := by unfold bgv; omega
  have b2 : bgv (-1000000) := by unfold bgv; omega
  rw [e2, e1]
  simp only [lg_cmp_le, lg_cmp_ge, xL_le h b1, xL_le b2 h]
  unfold q_cl
  by_cases q1 : v ≤ 1000000
  · have c1 : ¬ 1000000 < v := by omega
    by_cases q2 : -1000000 ≤ v
    · have c2 : ¬ v < -1000000 := by omega
      rw [if_pos q1, if_pos q2, if_neg c1, if_neg c2, xL_I (by omega) (by omega)]
    · have c2 : v < -1000000 := by omega
      rw [if_pos q1, if_neg q2, if_neg c1, if_pos c2]; decide
  · have c1 : 1000000 < v := by omega
    rw [if_neg q1, if_pos c1]; decide
theorem clipM {v : Int} (h : bgv v) : F_MD_qClip (xL v) = some (xL (q_cl v)) := by
  have e1 : (1000000 : Int64) = xL 1000000 := by decide
  have e2 : (-1000000 : Int64) = xL (-1000000) := by decide
  unfold F_MD_qClip
  have b1 : bgv 1000000 := by unfold bgv; omega
  have b2 : bgv (-1000000) := by unfold bgv; omega
  rw [e2, e1]
  simp only [lg_cmp_le, lg_cmp_ge, xL_le h b1, xL_le b2 h]
  unfold q_cl
  by_cases q1 : v ≤ 1000000
  · have c1 : ¬ 1000000 < v := by omega
    by_cases q2 : -1000000 ≤ v
    · have c2 : ¬ v < -1000000 := by omega
      rw [if_pos q1, if_pos q2, if_neg c1, if_neg c2]
    · have c2 : v < -1000000 := by omega
      rw [if_pos q1, if_neg q2, if_neg c1, if_pos c2]
  · have c1 : 1000000 < v := by omega
    rw [if_neg q1, if_pos c1]
theorem q_fl_s {a b : Int} (ha : smv a) (hb : smv b) : smv (q_fl a b) := by
  unfold q_fl
  have h1 := ha.1; have h2 := ha.2
  have k1 : a.tdiv b ≤ 1000000 ∧ -1000000 ≤ a.tdiv b := by
    have := Int.natAbs_tdiv_le_natAbs a b
    omega
  split
  · unfold smv; omega
  · rename_i hb0
    split
    · exact ⟨k1.2, k1.1⟩
    · rename_i hm
      split
      · exact ⟨k1.2, k1.1⟩
      · rename_i hs
        refine ⟨?_, by omega⟩
        by_cases z : a.tdiv b = -1000000
        · exfalso
          have e := Int.tmod_add_mul_tdiv a b
          have e2 : (a.tdiv b).natAbs = a.natAbs / b.natAbs := Int.natAbs_tdiv a b
          rw [z] at e2
          have b1 : b.natAbs = 1 := by
            have hbp : 0 < b.natAbs := by omega
            by_cases q : b.natAbs = 1
            · exact q
            · have : a.natAbs / b.natAbs ≤ a.natAbs / 2 := Nat.div_le_div_left (by omega) (by omega)
              have : (-1000000 : Int).natAbs = 1000000 := rfl
              omega
          apply hm
          rcases Int.natAbs_eq b with h | h <;> rw [b1] at h <;> rw [h] <;> simp
        · omega
theorem bt31 (x : Int32) : bt x 31 = decide (x.toInt < 0) := by
  unfold bt
  have := BitVec.msb_eq_toInt (x := x.toBitVec)
  rw [BitVec.msb_eq_getLsbD_last] at this
  exact this
theorem xor_neg (x y : Int32) : (x ^^^ y).toInt < 0 ↔ ¬ (x.toInt < 0 ↔ y.toInt < 0) := by
  have h := b_xor x y 31
  rw [bt31, bt31, bt31] at h
  by_cases a : x.toInt < 0 <;> by_cases b : y.toInt < 0 <;> simp [a, b] at h ⊢ <;> omega
theorem divI {a b : Int} (ha : smv a) (hb : smv b) : (xI a / xI b) = xI (a.tdiv b) := by
  refine Int32.toInt_inj.mp ?_
  have h1 := ha.1; have h2 := ha.2
  have := Int.natAbs_tdiv_le_natAbs a b
  rw [Int32.toInt_div, xI_s ha, xI_s hb, xI_t (by omega) (by omega), Int.bmod_eq_of_le] <;> omega
theorem divL {a b : Int} (ha : smv a) (hb : smv b) : (xL a / xL b) = xL (a.tdiv b) := by
  refine Int64.toInt_inj.mp ?_
  have h1 := ha.1; have h2 := ha.2
  have := Int.natAbs_tdiv_le_natAbs a b
  rw [Int64.toInt_div, xL_s ha, xL_s hb, xL_t (by omega) (by omega), Int.bmod_eq_of_le] <;> omega
theorem floorC {a b : Int} (ha : smv a) (hb : smv b) (h0 : ¬ b = 0) : f_Math_floorDiv (xI a) (xI b) = xI (q_fl a b) := by
  have h1 := ha.1; have h2 := ha.2
  have k := Int.natAbs_tdiv_le_natAbs a b
  have e := Int.tmod_add_mul_tdiv a b
  unfold f_Math_floorDiv q_fl
  rw [divI ha hb, xI_mul, if_neg h0]
  have hx : (0 : Int32) ≤ (xI a ^^^ xI b) ↔ (a < 0 ↔ b < 0) := by
    have := xor_neg (xI a) (xI b)
    rw [xI_s ha, xI_s hb] at this
    rw [Int32.le_iff_toInt_le]
    show (0 : Int) ≤ _ ↔ _
    constructor
    · intro z
      exact Classical.not_not.mp (fun w => absurd (this.mpr w) (by omega))
    · intro z
      by_cases q : (xI a ^^^ xI b).toInt < 0
      · exact absurd z (this.mp q)
      · omega
  by_cases q1 : a < 0 ↔ b < 0
  · rw [if_pos (hx.mpr q1), if_pos q1]
    split <;> rfl
  · rw [if_neg (fun z => q1 (hx.mp z)), if_neg q1]
    have hm : smv (a.tdiv b * b) ∧ (a.tdiv b * b = a ↔ a.tmod b = 0) := by
      have e2 : a.tdiv b * b = a - a.tmod b := by rw [Int.mul_comm]; omega
      have e3 : (a.tmod b).natAbs ≤ a.natAbs := by
        rw [Int.natAbs_tmod]
        exact Nat.mod_le _ _
      have e4 : (a - a.tmod b).natAbs ≤ a.natAbs := by
        rw [← e2, Int.natAbs_mul, Int.natAbs_tdiv]
        exact Nat.div_mul_le_self _ _
      rw [e2]
      refine ⟨⟨by omega, by omega⟩, by omega⟩
    by_cases q2 : a.tmod b = 0
    · rw [if_pos q2, if_pos ((xI_eq hm.1 ha).mpr (hm.2.mpr q2))]
    · rw [if_neg q2, if_neg (fun z => q2 (hm.2.mp ((xI_eq hm.1 ha).mp z)))]
      have e1 : (1 : Int32) = xI 1 := by decide
      rw [e1, xI_sub]
theorem floorM {a b : Int} (ha : smv a) (hb : smv b) : F_MD_qFloor (xL a) (xL b) = some (xL (q_fl a b)) := by
  have z0 : (0 : Int64) = xL 0 := by decide
  have z1 : (1 : Int64) = xL 1 := by decide
  have s0 : bgv 0 := by unfold bgv; omega
  have k := Int.natAbs_tdiv_le_natAbs a b
  have e := Int.tmod_add_mul_tdiv a b
  have h1 := ha.1; have h2 := ha.2
  unfold F_MD_qFloor q_fl
  rw [z0]
  simp only [lg_cmp_eq, lg_cmp_ge]
  by_cases h0 : b = 0
  · rw [if_pos ((xL_eq (smb hb) s0).mpr h0), if_pos h0]
  · have hn : ¬ xL b = xL 0 := fun z => h0 ((xL_eq (smb hb) s0).mp z)
    rw [if_neg hn, if_neg h0]
    rw [gq_e hn, gq_e hn, divL ha hb, xL_mul, xL_sub]
    have e2 : a - a.tdiv b * b = a.tmod b := by rw [Int.mul_comm]; omega
    have e3 : (a.tmod b).natAbs ≤ a.natAbs := by
      rw [Int.natAbs_tmod]
      exact Nat.mod_le _ _
    have hm : bgv (a.tmod b) := ⟨by omega, by omega⟩
    rw [e2]
    simp only [F_MD_qFloor_32, lg_cmp_ge, z0, z1, xL_le s0 (smb hb), xL_le s0 (smb ha), xL_eq hm s0, xL_sub]
    by_cases q1 : a.tmod b = 0
    · rw [if_pos q1, if_pos q1]
    · rw [if_neg q1, if_neg q1]
      by_cases q2 : 0 ≤ a
      · by_cases q3 : 0 ≤ b
        · have c : a < 0 ↔ b < 0 := by omega
          rw [if_pos q2, if_pos q3, if_pos c]; rfl
        · have c : ¬ (a < 0 ↔ b < 0) := by omega
          rw [if_pos q2, if_neg q3, if_neg c]; rfl
      · by_cases q3 : 0 ≤ b
        · have c : ¬ (a < 0 ↔ b < 0) := by omega
          rw [if_neg q2, if_pos q3, if_neg c]; rfl
        · have c : a < 0 ↔ b < 0 := by omega
          rw [if_neg q2, if_neg q3, if_pos c]; rfl
