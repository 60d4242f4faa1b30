/-! small rows that the walks use -/
def m_ushr (x y : Int32) : Int32 := (x.toUInt32 >>> (y.toUInt32 &&& Int32.toUInt32 31)).toInt32
def m_rem (x y : Int32) : Int32 := x - x / y * y
theorem m_rem_toInt (x y : Int32) : (m_rem x y).toInt = x.toInt.tmod y.toInt := rem_toInt x y
theorem in_rem {x y : Int32} {n : Nat} (hy : y.toInt = n) (hn : 0 < n) (h : ¬ m_rem x y < 0) : vp_in (m_rem x y) n := by
  rw [vp_in_iff]
  have h1 := tmod_bounds (a := x.toInt) (M := (n : Int)) (by omega)
  have h2 := Int32.not_lt.mp h
  rw [Int32.le_iff_toInt_le] at h2
  have e : (m_rem x y).toInt = x.toInt.tmod n := by rw [m_rem_toInt, hy]
  rw [e] at h2 ⊢
  exact ⟨h2, h1.2⟩
def bI (b : Bool) : Int32 := if b then 1 else 0
theorem bI_01 (b : Bool) : bI b = 0 ∨ bI b = 1 := by cases b <;> simp [bI]
theorem bI_eq0 {b : Bool} : bI b = 0 ↔ b = false := by cases b <;> simp [bI]
theorem bI_ne0 {b : Bool} : ¬ bI b = 0 ↔ b = true := by cases b <;> simp [bI]
theorem loop_up (N : Nat) (P : Nat → Prop) (hN : P N) (hs : ∀ n, n < N → P (n + 1) → P n) : ∀ n, n ≤ N → P n := by
  intro n hn
  obtain ⟨m, rfl⟩ : ∃ m, N = n + m := ⟨N - n, by omega⟩
  clear hn
  induction m generalizing n with
  | zero => exact hN
  | succ m ih =>
    refine hs n (by omega) (ih (n + 1) ?_ ?_)
    · rw [show n + 1 + m = n + (m + 1) by omega]; exact hN
    · intro k hk h
      exact hs k (by omega) h
theorem m_B_cg {G : MG} {R : Room} {M : MM} {Q : Option MV → MS → Prop} {rc rs pc : Nat} {ls ls' : ML} {st st' : List MV} {S S' : MS} (h1 : ls = ls') (h2 : st = st') (h3 : S = S') (h : m_B G R M Q rc rs pc ls' st' S') : m_B G R M Q rc rs pc ls st S := by rw [h1, h2, h3]; exact h
theorem ix_of {x : Int32} {n : Nat} (hn : n < 2 ^ 31) (h0 : 0 ≤ x) (h1 : x < nI n) : ∃ j : Nat, j < n ∧ x = nI j := by
  rcases pk_ix x hn with h | h | h
  · exact absurd h0 (Int32.not_le.mpr h)
  · exact absurd h1 (Int32.not_lt.mpr h)
  · exact h
theorem in_n {x : Int32} {n : Nat} (hn : n < 2 ^ 31) (h1 : ¬ x < 0) (h2 : ¬ nI n ≤ x) : vp_in x n := by
  obtain ⟨j, hj, rfl⟩ := ix_of hn (Int32.not_lt.mp h1) (Int32.not_le.mp h2)
  exact vp_in_nI hj hn
theorem in_6 {x : Int32} (h1 : ¬ x < 0) (h2 : ¬ 6 ≤ x) : vp_in x 6 := in_n (by decide) h1 h2
/-- as many rounds as a loop 'from 0 on, below B' goes -/
theorem lt_cl {B : Int32} {n : Nat} (hn : n < 2 ^ 31) : nI n < B ↔ n < B.toNatClampNeg := by
  rw [Int32.lt_iff_toInt_lt, nI_toInt hn]
  have : (B.toNatClampNeg : Int) = max 0 B.toInt := by
    show ((B.toInt.toNat : Nat) : Int) = _
    omega
  omega
theorem cl_lt (B : Int32) : B.toNatClampNeg < 2 ^ 31 := by
  have h1 : B.toInt < 2 ^ 31 := B.toInt_lt
  have : (B.toNatClampNeg : Int) = max 0 B.toInt := by
    show ((B.toInt.toNat : Nat) : Int) = _
    omega
  omega
theorem ge_cl {B : Int32} {n : Nat} (hn : n < 2 ^ 31) : B ≤ nI n ↔ B.toNatClampNeg ≤ n := by
  rw [← Int32.not_lt, lt_cl hn, Nat.not_lt]
theorem ge_clN (B : Int32) : B ≤ nI B.toNatClampNeg := (ge_cl (cl_lt B)).mpr (Nat.le_refl _)
/-- a local that is of no use any more -/
def m_clr : ML → Nat → ML
  | [], _ => []
  | _ :: l, 0 => none :: l
  | a :: l, n + 1 => a :: m_clr l n
theorem m_clr_get : ∀ (l : ML) (i j : Nat) (v : MV), m_get (m_clr l i) j = some v → m_get l j = some v := by
  intro l
  induction l with
  | nil => intro i j v h; exact h
  | cons a l ih =>
    intro i j v h
    cases i with
    | zero =>
      cases j with
      | zero => simp [m_clr, m_get] at h
      | succ j => simpa [m_clr, m_get] using h
    | succ i =>
      cases j with
      | zero => simpa [m_clr, m_get] using h
      | succ j => simp only [m_clr, m_get] at h ⊢; exact ih i j v h
theorem b_frg {G : MG} {R : Room} {M : MM} {Q : Option MV → MS → Prop} {rc rs pc : Nat} {ls : ML} {st : List MV} {S : MS} (i : Nat) (h : m_B G R M Q rc rs pc (m_clr ls i) st S) : m_B G R M Q rc rs pc ls st S := by
  intro p e s m args below meth c H locs cells slots A X
  obtain ⟨hC, hat, hlo, hcs, hl, ho1, ho2⟩ := X
  exact h p e s m args below meth c H locs cells slots A ⟨hC, hat, hlo, hcs, ⟨hl.1, hl.2.1, fun j v hv => hl.2.2 j v (m_clr_get ls i j v hv)⟩, ho1, fun j v hv => ho2 j v (m_clr_get ls i j v hv)⟩
section SW13
variable {G : MG} {R : Room} {M : MM} {Q : Option MV → MS → Prop} {rc rs pc : Nat} {ls : ML} {st : List MV} {S : MS}
theorem b_tswV {dflt lo hi off : Int} {offs : Array Int} {len tgt : Nat} {x v : Int32} (hx0 : x = v) (hd : decode M.2.1 pc = .ok (.tableswitch dflt lo hi offs, len)) (h1 : ¬ v.toInt < lo) (h2 : ¬ hi < v.toInt) (ho : offs[(v.toInt - lo).toNat]? = some off) (ht : (pc : Int) + off = (tgt : Int)) (h : m_B G R M Q rc rs tgt ls st S) : m_B G R M Q rc rs pc ls (mI x :: st) S := by
  subst hx0
  intro p e s m args below meth c0 H locs cells slots A X
  obtain ⟨hC, hat, hlo, hcs, hl, ho1, ho2⟩ := X
  obtain ⟨hx, hb, hml, hown, hts, hr, hlk, hin, hKK⟩ := id hC
  exact lv_tableIn hx hb hd h1 h2 ho ht (h p e s m args below meth c0 H locs cells slots A ⟨hC, hat, hlo, hcs, hl, ok_tl ho1, ho2⟩)
theorem b_tswD {dflt lo hi : Int} {offs : Array Int} {len tgt : Nat} {x : Int32} (hd : decode M.2.1 pc = .ok (.tableswitch dflt lo hi offs, len)) (hq : x.toInt < lo ∨ hi < x.toInt) (ht : (pc : Int) + dflt = (tgt : Int)) (h : m_B G R M Q rc rs tgt ls st S) : m_B G R M Q rc rs pc ls (mI x :: st) S := by
  intro p e s m args below meth c0 H locs cells slots A X
  obtain ⟨hC, hat, hlo, hcs, hl, ho1, ho2⟩ := X
  obtain ⟨hx, hb, hml, hown, hts, hr, hlk, hin, hKK⟩ := id hC
  exact lv_tableOut hx hb hd hq ht (h p e s m args below meth c0 H locs cells slots A ⟨hC, hat, hlo, hcs, hl, ok_tl ho1, ho2⟩)
theorem b_lswV {dflt off : Int} {ps : Array (Int × Int)} {len tgt : Nat} {x v : Int32} (hx0 : x = v) (hd : decode M.2.1 pc = .ok (.lookupswitch dflt ps, len)) (hp : (ps.toList.zip (ps.toList.drop 1)).all (fun (a, next) => a.1 < next.1) = true) (ho : Op.lookupswitch.offset ps.toList dflt v.toInt = off) (ht : (pc : Int) + off = (tgt : Int)) (h : m_B G R M Q rc rs tgt ls st S) : m_B G R M Q rc rs pc ls (mI x :: st) S := by
  subst hx0
  exact b_lsw hd hp ho ht h
end SW13
