/-! THE SMALL MACHINE: values, heap, locals, one step of plain instructions -/
abbrev MRef : Type := Nat × Nat × Nat
abbrev MV : Type := (Int32 ⊕ Int64) ⊕ Option MRef
abbrev MS : Type := List (Nat × Nat) × (Nat → Nat → Int32) × (Nat → Nat → Int64) × (Nat → Nat → Option MRef)
abbrev ML : Type := List (Option MV)
abbrev mI (x : Int32) : MV := .inl (.inl x)
abbrev mJ (x : Int64) : MV := .inl (.inr x)
abbrev mR (r : MRef) : MV := .inr (some r)
abbrev mN : MV := .inr none
def m_ad (b : Nat) (r : Option MRef) : Option Nat := r.map (fun r => b + r.2.2)
def m_val (b : Nat) (v : MV) : Value := match v with
  | .inl (.inl x) => .int x
  | .inl (.inr x) => .long x
  | .inr r => va_rf (m_ad b r)
def m_rok (L : List (Nat × Nat)) (r : Option MRef) : Prop := ∀ q, r = some q → L[q.2.2]? = some (q.1, q.2.1)
def m_ok (L : List (Nat × Nat)) (v : MV) : Prop := ∀ q, v = .inr (some q) → L[q.2.2]? = some (q.1, q.2.1)
/-- the type of a field: 0 int, 1 boolean, 2 long, 3 a reference -/
def m_tc (t : FieldType) : Nat := match t with
  | .int => 0
  | .boolean => 1
  | .long => 2
  | .object _ => 3
  | .array _ => 3
  | _ => 9
def m_fv (S : MS) (k c j : Nat) : MV := match m_tc (m_ty c j) with
  | 2 => mJ (S.2.2.1 k j)
  | 3 => .inr (S.2.2.2 k j)
  | _ => mI (S.2.1 k j)
/-- kinds: below 13 an object of that class; 20 int[], 21 long[], 22 byte[], 23 char[], 24 boolean[], 25 Lay[], 26 Log[] -/
def m_ent (dA : Nat → ClassId) (b : Nat) (S : MS) (k : Nat) (q : Nat × Nat) : va_E :=
  if q.1 < 13 then .inr (q.1, (List.range (m_nf q.1)).map fun j => m_val b (m_fv S k q.1 j))
  else if q.1 = 21 then .inl (dA 21, q.2, .inr (.inl (S.2.2.1 k)))
  else if q.1 = 25 then .inl (dA 25, q.2, .inr (.inr (.inr (.inr fun j => m_ad b (S.2.2.2 k j)))))
  else if q.1 = 26 then .inl (dA 26, q.2, .inr (.inr (.inr (.inr fun j => m_ad b (S.2.2.2 k j)))))
  else .inl (dA q.1, q.2, .inl (S.2.1 k))
def m_wsF (dA : Nat → ClassId) (b : Nat) (S : MS) : Nat → List (Nat × Nat) → va_W
  | _, [] => []
  | k, q :: l => (b + k, m_ent dA b S k q) :: m_wsF dA b S (k + 1) l
def m_ws (dA : Nat → ClassId) (b : Nat) (S : MS) : va_W := m_wsF dA b S 0 S.1
/-- the array classes, by their kinds -/
def m_tys (dA : Nat → ClassId) : List (ClassId × FieldType) := [(dA 20, .int), (dA 21, .long), (dA 22, .byte), (dA 23, .char), (dA 24, .boolean), (dA 25, .object RX3), (dA 26, .object RX4)]
abbrev MG : Type := va_G × (Nat → ClassId) × Heap × Launch
/-- the heap is as the small state says: below the law's own start nothing has changed -/
def m_at (G : MG) (S : MS) (H : Heap) : Prop :=
  H.size = G.2.2.1.size + S.1.length ∧ (∀ q : Nat, q < G.2.2.1.size → H[q]? = G.2.2.1[q]?) ∧ va_P G.1 vwCl (m_ws G.2.1 G.2.2.1.size S) H ∧ ∀ k j, m_rok S.1 (S.2.2.2 k j)
-- locals
def m_get : ML → Nat → Option MV
  | [], _ => none
  | a :: _, 0 => a
  | _ :: l, n + 1 => m_get l n
def m_isJ (v : Option MV) : Bool := match v with
  | some (.inl (.inr _)) => true
  | _ => false
def m_st1 : ML → Nat → MV → ML
  | [], _, _ => []
  | _ :: l, 0, v => some v :: l
  | a :: l, 1, v => (if m_isJ a then none else a) :: m_st1 l 0 v
  | a :: l, n + 2, v => a :: m_st1 l (n + 1) v
def m_st2 : ML → Nat → MV → ML
  | [], _, _ => []
  | [_], _, _ => [none]
  | _ :: _ :: l, 0, v => some v :: none :: l
  | a :: l, 1, v => (if m_isJ a then none else a) :: m_st2 l 0 v
  | a :: l, n + 2, v => a :: m_st2 l (n + 1) v
def m_has (b : Nat) (A : Array Slot) (nL : Nat) (l : ML) : Prop := A.size = nL ∧ lv_wf A ∧ ∀ i v, m_get l i = some v → A[i]? = some (.val (m_val b v))
-- updates
def m_up {α : Type} (f : Nat → Nat → α) (k j : Nat) (v : α) : Nat → Nat → α := fun k' j' => if k' = k then (if j' = j then v else f k' j') else f k' j'
def m_setI (S : MS) (k j : Nat) (v : Int32) : MS := (S.1, m_up S.2.1 k j v, S.2.2.1, S.2.2.2)
def m_setJ (S : MS) (k j : Nat) (v : Int64) : MS := (S.1, S.2.1, m_up S.2.2.1 k j v, S.2.2.2)
def m_setR (S : MS) (k j : Nat) (v : Option MRef) : MS := (S.1, S.2.1, S.2.2.1, m_up S.2.2.2 k j v)
/-- what stands beside an instruction: class, field (or a goto's target), type, the reference that is read, a constant -/
abbrev MA : Type := Nat × Nat × Nat × Int32 × Int64
/-- place, locals, stack, state, what must hold -/
abbrev MX : Type := Nat × ML × List MV × MS × Prop
def m_psh (n : Nat) (v : MV) (x : MX) : Option MX := some (x.1 + n, x.2.1, v :: x.2.2.1, x.2.2.2)
def m_ldI (n k : Nat) (x : MX) : Option MX := match m_get x.2.1 k with
  | some (.inl (.inl v)) => some (x.1 + n, x.2.1, mI v :: x.2.2.1, x.2.2.2)
  | _ => none
def m_ldJ (n k : Nat) (x : MX) : Option MX := match m_get x.2.1 k with
  | some (.inl (.inr v)) => some (x.1 + n, x.2.1, mJ v :: x.2.2.1, x.2.2.2)
  | _ => none
def m_ldR (n k : Nat) (x : MX) : Option MX := match m_get x.2.1 k with
  | some (.inr r) => some (x.1 + n, x.2.1, .inr r :: x.2.2.1, x.2.2.2)
  | _ => none
def m_sto (n k : Nat) (t : Nat) (x : MX) : Option MX := match t, x.2.2.1 with
  | 0, .inl (.inl v) :: st => some (x.1 + n, m_st1 x.2.1 k (mI v), st, x.2.2.2)
  | 2, .inl (.inr v) :: st => some (x.1 + n, m_st2 x.2.1 k (mJ v), st, x.2.2.2)
  | 3, .inr r :: st => some (x.1 + n, m_st1 x.2.1 k (.inr r), st, x.2.2.2)
  | _, _ => none
def m_inc (n k : Nat) (v : Int32) (x : MX) : Option MX := match m_get x.2.1 k with
  | some (.inl (.inl y)) => some (x.1 + n, m_st1 x.2.1 k (mI (y + v)), x.2.2)
  | _ => none
def m_bin (f : Int32 → Int32 → Int32) (x : MX) : Option MX := match x.2.2.1 with
  | .inl (.inl b) :: .inl (.inl a) :: st => some (x.1 + 1, x.2.1, mI (f a b) :: st, x.2.2.2)
  | _ => none
def m_binD (f : Int32 → Int32 → Int32) (x : MX) : Option MX := match x.2.2.1 with
  | .inl (.inl b) :: .inl (.inl a) :: st => some (x.1 + 1, x.2.1, mI (f a b) :: st, x.2.2.2.1, x.2.2.2.2 ∧ ¬ b = 0)
  | _ => none
def m_binJ (f : Int64 → Int64 → Int64) (x : MX) : Option MX := match x.2.2.1 with
  | .inl (.inr b) :: .inl (.inr a) :: st => some (x.1 + 1, x.2.1, mJ (f a b) :: st, x.2.2.2)
  | _ => none
def m_binJD (f : Int64 → Int64 → Int64) (x : MX) : Option MX := match x.2.2.1 with
  | .inl (.inr b) :: .inl (.inr a) :: st => some (x.1 + 1, x.2.1, mJ (f a b) :: st, x.2.2.2.1, x.2.2.2.2 ∧ ¬ b = 0)
  | _ => none
def m_unI (f : Int32 → MV) (x : MX) : Option MX := match x.2.2.1 with
  | .inl (.inl a) :: st => some (x.1 + 1, x.2.1, f a :: st, x.2.2.2)
  | _ => none
def m_unJ (f : Int64 → MV) (x : MX) : Option MX := match x.2.2.1 with
  | .inl (.inr a) :: st => some (x.1 + 1, x.2.1, f a :: st, x.2.2.2)
  | _ => none
def m_cmp (x : MX) : Option MX := match x.2.2.1 with
  | .inl (.inr b) :: .inl (.inr a) :: st => some (x.1 + 1, x.2.1, mI (lg_cmp a b) :: st, x.2.2.2)
  | _ => none
def m_c1 (v : MV) : Bool := match v with
  | .inl (.inr _) => false
  | _ => true
def m_dup (x : MX) : Option MX := match x.2.2.1 with
  | .inl (.inr _) :: _ => none
  | a :: st => some (x.1 + 1, x.2.1, a :: a :: st, x.2.2.2)
  | _ => none
def m_pop (x : MX) : Option MX := match x.2.2.1 with
  | .inl (.inr _) :: _ => none
  | _ :: st => some (x.1 + 1, x.2.1, st, x.2.2.2)
  | _ => none
def m_dup2 (x : MX) : Option MX := match x.2.2.1 with
  | .inl (.inr a) :: st => some (x.1 + 1, x.2.1, mJ a :: mJ a :: st, x.2.2.2)
  | .inl (.inl b) :: .inr a :: st => some (x.1 + 1, x.2.1, mI b :: .inr a :: mI b :: .inr a :: st, x.2.2.2)
  | _ => none
def m_gtf (a : MA) (r0 : Option MRef) (x : MX) : Option MX := match x.2.2.1 with
  | .inr (some r) :: st => if r.1 = a.1 then (match a.2.2.1 with
    | 0 => some (x.1 + 3, x.2.1, mI (x.2.2.2.1.2.1 r.2.2 a.2.1) :: st, x.2.2.2)
    | 1 => some (x.1 + 3, x.2.1, mI (x.2.2.2.1.2.1 r.2.2 a.2.1) :: st, x.2.2.2)
    | 2 => some (x.1 + 3, x.2.1, mJ (x.2.2.2.1.2.2.1 r.2.2 a.2.1) :: st, x.2.2.2)
    | 3 => some (x.1 + 3, x.2.1, .inr r0 :: st, x.2.2.2.1, x.2.2.2.2 ∧ x.2.2.2.1.2.2.2 r.2.2 a.2.1 = r0)
    | _ => none) else none
  | _ => none
def m_ptf (a : MA) (x : MX) : Option MX := match a.2.2.1, x.2.2.1 with
  | 0, .inl (.inl v) :: .inr (some r) :: st => if r.1 = a.1 then some (x.1 + 3, x.2.1, st, m_setI x.2.2.2.1 r.2.2 a.2.1 v, x.2.2.2.2) else none
  | 1, .inl (.inl v) :: .inr (some r) :: st => if r.1 = a.1 then some (x.1 + 3, x.2.1, st, m_setI x.2.2.2.1 r.2.2 a.2.1 v, x.2.2.2.2 ∧ (v = 0 ∨ v = 1)) else none
  | 2, .inl (.inr v) :: .inr (some r) :: st => if r.1 = a.1 then some (x.1 + 3, x.2.1, st, m_setJ x.2.2.2.1 r.2.2 a.2.1 v, x.2.2.2.2) else none
  | 3, .inr v :: .inr (some r) :: st => if r.1 = a.1 then some (x.1 + 3, x.2.1, st, m_setR x.2.2.2.1 r.2.2 a.2.1 v, x.2.2.2.2) else none
  | _, _ => none
/-- loads of ints, bytes, chars, booleans; t: the kind -/
def m_ald (t : Nat) (x : MX) : Option MX := match x.2.2.1 with
  | .inl (.inl i) :: .inr (some r) :: st => if r.1 = t then some (x.1 + 1, x.2.1, mI (x.2.2.2.1.2.1 r.2.2 i.toNatClampNeg) :: st, x.2.2.2.1, x.2.2.2.2 ∧ vp_in i r.2.1) else none
  | _ => none
def m_baldk (x : MX) : Option MX := match x.2.2.1 with
  | .inl (.inl i) :: .inr (some r) :: st => if r.1 = 22 ∨ r.1 = 24 then some (x.1 + 1, x.2.1, mI (x.2.2.2.1.2.1 r.2.2 i.toNatClampNeg) :: st, x.2.2.2.1, x.2.2.2.2 ∧ vp_in i r.2.1) else none
  | _ => none
def m_aldJ (x : MX) : Option MX := match x.2.2.1 with
  | .inl (.inl i) :: .inr (some r) :: st => if r.1 = 21 then some (x.1 + 1, x.2.1, mJ (x.2.2.2.1.2.2.1 r.2.2 i.toNatClampNeg) :: st, x.2.2.2.1, x.2.2.2.2 ∧ vp_in i r.2.1) else none
  | _ => none
def m_aldR (r0 : Option MRef) (x : MX) : Option MX := match x.2.2.1 with
  | .inl (.inl i) :: .inr (some r) :: st => if r.1 = 25 ∨ r.1 = 26 then some (x.1 + 1, x.2.1, .inr r0 :: st, x.2.2.2.1, (x.2.2.2.2 ∧ vp_in i r.2.1) ∧ x.2.2.2.1.2.2.2 r.2.2 i.toNatClampNeg = r0) else none
  | _ => none
def m_ast (t : Nat) (f : Int32 → Int32) (x : MX) : Option MX := match x.2.2.1 with
  | .inl (.inl v) :: .inl (.inl i) :: .inr (some r) :: st => if r.1 = t then some (x.1 + 1, x.2.1, st, m_setI x.2.2.2.1 r.2.2 i.toNatClampNeg (f v), x.2.2.2.2 ∧ vp_in i r.2.1) else none
  | _ => none
def m_bast (x : MX) : Option MX := match x.2.2.1 with
  | .inl (.inl v) :: .inl (.inl i) :: .inr (some r) :: st => if r.1 = 22 then some (x.1 + 1, x.2.1, st, m_setI x.2.2.2.1 r.2.2 i.toNatClampNeg (vp_nar .byte v), x.2.2.2.2 ∧ vp_in i r.2.1) else if r.1 = 24 then some (x.1 + 1, x.2.1, st, m_setI x.2.2.2.1 r.2.2 i.toNatClampNeg (vp_nar .boolean v), x.2.2.2.2 ∧ vp_in i r.2.1) else none
  | _ => none
def m_astJ (x : MX) : Option MX := match x.2.2.1 with
  | .inl (.inr v) :: .inl (.inl i) :: .inr (some r) :: st => if r.1 = 21 then some (x.1 + 1, x.2.1, st, m_setJ x.2.2.2.1 r.2.2 i.toNatClampNeg v, x.2.2.2.2 ∧ vp_in i r.2.1) else none
  | _ => none
def m_astR (x : MX) : Option MX := match x.2.2.1 with
  | .inr (some v) :: .inl (.inl i) :: .inr (some r) :: st => if (r.1 = 25 ∧ v.1 = 3) ∨ (r.1 = 26 ∧ v.1 = 4) then some (x.1 + 1, x.2.1, st, m_setR x.2.2.2.1 r.2.2 i.toNatClampNeg (some v), x.2.2.2.2 ∧ vp_in i r.2.1) else none
  | _ => none
def m_len (x : MX) : Option MX := match x.2.2.1 with
  | .inr (some r) :: st => if 20 ≤ r.1 ∧ r.1 < 27 then some (x.1 + 1, x.2.1, mI (Int32.ofNat r.2.1) :: st, x.2.2.2) else none
  | _ => none
/-- one plain instruction: no call, no branch, nothing made -/
def m_step (i : Instr) (a : MA) (r0 : Option MRef) (x : MX) : Option MX := match i with
  | .aload_n k => m_ldR 1 k x
  | .aload k => m_ldR 2 k x
  | .iload_n k => m_ldI 1 k x
  | .iload k => m_ldI 2 k x
  | .lload_n k => m_ldJ 1 k x
  | .lload k => m_ldJ 2 k x
  | .istore_n k => m_sto 1 k 0 x
  | .istore k => m_sto 2 k 0 x
  | .lstore_n k => m_sto 1 k 2 x
  | .lstore k => m_sto 2 k 2 x
  | .astore_n k => m_sto 1 k 3 x
  | .astore k => m_sto 2 k 3 x
  | .iinc k _ => m_inc 3 k a.2.2.2.1 x
  | .iconst _ => m_psh 1 (mI a.2.2.2.1) x
  | .bipush _ => m_psh 2 (mI a.2.2.2.1) x
  | .sipush _ => m_psh 3 (mI a.2.2.2.1) x
  | .ldc _ => m_psh 2 (mI a.2.2.2.1) x
  | .ldc_w _ => m_psh 3 (mI a.2.2.2.1) x
  | .lconst _ => m_psh 1 (mJ a.2.2.2.2) x
  | .ldc2_w _ => m_psh 3 (mJ a.2.2.2.2) x
  | .aconst_null => m_psh 1 mN x
  | .iadd => m_bin (· + ·) x
  | .isub => m_bin (· - ·) x
  | .imul => m_bin (· * ·) x
  | .iand => m_bin (· &&& ·) x
  | .ior => m_bin (· ||| ·) x
  | .ixor => m_bin (· ^^^ ·) x
  | .ishl => m_bin (fun p q => p <<< (q &&& 31)) x
  | .ishr => m_bin (fun p q => p >>> (q &&& 31)) x
  | .iushr => m_bin (fun p q => (p.toUInt32 >>> (q.toUInt32 &&& Int32.toUInt32 31)).toInt32) x
  | .idiv => m_binD (· / ·) x
  | .irem => m_binD (fun p q => p - p / q * q) x
  | .ladd => m_binJ (· + ·) x
  | .lsub => m_binJ (· - ·) x
  | .lmul => m_binJ (· * ·) x
  | .ldiv => m_binJD (· / ·) x
  | .lrem => m_binJD (fun p q => p - p / q * q) x
  | .lcmp => m_cmp x
  | .i2l => m_unI (fun p => mJ p.toInt64) x
  | .i2b => m_unI (fun p => mI p.toInt8.toInt32) x
  | .i2c => m_unI (fun p => mI (p.toUInt32 % 65536).toInt32) x
  | .l2i => m_unJ (fun p => mI p.toInt32) x
  | .dup => m_dup x
  | .dup2 => m_dup2 x
  | .pop => m_pop x
  | .goto _ => some (a.2.1, x.2)
  | .getfield _ => m_gtf a r0 x
  | .putfield _ => m_ptf a x
  | .iaload => m_ald 20 x
  | .caload => m_ald 23 x
  | .baload => m_baldk x
  | .laload => m_aldJ x
  | .aaload => m_aldR r0 x
  | .iastore => m_ast 20 (fun v => v) x
  | .castore => m_ast 23 (vp_nar .char) x
  | .bastore => m_bast x
  | .lastore => m_astJ x
  | .aastore => m_astR x
  | .arraylength => m_len x
  | _ => none
/-- the plain form's length -/
def m_il (i : Instr) : Nat := match i with
  | .aload _ => 2
  | .iload _ => 2
  | .lload _ => 2
  | .istore _ => 2
  | .lstore _ => 2
  | .astore _ => 2
  | .iinc _ _ => 3
  | .bipush _ => 2
  | .sipush _ => 3
  | .ldc _ => 2
  | .ldc_w _ => 3
  | .ldc2_w _ => 3
  | .goto _ => 3
  | .getfield _ => 3
  | .putfield _ => 3
  | _ => 1
/-- what stands beside the instruction is right -/
def m_okB (own nL pc : Nat) (i : Instr) (a : MA) (ini : Bool) : Bool := match i with
  | .istore_n k => decide ((k : Nat) < nL)
  | .istore k => decide (k < nL)
  | .astore_n k => decide ((k : Nat) < nL)
  | .astore k => decide (k < nL)
  | .lstore_n k => decide ((k : Nat) + 1 < nL)
  | .lstore k => decide (k + 1 < nL)
  | .iinc k n => decide (k < nL) && decide (Int32.ofInt n = a.2.2.2.1)
  | .iconst n => decide (Int32.ofInt n = a.2.2.2.1)
  | .bipush n => decide ((Int8.ofInt n).toInt32 = a.2.2.2.1)
  | .sipush n => decide ((Int16.ofInt n).toInt32 = a.2.2.2.1)
  | .lconst n => decide (Int64.ofNat n = a.2.2.2.2)
  | .ldc k => decide ((own, k, a.2.2.2.1) ∈ m_cI)
  | .ldc_w k => decide ((own, k, a.2.2.2.1) ∈ m_cI)
  | .ldc2_w k => decide ((own, k, a.2.2.2.2) ∈ m_cJ)
  | .goto off => decide ((pc : Int) + off = (a.2.1 : Int))
  | .getfield k => decide ((own, k, a.1, a.2.1) ∈ m_flds) && decide (m_tc (m_ty a.1 a.2.1) = a.2.2.1)
  | .putfield k => decide ((own, k, a.1, a.2.1) ∈ m_flds) && (decide (m_tc (m_ty a.1 a.2.1) = a.2.2.1) && decide ((m_T a.1 a.2.1).2.2.2 = true → ini = true ∧ own = a.1))
  | _ => true
def m_nx (pc : Nat) (i : Instr) (a : MA) : Nat := match i with
  | .goto _ => a.2.1
  | _ => pc + m_il i
def m_chk (own : Nat) (cc : ByteArray) (nL : Nat) (ini : Bool) : Nat → List (Instr × MA) → Bool
  | _, [] => true
  | pc, (i, a) :: l => decide (decode cc pc = .ok (i, m_il i)) && (m_okB own nL pc i a ini && m_chk own cc nL ini (m_nx pc i a) l)
/-- does it read a reference? -/
def m_nr (i : Instr) (a : MA) : Bool := match i with
  | .getfield _ => a.2.2.1 == 3
  | .aaload => true
  | _ => false
/-- a block; the references that it reads stand in the second list, in their order -/
def m_steps : List (Instr × MA) → List (Option MRef) → MX → Option MX
  | [], _, x => some x
  | (i, a) :: l, rs, x => if m_nr i a then (match rs with
      | [] => none
      | r :: rs => (match m_step i a r x with
        | some y => m_steps l rs y
        | none => none))
    else (match m_step i a none x with
      | some y => m_steps l rs y
      | none => none)
