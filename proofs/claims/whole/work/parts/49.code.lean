/-! sums and tests as rows of codes: what they are, their types, one step of each side -/
def q_word (k : Nat) : Nat := match k with
  | 0 => 6
  | 1 => 2
  | 2 => 11
  | 3 => 5
  | 4 => 12
  | 5 => 13
  | 6 => 14
  | _ => 15
def q_op (c : Nat) : Nat := match c with
  | 1 => 20000
  | 2 => 20001
  | 3 => 20002
  | 4 => 20003
  | 5 => 20007
  | 6 => 20008
  | 7 => 20004
  | 8 => 20005
  | 9 => 20006
  | 10 => 20009
  | _ => 20010
/-- the class's step for a code of the reference -/
def q_tau (c : Nat) : Nat := if 1000 ≤ c then c - 1000 else if 60 ≤ c then c - 60 + 30001 else if 40 ≤ c then 10000 + q_word (c - 40) else if c = 13 then 1 else if c = 12 then 30000 else q_op c
def q_ev1 (pt : Nat → Int) (fo : Nat → Int → Int) (c : Nat) (s : List Int) : List Int :=
  if 1000 ≤ c then ((c - 1000 : Nat) : Int) :: s
  else if 60 ≤ c then (match s with
    | x :: s => fo (c - 60) x :: s
    | [] => [])
  else if 40 ≤ c then pt (c - 40) :: s
  else if c = 13 then 1 :: s
  else if c = 12 then (match s with
    | x :: s => (1 - x) :: s
    | [] => [])
  else (match s with
    | b :: a :: s => q_bin c a b :: s
    | _ => [])
def q_ev (pt : Nat → Int) (fo : Nat → Int → Int) : List Nat → List Int → List Int
  | [], s => s
  | c :: l, s => q_ev pt fo l (q_ev1 pt fo c s)
/-- types: a test's is true; no more than 90 wait -/
def q_ty1 (c : Nat) (t : List Bool) : Option (List Bool) :=
  if 1000 ≤ c then (if c ≤ 10999 ∧ t.length < 90 then some (false :: t) else none)
  else if 60 ≤ c then (if c ≤ 61 then (match t with
    | false :: t => some (false :: t)
    | _ => none) else none)
  else if 40 ≤ c then (if c ≤ 47 ∧ t.length < 90 then some (false :: t) else none)
  else if c = 13 then (if t.length < 90 then some (true :: t) else none)
  else if c = 12 then (match t with
    | true :: t => some (true :: t)
    | _ => none)
  else if 1 ≤ c ∧ c ≤ 6 then (match t with
    | false :: false :: t => some (false :: t)
    | _ => none)
  else if 7 ≤ c ∧ c ≤ 9 then (match t with
    | false :: false :: t => some (true :: t)
    | _ => none)
  else if 10 ≤ c ∧ c ≤ 11 then (match t with
    | true :: true :: t => some (true :: t)
    | _ => none)
  else none
def q_ty : List Nat → List Bool → Option (List Bool)
  | [], t => some t
  | c :: l, t => (q_ty1 c t).bind (q_ty l)
def q_tv : List Int → List Bool → Prop
  | [], [] => True
  | v :: s, b :: t => (smv v ∧ (b = true → v = 0 ∨ v = 1)) ∧ q_tv s t
  | _, _ => False
theorem q_tv_len : ∀ {s : List Int} {t : List Bool}, q_tv s t → s.length = t.length := by
  intro s
  induction s with
  | nil => intro t h; cases t with
    | nil => rfl
    | cons b t => exact h.elim
  | cons v s ih => intro t h; cases t with
    | nil => exact h.elim
    | cons b t => simp only [List.length_cons]; rw [ih h.2]
theorem q_tv_c {s : List Int} {b : Bool} {t : List Bool} (h : q_tv s (b :: t)) : ∃ v s', s = v :: s' ∧ (smv v ∧ (b = true → v = 0 ∨ v = 1)) ∧ q_tv s' t := by
  cases s with
  | nil => exact h.elim
  | cons v s => exact ⟨v, s, rfl, h.1, h.2⟩
theorem sm01 {v : Int} (h : v = 0 ∨ v = 1) : smv v := by unfold smv; omega
theorem q_bin_s {c : Nat} {a b : Int} (ha : smv a) (hb : smv b) (h1 : 1 ≤ c) (h9 : c ≤ 9) : smv (q_bin c a b) ∧ (7 ≤ c → q_bin c a b = 0 ∨ q_bin c a b = 1) := by
  have ha1 := ha.1; have ha2 := ha.2; have hb1 := hb.1; have hb2 := hb.2
  rcases (by omega : c = 1 ∨ c = 2 ∨ c = 3 ∨ c = 4 ∨ c = 5 ∨ c = 6 ∨ c = 7 ∨ c = 8 ∨ c = 9) with h | h | h | h | h | h | h | h | h <;> subst h <;> simp only [q_bin, if_true, if_false, Nat.reduceEqDiff, Nat.reduceLeDiff]
  · exact ⟨q_cl_s _, fun z => absurd z (by decide)⟩
  · exact ⟨q_cl_s _, fun z => absurd z (by decide)⟩
  · exact ⟨q_cl_s _, fun z => absurd z (by decide)⟩
  · exact ⟨q_fl_s ha hb, fun z => absurd z (by decide)⟩
  · refine ⟨?_, fun z => absurd z (by decide)⟩; split <;> assumption
  · refine ⟨?_, fun z => absurd z (by decide)⟩; split <;> assumption
  · unfold smv; split <;> omega
  · unfold smv; split <;> omega
  · unfold smv; split <;> omega
theorem q_bin_b {c : Nat} {a b : Int} (ha : a = 0 ∨ a = 1) (hb : b = 0 ∨ b = 1) (h1 : 10 ≤ c) (h9 : c ≤ 11) : q_bin c a b = 0 ∨ q_bin c a b = 1 := by
  rcases (by omega : c = 10 ∨ c = 11) with h | h <;> subst h <;> simp only [q_bin, if_true, if_false, Nat.reduceEqDiff]
  · rcases ha with h | h <;> rcases hb with g | g <;> subst h <;> subst g <;> simp
  · split <;> omega
theorem q_tv1 {pt : Nat → Int} {fo : Nat → Int → Int} (hp : ∀ k, smv (pt k)) (ho : ∀ k x, smv (fo k x)) {c : Nat} {s : List Int} {t t' : List Bool} (h : q_ty1 c t = some t') (hs : q_tv s t) : q_tv (q_ev1 pt fo c s) t' := by
  unfold q_ty1 at h
  unfold q_ev1
  by_cases c1 : 1000 ≤ c
  · rw [if_pos c1] at h ⊢
    by_cases c2 : c ≤ 10999 ∧ t.length < 90
    · rw [if_pos c2] at h; cases h
      exact ⟨⟨by unfold smv; omega, by intro z; cases z⟩, hs⟩
    · rw [if_neg c2] at h; cases h
  rw [if_neg c1] at h ⊢
  by_cases c2 : 60 ≤ c
  · rw [if_pos c2] at h ⊢
    by_cases c3 : c ≤ 61
    · rw [if_pos c3] at h
      match t, hs, h with
      | false :: t, hs, h =>
        obtain ⟨v, s, rfl, h1, h2⟩ := q_tv_c hs
        cases h; exact ⟨⟨ho _ _, by intro z; cases z⟩, h2⟩
    · rw [if_neg c3] at h; cases h
  rw [if_neg c2] at h ⊢
  by_cases c3 : 40 ≤ c
  · rw [if_pos c3] at h ⊢
    by_cases c4 : c ≤ 47 ∧ t.length < 90
    · rw [if_pos c4] at h; cases h
      exact ⟨⟨hp _, by intro z; cases z⟩, hs⟩
    · rw [if_neg c4] at h; cases h
  rw [if_neg c3] at h ⊢
  by_cases c4 : c = 13
  · rw [if_pos c4] at h ⊢
    by_cases c5 : t.length < 90
    · rw [if_pos c5] at h; cases h
      exact ⟨⟨by unfold smv; omega, fun _ => Or.inr rfl⟩, hs⟩
    · rw [if_neg c5] at h; cases h
  rw [if_neg c4] at h ⊢
  by_cases c5 : c = 12
  · rw [if_pos c5] at h ⊢
    match t, hs, h with
    | true :: t, hs, h =>
      obtain ⟨v, s, rfl, h1, h2⟩ := q_tv_c hs
      cases h
      have := h1.2 rfl
      exact ⟨⟨by unfold smv; omega, fun _ => by omega⟩, h2⟩
  rw [if_neg c5] at h ⊢
  by_cases c6 : 1 ≤ c ∧ c ≤ 6
  · rw [if_pos c6] at h
    match t, hs, h with
    | false :: false :: t, hs, h =>
      obtain ⟨v, s, rfl, h1, h2⟩ := q_tv_c hs
      obtain ⟨u, s, rfl, h3, h4⟩ := q_tv_c h2
      cases h
      exact ⟨⟨(q_bin_s h3.1 h1.1 c6.1 (by omega)).1, by intro z; cases z⟩, h4⟩
  rw [if_neg c6] at h
  by_cases c7 : 7 ≤ c ∧ c ≤ 9
  · rw [if_pos c7] at h
    match t, hs, h with
    | false :: false :: t, hs, h =>
      obtain ⟨v, s, rfl, h1, h2⟩ := q_tv_c hs
      obtain ⟨u, s, rfl, h3, h4⟩ := q_tv_c h2
      cases h
      have := q_bin_s h3.1 h1.1 (by omega : 1 ≤ c) c7.2
      exact ⟨⟨this.1, fun _ => this.2 c7.1⟩, h4⟩
  rw [if_neg c7] at h
  by_cases c8 : 10 ≤ c ∧ c ≤ 11
  · rw [if_pos c8] at h
    match t, hs, h with
    | true :: true :: t, hs, h =>
      obtain ⟨v, s, rfl, h1, h2⟩ := q_tv_c hs
      obtain ⟨u, s, rfl, h3, h4⟩ := q_tv_c h2
      cases h
      have := q_bin_b (h3.2 rfl) (h1.2 rfl) c8.1 c8.2
      exact ⟨⟨sm01 this, fun _ => this⟩, h4⟩
  rw [if_neg c8] at h; cases h
theorem qb1 (a b : Int) : q_bin 1 a b = q_cl (a + b) := by
  unfold q_bin
  rw [if_pos rfl]
theorem qb2 (a b : Int) : q_bin 2 a b = q_cl (a - b) := by
  unfold q_bin
  rw [if_neg (show ¬ 2 = 1 by decide), if_pos rfl]
theorem qb3 (a b : Int) : q_bin 3 a b = q_cl (a * b) := by
  unfold q_bin
  rw [if_neg (show ¬ 3 = 1 by decide), if_neg (show ¬ 3 = 2 by decide), if_pos rfl]
theorem qb4 (a b : Int) : q_bin 4 a b = q_fl a b := by
  unfold q_bin
  rw [if_neg (show ¬ 4 = 1 by decide), if_neg (show ¬ 4 = 2 by decide), if_neg (show ¬ 4 = 3 by decide), if_pos rfl]
theorem qb10 (a b : Int) : q_bin 10 a b = a * b := by
  unfold q_bin
  rw [if_neg (show ¬ 10 = 1 by decide), if_neg (show ¬ 10 = 2 by decide), if_neg (show ¬ 10 = 3 by decide), if_neg (show ¬ 10 = 4 by decide), if_neg (show ¬ 10 = 5 by decide), if_neg (show ¬ 10 = 6 by decide), if_neg (show ¬ 10 = 7 by decide), if_neg (show ¬ 10 = 8 by decide), if_neg (show ¬ 10 = 9 by decide), if_pos rfl]
theorem zc0 : (if (lg_cmp (0 : Int64) (1000000 : Int64)) ≤ (0 : Int32) then (if (0 : Int32) ≤ (lg_cmp (0 : Int64) (-1000000 : Int64)) then (0 : Int64).toInt32 else (-1000000 : Int32)) else (1000000 : Int32)) = xI 0 := by decide
theorem zc1 : (if (lg_cmp (1 : Int64) (1000000 : Int64)) ≤ (0 : Int32) then (if (0 : Int32) ≤ (lg_cmp (1 : Int64) (-1000000 : Int64)) then (1 : Int64).toInt32 else (-1000000 : Int32)) else (1000000 : Int32)) = xI 1 := by decide
theorem clipI {v : Int} (h : smv v) : (if (lg_cmp (xI v).toInt64 (1000000 : Int64)) ≤ (0 : Int32) then (if (0 : Int32) ≤ (lg_cmp (xI v).toInt64 (-1000000 : Int64)) then ((xI v).toInt64).toInt32 else (-1000000 : Int32)) else (1000000 : Int32)) = xI v := by
  have h1 := h.1; have h2 := h.2
  rw [xI_L (by omega) (by omega), clipC (smb h), q_cl_e h]
theorem pairC1 {a b : Int} (ha : smv a) (hb : smv b) : f_Reckoner_pair (20000 : Int32) (xI a) (xI b) = xI (q_bin 1 a b) := by
  have ha1 := ha.1; have ha2 := ha.2; have hb1 := hb.1; have hb2 := hb.2
  rw [f_Reckoner_pair, if_pos rfl]
  rw [qb1, xI_L (by omega) (by omega), xI_L (by omega) (by omega), xL_add]; exact clipC ⟨by omega, by omega⟩
theorem pairC2 {a b : Int} (ha : smv a) (hb : smv b) : f_Reckoner_pair (20001 : Int32) (xI a) (xI b) = xI (q_bin 2 a b) := by
  have ha1 := ha.1; have ha2 := ha.2; have hb1 := hb.1; have hb2 := hb.2
  rw [f_Reckoner_pair, if_neg (by decide), if_pos rfl]
  rw [qb2, xI_L (by omega) (by omega), xI_L (by omega) (by omega), xL_sub]; exact clipC ⟨by omega, by omega⟩
theorem pairC3 {a b : Int} (ha : smv a) (hb : smv b) : f_Reckoner_pair (20002 : Int32) (xI a) (xI b) = xI (q_bin 3 a b) := by
  have ha1 := ha.1; have ha2 := ha.2; have hb1 := hb.1; have hb2 := hb.2
  rw [f_Reckoner_pair, if_neg (by decide), if_neg (by decide), if_pos rfl]
  rw [qb3, xI_L (by omega) (by omega), xI_L (by omega) (by omega), xL_mul]
  refine clipC ?_
  have k : (a * b).natAbs ≤ 1000000 * 1000000 := by rw [Int.natAbs_mul]; exact Nat.mul_le_mul (by omega) (by omega)
  exact ⟨by omega, by omega⟩
theorem pairC4 {a b : Int} (ha : smv a) (hb : smv b) : f_Reckoner_pair (20003 : Int32) (xI a) (xI b) = xI (q_bin 4 a b) := by
  have ha1 := ha.1; have ha2 := ha.2; have hb1 := hb.1; have hb2 := hb.2
  rw [f_Reckoner_pair, if_neg (by decide), if_neg (by decide), if_neg (by decide), if_pos rfl]
  rw [qb4]
  by_cases q : b = 0
  · subst q
    rw [if_pos (by decide), zc0]; simp [q_fl]
  · rw [if_neg (show ¬ xI b = 0 from fun z => q ((xI_eq (b := 0) hb (by unfold smv; omega)).mp z)), floorC ha hb q]; exact clipI (q_fl_s ha hb)
theorem pairC5 {a b : Int} (ha : smv a) (hb : smv b) : f_Reckoner_pair (20007 : Int32) (xI a) (xI b) = xI (q_bin 5 a b) := by
  have ha1 := ha.1; have ha2 := ha.2; have hb1 := hb.1; have hb2 := hb.2
  rw [f_Reckoner_pair, if_neg (by decide), if_neg (by decide), if_neg (by decide), if_neg (by decide), if_neg (by decide), if_neg (by decide), if_neg (by decide), if_pos rfl]
  show _ = xI (if a < b then a else b)
  unfold f_Math_min_II
  by_cases q : b < a
  · rw [if_pos ((xI_lt hb ha).mpr q), if_neg (show ¬ a < b by omega)]; exact clipI hb
  · rw [if_neg (fun z => q ((xI_lt hb ha).mp z))]
    by_cases q2 : a < b
    · rw [if_pos q2]; exact clipI ha
    · have e : a = b := by omega
      rw [if_neg q2, e]; exact clipI hb
theorem pairC6 {a b : Int} (ha : smv a) (hb : smv b) : f_Reckoner_pair (20008 : Int32) (xI a) (xI b) = xI (q_bin 6 a b) := by
  have ha1 := ha.1; have ha2 := ha.2; have hb1 := hb.1; have hb2 := hb.2
  rw [f_Reckoner_pair, if_neg (by decide), if_neg (by decide), if_neg (by decide), if_neg (by decide), if_neg (by decide), if_neg (by decide), if_neg (by decide), if_neg (by decide), if_pos rfl]
  show _ = xI (if b < a then a else b)
  unfold f_Math_max_II
  by_cases q : a < b
  · rw [if_pos ((xI_lt ha hb).mpr q), if_neg (show ¬ b < a by omega)]; exact clipI hb
  · rw [if_neg (fun z => q ((xI_lt ha hb).mp z))]
    by_cases q2 : b < a
    · rw [if_pos q2]; exact clipI ha
    · have e : a = b := by omega
      rw [if_neg q2, e]; exact clipI hb
theorem pairC7 {a b : Int} (ha : smv a) (hb : smv b) : f_Reckoner_pair (20004 : Int32) (xI a) (xI b) = xI (q_bin 7 a b) := by
  have ha1 := ha.1; have ha2 := ha.2; have hb1 := hb.1; have hb2 := hb.2
  rw [f_Reckoner_pair, if_neg (by decide), if_neg (by decide), if_neg (by decide), if_neg (by decide), if_pos rfl]
  show _ = xI (if a < b then 1 else 0)
  by_cases q : b ≤ a
  · rw [if_pos ((xI_le hb ha).mpr q), zc0, if_neg (show ¬ a < b by omega)]
  · rw [if_neg (fun z => q ((xI_le hb ha).mp z)), zc1, if_pos (show a < b by omega)]
theorem pairC8 {a b : Int} (ha : smv a) (hb : smv b) : f_Reckoner_pair (20005 : Int32) (xI a) (xI b) = xI (q_bin 8 a b) := by
  have ha1 := ha.1; have ha2 := ha.2; have hb1 := hb.1; have hb2 := hb.2
  rw [f_Reckoner_pair, if_neg (by decide), if_neg (by decide), if_neg (by decide), if_neg (by decide), if_neg (by decide), if_pos rfl]
  show _ = xI (if b < a then 1 else 0)
  by_cases q : a ≤ b
  · rw [if_pos ((xI_le ha hb).mpr q), zc0, if_neg (show ¬ b < a by omega)]
  · rw [if_neg (fun z => q ((xI_le ha hb).mp z)), zc1, if_pos (show b < a by omega)]
theorem pairC9 {a b : Int} (ha : smv a) (hb : smv b) : f_Reckoner_pair (20006 : Int32) (xI a) (xI b) = xI (q_bin 9 a b) := by
  have ha1 := ha.1; have ha2 := ha.2; have hb1 := hb.1; have hb2 := hb.2
  rw [f_Reckoner_pair, if_neg (by decide), if_neg (by decide), if_neg (by decide), if_neg (by decide), if_neg (by decide), if_neg (by decide), if_pos rfl]
  show _ = xI (if a = b then 1 else 0)
  by_cases q : a = b
  · rw [if_pos ((xI_eq ha hb).mpr q), zc1, if_pos q]
  · rw [if_neg (fun z => q ((xI_eq ha hb).mp z)), zc0, if_neg q]
theorem pairC10 {a b : Int} (ha : a = 0 ∨ a = 1) (hb : b = 0 ∨ b = 1) : f_Reckoner_pair (20009 : Int32) (xI a) (xI b) = xI (q_bin 10 a b) := by
  rcases ha with h | h <;> rcases hb with g | g <;> subst h <;> subst g <;> decide
theorem pairC11 {a b : Int} (ha : a = 0 ∨ a = 1) (hb : b = 0 ∨ b = 1) : f_Reckoner_pair (20010 : Int32) (xI a) (xI b) = xI (q_bin 11 a b) := by
  rcases ha with h | h <;> rcases hb with g | g <;> subst h <;> subst g <;> decide
theorem pairC {c : Nat} {a b : Int} (ha : smv a) (hb : smv b) (h1 : 1 ≤ c) (h2 : c ≤ 11) (h3 : 10 ≤ c → (a = 0 ∨ a = 1) ∧ (b = 0 ∨ b = 1)) : f_Reckoner_pair (nI (q_op c)) (xI a) (xI b) = xI (q_bin c a b) := by
  rcases (by omega : c = 1 ∨ c = 2 ∨ c = 3 ∨ c = 4 ∨ c = 5 ∨ c = 6 ∨ c = 7 ∨ c = 8 ∨ c = 9 ∨ c = 10 ∨ c = 11) with h | h | h | h | h | h | h | h | h | h | h <;> subst h
  · exact pairC1 ha hb
  · exact pairC2 ha hb
  · exact pairC3 ha hb
  · exact pairC4 ha hb
  · exact pairC5 ha hb
  · exact pairC6 ha hb
  · exact pairC7 ha hb
  · exact pairC8 ha hb
  · exact pairC9 ha hb
  · exact pairC10 (h3 (by omega)).1 (h3 (by omega)).2
  · exact pairC11 (h3 (by omega)).1 (h3 (by omega)).2
theorem up_up {α : Type} (X : Nat → Nat → α) (k j : Nat) (u v : α) : m_up (m_up X k j u) k j v = m_up X k j v := by
  funext a b
  simp only [m_up]
  by_cases h1 : a = k
  · by_cases h2 : b = j
    · simp [h1, h2]
    · simp [h1, h2]
  · simp [h1]
theorem up_e {α : Type} (X : Nat → Nat → α) (k j : Nat) (v : α) : m_up X k j v k j = v := by simp [m_up]
theorem up_k {α : Type} (X : Nat → Nat → α) {k k' : Nat} (j : Nat) (v : α) (h : k' ≠ k) : m_up X k j v k' = X k' := m_up_ne h
theorem up_j {α : Type} (X : Nat → Nat → α) (k : Nat) {j j' : Nat} (v : α) (h : j' ≠ j) : m_up X k j v k j' = X k j' := by simp [m_up, h]
theorem puts_e {I : MI} {J : MJ} {t : Nat} (h : I 177 98 = nI t) (ht : t < 1700) (v : Int64) : F_MD_qPuts I J v = some (m_up I 177 98 (nI (t + 1)), m_up J 246 t v) := by
  unfold F_MD_qPuts
  rw [h, gd_n ht (by decide), nI_s, nI_clamp (by omega)]
theorem joins_e {I : MI} {J : MJ} {t c : Nat} {a b : Int} (h : I 177 98 = nI (t + 2)) (ht : t + 2 ≤ 1700) (ea : J 246 t = xL a) (eb : J 246 (t + 1) = xL b) (ha : smv a) (hb : smv b) (h1 : 1 ≤ c) (h2 : c ≤ 11) : F_MD_qJoins I J (nI c) = some (m_up I 177 98 (nI (t + 1)), m_up J 246 t (xL (q_bin c a b))) := by
  have ha1 := ha.1; have ha2 := ha.2; have hb1 := hb.1; have hb2 := hb.2
  have e1 : nI (t + 2) - 1 = nI (t + 1) := nI_subN (a := t + 2) (b := 1) (by omega)
  have e2 : nI (t + 2) - 2 = nI t := nI_subN (a := t + 2) (b := 2) (by omega)
  have z0 : (0 : Int64) = xL 0 := by decide
  have z1 : (1 : Int64) = xL 1 := by decide
  have pu : ∀ v, F_MD_qPuts (m_up I 177 98 (nI t)) J v = some (m_up I 177 98 (nI (t + 1)), m_up J 246 t v) := fun v => by rw [puts_e (t := t) (up_e _ _ _ _) (by omega), up_up]
  have km : bgv (a * b) := by
    have k : (a * b).natAbs ≤ 1000000 * 1000000 := by rw [Int.natAbs_mul]; exact Nat.mul_le_mul (by omega) (by omega)
    exact ⟨by omega, by omega⟩
  have kp : bgv (a + b) := ⟨by omega, by omega⟩
  have ks : bgv (a - b) := ⟨by omega, by omega⟩
  have s0 : bgv 0 := by unfold bgv; omega
  unfold F_MD_qJoins
  rw [h, e1, e2, gd_n (by omega) (by decide), gd_n (by omega) (by decide), nI_clamp (by omega), nI_clamp (by omega), ea, eb]
  rcases (by omega : c = 1 ∨ c = 2 ∨ c = 3 ∨ c = 4 ∨ c = 5 ∨ c = 6 ∨ c = 7 ∨ c = 8 ∨ c = 9 ∨ c = 10 ∨ c = 11) with q | q | q | q | q | q | q | q | q | q | q <;> subst q
  · rw [if_pos (show nI 1 = 1 from rfl)]
    rw [qb1, xL_add, clipM kp]; simp only [Option.bind_some, pu]
  · rw [if_neg (show ¬ nI 2 = 1 by decide), if_pos (show nI 2 = 2 from rfl)]
    rw [qb2, xL_sub, clipM ks]; simp only [Option.bind_some, pu]
  · rw [if_neg (show ¬ nI 3 = 1 by decide), if_neg (show ¬ nI 3 = 2 by decide), if_pos (show nI 3 = 3 from rfl)]
    rw [qb3, xL_mul, clipM km]; simp only [Option.bind_some, pu]
  · rw [if_neg (show ¬ nI 4 = 1 by decide), if_neg (show ¬ nI 4 = 2 by decide), if_neg (show ¬ nI 4 = 3 by decide), if_pos (show nI 4 = 4 from rfl)]
    rw [qb4, floorM ha hb]; simp only [Option.bind_some, pu]
  · rw [if_neg (show ¬ nI 5 = 1 by decide), if_neg (show ¬ nI 5 = 2 by decide), if_neg (show ¬ nI 5 = 3 by decide), if_neg (show ¬ nI 5 = 4 by decide), if_pos (show nI 5 = 5 from rfl)]
    show _ = some (_, m_up J 246 t (xL (if a < b then a else b)))
    simp only [lg_cmp_ge, xL_le (smb hb) (smb ha), pu, Option.bind_some]
    by_cases q : b ≤ a
    · rw [if_pos q, if_neg (show ¬ a < b by omega)]
    · rw [if_neg q, if_pos (show a < b by omega)]
  · rw [if_neg (show ¬ nI 6 = 1 by decide), if_neg (show ¬ nI 6 = 2 by decide), if_neg (show ¬ nI 6 = 3 by decide), if_neg (show ¬ nI 6 = 4 by decide), if_neg (show ¬ nI 6 = 5 by decide), if_pos (show nI 6 = 6 from rfl)]
    show _ = some (_, m_up J 246 t (xL (if b < a then a else b)))
    simp only [lg_cmp_le, xL_le (smb ha) (smb hb), pu, Option.bind_some]
    by_cases q : a ≤ b
    · rw [if_pos q, if_neg (show ¬ b < a by omega)]
    · rw [if_neg q, if_pos (show b < a by omega)]
  · rw [if_neg (show ¬ nI 7 = 1 by decide), if_neg (show ¬ nI 7 = 2 by decide), if_neg (show ¬ nI 7 = 3 by decide), if_neg (show ¬ nI 7 = 4 by decide), if_neg (show ¬ nI 7 = 5 by decide), if_neg (show ¬ nI 7 = 6 by decide), if_pos (show nI 7 = 7 from rfl)]
    show _ = some (_, m_up J 246 t (xL (if a < b then 1 else 0)))
    simp only [lg_cmp_ge, xL_le (smb hb) (smb ha), pu, Option.bind_some, z0, z1]
    by_cases q : b ≤ a
    · rw [if_pos q, if_neg (show ¬ a < b by omega)]
    · rw [if_neg q, if_pos (show a < b by omega)]
  · rw [if_neg (show ¬ nI 8 = 1 by decide), if_neg (show ¬ nI 8 = 2 by decide), if_neg (show ¬ nI 8 = 3 by decide), if_neg (show ¬ nI 8 = 4 by decide), if_neg (show ¬ nI 8 = 5 by decide), if_neg (show ¬ nI 8 = 6 by decide), if_neg (show ¬ nI 8 = 7 by decide), if_pos (show nI 8 = 8 from rfl)]
    show _ = some (_, m_up J 246 t (xL (if b < a then 1 else 0)))
    simp only [lg_cmp_le, xL_le (smb ha) (smb hb), pu, Option.bind_some, z0, z1]
    by_cases q : a ≤ b
    · rw [if_pos q, if_neg (show ¬ b < a by omega)]
    · rw [if_neg q, if_pos (show b < a by omega)]
  · rw [if_neg (show ¬ nI 9 = 1 by decide), if_neg (show ¬ nI 9 = 2 by decide), if_neg (show ¬ nI 9 = 3 by decide), if_neg (show ¬ nI 9 = 4 by decide), if_neg (show ¬ nI 9 = 5 by decide), if_neg (show ¬ nI 9 = 6 by decide), if_neg (show ¬ nI 9 = 7 by decide), if_neg (show ¬ nI 9 = 8 by decide), if_pos (show nI 9 = 9 from rfl)]
    show _ = some (_, m_up J 246 t (xL (if a = b then 1 else 0)))
    simp only [lg_cmp_eq, xL_eq (smb ha) (smb hb), pu, Option.bind_some, z0, z1]
    split <;> rfl
  · rw [if_neg (show ¬ nI 10 = 1 by decide), if_neg (show ¬ nI 10 = 2 by decide), if_neg (show ¬ nI 10 = 3 by decide), if_neg (show ¬ nI 10 = 4 by decide), if_neg (show ¬ nI 10 = 5 by decide), if_neg (show ¬ nI 10 = 6 by decide), if_neg (show ¬ nI 10 = 7 by decide), if_neg (show ¬ nI 10 = 8 by decide), if_neg (show ¬ nI 10 = 9 by decide), if_pos (show nI 10 = 10 from rfl)]
    rw [qb10, xL_mul]; simp only [pu, Option.bind_some]
  · rw [if_neg (show ¬ nI 11 = 1 by decide), if_neg (show ¬ nI 11 = 2 by decide), if_neg (show ¬ nI 11 = 3 by decide), if_neg (show ¬ nI 11 = 4 by decide), if_neg (show ¬ nI 11 = 5 by decide), if_neg (show ¬ nI 11 = 6 by decide), if_neg (show ¬ nI 11 = 7 by decide), if_neg (show ¬ nI 11 = 8 by decide), if_neg (show ¬ nI 11 = 9 by decide), if_neg (show ¬ nI 11 = 10 by decide)]
    show _ = some (_, m_up J 246 t (xL (if 0 < a + b then 1 else 0)))
    rw [xL_add]
    simp only [lg_cmp_le, z0, z1, xL_le kp s0, pu, Option.bind_some]
    by_cases q : a + b ≤ 0
    · rw [if_pos q, if_neg (show ¬ 0 < a + b by omega)]
    · rw [if_neg q, if_pos (show 0 < a + b by omega)]
