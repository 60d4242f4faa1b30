/-! the math of a column: whose a place is, fields by counting and by their ends -/
/-- a sum of naturals -/
def sm (h : Nat → Nat) : Nat → Nat
  | 0 => 0
  | n + 1 => sm h n + h n
theorem sm_c {h g : Nat → Nat} : ∀ {n : Nat}, (∀ i, i < n → h i = g i) → sm h n = sm g n := by
  intro n
  induction n with
  | zero => intro _; rfl
  | succ n ih => intro e; simp only [sm]; rw [ih (fun i hi => e i (by omega)), e n (by omega)]
theorem sm_0 : ∀ (n : Nat), sm (fun _ => 0) n = 0 := by
  intro n
  induction n with
  | zero => rfl
  | succ n ih => simp only [sm]; rw [ih]
theorem sm_k (k : Nat) : ∀ (n : Nat), sm (fun _ => k) n = n * k := by
  intro n
  induction n with
  | zero => simp [sm]
  | succ n ih => simp only [sm]; rw [ih, Nat.succ_mul]
theorem sm_a {h g : Nat → Nat} : ∀ (n : Nat), sm (fun i => h i + g i) n = sm h n + sm g n := by
  intro n
  induction n with
  | zero => rfl
  | succ n ih => simp only [sm]; rw [ih]; omega
theorem sm_sw {h : Nat → Nat → Nat} (m : Nat) : ∀ (n : Nat), sm (fun i => sm (h i) m) n = sm (fun j => sm (fun i => h i j) n) m := by
  intro n
  induction n with
  | zero => simp only [sm]; rw [sm_0]
  | succ n ih => simp only [sm]; rw [ih, sm_a]
theorem sm_le {h : Nat → Nat} {k : Nat} : ∀ {n : Nat}, (∀ i, i < n → h i ≤ k) → sm h n ≤ n * k := by
  intro n
  induction n with
  | zero => intro _; simp [sm]
  | succ n ih => intro e; simp only [sm]; rw [Nat.succ_mul]; have := ih (fun i hi => e i (by omega)); have := e n (by omega); omega
theorem sm_one {n f : Nat} (hf : f < n) : sm (fun i => if i = f then 1 else 0) n = 1 := by
  have key : ∀ m, sm (fun i => if i = f then 1 else 0) m = if f < m then 1 else 0 := by
    intro m
    induction m with
    | zero => simp [sm]
    | succ m ih => simp only [sm]; rw [ih]; split <;> split <;> (try split) <;> omega
  rw [key, if_pos hf]
theorem sm_ext {h : Nat → Nat} {n m : Nat} (hnm : n ≤ m) (h0 : ∀ i, n ≤ i → i < m → h i = 0) : sm h m = sm h n := by
  induction m with
  | zero => have : n = 0 := by omega
            rw [this]
  | succ m ih =>
    by_cases e : n = m + 1
    · rw [e]
    · simp only [sm]; rw [ih (by omega) (fun i h1 h2 => h0 i h1 (by omega)), h0 m (by omega) (by omega)]; rfl
/-- how many r below n lie from t on and ahead of e -/
theorem sm_iv (t e : Int) (ht : 0 ≤ t) (hte : t ≤ e) : ∀ n : Nat, (sm (fun r => if t ≤ (r : Int) ∧ (r : Int) < e then 1 else 0) n : Int) = if (n : Int) ≤ t then 0 else if (n : Int) ≤ e then (n : Int) - t else e - t := by
  intro n
  induction n with
  | zero => simp [sm, ht]
  | succ n ih =>
    simp only [sm]
    rw [Int.natCast_add, ih]
    split <;> split <;> (try split) <;> (try split) <;> simp only [Int.natCast_add, Int.natCast_one, Int.natCast_zero] at * <;> omega
/-- whose the place in row r is, by the stakes' rows G: its number and its stake's row -/
def o_own (G : Nat → Int) (r : Int) : Nat → Int × Int
  | 0 => (-1, -1)
  | n + 1 => if r < G n then o_own G r n else if G n ≤ (o_own G r n).2 then o_own G r n else ((n : Int), G n)
def o_is (G : Nat → Int) (r : Int) (n : Nat) (q : Int × Int) : Prop :=
  (q = (-1, -1) ∧ ∀ f, f < n → G f = -1 ∨ r < G f) ∨ ∃ f, f < n ∧ q = ((f : Int), G f) ∧ 0 ≤ G f ∧ G f ≤ r ∧ (∀ f', f' < n → r < G f' ∨ G f' ≤ G f) ∧ ∀ f', f' < f → r < G f' ∨ G f' < G f
theorem o_own_is {G : Nat → Int} {r : Int} (hG : ∀ f, -1 ≤ G f) : ∀ n, o_is G r n (o_own G r n) := by
  intro n
  induction n with
  | zero => exact Or.inl ⟨rfl, fun f hf => by omega⟩
  | succ n ih =>
    simp only [o_own]
    by_cases h1 : r < G n
    · rw [if_pos h1]
      rcases ih with ⟨e, h⟩ | ⟨f, hf, e, h2, h3, h4, h5⟩
      · exact Or.inl ⟨e, fun f hf => by
          by_cases q : f = n
          · rw [q]; exact Or.inr h1
          · exact h f (by omega)⟩
      · exact Or.inr ⟨f, by omega, e, h2, h3, fun f' hf' => by
          by_cases q : f' = n
          · rw [q]; exact Or.inl h1
          · exact h4 f' (by omega), h5⟩
    · rw [if_neg h1]
      rcases ih with ⟨e, h⟩ | ⟨f, hf, e, h2, h3, h4, h5⟩
      · rw [e]
        by_cases h6 : G n ≤ -1
        · rw [if_pos h6]
          exact Or.inl ⟨rfl, fun f hf => by
            by_cases q : f = n
            · rw [q]; have := hG n; exact Or.inl (by omega)
            · exact h f (by omega)⟩
        · rw [if_neg h6]
          exact Or.inr ⟨n, by omega, rfl, by omega, by omega, fun f' hf' => by
            by_cases q : f' = n
            · rw [q]; exact Or.inr (by omega)
            · have := h f' (by omega); omega, fun f' hf' => by have := h f' (by omega); omega⟩
      · rw [e]
        by_cases h6 : G n ≤ G f
        · rw [if_pos h6]
          exact Or.inr ⟨f, by omega, rfl, h2, h3, fun f' hf' => by
            by_cases q : f' = n
            · rw [q]; exact Or.inr h6
            · exact h4 f' (by omega), h5⟩
        · rw [if_neg h6]
          exact Or.inr ⟨n, by omega, rfl, by omega, by omega, fun f' hf' => by
            by_cases q : f' = n
            · rw [q]; exact Or.inr (by omega)
            · have := h4 f' (by omega); omega, fun f' hf' => by have := h4 f' (by omega); omega⟩
/-- where the field of f ends, if it has one -/
def o_fin (G : Nat → Int) (f : Nat) (R : Int) : Nat → Option Int
  | 0 => some R
  | n + 1 => match o_fin G f R n with
    | none => none
    | some e => if G n = G f ∧ n < f then none else if G n ≤ G f then some e else if e ≤ G n then some e else some (G n)
def o_end (G : Nat → Int) (f : Nat) (R : Int) (n : Nat) (e : Int) : Prop := (∀ f', f' < n → ¬ (G f' = G f ∧ f' < f)) ∧ e ≤ R ∧ (e = R ∨ ∃ f', f' < n ∧ G f' = e) ∧ (G f ≤ R → G f ≤ e) ∧ (G f < R → G f < e) ∧ ∀ f', f' < n → G f < G f' → e ≤ G f'
theorem o_fin_is {G : Nat → Int} {f : Nat} {R : Int} : ∀ n, (o_fin G f R n = none ∧ ∃ f', f' < n ∧ G f' = G f ∧ f' < f) ∨ ∃ e, o_fin G f R n = some e ∧ o_end G f R n e := by
  intro n
  induction n with
  | zero => exact Or.inr ⟨R, rfl, fun f' h => by omega, by omega, Or.inl rfl, by omega, by omega, fun f' h => by omega⟩
  | succ n ih =>
    simp only [o_fin]
    rcases ih with ⟨e, f', h1, h2, h3⟩ | ⟨e, he, h1, h2, h3, h4, h5, h6⟩
    · rw [e]
      exact Or.inl ⟨rfl, f', by omega, h2, h3⟩
    · rw [he]
      by_cases q1 : G n = G f ∧ n < f
      · simp only [if_pos q1]
        exact Or.inl ⟨by first | rfl | trivial, n, by omega, q1.1, q1.2⟩
      · simp only [if_neg q1]
        have a1 : ∀ f', f' < n + 1 → ¬ (G f' = G f ∧ f' < f) := fun f' hf' => by
          by_cases q : f' = n
          · rw [q]; exact q1
          · exact h1 f' (by omega)
        have a3 : e = R ∨ ∃ f', f' < n + 1 ∧ G f' = e := by
          rcases h3 with h | ⟨f', g1, g2⟩
          · exact Or.inl h
          · exact Or.inr ⟨f', by omega, g2⟩
        by_cases q2 : G n ≤ G f
        · rw [if_pos q2]
          exact Or.inr ⟨e, rfl, a1, h2, a3, h4, h5, fun f' hf' => by
            by_cases q : f' = n
            · rw [q]; omega
            · exact h6 f' (by omega)⟩
        · rw [if_neg q2]
          by_cases q3 : e ≤ G n
          · rw [if_pos q3]
            exact Or.inr ⟨e, rfl, a1, h2, a3, h4, h5, fun f' hf' => by
              by_cases q : f' = n
              · rw [q]; omega
              · exact h6 f' (by omega)⟩
          · rw [if_neg q3]
            exact Or.inr ⟨G n, rfl, a1, by omega, Or.inr ⟨n, by omega, rfl⟩, by omega, by omega, fun f' hf' g => by
              by_cases q : f' = n
              · rw [q]; omega
              · have := h6 f' (by omega) g; omega⟩
/-- the field of f in a column, by its end -/
def o_fld (G : Nat → Int) (f : Nat) (R : Int) (n : Nat) : Int := if G f = -1 then 0 else match o_fin G f R n with
  | none => 0
  | some e => e - G f
/-- the same, by counting -/
theorem o_fld_c {G : Nat → Int} {f n : Nat} {R : Nat} (hG : ∀ f, -1 ≤ G f) (hR : ∀ f, G f < R) (hf : f < n) : (sm (fun r => if (o_own G (r : Int) n).1 = (f : Int) then 1 else 0) R : Int) = o_fld G f (R : Int) n := by
  unfold o_fld
  by_cases h0 : G f = -1
  · rw [if_pos h0]
    rw [sm_c (g := fun _ => 0), sm_0]
    · rfl
    · intro r hr
      rw [if_neg]
      intro h
      rcases o_own_is (r := (r : Int)) hG n with ⟨e, -⟩ | ⟨f', hf', e, h2, -⟩
      · rw [e] at h; simp at h <;> omega
      · rw [e] at h
        have : f' = f := by simp at h; omega
        rw [this] at h2; omega
  · rw [if_neg h0]
    have hp : 0 ≤ G f := by have := hG f; omega
    rcases o_fin_is (G := G) (f := f) (R := (R : Int)) n with ⟨e, f', h1, h2, h3⟩ | ⟨e, he, h1, h2, h3, h4, h5, h6⟩
    · rw [e]
      show _ = (0 : Int)
      rw [sm_c (g := fun _ => 0), sm_0]
      · rfl
      · intro r hr
        rw [if_neg]
        intro h
        rcases o_own_is (r := (r : Int)) hG n with ⟨e, -⟩ | ⟨f2, hf2, e, g2, g3, g4, g5⟩
        · rw [e] at h; simp at h <;> omega
        · rw [e] at h
          have : f2 = f := by simp at h; omega
          rw [this] at g5 g3
          have := g5 f' h3
          omega
    · rw [he]
      show _ = e - G f
      have hlt := hR f
      rw [sm_c (g := fun r => if G f ≤ (r : Int) ∧ (r : Int) < e then 1 else 0), sm_iv (G f) e hp (by omega)]
      · rw [if_neg (by omega)]
        by_cases q : (R : Int) ≤ e
        · rw [if_pos q]; omega
        · rw [if_neg q]
      · intro r hr
        by_cases q : G f ≤ (r : Int) ∧ (r : Int) < e
        · rw [if_pos q, if_pos]
          rcases o_own_is (r := (r : Int)) hG n with ⟨e2, g⟩ | ⟨f2, hf2, e2, g2, g3, g4, g5⟩
          · have := g f hf; omega
          · rw [e2]
            have a1 := g4 f hf
            have a2 : G f2 = G f := by
              by_cases z : G f < G f2
              · have := h6 f2 hf2 z; omega
              · omega
            show (f2 : Int) = (f : Int)
            have a3 := h1 f2 hf2
            by_cases z : f2 < f
            · exact absurd ⟨a2, z⟩ a3
            · by_cases z2 : f < f2
              · have := g5 f z2; omega
              · omega
        · rw [if_neg q, if_neg]
          intro h
          rcases o_own_is (r := (r : Int)) hG n with ⟨e2, g⟩ | ⟨f2, hf2, e2, g2, g3, g4, g5⟩
          · rw [e2] at h; simp at h <;> omega
          · rw [e2] at h
            have z : f2 = f := by simp at h; omega
            rw [z] at g3 g4
            refine q ⟨g3, ?_⟩
            rcases h3 with h3 | ⟨f', b1, b2⟩
            · omega
            · have := g4 f' b1; omega
/-- every place is the moor's or one fence's -/
theorem o_all {G : Nat → Int} {n R : Nat} (hG : ∀ f, -1 ≤ G f) : sm (fun f => sm (fun r => if (o_own G (r : Int) n).1 = (f : Int) then 1 else 0) R) n + sm (fun r => if (o_own G (r : Int) n).1 = -1 then 1 else 0) R = R := by
  rw [sm_sw, ← sm_a, sm_c (g := fun _ => 1), sm_k]
  · omega
  · intro r hr
    rcases o_own_is (r := (r : Int)) hG n with ⟨e2, g⟩ | ⟨f2, hf2, e2, -⟩
    · rw [e2, if_pos rfl, sm_c (g := fun _ => 0), sm_0]
      intro i hi
      rw [if_neg]
      show ¬ (-1 : Int) = (i : Int)
      omega
    · rw [e2, if_neg (by show ¬ (f2 : Int) = -1; omega), sm_c (g := fun i => if i = f2 then 1 else 0), sm_one hf2]
      intro i hi
      by_cases z : i = f2
      · rw [z]; simp
      · rw [if_neg z, if_neg]
        show ¬ (f2 : Int) = (i : Int)
        omega
