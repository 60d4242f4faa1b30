/-! the text: blanks, words, numbers -/
def cL (c : Nat) : Bool := decide (97 ≤ c) && decide (c ≤ 122)
def cD (c : Nat) : Bool := decide (48 ≤ c) && decide (c ≤ 57)
def cB (c : Nat) : Bool := decide (c = 10) || decide (c = 32)
def t_run (P : Nat → Bool) (tb : Nat → Nat) : Nat → Nat → Nat
  | 0, e => e
  | d + 1, e => if P (tb e) = true then t_run P tb d (e + 1) else e
/-- where those of P that stand from e on end -/
def t_e (P : Nat → Bool) (tb : Nat → Nat) (n e : Nat) : Nat := t_run P tb (n - e) e
section LB0
variable {P : Nat → Bool} {tb : Nat → Nat} {n : Nat}
theorem te_n {e : Nat} (h : n ≤ e) : t_e P tb n e = e := by unfold t_e; rw [show n - e = 0 by omega]; rfl
theorem te_s {e : Nat} (h : e < n) (hp : P (tb e) = true) : t_e P tb n e = t_e P tb n (e + 1) := by
  unfold t_e
  rw [show n - e = (n - (e + 1)) + 1 by omega]
  simp only [t_run]
  rw [if_pos hp]
theorem te_0 {e : Nat} (h : P (tb e) = false) : t_e P tb n e = e := by
  unfold t_e
  cases n - e with
  | zero => rfl
  | succ d => simp only [t_run]; rw [if_neg (by rw [h]; decide)]
theorem te_all : ∀ d e, n - e = d → e ≤ t_e P tb n e ∧ (e ≤ n → t_e P tb n e ≤ n) ∧ (∀ j, e ≤ j → j < t_e P tb n e → P (tb j) = true) ∧ (t_e P tb n e < n → P (tb (t_e P tb n e)) = false) := by
  intro d
  induction d with
  | zero =>
    intro e h
    rw [te_n (by omega)]
    exact ⟨Nat.le_refl _, fun h => h, fun j a b => by omega, fun h => by omega⟩
  | succ d ih =>
    intro e h
    cases hp : P (tb e) with
    | true =>
      obtain ⟨h1, h2, h3, h4⟩ := ih (e + 1) (by omega)
      rw [te_s (by omega) hp]
      refine ⟨by omega, fun _ => h2 (by omega), fun j a b => ?_, h4⟩
      by_cases q : j = e
      · rw [q]; exact hp
      · exact h3 j (by omega) b
    | false =>
      rw [te_0 hp]
      exact ⟨Nat.le_refl _, fun h => h, fun j a b => by omega, fun _ => hp⟩
theorem te_ge (e : Nat) : e ≤ t_e P tb n e := (te_all _ e rfl).1
theorem te_le {e : Nat} (h : e ≤ n) : t_e P tb n e ≤ n := (te_all _ e rfl).2.1 h
theorem te_in {e j : Nat} (h1 : e ≤ j) (h2 : j < t_e P tb n e) : P (tb j) = true := (te_all _ e rfl).2.2.1 j h1 h2
theorem te_no {e : Nat} (h : t_e P tb n e < n) : P (tb (t_e P tb n e)) = false := (te_all _ e rfl).2.2.2 h
theorem te_mid : ∀ d e, d = t_e P tb n e - e → ∀ a, e ≤ a → a ≤ t_e P tb n e → t_e P tb n a = t_e P tb n e := by
  intro d
  induction d with
  | zero =>
    intro e h a h1 h2
    have := te_ge (P := P) (tb := tb) (n := n) e
    rw [show a = e by omega]
  | succ d ih =>
    intro e h a h1 h2
    by_cases q : a = e
    · rw [q]
    · have hp := te_in (P := P) (tb := tb) (n := n) (Nat.le_refl e) (by omega)
      have hn : e < n := by
        by_cases z : e < n
        · exact z
        · rw [te_n (by omega)] at h; omega
      rw [te_s hn hp] at h h2 ⊢
      exact ih (e + 1) (by omega) a (by omega) h2
end LB0
section LB0b
variable (tb : Nat → Nat) (n : Nat)
/-- where the next one stands -/
def sk (e : Nat) : Nat := t_e cB tb n e
/-- where it ends -/
def tke (e : Nat) : Nat := if sk tb n e < n then (if cL (tb (sk tb n e)) = true then t_e cL tb n (sk tb n e) else if cD (tb (sk tb n e)) = true then t_e cD tb n (sk tb n e) else sk tb n e + 1) else sk tb n e
/-- its kind: 256 a word, 257 digits, 258 the end, 259 one that touches another -/
def kd (e : Nat) (b : Bool) : Nat := if sk tb n e < n then (if cL (tb (sk tb n e)) = true then (if b = true ∧ sk tb n e = e then 259 else 256) else if cD (tb (sk tb n e)) = true then (if b = true ∧ sk tb n e = e then 259 else 257) else tb (sk tb n e)) else 258
def lets (e : Nat) : List Nat := o_bs (fun i => tb (sk tb n e + i)) (tke tb n e - sk tb n e)
/-- is the last one a word or a number -/
def sol (k : Nat) : Bool := k == 256 || k == 257
end LB0b
/-- the words of the class -/
def w_ds : List (List Nat) := [[115, 108, 111, 112, 101], [98, 121], [115, 116, 101, 101, 112], [105, 114, 111, 110], [102, 101, 110, 99, 101], [114, 111, 119], [97, 103, 101], [115, 116, 97, 107, 101], [119, 97, 108, 107, 115], [114, 111, 111, 116, 115], [116, 105, 100, 101], [121, 101, 97, 114], [108, 101, 102, 116], [110, 117, 109, 98, 101, 114], [102, 105, 101, 108, 100], [99, 117, 116], [102, 105, 114, 115, 116], [98, 101, 108, 111, 119], [111, 114], [97, 110, 100], [110, 111, 116], [97, 108, 108], [109, 105, 110], [109, 97, 120], [108, 97, 115, 116], [111, 102, 116, 101, 110], [116, 111, 116, 97, 108], [109, 111, 115, 116], [108, 101, 97, 115, 116]]
def w_fl : List (List Nat) → List Nat
  | [] => []
  | w :: ws => w ++ 32 :: w_fl ws
theorem w_fl_len : (w_fl w_ds).length = 147 := by decide +kernel
theorem w_str : ∀ k, k < 147 → wch (nI k) = nI ((w_fl w_ds).getD k 0) := by decide +kernel
/-- its number among the words from i on -/
def w_fi : List (List Nat) → List Nat → Nat → Int32
  | [], _, _ => -1
  | w :: ws, l, i => if w = l then nI i else w_fi ws l (i + 1)
def w_no (l : List Nat) : Int32 := w_fi w_ds l 0
theorem w_fi_v (l : List Nat) : ∀ (ws : List (List Nat)) (i : Nat), w_fi ws l i = -1 ∨ ∃ j, j < ws.length ∧ ws[j]? = some l ∧ w_fi ws l i = nI (i + j) := by
  intro ws
  induction ws with
  | nil => intro i; exact Or.inl rfl
  | cons w ws ih =>
    intro i
    simp only [w_fi]
    by_cases q : w = l
    · rw [if_pos q]
      exact Or.inr ⟨0, by simp, by simp [q], rfl⟩
    · rw [if_neg q]
      rcases ih (i + 1) with h | ⟨j, h1, h2, h3⟩
      · exact Or.inl h
      · exact Or.inr ⟨j + 1, by simp; omega, by simpa using h2, by rw [h3]; congr 1; omega⟩
theorem w_no_v (l : List Nat) : w_no l = -1 ∨ ∃ j, j < 29 ∧ w_ds[j]? = some l ∧ w_no l = nI j := by
  rcases w_fi_v l w_ds 0 with h | ⟨j, h1, h2, h3⟩
  · exact Or.inl h
  · exact Or.inr ⟨j, h1, h2, by unfold w_no; rw [h3]; congr 1; omega⟩
theorem w_no_i : ∀ i, i < 29 → w_no (w_ds.getD i []) = nI i := by decide +kernel
theorem w_no_e {i : Nat} (hi : i < 29) (l : List Nat) : w_no l = nI i ↔ l = w_ds.getD i [] := by
  constructor
  · intro h
    rcases w_no_v l with g | ⟨j, h1, h2, h3⟩
    · rw [g] at h
      have := nI_pos' (n := i) (by omega)
      rw [← h] at this
      exact absurd this (by decide)
    · rw [h3] at h
      have e : j = i := (nI_inj (by omega) (by omega)).mp h
      subst e
      rw [List.getD_eq_getElem?_getD, h2]; rfl
  · intro h
    rw [h]; exact w_no_i i hi
section LB0c
variable {tb : Nat → Nat} {n : Nat}
theorem sk_ge (e : Nat) : e ≤ sk tb n e := te_ge e
theorem sk_le {e : Nat} (h : e ≤ n) : sk tb n e ≤ n := te_le h
theorem sk_mid {e a : Nat} (h1 : e ≤ a) (h2 : a ≤ sk tb n e) : sk tb n a = sk tb n e := te_mid _ e rfl a h1 h2
theorem sk_no {e : Nat} (h : sk tb n e < n) : cB (tb (sk tb n e)) = false := te_no h
theorem tke_gt {e : Nat} (h : sk tb n e < n) : sk tb n e < tke tb n e := by
  unfold tke
  rw [if_pos h]
  split
  · rename_i hl
    rw [te_s h hl]
    have := te_ge (P := cL) (tb := tb) (n := n) (sk tb n e + 1)
    omega
  · split
    · rename_i hd
      rw [te_s h hd]
      have := te_ge (P := cD) (tb := tb) (n := n) (sk tb n e + 1)
      omega
    · omega
theorem tke_le {e : Nat} (h : e ≤ n) : tke tb n e ≤ n := by
  have h1 := sk_le (tb := tb) h
  unfold tke
  split
  · split
    · exact te_le h1
    · split
      · exact te_le h1
      · omega
  · exact h1
theorem kd_end {e : Nat} (b : Bool) (h : e ≤ n) : sk tb n e < n ∨ (sk tb n e = n ∧ kd tb n e b = 258) := by
  have h1 := sk_le (tb := tb) h
  by_cases q : sk tb n e < n
  · exact Or.inl q
  · right
    refine ⟨by omega, ?_⟩
    unfold kd
    rw [if_neg q]
/-- a letter, a digit or a sign here -/
theorem kd_let {e : Nat} {b : Bool} (h : sk tb n e < n) (hl : cL (tb (sk tb n e)) = true) : kd tb n e b = if b = true ∧ sk tb n e = e then 259 else 256 := by
  unfold kd
  rw [if_pos h, if_pos hl]
theorem kd_dig {e : Nat} {b : Bool} (h : sk tb n e < n) (hl : cD (tb (sk tb n e)) = true) : kd tb n e b = if b = true ∧ sk tb n e = e then 259 else 257 := by
  have hn : cL (tb (sk tb n e)) = false := by
    unfold cD at hl; unfold cL
    simp at hl ⊢; omega
  unfold kd
  rw [if_pos h, hn, if_neg (by decide), if_pos hl]
theorem kd_oth {e : Nat} {b : Bool} (h : sk tb n e < n) (h1 : cL (tb (sk tb n e)) = false) (h2 : cD (tb (sk tb n e)) = false) : kd tb n e b = tb (sk tb n e) := by
  unfold kd
  rw [if_pos h, h1, h2, if_neg (by decide), if_neg (by decide)]
theorem kd_sign {e : Nat} {b : Bool} (h : kd tb n e b < 256) : sk tb n e < n ∧ tb (sk tb n e) = kd tb n e b ∧ cL (tb (sk tb n e)) = false ∧ cD (tb (sk tb n e)) = false ∧ tke tb n e = sk tb n e + 1 := by
  by_cases q : sk tb n e < n
  · rcases Bool.eq_false_or_eq_true (cL (tb (sk tb n e))) with q1 | q1
    · rw [kd_let q q1] at h
      split at h <;> omega
    · rcases Bool.eq_false_or_eq_true (cD (tb (sk tb n e))) with q2 | q2
      · rw [kd_dig q q2] at h
        split at h <;> omega
      · refine ⟨q, (kd_oth q q1 q2).symm, q1, q2, ?_⟩
        unfold tke
        rw [if_pos q, q1, q2, if_neg (by decide), if_neg (by decide)]
  · unfold kd at h
    rw [if_neg q] at h; omega
theorem kd_256 {e : Nat} {b : Bool} (hb : ∀ j, j < n → tb j < 256) : kd tb n e b = 256 ↔ sk tb n e < n ∧ cL (tb (sk tb n e)) = true ∧ ¬ (b = true ∧ sk tb n e = e) := by
  by_cases q : sk tb n e < n
  · have := hb _ q
    cases q1 : cL (tb (sk tb n e)) with
    | true =>
      rw [kd_let q q1]
      by_cases z : b = true ∧ sk tb n e = e
      · rw [if_pos z]; exact ⟨fun h => by omega, fun h => absurd z h.2.2⟩
      · rw [if_neg z]; exact ⟨fun _ => ⟨q, rfl, z⟩, fun _ => rfl⟩
    | false =>
      cases q2 : cD (tb (sk tb n e)) with
      | true =>
        rw [kd_dig q q2]
        exact ⟨fun h => by split at h <;> omega, fun h => by cases h.2.1⟩
      | false =>
        rw [kd_oth q q1 q2]
        exact ⟨fun h => by omega, fun h => by cases h.2.1⟩
  · refine ⟨fun h => ?_, fun h => absurd h.1 q⟩
    unfold kd at h
    rw [if_neg q] at h; omega
theorem kd_257 {e : Nat} {b : Bool} (hb : ∀ j, j < n → tb j < 256) : kd tb n e b = 257 ↔ sk tb n e < n ∧ cD (tb (sk tb n e)) = true ∧ ¬ (b = true ∧ sk tb n e = e) := by
  by_cases q : sk tb n e < n
  · have := hb _ q
    cases q2 : cD (tb (sk tb n e)) with
    | true =>
      rw [kd_dig q q2]
      by_cases z : b = true ∧ sk tb n e = e
      · rw [if_pos z]; exact ⟨fun h => by omega, fun h => absurd z h.2.2⟩
      · rw [if_neg z]; exact ⟨fun _ => ⟨q, rfl, z⟩, fun _ => rfl⟩
    | false =>
      cases q1 : cL (tb (sk tb n e)) with
      | true =>
        rw [kd_let q q1]
        exact ⟨fun h => by split at h <;> omega, fun h => by cases h.2.1⟩
      | false =>
        rw [kd_oth q q1 q2]
        exact ⟨fun h => by omega, fun h => by cases h.2.1⟩
  · refine ⟨fun h => ?_, fun h => absurd h.1 q⟩
    unfold kd at h
    rw [if_neg q] at h; omega
end LB0c
