/-! what a partial function gives: ok (it ends, with), pc (if it ends, with) -/
def ok {α : Type} (o : Option α) (P : α → Prop) : Prop := ∃ r, o = some r ∧ P r
def pc {α : Type} (o : Option α) (P : α → Prop) : Prop := ∀ r, o = some r → P r
theorem ok_s {α : Type} {x : α} {P : α → Prop} (h : P x) : ok (some x) P := ⟨x, rfl, h⟩
theorem ok_e {α : Type} {o : Option α} {x : α} {P : α → Prop} (e : o = some x) (h : P x) : ok o P := ⟨x, e, h⟩
theorem ok_m {α : Type} {o : Option α} {P Q : α → Prop} (h : ok o P) (hi : ∀ r, P r → Q r) : ok o Q := by
  obtain ⟨r, e, h⟩ := h
  exact ⟨r, e, hi r h⟩
theorem ok_and {α : Type} {o : Option α} {P Q : α → Prop} (h : ok o P) (hq : pc o Q) : ok o (fun r => P r ∧ Q r) := by
  obtain ⟨r, e, h⟩ := h
  exact ⟨r, e, h, hq r e⟩
theorem ok_b {α β : Type} {o : Option α} {f : α → Option β} {P : α → Prop} {Q : β → Prop} (h : ok o P) (hi : ∀ a, P a → ok (f a) Q) : ok (o.bind f) Q := by
  obtain ⟨r, e, h⟩ := h
  rw [e]
  exact hi r h
theorem ok_be {α β : Type} {o : Option α} {f : α → Option β} {a : α} {Q : β → Prop} (e : o = some a) (hi : ok (f a) Q) : ok (o.bind f) Q := by
  rw [e]
  exact hi
theorem ok_if {α : Type} {c : Prop} [Decidable c] {a b : Option α} {P : α → Prop} (ht : c → ok a P) (hf : ¬ c → ok b P) : ok (if c then a else b) P := by
  by_cases h : c
  · rw [if_pos h]; exact ht h
  · rw [if_neg h]; exact hf h
theorem ok_t {α : Type} {c : Prop} [Decidable c] {a b : Option α} {P : α → Prop} (h : c) (ht : ok a P) : ok (if c then a else b) P := by
  rw [if_pos h]; exact ht
theorem ok_f {α : Type} {c : Prop} [Decidable c] {a b : Option α} {P : α → Prop} (h : ¬ c) (hf : ok b P) : ok (if c then a else b) P := by
  rw [if_neg h]; exact hf
theorem gd_e {α : Type} {i : Int32} {n : Nat} {x : Option α} (h1 : ¬ i < 0) (h2 : ¬ nI n ≤ i) : gd i n x = x := by
  unfold gd
  rw [if_neg h1, if_neg h2]
theorem gd_n {α : Type} {j n : Nat} {x : Option α} (h : j < n) (hn : n < 2 ^ 31) : gd (nI j) n x = x := gd_e (nI_pos (by omega)) (nI_ge h hn)
theorem gq_e {α : Type} {p : Prop} [Decidable p] {x : Option α} (h : p) : gq p x = x := by
  unfold gq
  rw [if_pos h]
theorem ok_gd {α : Type} {i : Int32} {j n : Nat} {x : Option α} {P : α → Prop} (e : i = nI j) (h : j < n) (hn : n < 2 ^ 31) (hx : ok x P) : ok (gd i n x) P := by
  rw [e, gd_n h hn]; exact hx
theorem ok_gq {α : Type} {p : Prop} [Decidable p] {x : Option α} {P : α → Prop} (h : p) (hx : ok x P) : ok (gq p x) P := by
  rw [gq_e h]; exact hx
theorem ok_bnd {α β : Type} {e : α} {f : α → Option β} {P : β → Prop} (h : ok (f e) P) : ok (bnd e f) P := h
section WL41
variable {σ τ : Type}
theorem ok_wl {b : σ → Option (σ ⊕ τ)} {P : τ → Prop} (inv : σ → Prop) (m : σ → Nat) (hs : ∀ s, inv s → ok (b s) (Sum.elim (fun s' => inv s' ∧ m s' < m s) P)) {s : σ} (h : inv s) : ok (wl b s) P := by
  generalize hk : m s = k
  induction k using Nat.strongRecOn generalizing s with
  | ind k ih =>
    obtain ⟨r, e, hr⟩ := hs s h
    cases r with
    | inl s' =>
      rw [wl_st e]
      exact ih _ (by rw [← hk]; exact hr.2) hr.1 rfl
    | inr t => exact ⟨t, wl_in e, hr⟩
theorem pc_wl {b : σ → Option (σ ⊕ τ)} {P : τ → Prop} (inv : σ → Prop) (hs : ∀ s, inv s → pc (b s) (Sum.elim inv P)) {s : σ} (h : inv s) : pc (wl b s) P := by
  intro t hw
  obtain ⟨n, hn⟩ := wl_iff.mp hw
  clear hw
  induction n generalizing s with
  | zero => cases hn
  | succ n ih =>
    simp only [wlN] at hn
    cases hr : b s with
    | none => rw [hr] at hn; cases hn
    | some o =>
      rw [hr] at hn
      have := hs s h o hr
      cases o with
      | inl s' => exact ih this hn
      | inr t' => cases hn; exact this
/-- a loop whose state after n rounds is known, with an end that may come early -/
theorem wl_up {b : σ → Option (σ ⊕ τ)} (N : Nat) (f : Nat → σ) (hs : ∀ n, n < N → b (f n) = some (.inl (f (n + 1)))) : wl b (f 0) = wl b (f N) := by
  have : ∀ k, k ≤ N → wl b (f 0) = wl b (f k) := by
    intro k
    induction k with
    | zero => intro _; rfl
    | succ k ih => intro hk; rw [ih (by omega), wl_st (hs k (by omega))]
  exact this N (Nat.le_refl _)
end WL41
theorem pc_s {α : Type} {x : α} {P : α → Prop} (h : P x) : pc (some x) P := fun r e => by cases e; exact h
theorem pc_n {α : Type} {P : α → Prop} : pc (none : Option α) P := fun r e => by cases e
theorem pc_m {α : Type} {o : Option α} {P Q : α → Prop} (h : pc o P) (hi : ∀ r, P r → Q r) : pc o Q := fun r e => hi r (h r e)
theorem pc_b {α β : Type} {o : Option α} {f : α → Option β} {P : α → Prop} {Q : β → Prop} (h : pc o P) (hi : ∀ a, P a → pc (f a) Q) : pc (o.bind f) Q := by
  intro r e
  cases o with
  | none => cases e
  | some a => exact hi a (h a rfl) r e
theorem pc_b' {α β : Type} {o : Option α} {f : α → Option β} {Q : β → Prop} (hi : ∀ a, pc (f a) Q) : pc (o.bind f) Q := pc_b (P := fun _ => True) (fun _ _ => trivial) (fun a _ => hi a)
theorem pc_if {α : Type} {c : Prop} [Decidable c] {a b : Option α} {P : α → Prop} (ht : pc a P) (hf : pc b P) : pc (if c then a else b) P := by
  by_cases h : c
  · rw [if_pos h]; exact ht
  · rw [if_neg h]; exact hf
theorem pc_gd {α : Type} {i : Int32} {n : Nat} {x : Option α} {P : α → Prop} (h : pc x P) : pc (gd i n x) P := fun r e => h r (gd_s e).2
theorem pc_gq {α : Type} {p : Prop} [Decidable p] {x : Option α} {P : α → Prop} (h : pc x P) : pc (gq p x) P := fun r e => h r (gq_s e).2
theorem pc_bnd {α β : Type} {e : α} {f : α → Option β} {P : β → Prop} (h : pc (f e) P) : pc (bnd e f) P := h
/-- the reference's cells alone may change; the class's cells alone may change -/
def frM (X I : MI) : Prop := ∀ q, q < 177 → X q = I q
def frC (X I : MI) : Prop := ∀ q, 177 ≤ q → X q = I q
theorem frM_r (I : MI) : frM I I := fun _ _ => rfl
theorem frC_r (I : MI) : frC I I := fun _ _ => rfl
theorem frM_t {A B C : MI} (h : frM A B) (g : frM B C) : frM A C := fun q hq => (h q hq).trans (g q hq)
theorem frC_t {A B C : MI} (h : frC A B) (g : frC B C) : frC A C := fun q hq => (h q hq).trans (g q hq)
theorem frM_u {X I : MI} {k j : Nat} {v : Int32} (hk : 177 ≤ k) (h : frM X I) : frM (m_up X k j v) I := fun q hq => (m_up_ne (by omega)).trans (h q hq)
theorem frC_u {X I : MI} {k j : Nat} {v : Int32} (hk : k < 177) (h : frC X I) : frC (m_up X k j v) I := fun q hq => (m_up_ne (by omega)).trans (h q hq)
