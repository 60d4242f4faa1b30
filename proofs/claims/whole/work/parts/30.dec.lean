/-! functions out of methods -/
/-! the functions that methods are: Option, for what may go wrong -/
abbrev MJ := Nat → Nat → Int64
abbrev MRR := Nat → Nat → Option MRef
def gd {α : Type} (i : Int32) (n : Nat) (x : Option α) : Option α := if i < 0 then none else if nI n ≤ i then none else x
theorem gd_s {α : Type} {i : Int32} {n : Nat} {x : Option α} {r : α} (h : gd i n x = some r) : (¬ i < 0 ∧ ¬ nI n ≤ i) ∧ x = some r := by
  unfold gd at h
  by_cases h1 : i < 0
  · rw [if_pos h1] at h; cases h
  · rw [if_neg h1] at h
    by_cases h2 : nI n ≤ i
    · rw [if_pos h2] at h; cases h
    · rw [if_neg h2] at h; exact ⟨⟨h1, h2⟩, h⟩
def gq {α : Type} (p : Prop) [Decidable p] (x : Option α) : Option α := if p then x else none
theorem gq_s {α : Type} {p : Prop} [Decidable p] {x : Option α} {r : α} (h : gq p x = some r) : p ∧ x = some r := by
  unfold gq at h
  by_cases h1 : p
  · rw [if_pos h1] at h; exact ⟨h1, h⟩
  · rw [if_neg h1] at h; cases h
def bnd {α β : Type} (e : α) (f : α → Option β) : Option β := f e
theorem bnd_s {α β : Type} {e : α} {f : α → Option β} {r : β} (h : bnd e f = some r) : ∃ x, e = x ∧ f x = some r := ⟨e, rfl, h⟩
theorem bnd_o {α β : Type} {x : Option α} {f : α → Option β} {r : β} (h : x.bind f = some r) : ∃ a, x = some a ∧ f a = some r := by
  cases x with
  | none => cases h
  | some a => exact ⟨a, rfl, h⟩
theorem if_t {α : Type} {c : Prop} [Decidable c] {a b : Option α} {r : α} (h : c) (hf : (if c then a else b) = some r) : a = some r := by rw [if_pos h] at hf; exact hf
theorem if_f {α : Type} {c : Prop} [Decidable c] {a b : Option α} {r : α} (h : ¬ c) (hf : (if c then a else b) = some r) : b = some r := by rw [if_neg h] at hf; exact hf
def sel {α β γ : Type} (g : β → γ) (f : α → γ) : α ⊕ β → γ := Sum.elim f g
theorem se_l {α β γ : Type} {g : β → Option γ} {f : α → Option γ} {t : α} {r : γ} (h : sel g f (.inl t) = some r) : f t = some r := h
theorem se_r {α β γ : Type} {g : β → Option γ} {f : α → Option γ} {t : β} {r : γ} (h : sel g f (.inr t) = some r) : g t = some r := h
section WL
variable {σ τ : Type}
def wlN (b : σ → Option (σ ⊕ τ)) : Nat → σ → Option τ
  | 0, _ => none
  | n + 1, s => match b s with
    | none => none
    | some (.inl s') => wlN b n s'
    | some (.inr t) => some t
theorem wlN_mono {b : σ → Option (σ ⊕ τ)} : ∀ {n : Nat} {s : σ} {t : τ}, wlN b n s = some t → ∀ m, wlN b (n + m) s = some t := by
  intro n
  induction n with
  | zero => intro s t h; cases h
  | succ n ih =>
    intro s t h m
    rw [show n + 1 + m = (n + m) + 1 by omega]
    simp only [wlN] at h ⊢
    cases hb : b s with
    | none => rw [hb] at h; cases h
    | some o =>
      rw [hb] at h
      cases o with
      | inl s' => exact ih h m
      | inr t' => exact h
noncomputable def wl (b : σ → Option (σ ⊕ τ)) (s : σ) : Option τ := @dite _ (∃ n t, wlN b n s = some t) (Classical.propDecidable _) (fun h => some h.choose_spec.choose) (fun _ => none)
theorem wl_iff {b : σ → Option (σ ⊕ τ)} {s : σ} {t : τ} : wl b s = some t ↔ ∃ n, wlN b n s = some t := by
  constructor
  · intro h
    unfold wl at h
    split at h
    · rename_i hx
      cases h
      exact ⟨hx.choose, hx.choose_spec.choose_spec⟩
    · cases h
  · rintro ⟨n, h⟩
    have hx : ∃ n t, wlN b n s = some t := ⟨n, t, h⟩
    unfold wl
    rw [dif_pos hx]
    have h1 := wlN_mono hx.choose_spec.choose_spec n
    have h2 := wlN_mono h hx.choose
    rw [Nat.add_comm] at h2
    exact h1.symm.trans h2
theorem wl_in {b : σ → Option (σ ⊕ τ)} {s : σ} {t : τ} (h : b s = some (.inr t)) : wl b s = some t := wl_iff.mpr ⟨1, by simp [wlN, h]⟩
theorem wl_st {b : σ → Option (σ ⊕ τ)} {s s' : σ} (h : b s = some (.inl s')) : wl b s = wl b s' := by
  have hh : ∀ t, wl b s = some t ↔ wl b s' = some t := by
    intro t
    rw [wl_iff, wl_iff]
    constructor
    · rintro ⟨n, hn⟩
      cases n with
      | zero => cases hn
      | succ n => exact ⟨n, by simpa [wlN, h] using hn⟩
    · rintro ⟨n, hn⟩
      exact ⟨n + 1, by simpa [wlN, h] using hn⟩
  cases h1 : wl b s with
  | some t => exact ((hh t).mp h1).symm
  | none =>
    cases h2 : wl b s' with
    | none => rfl
    | some t => rw [(hh t).mpr h2] at h1; cases h1
/-- a loop whose state after n rounds is known -/
theorem wl_for {b : σ → Option (σ ⊕ τ)} (N : Nat) (f : Nat → σ) {t : τ} (hs : ∀ n, n < N → b (f n) = some (.inl (f (n + 1)))) (ht : b (f N) = some (.inr t)) : wl b (f 0) = some t := by
  have : ∀ k, k ≤ N → wl b (f (N - k)) = some t := by
    intro k
    induction k with
    | zero => intro _; exact wl_in ht
    | succ k ih =>
      intro hk
      rw [wl_st (hs (N - (k + 1)) (by omega)), show N - (k + 1) + 1 = N - k by omega]
      exact ih (by omega)
  have h := this N (Nat.le_refl _)
  rwa [Nat.sub_self] at h
theorem wl_B {b : σ → Option (σ ⊕ τ)} {A : σ → Prop} {B : τ → Prop} (hs : ∀ s r, b s = some r → Sum.elim A B r → A s) {s : σ} {t : τ} (hw : wl b s = some t) (hb : B t) : A s := by
  obtain ⟨n, hn⟩ := wl_iff.mp hw
  clear hw
  induction n generalizing s with
  | zero => cases hn
  | succ n ih =>
    simp only [wlN] at hn
    cases hr : b s with
    | none => rw [hr] at hn; cases hn
    | some o =>
      rw [hr] at hn
      cases o with
      | inl s' => exact hs s _ hr (ih hn)
      | inr t' => cases hn; exact hs s _ hr hb
end WL
