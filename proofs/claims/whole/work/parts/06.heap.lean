/-! the small machine's steps are the machine's -/
theorem m_okI {L : List (Nat × Nat)} (x : Int32) : m_ok L (mI x) := fun _ h => by cases h
theorem m_okJ {L : List (Nat × Nat)} (x : Int64) : m_ok L (mJ x) := fun _ h => by cases h
theorem m_okN {L : List (Nat × Nat)} : m_ok L mN := fun _ h => by cases h
theorem m_okR {L : List (Nat × Nat)} {r : Option MRef} (h : m_rok L r) : m_ok L (.inr r) := fun q hq => h q (Sum.inr.inj hq)
theorem m_rokO {L : List (Nat × Nat)} {r : Option MRef} (h : m_ok L (.inr r)) : m_rok L r := fun q hq => h q (by rw [hq])
theorem m_wsF_get (dA : Nat → ClassId) (b : Nat) (S : MS) : ∀ (l : List (Nat × Nat)) (n i : Nat), (m_wsF dA b S n l)[i]? = (l[i]?).map (fun q => (b + (n + i), m_ent dA b S (n + i) q)) := by
  intro l
  induction l with
  | nil => intro n i; simp [m_wsF]
  | cons q l ih =>
    intro n i
    cases i with
    | zero => simp [m_wsF]
    | succ i =>
      simp only [m_wsF, List.getElem?_cons_succ]
      rw [ih (n + 1) i, show n + 1 + i = n + (i + 1) by omega]
theorem m_ws_get {dA : Nat → ClassId} {b : Nat} {S : MS} {k : Nat} {q : Nat × Nat} (h : S.1[k]? = some q) : (m_ws dA b S)[k]? = some (b + k, m_ent dA b S k q) := by
  unfold m_ws
  rw [m_wsF_get, h]
  simp
theorem m_ws_inv {dA : Nat → ClassId} {b : Nat} {S : MS} {k : Nat} {x : Nat × va_E} (h : (m_ws dA b S)[k]? = some x) : ∃ q, S.1[k]? = some q ∧ x = (b + k, m_ent dA b S k q) := by
  unfold m_ws at h
  rw [m_wsF_get] at h
  cases hq : S.1[k]? with
  | none => rw [hq] at h; cases h
  | some q =>
    rw [hq] at h
    refine ⟨q, rfl, ?_⟩
    simpa using (Option.some.inj h).symm
theorem m_at.cell {G : MG} {S : MS} {H : Heap} (h : m_at G S H) {k : Nat} {q : Nat × Nat} (hk : S.1[k]? = some q) : va_at G.1 vwCl (G.2.2.1.size + k, m_ent G.2.1 G.2.2.1.size S k q) H := h.2.2.1 k _ (m_ws_get hk)
theorem m_at_set {G : MG} {S S' : MS} {H H1 : Heap} {k : Nat} {q : Nat × Nat} (h : m_at G S H) (hk : S.1[k]? = some q) (hL : S'.1 = S.1)
    (ho : ∀ i q', i ≠ k → m_ent G.2.1 G.2.2.1.size S' i q' = m_ent G.2.1 G.2.2.1.size S i q') (hr : ∀ k j, m_rok S'.1 (S'.2.2.2 k j))
    (hn : va_at G.1 vwCl (G.2.2.1.size + k, m_ent G.2.1 G.2.2.1.size S' k q) H1) (hz : H1.size = H.size) (hq : ∀ a, a ≠ G.2.2.1.size + k → H1[a]? = H[a]?) : m_at G S' H1 := by
  refine ⟨by rw [hz, h.1, hL], fun a ha => by rw [hq a (by omega)]; exact h.2.1 a ha, fun i x hx => ?_, hr⟩
  obtain ⟨q', h1, rfl⟩ := m_ws_inv hx
  rw [hL] at h1
  by_cases hi : i = k
  · subst hi
    rw [hk] at h1
    cases h1
    exact hn
  · rw [ho i q' hi]
    exact (h.cell h1).kept (hq _ (by omega))
theorem m_up_ne {α : Type} {f : Nat → Nat → α} {k j i : Nat} {v : α} (h : i ≠ k) : m_up f k j v i = f i := by
  funext j'
  simp [m_up, h]
theorem m_up_at {α : Type} {f : Nat → Nat → α} {k j : Nat} {v : α} (j' : Nat) : m_up f k j v k j' = if j' = j then v else f k j' := by
  simp [m_up]
theorem m_ent_I {dA : Nat → ClassId} {b : Nat} {S : MS} {k j i : Nat} {v : Int32} (q : Nat × Nat) (h : i ≠ k) : m_ent dA b (m_setI S k j v) i q = m_ent dA b S i q := by
  simp only [m_ent, m_setI, m_fv, m_up_ne h]
theorem m_ent_J {dA : Nat → ClassId} {b : Nat} {S : MS} {k j i : Nat} {v : Int64} (q : Nat × Nat) (h : i ≠ k) : m_ent dA b (m_setJ S k j v) i q = m_ent dA b S i q := by
  simp only [m_ent, m_setJ, m_fv, m_up_ne h]
theorem m_ent_R {dA : Nat → ClassId} {b : Nat} {S : MS} {k j i : Nat} {v : Option MRef} (q : Nat × Nat) (h : i ≠ k) : m_ent dA b (m_setR S k j v) i q = m_ent dA b S i q := by
  simp only [m_ent, m_setR, m_fv, m_up_ne h]
theorem m_rok_R {S : MS} {k j : Nat} {v : Option MRef} (h : ∀ k j, m_rok S.1 (S.2.2.2 k j)) (hv : m_rok S.1 v) : ∀ k' j', m_rok (m_setR S k j v).1 ((m_setR S k j v).2.2.2 k' j') := by
  intro k' j'
  simp only [m_setR, m_up]
  split
  · split
    · exact hv
    · exact h k' j'
  · exact h k' j'
-- locals
theorem m_st1_spec : ∀ (l : ML) (i : Nat) (v : MV) (j : Nat) (w : MV), m_get (m_st1 l i v) j = some w → (j = i ∧ w = v) ∨ (j ≠ i ∧ m_get l j = some w ∧ ¬ (j + 1 = i ∧ m_isJ (some w) = true)) := by
  intro l
  induction l with
  | nil => intro i v j w h; simp [m_st1, m_get] at h
  | cons a l ih =>
    intro i v j w h
    match i with
    | 0 =>
      simp only [m_st1] at h
      cases j with
      | zero => simp only [m_get] at h; exact Or.inl ⟨rfl, (Option.some.inj h).symm⟩
      | succ j => simp only [m_get] at h; exact Or.inr ⟨by omega, h, by omega⟩
    | 1 =>
      simp only [m_st1] at h
      cases j with
      | zero =>
        simp only [m_get] at h
        by_cases hJ : m_isJ a = true
        · simp [hJ] at h
        · simp only [hJ] at h
          have h : a = some w := by simpa using h
          refine Or.inr ⟨by omega, by simp [m_get, h], fun q => hJ ?_⟩
          rw [h]; exact q.2
      | succ j =>
        simp only [m_get] at h
        rcases ih 0 v j w h with ⟨h1, h2⟩ | ⟨h1, h2, h3⟩
        · exact Or.inl ⟨by omega, h2⟩
        · exact Or.inr ⟨by omega, by simpa [m_get] using h2, by omega⟩
    | n + 2 =>
      simp only [m_st1] at h
      cases j with
      | zero => simp only [m_get] at h; exact Or.inr ⟨by omega, by simp [m_get, h], by omega⟩
      | succ j =>
        simp only [m_get] at h
        rcases ih (n + 1) v j w h with ⟨h1, h2⟩ | ⟨h1, h2, h3⟩
        · exact Or.inl ⟨by omega, h2⟩
        · exact Or.inr ⟨by omega, by simpa [m_get] using h2, fun q => h3 ⟨by omega, q.2⟩⟩
theorem m_st2_spec : ∀ (l : ML) (i : Nat) (v : MV) (j : Nat) (w : MV), m_get (m_st2 l i v) j = some w → (j = i ∧ w = v) ∨ (j ≠ i ∧ j ≠ i + 1 ∧ m_get l j = some w ∧ ¬ (j + 1 = i ∧ m_isJ (some w) = true)) := by
  intro l
  induction l with
  | nil => intro i v j w h; simp [m_st2, m_get] at h
  | cons a l ih =>
    intro i v j w h
    cases l with
    | nil =>
      simp only [m_st2] at h
      cases j <;> simp [m_get] at h
    | cons a' l' =>
      match i with
      | 0 =>
        simp only [m_st2] at h
        match j with
        | 0 => simp only [m_get] at h; exact Or.inl ⟨rfl, (Option.some.inj h).symm⟩
        | 1 => simp [m_get] at h
        | j + 2 => simp only [m_get] at h; exact Or.inr ⟨by omega, by omega, by simpa [m_get] using h, by omega⟩
      | 1 =>
        simp only [m_st2] at h
        cases j with
        | zero =>
          simp only [m_get] at h
          by_cases hJ : m_isJ a = true
          · simp [hJ] at h
          · simp only [hJ] at h
            have h : a = some w := by simpa using h
            refine Or.inr ⟨by omega, by omega, by simp [m_get, h], fun q => hJ ?_⟩
            rw [h]; exact q.2
        | succ j =>
          simp only [m_get] at h
          rcases ih 0 v j w h with ⟨h1, h2⟩ | ⟨h1, h2, h3, h4⟩
          · exact Or.inl ⟨by omega, h2⟩
          · exact Or.inr ⟨by omega, by omega, by simpa [m_get] using h3, by omega⟩
      | n + 2 =>
        simp only [m_st2] at h
        cases j with
        | zero => simp only [m_get] at h; exact Or.inr ⟨by omega, by omega, by simp [m_get, h], by omega⟩
        | succ j =>
          simp only [m_get] at h
          rcases ih (n + 1) v j w h with ⟨h1, h2⟩ | ⟨h1, h2, h3, h4⟩
          · exact Or.inl ⟨by omega, h2⟩
          · exact Or.inr ⟨by omega, by omega, by simpa [m_get] using h3, fun q => h4 ⟨by omega, q.2⟩⟩
def m_lv (b : Nat) : Nat → ML → List (Nat × Value)
  | _, [] => []
  | n, none :: l => m_lv b (n + 1) l
  | n, some v :: l => (n, m_val b v) :: m_lv b (n + 1) l
theorem m_lv_mem (b : Nat) : ∀ (l : ML) (n i : Nat) (v : MV), m_get l i = some v → (n + i, m_val b v) ∈ m_lv b n l := by
  intro l
  induction l with
  | nil => intro n i v h; simp [m_get] at h
  | cons a l ih =>
    intro n i v h
    cases i with
    | zero =>
      simp only [m_get] at h
      subst h
      simp [m_lv]
    | succ i =>
      simp only [m_get] at h
      have := ih (n + 1) i v h
      rw [show n + 1 + i = n + (i + 1) by omega] at this
      cases a with
      | none => simpa [m_lv] using this
      | some a => simp only [m_lv]; exact List.mem_cons_of_mem _ this
theorem m_lv_inv (b : Nat) : ∀ (l : ML) (n : Nat) (q : Nat × Value), q ∈ m_lv b n l → ∃ i v, m_get l i = some v ∧ q = (n + i, m_val b v) := by
  intro l
  induction l with
  | nil => intro n q h; simp [m_lv] at h
  | cons a l ih =>
    intro n q h
    cases a with
    | none =>
      simp only [m_lv] at h
      obtain ⟨i, v, h1, h2⟩ := ih (n + 1) q h
      exact ⟨i + 1, v, by simpa [m_get] using h1, by rw [h2, show n + 1 + i = n + (i + 1) by omega]⟩
    | some a =>
      simp only [m_lv, List.mem_cons] at h
      rcases h with h | h
      · exact ⟨0, a, rfl, by rw [h]; rfl⟩
      · obtain ⟨i, v, h1, h2⟩ := ih (n + 1) q h
        exact ⟨i + 1, v, by simpa [m_get] using h1, by rw [h2, show n + 1 + i = n + (i + 1) by omega]⟩
theorem m_has_lv {b : Nat} {A : Array Slot} {nL : Nat} {l : ML} (h : m_has b A nL l) : lv_has A nL (m_lv b 0 l) := by
  refine ⟨h.1, h.2.1, fun q hq => ?_⟩
  obtain ⟨i, v, h1, h2⟩ := m_lv_inv b l 0 q hq
  rw [h2, Nat.zero_add]
  exact h.2.2 i v h1
theorem m_val_cat (b : Nat) (v : MV) : (m_val b v).category = if m_isJ (some v) = true then 2 else 1 := by
  rcases v with (x | x) | (_ | r) <;> rfl
theorem m_has_st1 {b : Nat} {A A' : Array Slot} {nL i : Nat} {l : ML} {v : MV} (h : m_has b A nL l) (h2 : lv_has A' nL ((i, m_val b v) :: (m_lv b 0 l).filter (fun q => !(q.1 == i) && !(q.1 + 1 == i && q.2.category == 2)))) : m_has b A' nL (m_st1 l i v) := by
  refine ⟨h2.1, h2.2.1, fun j w hw => ?_⟩
  rcases m_st1_spec l i v j w hw with ⟨h3, h4⟩ | ⟨h3, h4, h5⟩
  · subst h3; subst h4
    exact h2.2.2 _ List.mem_cons_self
  · refine h2.2.2 (j, m_val b w) (List.mem_cons_of_mem _ (List.mem_filter.mpr ⟨by simpa using m_lv_mem b l 0 j w h4, ?_⟩))
    simp only [Bool.and_eq_true, Bool.not_eq_true', beq_eq_false_iff_ne, Bool.and_eq_false_iff, ne_eq]
    refine ⟨h3, ?_⟩
    by_cases hj : j + 1 = i
    · refine Or.inr ?_
      rw [m_val_cat]
      by_cases hJ : m_isJ (some w) = true
      · exact absurd ⟨hj, hJ⟩ h5
      · simp [hJ]
    · exact Or.inl hj
theorem m_has_st2 {b : Nat} {A A' : Array Slot} {nL i : Nat} {l : ML} {v : MV} (h : m_has b A nL l) (h2 : lv_has A' nL ((i, m_val b v) :: (m_lv b 0 l).filter (fun q => !(q.1 == i) && (!(q.1 == i + 1) && !(q.1 + 1 == i && q.2.category == 2))))) : m_has b A' nL (m_st2 l i v) := by
  refine ⟨h2.1, h2.2.1, fun j w hw => ?_⟩
  rcases m_st2_spec l i v j w hw with ⟨h3, h4⟩ | ⟨h3, h3', h4, h5⟩
  · subst h3; subst h4
    exact h2.2.2 _ List.mem_cons_self
  · refine h2.2.2 (j, m_val b w) (List.mem_cons_of_mem _ (List.mem_filter.mpr ⟨by simpa using m_lv_mem b l 0 j w h4, ?_⟩))
    simp only [Bool.and_eq_true, Bool.not_eq_true', beq_eq_false_iff_ne, Bool.and_eq_false_iff, ne_eq]
    refine ⟨h3, h3', ?_⟩
    by_cases hj : j + 1 = i
    · refine Or.inr ?_
      rw [m_val_cat]
      by_cases hJ : m_isJ (some w) = true
      · exact absurd ⟨hj, hJ⟩ h5
      · simp [hJ]
    · exact Or.inl hj
