/-! a row of codes reckoned: the class -/
/-- the codes name only parts of al, and ask only if oo -/
def q_al (al : Nat → Bool) (oo : Bool) (cs : List Nat) : Prop := ∀ c, c ∈ cs → (40 ≤ c → c < 60 → al (c - 40) = true) ∧ (60 ≤ c → c < 1000 → oo = true)
def wtC (X : MI) : List Int → Prop
  | [] => True
  | v :: s => X 26 s.length = xI v ∧ wtC X s
theorem wtC_up {X : MI} {v : Int32} {j : Nat} : ∀ {s : List Int}, s.length ≤ j → wtC X s → wtC (m_up X 26 j v) s := by
  intro s
  induction s with
  | nil => intro _ _; trivial
  | cons a s ih =>
    intro hj h
    simp only [List.length_cons] at hj
    exact ⟨by rw [up_j _ _ _ (by omega)]; exact h.1, ih (by omega) h.2⟩
theorem q_ev_a (pt : Nat → Int) (fo : Nat → Int → Int) (c : Nat) : ∀ (l : List Nat) (s : List Int), q_ev pt fo (l ++ [c]) s = q_ev1 pt fo c (q_ev pt fo l s) := by
  intro l
  induction l with
  | nil => intro s; rfl
  | cons a l ih => intro s; simp only [List.cons_append, q_ev]; exact ih _
theorem q_ty_a (c : Nat) : ∀ (l : List Nat) (t : List Bool), q_ty (l ++ [c]) t = (q_ty l t).bind (q_ty1 c) := by
  intro l
  induction l with
  | nil => intro t; simp only [List.nil_append, q_ty, Option.bind_some]; cases q_ty1 c t <;> rfl
  | cons a l ih =>
    intro t
    simp only [List.cons_append, q_ty]
    cases q_ty1 a t with
    | none => rfl
    | some t2 => exact ih t2
theorem q_ty_app : ∀ (l m : List Nat) (t : List Bool), q_ty (l ++ m) t = (q_ty l t).bind (q_ty m) := by
  intro l
  induction l with
  | nil => intro m t; simp only [List.nil_append, q_ty, Option.bind_some]
  | cons a l ih =>
    intro m t
    simp only [List.cons_append, q_ty]
    cases q_ty1 a t with
    | none => rfl
    | some t2 => exact ih m t2
theorem q_tau_op {c : Nat} (h1 : 1 ≤ c) (h2 : c ≤ 11) : q_tau c = q_op c ∧ 20000 ≤ q_op c ∧ q_op c ≤ 20010 := by
  rcases (by omega : c = 1 ∨ c = 2 ∨ c = 3 ∨ c = 4 ∨ c = 5 ∨ c = 6 ∨ c = 7 ∨ c = 8 ∨ c = 9 ∨ c = 10 ∨ c = 11) with h | h | h | h | h | h | h | h | h | h | h <;> subst h <;> decide
theorem q_word_lt (k : Nat) : q_word k < 24 := by
  unfold q_word
  split <;> decide
theorem stepC {X : MI} {pt : Nat → Int} {fo : Nat → Int → Int} {al : Nat → Bool} {oo : Bool} {c : Nat} {s : List Int} {t t' : List Bool} (hty : q_ty1 c t = some t') (hs : q_tv s t) (hw : wtC X s)
    (ha : (40 ≤ c → c < 60 → al (c - 40) = true) ∧ (60 ≤ c → c < 1000 → oo = true)) (hp : ∀ k, al k = true → X 27 (q_word k) = xI (pt k)) (ho : oo = true → ∀ k x, k < 2 → smv x → f_Reckoner_single X (nI (k + 30001)) (xI x) = xI (fo k x)) :
    ∃ X', rk_step X s.length (nI (q_tau c)) = some ((q_ev1 pt fo c s).length, X') ∧ wtC X' (q_ev1 pt fo c s) ∧ ∀ k, k ≠ 26 → X' k = X k := by
  have hl := q_tv_len hs
  unfold q_ty1 at hty
  unfold q_ev1 q_tau
  by_cases c1 : 1000 ≤ c
  · rw [if_pos c1] at hty
    rw [if_pos c1, if_pos c1]
    by_cases c2 : c ≤ 10999 ∧ t.length < 90
    · have n1 : nI (c - 1000) < (30000 : Int32) := nI_lt (b := 30000) (by omega) (by decide)
      have n2 : nI (c - 1000) < (20000 : Int32) := nI_lt (b := 20000) (by omega) (by decide)
      have n3 : ¬ (10000 : Int32) ≤ nI (c - 1000) := nI_ge (b := 10000) (by omega) (by decide)
      refine ⟨m_up X 26 s.length (nI (c - 1000)), ?_, ⟨?_, wtC_up (Nat.le_refl _) hw⟩, fun k hk => up_k _ _ _ hk⟩
      · unfold rk_step
        rw [if_pos n1, if_pos n2, if_pos (by omega), if_neg n3]; rfl
      · rw [up_e, xI_n]
    · rw [if_neg c2] at hty; cases hty
  rw [if_neg c1] at hty
  rw [if_neg c1, if_neg c1]
  by_cases c2 : 60 ≤ c
  · rw [if_pos c2] at hty
    rw [if_pos c2, if_pos c2]
    by_cases c3 : c ≤ 61
    · rw [if_pos c3] at hty
      match t, hs, hty, hl with
      | false :: t, hs, hty, hl =>
        obtain ⟨v, s, rfl, h1, h2⟩ := q_tv_c hs
        have n1 : ¬ nI (c - 60 + 30001) < (30000 : Int32) := nI_nlt (b := 30000) (by omega) (by omega)
        refine ⟨m_up X 26 s.length (xI (fo (c - 60) v)), ?_, ⟨up_e _ _ _ _, wtC_up (Nat.le_refl _) hw.2⟩, fun k hk => up_k _ _ _ hk⟩
        unfold rk_step
        rw [if_neg n1, if_pos (by simp), List.length_cons, Nat.add_sub_cancel, hw.1, ho (ha.2 c2 (by omega)) _ _ (by omega) h1.1]; rfl
    · rw [if_neg c3] at hty; cases hty
  rw [if_neg c2] at hty
  rw [if_neg c2, if_neg c2]
  by_cases c3 : 40 ≤ c
  · rw [if_pos c3] at hty
    rw [if_pos c3, if_pos c3]
    by_cases c4 : c ≤ 47 ∧ t.length < 90
    · have hq := q_word_lt (c - 40)
      have n1 : nI (10000 + q_word (c - 40)) < (30000 : Int32) := nI_lt (b := 30000) (by omega) (by decide)
      have n2 : nI (10000 + q_word (c - 40)) < (20000 : Int32) := nI_lt (b := 20000) (by omega) (by decide)
      have n3 : (10000 : Int32) ≤ nI (10000 + q_word (c - 40)) := nI_le (a := 10000) (by omega) (by omega)
      refine ⟨m_up X 26 s.length (xI (pt (c - 40))), ?_, ⟨up_e _ _ _ _, wtC_up (Nat.le_refl _) hw⟩, fun k hk => up_k _ _ _ hk⟩
      unfold rk_step
      rw [if_pos n1, if_pos n2, if_pos (by omega), if_pos n3]
      have e : nI (10000 + q_word (c - 40)) - 10000 = nI (q_word (c - 40)) := by
        have := nI_subN (a := 10000 + q_word (c - 40)) (b := 10000) (by omega)
        rw [Nat.add_sub_cancel_left] at this
        exact this
      rw [e]
      unfold f_Reckoner_partOf
      rw [if_neg (nI_pos (by omega)), if_neg (show ¬ (24 : Int32) ≤ nI (q_word (c - 40)) from nI_ge (b := 24) hq (by decide)), nI_clamp (by omega), hp _ (ha.1 c3 (by omega))]; rfl
    · rw [if_neg c4] at hty; cases hty
  rw [if_neg c3] at hty
  rw [if_neg c3, if_neg c3]
  by_cases c4 : c = 13
  · rw [if_pos c4] at hty
    rw [if_pos c4, if_pos c4]
    by_cases c5 : t.length < 90
    · refine ⟨m_up X 26 s.length (nI 1), ?_, ⟨up_e _ _ _ _, wtC_up (Nat.le_refl _) hw⟩, fun k hk => up_k _ _ _ hk⟩
      unfold rk_step
      rw [if_pos (by decide), if_pos (by decide), if_pos (by omega), if_neg (by decide)]; rfl
    · rw [if_neg c5] at hty; cases hty
  rw [if_neg c4] at hty
  rw [if_neg c4, if_neg c4]
  by_cases c5 : c = 12
  · rw [if_pos c5] at hty
    rw [if_pos c5, if_pos c5]
    match t, hs, hty, hl with
    | true :: t, hs, hty, hl =>
      obtain ⟨v, s, rfl, h1, h2⟩ := q_tv_c hs
      refine ⟨m_up X 26 s.length (xI (1 - v)), ?_, ⟨up_e _ _ _ _, wtC_up (Nat.le_refl _) hw.2⟩, fun k hk => up_k _ _ _ hk⟩
      unfold rk_step
      rw [if_neg (by decide), if_pos (by simp), List.length_cons, Nat.add_sub_cancel, hw.1]
      have e : f_Reckoner_single X (nI 30000) (xI v) = xI (1 - v) := by
        unfold f_Reckoner_single
        rw [if_pos (show nI 30000 = 30000 from rfl)]
        rcases h1.2 rfl with h | h <;> subst h <;> decide
      rw [e]; rfl
  rw [if_neg c5] at hty
  rw [if_neg c5, if_neg c5]
  have pr : ∀ {a b : Int} {r : List Int}, s = b :: a :: r → smv a → smv b → 1 ≤ c → c ≤ 11 → (10 ≤ c → (a = 0 ∨ a = 1) ∧ (b = 0 ∨ b = 1)) → ∃ X', rk_step X s.length (nI (q_op c)) = some ((q_bin c a b :: r).length, X') ∧ wtC X' (q_bin c a b :: r) ∧ ∀ k, k ≠ 26 → X' k = X k := by
    intro a b r e h1 h2 h3 h4 h5
    subst e
    have hq := q_tau_op h3 h4
    have n1 : nI (q_op c) < (30000 : Int32) := nI_lt (b := 30000) (by omega) (by decide)
    have n2 : ¬ nI (q_op c) < (20000 : Int32) := nI_nlt (b := 20000) (by omega) (by omega)
    refine ⟨m_up X 26 r.length (xI (q_bin c a b)), ?_, ⟨up_e _ _ _ _, wtC_up (Nat.le_refl _) hw.2.2⟩, fun k hk => up_k _ _ _ hk⟩
    unfold rk_step
    rw [if_pos n1, if_neg n2, if_pos (by simp)]
    simp only [List.length_cons]
    rw [show r.length + 1 + 1 - 2 = r.length by omega, show r.length + 1 + 1 - 1 = r.length + 1 by omega]
    have e1 : X 26 (r.length + 1) = xI b := hw.1
    rw [hw.2.1, e1, pairC h1 h2 h3 h4 h5]
  by_cases c6 : 1 ≤ c ∧ c ≤ 6
  · rw [if_pos c6] at hty
    match t, hs, hty, hl with
    | false :: false :: t, hs, hty, hl =>
      obtain ⟨v, s, rfl, h1, h2⟩ := q_tv_c hs
      obtain ⟨u, s, rfl, h3, h4⟩ := q_tv_c h2
      exact pr rfl h3.1 h1.1 c6.1 (by omega) (by omega)
  rw [if_neg c6] at hty
  by_cases c7 : 7 ≤ c ∧ c ≤ 9
  · rw [if_pos c7] at hty
    match t, hs, hty, hl with
    | false :: false :: t, hs, hty, hl =>
      obtain ⟨v, s, rfl, h1, h2⟩ := q_tv_c hs
      obtain ⟨u, s, rfl, h3, h4⟩ := q_tv_c h2
      exact pr rfl h3.1 h1.1 (by omega) (by omega) (by omega)
  rw [if_neg c7] at hty
  by_cases c8 : 10 ≤ c ∧ c ≤ 11
  · rw [if_pos c8] at hty
    match t, hs, hty, hl with
    | true :: true :: t, hs, hty, hl =>
      obtain ⟨v, s, rfl, h1, h2⟩ := q_tv_c hs
      obtain ⟨u, s, rfl, h3, h4⟩ := q_tv_c h2
      exact pr rfl h3.1 h1.1 (by omega) (by omega) (fun _ => ⟨h3.2 rfl, h1.2 rfl⟩)
  rw [if_neg c8] at hty; cases hty
theorem q_tk {l : List Nat} {n : Nat} (h : n < l.length) : l.take (n + 1) = l.take n ++ [l.getD n 0] := by
  rw [List.take_succ, List.getD_eq_getElem?_getD]
  simp [h]
theorem q_ty_take {l : List Nat} {t t' : List Bool} (h : q_ty l t = some t') (n : Nat) : ∃ t2, q_ty (l.take n) t = some t2 := by
  have e := q_ty_app (l.take n) (l.drop n) t
  rw [List.take_append_drop, h] at e
  cases hq : q_ty (l.take n) t with
  | none => rw [hq] at e; cases e
  | some t2 => exact ⟨t2, rfl⟩
theorem runC {I : MI} {pt : Nat → Int} {fo : Nat → Int → Int} {al : Nat → Bool} {oo : Bool} {q a : Nat} {cs : List Nat} {tf : List Bool} (hq : q ≠ 26) (hc : ∀ i, i < cs.length → I q (a + i) = nI (q_tau (cs.getD i 0))) (hty : q_ty cs [] = some tf) (hal : q_al al oo cs)
    (hsp : ∀ k, smv (pt k)) (hso : ∀ k x, smv (fo k x)) (hp : ∀ k, al k = true → I 27 (q_word k) = xI (pt k)) (ho : oo = true → ∀ X : MI, (∀ k, k ≠ 26 → X k = I k) → ∀ k x, k < 2 → smv x → f_Reckoner_single X (nI (k + 30001)) (xI x) = xI (fo k x)) :
    ∀ n, n ≤ cs.length → ∃ X t, rk_run I q a n = .inr ((q_ev pt fo (cs.take n) []).length, X) ∧ wtC X (q_ev pt fo (cs.take n) []) ∧ (∀ k, k ≠ 26 → X k = I k) ∧ q_ty (cs.take n) [] = some t ∧ q_tv (q_ev pt fo (cs.take n) []) t := by
  intro n
  induction n with
  | zero => intro _; exact ⟨I, [], rfl, trivial, fun _ _ => rfl, rfl, trivial⟩
  | succ n ih =>
    intro hn
    obtain ⟨X, t, h1, h2, h3, h4, h5⟩ := ih (by omega)
    obtain ⟨t2, h6⟩ := q_ty_take hty (n + 1)
    have h7 := h6
    rw [q_tk (by omega), q_ty_a, h4] at h7
    have h7 : q_ty1 (cs.getD n 0) t = some t2 := h7
    have hm : cs.getD n 0 ∈ cs := by
      rw [List.getD_eq_getElem?_getD, List.getElem?_eq_getElem (by omega)]
      exact List.getElem_mem _
    obtain ⟨X', g1, g2, g3⟩ := stepC (X := X) (pt := pt) (fo := fo) h7 h5 h2 (hal _ hm) (fun k hk => by rw [h3 27 (by decide)]; exact hp k hk) (fun z => ho z X h3)
    refine ⟨X', t2, ?_, ?_, fun k hk => (g3 k hk).trans (h3 k hk), h6, ?_⟩
    · simp only [rk_run, h1]
      rw [h3 q hq, hc n (by omega), g1, q_tk (by omega), q_ev_a]
    · rw [q_tk (by omega), q_ev_a]; exact g2
    · rw [q_tk (by omega), q_ev_a]; exact q_tv1 hsp hso h7 h5
def q_val (pt : Nat → Int) (fo : Nat → Int → Int) (cs : List Nat) : Int := (q_ev pt fo cs []).headD 0
theorem q_val_s {pt : Nat → Int} {fo : Nat → Int → Int} {cs : List Nat} {b : Bool} (hsp : ∀ k, smv (pt k)) (hso : ∀ k x, smv (fo k x)) (hty : q_ty cs [] = some [b]) : ∃ v, q_ev pt fo cs [] = [v] ∧ q_val pt fo cs = v ∧ smv v ∧ (b = true → v = 0 ∨ v = 1) := by
  have key : ∀ (l : List Nat) (s : List Int) (t t' : List Bool), q_ty l t = some t' → q_tv s t → q_tv (q_ev pt fo l s) t' := by
    intro l
    induction l with
    | nil => intro s t t' h hs; cases h; exact hs
    | cons c l ih =>
      intro s t t' h hs
      simp only [q_ty] at h
      cases hq : q_ty1 c t with
      | none => rw [hq] at h; cases h
      | some t2 =>
        rw [hq] at h
        exact ih _ _ _ h (q_tv1 hsp hso hq hs)
  have h := key cs [] [] [b] hty trivial
  obtain ⟨v, s, e, h1, h2⟩ := q_tv_c h
  have : s = [] := by
    cases s with
    | nil => rfl
    | cons _ _ => exact h2.elim
  subst this
  exact ⟨v, e, by unfold q_val; rw [e]; rfl, h1.1, h1.2⟩
theorem runC_v {I : MI} {pt : Nat → Int} {fo : Nat → Int → Int} {al : Nat → Bool} {oo : Bool} {q a : Nat} {cs : List Nat} {b : Bool} (hq : q ≠ 26) (hc : ∀ i, i < cs.length → I q (a + i) = nI (q_tau (cs.getD i 0))) (hty : q_ty cs [] = some [b]) (hal : q_al al oo cs)
    (hsp : ∀ k, smv (pt k)) (hso : ∀ k x, smv (fo k x)) (hp : ∀ k, al k = true → I 27 (q_word k) = xI (pt k)) (ho : oo = true → ∀ X : MI, (∀ k, k ≠ 26 → X k = I k) → ∀ k x, k < 2 → smv x → f_Reckoner_single X (nI (k + 30001)) (xI x) = xI (fo k x)) (hl : a + cs.length ≤ 1600) :
    v_run I q (nI a) (nI (a + cs.length)) = xI (q_val pt fo cs) := by
  obtain ⟨X, t, h1, h2, h3, h4, h5⟩ := runC hq hc hty hal hsp hso hp ho cs.length (Nat.le_refl _)
  rw [List.take_length] at h1 h2
  obtain ⟨v, e1, e2, -, -⟩ := q_val_s hsp hso hty
  unfold v_run rk_M
  rw [nI_clamp (by omega), nI_clamp (by omega), show min (a + cs.length) 1600 - a = cs.length by omega, h1, e1]
  show (if nI 1 ≤ 0 then (0 : Int32) else X 26 0) = _
  rw [if_neg (by decide), e2]
  rw [e1] at h2
  exact h2.1
