/-! both sides read a part -/
def pmk (tk : Nat) : Nat := if tk = 0 then 2148 else if tk = 1 then 6212 else 63552
def amk (tk : Nat) : Nat := if tk = 2 then 131104 else 0
/-- the class stands behind e and has told the steps of L -/
def CE (X : MI) (sd : Nat) (tb : Nat → Nat) (n e : Nat) (b : Bool) (L : List Nat) (tk : Nat) : Prop := RS X tb n e b ∧ (X 19 5 = nI L.length ∧ (∀ i, i < L.length → X (sd + 7) i = nI (q_tau (L.getD i 0))) ∧ L.length ≤ e) ∧ X 19 11 = nI (pmk tk) ∧ X 19 12 = nI (amk tk)
def FX (sd : Nat) (Y X : MI) : Prop := (∀ q, q ≠ 19 → q ≠ sd + 7 → Y q = X q) ∧ Y 19 3 = X 19 3 ∧ Y 19 11 = X 19 11 ∧ Y 19 12 = X 19 12
theorem FX_r (sd : Nat) (X : MI) : FX sd X X := ⟨fun _ _ _ => rfl, rfl, rfl, rfl⟩
theorem FX_t {sd : Nat} {X Y Z : MI} (h : FX sd Z Y) (g : FX sd Y X) : FX sd Z X := ⟨fun q a c => (h.1 q a c).trans (g.1 q a c), h.2.1.trans g.2.1, h.2.2.1.trans g.2.2.1, h.2.2.2.trans g.2.2.2⟩
theorem FX_N {sd : Nat} {X Y : MI} (h : fsL LN Y X) : FX sd Y X := by
  refine ⟨fun q a _ => fs_k h ?_, h 19 3 (by decide), h 19 11 (by decide), h 19 12 (by decide)⟩
  simp only [LN, LR, List.all_cons, List.all_nil, Bool.and_true, Bool.and_eq_true, Bool.not_eq_true', beq_eq_false_iff_ne]
  omega
theorem FX_R {sd : Nat} {X Y : MI} (h : fsL LR Y X) : FX sd Y X := FX_N (fs_sub (by decide) h)
section LC2
variable {I X Y Z : MI} {sd n e o tk : Nat} {b : Bool} {tb : Nat → Nat} {L : List Nat}
theorem CE_m (hq : sd = 3 ∨ sd = 11) (h : CE X sd tb n e b L tk) {e2 : Nat} {b2 : Bool} (hr : RS Y tb n e2 b2) (hf : fsL LN Y X) (he : e ≤ e2) : CE Y sd tb n e2 b2 L tk := by
  obtain ⟨h1, ⟨h2, h3, h4⟩, h5, h6⟩ := h
  refine ⟨hr, ⟨(hf 19 5 (by decide)).trans h2, fun i hi => ?_, by omega⟩, (hf 19 11 (by decide)).trans h5, (hf 19 12 (by decide)).trans h6⟩
  rw [(FX_N (sd := 0) hf).1 (sd + 7) (by omega) (by omega)]
  exact h3 i hi
theorem CE_w (hq : sd = 3 ∨ sd = 11) (h : CE X sd tb n e b L tk) (k at' : Nat) : FTt (wrm X k at') k at' ∧ FX sd (wrm X k at') X := ⟨wrm_t X k at', FX_N (wrm_f k at' (by decide))⟩
theorem emit_n (hq : sd = 3 ∨ sd = 11) (h : CE X sd tb n e b L tk) (hl : L.length < e) (c : Nat) : ∃ Y, F_Reader_emit sd X (nI (q_tau c)) = some (1, Y) ∧ CE Y sd tb n e b (L ++ [c]) tk ∧ FX sd Y X := by
  obtain ⟨⟨t1, t2, t3⟩, ⟨h2, h3, h4⟩, h5, h6⟩ := h
  have n16 := t1.2.1
  refine ⟨_, emit_c hq (by omega) h2 _, ⟨⟨CTp_c t1 ?_ ?_ ?_ ?_, ⟨?_, ?_, ?_, fun z => ?_⟩, t3⟩, ⟨?_, fun i hi => ?_, ?_⟩, ?_, ?_⟩, fun q a c => ?_, ?_, ?_, ?_⟩
  · rw [up_k _ _ _ (by decide), up_k _ _ _ (by omega)]
  · rw [up_k _ _ _ (by decide), up_k _ _ _ (by omega)]
  · rw [up_j _ _ _ (by decide), up_k _ _ _ (by omega)]
  · rw [up_j _ _ _ (by decide), up_k _ _ _ (by omega)]
  · rw [up_j _ _ _ (by decide), up_k _ _ _ (by omega)]; exact t2.1
  · rw [up_j _ _ _ (by decide), up_k _ _ _ (by omega)]; exact t2.2.1
  · rw [up_j _ _ _ (by decide), up_k _ _ _ (by omega)]; exact t2.2.2.1
  · rw [up_j _ _ _ (by decide), up_k _ _ _ (by omega)]; exact t2.2.2.2 z
  · rw [up_e, List.length_append]; rfl
  · rw [List.length_append] at hi
    have hi : i < L.length + 1 := hi
    rw [up_k _ _ _ (by omega), getD_app]
    by_cases z : i < L.length
    · rw [if_pos z, up_j _ _ _ (by omega)]; exact h3 i z
    · have z2 : i = L.length := by omega
      subst z2
      rw [if_neg z, if_pos rfl, up_e]
  · rw [List.length_append]; simp; omega
  · rw [up_j _ _ _ (by decide), up_k _ _ _ (by omega)]; exact h5
  · rw [up_j _ _ _ (by decide), up_k _ _ _ (by omega)]; exact h6
  · rw [up_k _ _ _ a, up_k _ _ _ c]
  · rw [up_j _ _ _ (by decide), up_k _ _ _ (by omega)]
  · rw [up_j _ _ _ (by decide), up_k _ _ _ (by omega)]
  · rw [up_j _ _ _ (by decide), up_k _ _ _ (by omega)]
/-- one more level, if it may be -/
theorem opens_c (h : RS X tb n e b) (ho : o ≤ 6) (ql : sk tb n e < n) : (o = 6 ∧ F_Reader_opens sd X (nI o) = some (0, wrm X 4 (sk tb n e))) ∨ (o < 6 ∧ ∃ Y, F_Reader_opens sd X (nI o) = some (1, Y) ∧ RS Y tb n (tke tb n e) (sol (kd tb n e b)) ∧ fsL LR Y X) := by
  unfold F_Reader_opens
  by_cases q : o < 6
  · right
    obtain ⟨Y, y1, y2, y3⟩ := adv_n (sd := sd) h ql
    refine ⟨q, Y, ?_, y2, y3⟩
    rw [if_pos (show nI o < 6 from nI_lt (b := 6) q (by decide)), y1]; rfl
  · left
    refine ⟨by omega, ?_⟩
    rw [if_neg (show ¬ nI o < 6 from nI_nlt (b := 6) (by omega) (by omega)), h.2.1.2.1, show (4 : Int32) = nI 4 from rfl, wrong_e]
    simp only [Option.bind_some]
    rw [gq_e (Or.inl trivial)]
/-- how far a row of codes may stand -/
def tyk (ty : Bool) (m : Nat) (cs : List Nat) : Prop := ∀ t : List Bool, t.length ≤ m → q_ty cs t = some (ty :: t)
def alk (tk : Nat) (cs : List Nat) : Prop := q_al (q_a tk) (decide (tk = 2)) cs
theorem alk_a {cs ds : List Nat} (h1 : alk tk cs) (h2 : alk tk ds) : alk tk (cs ++ ds) := fun c hc => by
  rcases List.mem_append.mp hc with z | z
  · exact h1 c z
  · exact h2 c z
theorem alk_1 {c : Nat} (h : c < 40 ∨ 1000 ≤ c) : alk tk [c] := fun x hx => by
  rw [List.mem_singleton.mp hx]
  exact ⟨fun a b => by omega, fun a b => by omega⟩
theorem tyk_a {cs : List Nat} {ty ty2 : Bool} {m c : Nat} (h : tyk ty m cs) (hc : ∀ t, t.length ≤ m → q_ty1 c (ty :: t) = some (ty2 :: t)) : tyk ty2 m (cs ++ [c]) := fun t ht => by
  rw [q_ty_a, h t ht]
  exact hc t ht
theorem tyk_2 {cs ds : List Nat} {t1 t2 ty : Bool} {m m2 c : Nat} (h : tyk t1 m cs) (g : tyk t2 m2 ds) (hm : m + 1 ≤ m2) (hc : ∀ t, t.length ≤ m → q_ty1 c (t2 :: t1 :: t) = some (ty :: t)) : tyk ty m (cs ++ ds ++ [c]) := fun t ht => by
  rw [q_ty_a, q_ty_app, h t ht]
  show ((q_ty ds (t1 :: t)).bind (q_ty1 c)) = _
  rw [g (t1 :: t) (by simp; omega)]
  exact hc t ht
theorem tyk_l {cs : List Nat} {ty : Bool} {m m2 : Nat} (h : tyk ty m cs) (hm : m2 ≤ m) : tyk ty m2 cs := fun t ht => h t (by omega)
/-- both sides behind a part -/
def JP (F : Option (Int32 × MI)) (X : MI) (sd : Nat) (tb : Nat → Nat) (n e : Nat) (b : Bool) (L : List Nat) (tk o : Nat) : Prop :=
  (∃ e' b' cs X', F = some (1, X') ∧ CE X' sd tb n e' b' (L ++ cs) tk ∧ FX sd X' X ∧ e + cs.length ≤ e' ∧ e < e' ∧ tyk false (22 + 8 * o) cs ∧ alk tk cs ∧ ∀ v0 Y W K bs, RE Y tb n e b W K o bs tk → ∃ Y', KP v0 Y = KE v0 Y' ∧ RE Y' tb n e' b' W (K ++ cs) o bs tk ∧ fsL LQ Y' Y) ∨
  (∃ k at' X', F = some (0, X') ∧ FTt X' k at' ∧ FX sd X' X ∧ (1 ≤ k ∧ k < 100) ∧ ∀ v0 Y W K bs, RE Y tb n e b W K o bs tk → ∃ Y', KP v0 Y = some Y' ∧ MFr Y' k at' ∧ fsL LQ Y' Y)
/-- behind a product, a sum -/
def JS (sum : Bool) (F : Option (Int32 × MI)) (X : MI) (sd : Nat) (tb : Nat → Nat) (n e : Nat) (b : Bool) (L : List Nat) (tk o : Nat) : Prop :=
  (∃ e' b' cs X', F = some (1, X') ∧ CE X' sd tb n e' b' (L ++ cs) tk ∧ FX sd X' X ∧ e + cs.length ≤ e' ∧ e < e' ∧ tyk false ((if sum = true then 20 else 21) + 8 * o) cs ∧ alk tk cs ∧ (¬ kd tb n e' b' = 42 ∧ ¬ kd tb n e' b' = 47 ∧ (sum = true → ¬ kd tb n e' b' = 43 ∧ ¬ kd tb n e' b' = 45)) ∧ ∀ v0 Y W K bs, RE Y tb n e b W K o bs tk → ¬ tp (fun x => ((if sum = true then 1 else 3) ≤ x ∧ x ≤ 4) ∨ 60 ≤ x) W → ∃ Y' S ks, KP v0 Y = KG v0 Y' ∧ RE Y' tb n e' b' (W ++ S) (K ++ ks) o bs tk ∧ (∀ x, x ∈ S → (if sum = true then 1 else 3) ≤ x ∧ x ≤ 4) ∧ cs = ks ++ S.reverse ∧ fsL LQ Y' Y) ∨
  (∃ k at' X', F = some (0, X') ∧ FTt X' k at' ∧ FX sd X' X ∧ (1 ≤ k ∧ k < 100) ∧ ∀ v0 Y W K bs, RE Y tb n e b W K o bs tk → ¬ tp (fun x => ((if sum = true then 1 else 3) ≤ x ∧ x ≤ 4) ∨ 60 ≤ x) W → ∃ Y', KP v0 Y = some Y' ∧ MFr Y' k at' ∧ fsL LQ Y' Y)
theorem tau_n {v : Nat} (h : v < 10000) : q_tau (1000 + v) = v := by unfold q_tau; rw [if_pos (by omega)]; omega
theorem ty_n {v : Nat} (h : v ≤ 9999) {m : Nat} (hm : m ≤ 80) : tyk false m [1000 + v] := fun t ht => by
  show (q_ty1 (1000 + v) t).bind (q_ty []) = _
  unfold q_ty1
  rw [if_pos (by omega), if_pos ⟨by omega, by omega⟩]; rfl
theorem ty_w {k : Nat} (h : k < 8) {m : Nat} (hm : m ≤ 80) : tyk false m [40 + k] := fun t ht => by
  show (q_ty1 (40 + k) t).bind (q_ty []) = _
  unfold q_ty1
  rw [if_neg (by omega), if_neg (by omega), if_pos (by omega), if_pos ⟨by omega, by omega⟩]; rfl
theorem ty_o {k : Nat} (h : 60 ≤ k) (h2 : k ≤ 61) (t : List Bool) : q_ty1 k (false :: t) = some (false :: t) := by
  unfold q_ty1
  rw [if_neg (by omega), if_pos h, if_pos h2]
theorem ty_b {k : Nat} (h : 1 ≤ k) (h2 : k ≤ 6) (t : List Bool) : q_ty1 k (false :: false :: t) = some (false :: t) := by
  unfold q_ty1
  rw [if_neg (by omega), if_neg (by omega), if_neg (by omega), if_neg (by omega), if_neg (by omega), if_pos ⟨h, h2⟩]
/-- words, masks -/
theorem msk_p : ∀ tk, tk < 3 → ∀ j, j < 24 → ((nI (pmk tk) >>> (nI j &&& 31)) &&& 1 = 0 ↔ ∀ k, k < 8 → q_o tk 0 8 (some j) = some k → False) ∧ ((nI (amk tk) >>> (nI j &&& 31)) &&& 1 = 0 ↔ ∀ k, k < 10 → q_o tk 8 10 (some j) = some k → False) := by decide +kernel
theorem tau_w : ∀ tk, tk < 3 → ∀ j, j < 24 → ∀ k, k < 8 → q_o tk 0 8 (some j) = some k → q_tau (40 + k) = 10000 + j ∧ q_a tk k = true := by decide +kernel
theorem tau_o : ∀ tk, tk < 3 → ∀ j, j < 24 → ∀ k, k < 10 → q_o tk 8 10 (some j) = some k → (tk == 2 && (j == 5 && k == 8 || j == 17 && k == 9)) = true := by decide +kernel
theorem tau_o2 : ∀ tk, tk < 3 → ∀ j, j < 24 → ∀ k, k < 10 → q_o tk 8 10 (some j) = some k → q_o tk 0 8 (some j) = none := by decide +kernel
theorem q_o_22 : ∀ tk, tk < 3 → ∀ j, j < 29 → (j = 22 ∨ j = 23 ∨ 24 ≤ j) → q_o tk 8 10 (some j) = none ∧ q_o tk 0 8 (some j) = none := by decide +kernel
theorem q_o_k (tk f t : Nat) (o : Option Nat) (k : Nat) (h : q_o tk f t o = some k) : f ≤ k ∧ k < t := by
  unfold q_o at h
  cases z : q_h tk o with
  | none => rw [z] at h; cases h
  | some k2 =>
    rw [z] at h
    have h : (if f ≤ k2 ∧ k2 < t ∧ q_a tk k2 = true then some k2 else none) = some k := h
    split at h
    · rename_i c
      cases h
      exact ⟨c.1, c.2.1⟩
    · cases h
end LC2
