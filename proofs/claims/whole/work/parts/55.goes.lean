/-! a year passes in the reference -/
theorem ok_cnt {σ τ : Type} {b : Int32 × σ → Option ((Int32 × σ) ⊕ τ)} {P : τ → Prop} (N : Nat) (Inv : Nat → σ → Prop) {s : σ} (h0 : Inv 0 s)
    (hs : ∀ n, n < N → ∀ s, Inv n s → ok (b (nI n, s)) (Sum.elim (fun q => q.1 = nI (n + 1) ∧ Inv (n + 1) q.2) (fun _ => False))) (he : ∀ s, Inv N s → ok (b (nI N, s)) (Sum.elim (fun _ => False) P)) : ok (wl b ((0 : Int32), s)) P := by
  have key : ∀ k, k ≤ N → ∀ s, Inv (N - k) s → ok (wl b (nI (N - k), s)) P := by
    intro k
    induction k with
    | zero =>
      intro _ s h
      obtain ⟨r, e, hr⟩ := he s h
      cases r with
      | inl q => exact hr.elim
      | inr t => exact ⟨t, wl_in e, hr⟩
    | succ k ih =>
      intro hk s h
      obtain ⟨r, e, hr⟩ := hs (N - (k + 1)) (by omega) s h
      cases r with
      | inl q =>
        obtain ⟨q1, q2⟩ := q
        rw [wl_st e]
        have h1 : q1 = nI (N - (k + 1) + 1) := hr.1
        have h2 := hr.2
        rw [h1, show N - (k + 1) + 1 = N - k by omega]
        rw [show N - (k + 1) + 1 = N - k by omega] at h2
        exact ih (by omega) q2 h2
      | inr t => exact hr.elim
  have h := key N (Nat.le_refl _) s
  rw [Nat.sub_self, nI_0] at h
  exact h h0
theorem w_n_lt {p R : Nat} : ∀ n r r', r < R → w_n p R n r = some r' → r' < R := by
  intro n
  induction n with
  | zero => intro r r' h e; cases e; exact h
  | succ n ih =>
    intro r r' h e
    simp only [w_n] at e
    split at e
    · cases e; exact h
    · split at e
      · cases e
      · exact ih (r + 1) r' (by omega) e
theorem rowN {p : CF} {w : WD} (hv : WO p w) (ho : CO p) {f c : Nat} (h : ¬ wR w f c = -1) : ∃ r, r < cR p ∧ wR w f c = nI r ∧ (wR w f c).toNatClampNeg = r := by
  have hR := ho.2.1
  rcases hv.2.2.2.2.1 f c with h2 | h2
  · obtain ⟨r, hr, e⟩ := ix_of (x := wR w f c) (n := cR p) (by omega) (by have := h2.1; grind) h2.2
    exact ⟨r, hr, e, by rw [e, nI_clamp (by omega)]⟩
  · exact absurd h2 h
theorem postN {p : CF} {w : WD} (hv : WO p w) (c : Nat) : ∃ q, q < 2 ^ 30 ∧ wP w c = nI q ∧ (wP w c).toNatClampNeg = q := by
  have h := hv.2.2.2.1 c
  obtain ⟨r, hr, e⟩ := ix_of (x := wP w c) (n := 1073741824) (by decide) h.1 h.2
  exact ⟨r, hr, e, by rw [e, nI_clamp (by omega)]⟩
theorem a_row_b {p : CF} {w : WD} (hv : WO p w) (ho : CO p) (f c : Nat) : (-1 ≤ a_row p w f c ∧ a_row p w f c < nI (cR p)) ∨ a_row p w f c = -1 := by
  unfold a_row
  split
  · exact Or.inr rfl
  · rename_i h
    obtain ⟨r, hr, e1, e2⟩ := rowN hv ho h
    have hR := ho.2.1
    cases e : a_o p w f c with
    | none => exact Or.inr rfl
    | some r' =>
      unfold a_o at e
      rw [e2] at e
      have := w_n_lt _ _ _ hr e
      refine Or.inl ⟨?_, nI_lt this (by omega)⟩
      have : (0 : Int32) ≤ nI r' := nI_pos' (by omega)
      show -1 ≤ nI r'
      grind
theorem a_row_x {p : CF} {w : WD} (hv : WO p w) {f c : Nat} (h : cF p ≤ f ∨ cC p ≤ c) : a_row p w f c = -1 := by
  unfold a_row
  rw [if_pos (hv.2.2.2.2.2 f c h)]
theorem a_age_b {p : CF} {w : WD} (hv : WO p w) (f : Nat) : 0 ≤ a_age w f ∧ a_age w f ≤ 99 := by
  have h := hv.2.2.1 f
  have h1 := h.1; have h2 := h.2
  unfold a_age
  split
  · exact h
  · constructor <;> grind
/-- a world on the way: those ahead of n have rooted -/
def a_mid (p : CF) (w : WD) (n : Nat) : WD := (wY w, fun f => if f < cF p then 0 else wK w f, fun f => if f < cF p then (if f < n ∧ a_rt p w f = true then 0 else a_age w f) else wA w f, wP w, fun f c => if f < n ∧ a_rt p w f = true then (if c < cC p then 0 else -1) else a_row p w f c)
theorem a_rt_F {p : CF} {w : WD} {f : Nat} (h : a_rt p w f = true) : f < cF p := by
  unfold a_rt at h
  simp at h
  exact h.1
theorem mid_O {p : CF} {w : WD} (hv : WO p w) (ho : CO p) (hR : cF p = 0 ∨ 0 < cR p) (n : Nat) : WO p (a_mid p w n) := by
  refine ⟨hv.1, fun f => ?_, fun f => ?_, hv.2.2.2.1, fun f c => ?_, fun f c h => ?_⟩
  · show (if f < cF p then (0 : Int32) else wK w f) = 0 ∨ (if f < cF p then (0 : Int32) else wK w f) = 1
    split
    · exact Or.inl rfl
    · exact hv.2.1 f
  · show 0 ≤ (if f < cF p then (if f < n ∧ a_rt p w f = true then (0 : Int32) else a_age w f) else wA w f) ∧ (if f < cF p then (if f < n ∧ a_rt p w f = true then (0 : Int32) else a_age w f) else wA w f) ≤ 99
    split
    · split
      · decide
      · exact a_age_b hv f
    · exact hv.2.2.1 f
  · show (-1 ≤ (if f < n ∧ a_rt p w f = true then (if c < cC p then (0 : Int32) else -1) else a_row p w f c) ∧ (if f < n ∧ a_rt p w f = true then (if c < cC p then (0 : Int32) else -1) else a_row p w f c) < nI (cR p)) ∨ (if f < n ∧ a_rt p w f = true then (if c < cC p then (0 : Int32) else -1) else a_row p w f c) = -1
    split
    · rename_i h
      have := a_rt_F h.2
      have hR2 := ho.2.1
      split
      · exact Or.inl ⟨by decide, by have := nI_lt (a := 0) (b := cR p) (by omega) (by omega); rwa [nI_0] at this⟩
      · exact Or.inr rfl
    · exact a_row_b hv ho f c
  · show (if f < n ∧ a_rt p w f = true then (if c < cC p then (0 : Int32) else -1) else a_row p w f c) = -1
    split
    · rename_i h2
      have := a_rt_F h2.2
      rw [if_neg (by omega)]
    · exact a_row_x hv h
def k_row (p : CF) (w : WD) (th : Bool) (f : Nat) : Nat → List NT → List NT
  | 0, kl => kl
  | c + 1, kl => if a_goes p w f c then kl_add th (k_row p w th f c kl) (wY w, nI f, nI c) else k_row p w th f c kl
def k_all (p : CF) (w : WD) (th : Bool) : Nat → List NT → List NT
  | 0, kl => kl
  | f + 1, kl => k_row p w th f (cC p) (k_all p w th f kl)
def k_set (p : CF) (w : WD) (th : Bool) : Nat → List NT → List NT
  | 0, kl => kl
  | f + 1, kl => if a_rt p w f then kl_add th (k_set p w th f kl) (wY w, nI f, 255) else k_set p w th f kl
def a_kept (p : CF) (w : WD) (th : Bool) (kl : List NT) : List NT := k_set p w th (cF p) (k_all p w th (cF p) kl)
def a_went (p : CF) (w : WD) : Nat := sm (fun f => sm (fun c => if a_goes p w f c then 1 else 0) (cC p)) (cF p)
section G55
variable {I : MI} {J : MJ} {p : CF} {w : WD} {kl : List NT} {th : Bool}
abbrev L1 : List (Nat × Option Nat) := [(177, some 50), (177, some 53), (177, some 54), (177, some 98), (215, none)]
abbrev K1 : List (Nat × Option Nat) := [(246, none)]
theorem fs_k {α : Type} {L : List (Nat × Option Nat)} {X I : Nat → Nat → α} (h : fsL L X I) {k : Nat} (hk : (L.all fun q => !(q.1 == k)) = true) : X k = I k := by
  funext j
  refine h k j ?_
  cases e : inL L k j with
  | false => rfl
  | true =>
    obtain ⟨q, hq, h2⟩ := List.any_eq_true.mp e
    have h3 := List.all_eq_true.mp hk q hq
    simp only [Bool.and_eq_true] at h2
    rw [h2.1] at h3
    exact absurd h3 (by decide)
/-- how far each will walk -/
def n_w (p : CF) (w : WD) (f c : Nat) : Nat := if wK w f = 1 ∨ wR w f c = -1 then 0 else a_pn p (wA w f) (wY w) c (wR w f c)
theorem goes_1 (ho : CO p) (hq : CQ p) (hs : CM I p) (hn : CN I p) (hw : WM I p w) (hv : WO p w) : ok (wl (fun s : Int32 × MI × MJ => F_MD_yearGoes_2 s.2.1 s.2.2 s.1) ((0 : Int32), I, J)) (fun t => fsL L1 t.1 I ∧ ∀ f c, f < cF p → c < cC p → t.1 215 (6 * f + c) = nI (n_w p w f c)) := by
  have hC := ho.1; have hF := ho.2.2.1
  have vw : ∀ X : MI, fsL L1 X I → CM X p ∧ CN X p ∧ WM X p w := fun X h => ⟨CM_c hs (fun k hk => fs_k h (by rcases hk with z | z | z <;> subst z <;> decide)), CN_c hn (fun k hk => fs_k h (by rcases hk with z | z | z <;> subst z <;> decide)), WM_c ho hw (fun j _ => by rw [fs_k h (by decide)])⟩
  refine ok_cnt (σ := MI × MJ) (cF p) (fun n s => (fsL L1 s.1 I ∧ fsL K1 s.2 J) ∧ ∀ f c, f < n → c < cC p → s.1 215 (6 * f + c) = nI (n_w p w f c)) ⟨⟨fs_r I, fs_r J⟩, fun f c h => by omega⟩ ?_ ?_
  · rintro n hn2 ⟨X, JX⟩ ⟨⟨hx, hj⟩, hval⟩
    simp only [F_MD_yearGoes_2]
    refine ok_be (fm_e (vw X hx).1) (ok_f (nI_ge hn2 (by omega)) ?_)
    refine ok_b (ok_cnt (σ := MI × MJ) (P := fun t => (fsL L1 t.1 I ∧ fsL K1 t.2 J) ∧ ∀ f c, f < n + 1 → c < cC p → t.1 215 (6 * f + c) = nI (n_w p w f c)) (cC p) (fun m s => (fsL L1 s.1 I ∧ fsL K1 s.2 J) ∧ (∀ f c, f < n → c < cC p → s.1 215 (6 * f + c) = nI (n_w p w f c)) ∧ ∀ c, c < m → s.1 215 (6 * n + c) = nI (n_w p w n c)) ⟨⟨hx, hj⟩, hval, fun c h => by omega⟩ ?_ ?_) ?_
    · rintro m hm ⟨Y, JY⟩ ⟨⟨hy, hjy⟩, hv1, hv2⟩
      obtain ⟨g1, g2, g3⟩ := vw Y hy
      have main : ok (F_MD_yearGoes_12 Y JY (nI n) (nI m)) (Sum.elim (fun q => q.1 = nI (m + 1) ∧ q.2.1 215 (6 * n + m) = nI (n_w p w n m) ∧ ∀ j, j ≠ 6 * n + m → q.2.1 215 j = Y 215 j) (fun _ => False)) := by
        unfold F_MD_yearGoes_12
        rw [g1.1]
        refine ok_f (nI_ge hm (by omega)) (ok_be (cut_e ho g3 hn2) ?_)
        by_cases c1 : wK w n = 1
        · rw [if_pos c1]
          refine ok_f (by decide) (ok_gd (ad_66 n m) (by omega) (by decide) (ok_s ⟨nI_s m, ?_, ?_⟩))
          · show m_up Y 215 (((6 : Int32) * nI n) + nI m).toNatClampNeg 0 215 (6 * n + m) = _
            rw [ad_66, nI_clamp (by omega), up_e]
            unfold n_w
            rw [if_pos (Or.inl c1)]; rfl
          · intro j hj2
            show m_up Y 215 (((6 : Int32) * nI n) + nI m).toNatClampNeg 0 215 j = _
            rw [ad_66, nI_clamp (by omega), up_j _ _ _ hj2]
        · rw [if_neg c1]
          refine ok_t rfl (ok_be (row_e ho g3 hn2 hm) ?_)
          refine ok_if (fun c2 => ?_) (fun c2 => ?_)
          · refine ok_gd (ad_66 n m) (by omega) (by decide) (ok_s ⟨nI_s m, ?_, ?_⟩)
            · show m_up Y 215 (((6 : Int32) * nI n) + nI m).toNatClampNeg 0 215 (6 * n + m) = _
              rw [ad_66, nI_clamp (by omega), up_e]
              unfold n_w
              rw [if_pos (Or.inr c2)]; rfl
            · intro j hj2
              show m_up Y 215 (((6 : Int32) * nI n) + nI m).toNatClampNeg 0 215 j = _
              rw [ad_66, nI_clamp (by omega), up_j _ _ _ hj2]
          · refine ok_b (ok_and (walkOf_e ho hq g1 g2 g3 hv hn2 hm JY) (q_MD_walkOf (L := L_MD_walkOf) (LJ := K_MD_walkOf) (I0 := Y) (J0 := JY) (by decide) (by decide) (fs_r Y) (fs_r JY))) ?_
            rintro ⟨z1, z2, z3⟩ ⟨e1, e2, -⟩
            refine ok_gd (ad_66 n m) (by omega) (by decide) (ok_s ⟨nI_s m, ?_, ?_⟩)
            · show m_up z2 215 (((6 : Int32) * nI n) + nI m).toNatClampNeg z1 215 (6 * n + m) = _
              rw [ad_66, nI_clamp (by omega), up_e]
              unfold n_w
              rw [if_neg (by rintro (h | h); exact c1 h; exact c2 h)]
              exact e1
            · intro j hj2
              show m_up z2 215 (((6 : Int32) * nI n) + nI m).toNatClampNeg z1 215 j = _
              rw [ad_66, nI_clamp (by omega), up_j _ _ _ hj2]
              exact congrFun (fs_k e2 (by decide)) j
      refine ok_m (ok_and main (q_MD_yearGoes_12 (L := L1) (LJ := K1) (I0 := I) (J0 := J) (by decide) (by decide) hy hjy)) ?_
      rintro (⟨q1, q2, q3⟩ | q) ⟨h1, h2⟩
      · obtain ⟨a1, a2, a3⟩ := h1
        refine ⟨a1, h2, fun f c hf hc => ?_, fun c hc => ?_⟩
        · exact (a3 (6 * f + c) (by omega)).trans (hv1 f c hf hc)
        · by_cases e : c = m
          · rw [e]; exact a2
          · exact (a3 (6 * n + c) (by omega)).trans (hv2 c (by omega))
      · exact h1.elim
    · rintro ⟨Y, JY⟩ ⟨⟨hy, hjy⟩, hv1, hv2⟩
      obtain ⟨g1, g2, g3⟩ := vw Y hy
      simp only [F_MD_yearGoes_12]
      rw [g1.1]
      refine ok_t (Int32.le_refl _) (ok_s ⟨⟨hy, hjy⟩, fun f c hf hc => ?_⟩)
      by_cases e : f = n
      · rw [e]; exact hv2 c hc
      · exact hv1 f c (by omega) hc
    · rintro ⟨Y, JY⟩ h
      exact ok_s ⟨nI_s n, h⟩
  · rintro ⟨X, JX⟩ ⟨⟨hx, hj⟩, hval⟩
    simp only [F_MD_yearGoes_2]
    refine ok_be (fm_e (vw X hx).1) (ok_t (Int32.le_refl _) (ok_s ⟨hx, hval⟩))
end G55
