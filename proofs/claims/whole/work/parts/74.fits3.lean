/-! fits: the class -/
section L74
variable {I X : MI} {J JX : MJ} {k o sl sd : Nat} {p : CF} {w : WD} {kl : List NT} {un : List (WD × List NT)}
theorem co_k_e (ho : CO p) (hw : WC X 31 w) (hv : WO p w) {c r : Nat} (hc : c < 6) : co_k X (nI c) (nI r) = nI ((c * 30 + r) * 7 + a_k p w c (nI r)) := by
  unfold co_k
  have a1 : nI c * (30 : Int32) = nI (c * 30) := nI_m3 c 30
  have a2 : nI (c * 30 + r) * (7 : Int32) = nI ((c * 30 + r) * 7) := nI_m3 _ 7
  rw [owner_c hw hv ho hc, a1, nI_add, a2, Int32.add_assoc, (a_k_e ho w c (nI r)).1, nI_add]
theorem co_r_e (ho : CO p) (hw : WC X 31 w) (hv : WO p w) {c : Nat} (hc : c < cC p) : ∀ q, q ≤ 30 → (∀ c' r' k, r' < 30 → k < 7 → co_r X (nI c) q 44 ((c' * 30 + r') * 7 + k) = if c' = c ∧ r' < q ∧ k = a_k p w c (nI r') then X 44 ((c' * 30 + r') * 7 + k) + 1 else X 44 ((c' * 30 + r') * 7 + k)) ∧ ∀ kk, kk ≠ 44 → co_r X (nI c) q kk = X kk := by
  have hC := ho.1
  intro q
  induction q with
  | zero => intro _; exact ⟨fun c' r' k _ _ => by rw [if_neg (by omega)]; rfl, fun _ _ => rfl⟩
  | succ q ih =>
    intro hq
    obtain ⟨h1, h2⟩ := ih (by omega)
    have hwY : WC (co_r X (nI c) q) 31 w := WC_c hw (fun a b d => h2 a (by omega))
    have ek := co_k_e ho hwY hv (c := c) (r := q) (by omega)
    have hk6 := (a_k_e ho w c (nI q)).2
    have eQ : co_r X (nI c) (q + 1) = m_up (co_r X (nI c) q) 44 ((c * 30 + q) * 7 + a_k p w c (nI q)) (co_r X (nI c) q 44 ((c * 30 + q) * 7 + a_k p w c (nI q)) + 1) := by
      show (if co_k (co_r X (nI c) q) (nI c) (nI q) < 0 then _ else if Int32.ofNat 1260 ≤ co_k (co_r X (nI c) q) (nI c) (nI q) then _ else _) = _
      rw [ek, if_neg (nI_pos (by omega)), if_neg (show ¬ Int32.ofNat 1260 ≤ nI ((c * 30 + q) * 7 + a_k p w c (nI q)) from nI_ge (b := 1260) (by omega) (by omega)), nI_clamp (by omega)]
    rw [eQ]
    refine ⟨fun c' r' k hr' hk => ?_, fun kk hkk => by rw [up_k _ _ _ hkk]; exact h2 kk hkk⟩
    by_cases e : c' = c ∧ r' = q ∧ k = a_k p w c (nI q)
    · obtain ⟨e1, e2, e3⟩ := e
      subst e1 e2 e3
      rw [up_e, h1 _ _ _ hr' hk, if_neg (by omega), if_pos ⟨rfl, by omega, rfl⟩]
    · rw [up_j _ _ _ (by omega), h1 _ _ _ hr' hk]
      by_cases e2 : c' = c ∧ r' < q ∧ k = a_k p w c (nI r')
      · rw [if_pos e2, if_pos ⟨e2.1, by omega, e2.2.2⟩]
      · rw [if_neg e2, if_neg]
        rintro ⟨z1, z2, z3⟩
        by_cases e3 : r' = q
        · subst e3; exact e ⟨z1, rfl, z3⟩
        · exact e2 ⟨z1, by omega, z3⟩
theorem co_c_e (ho : CO p) (hw : WC X 31 w) (hv : WO p w) (h2 : X sl 2 = nI (cR p)) : ∀ n, n ≤ cC p → (∀ c' r' k, r' < cR p → k < 7 → co_c X sl n 44 ((c' * 30 + r') * 7 + k) = if c' < n ∧ k = a_k p w c' (nI r') then X 44 ((c' * 30 + r') * 7 + k) + 1 else X 44 ((c' * 30 + r') * 7 + k)) ∧ ∀ kk, kk ≠ 44 → co_c X sl n kk = X kk := by
  have hR := ho.2.1
  intro n
  induction n with
  | zero => intro _; exact ⟨fun c' r' k _ _ => by rw [if_neg (by omega)]; rfl, fun _ _ => rfl⟩
  | succ n ih =>
    intro hn
    obtain ⟨h3, h4⟩ := ih (by omega)
    have hwY : WC (co_c X sl n) 31 w := WC_c hw (fun a b d => h4 a (by omega))
    obtain ⟨g1, g2⟩ := co_r_e ho hwY hv (c := n) (by omega) (cR p) hR
    have e : co_c X sl (n + 1) = co_r (co_c X sl n) (nI n) (cR p) := by
      show co_r (co_c X sl n) (nI n) (X sl 2).toNatClampNeg = _
      rw [h2, nI_clamp (by omega)]
    rw [e]
    refine ⟨fun c' r' k hr' hk => ?_, fun kk hkk => by rw [g2 kk hkk]; exact h4 kk hkk⟩
    rw [g1 c' r' k (by omega) hk, h3 c' r' k hr' hk]
    by_cases e1 : c' = n
    · subst e1
      rw [if_neg (show ¬ (c' < c' ∧ k = a_k p w c' (nI r')) from fun z => absurd z.1 (Nat.lt_irrefl _))]
      by_cases e2 : k = a_k p w c' (nI r')
      · rw [if_pos ⟨rfl, hr', e2⟩, if_pos ⟨by omega, e2⟩]
      · rw [if_neg (fun z => e2 z.2.2), if_neg (fun z => e2 z.2)]
    · rw [if_neg (fun z => e1 z.1)]
      by_cases e2 : c' < n ∧ k = a_k p w c' (nI r')
      · rw [if_pos e2, if_pos ⟨by omega, e2.2⟩]
      · rw [if_neg e2, if_neg (fun z => e2 ⟨by omega, z.2⟩)]
abbrev DF : List (Nat × Option Nat) := (30, some 12) :: (30, some 13) :: (30, some 14) :: (44, none) :: DC
/-- what the class has counted after n years -/
def FFc (Z : MI) (p : CF) (w : WD) (sn : List NT) (y n : Nat) : Prop := Z 30 12 = nI (fc (a_fit p w sn y) n) ∧ Z 30 13 = f1 (a_fit p w sn y) n ∧ Z 30 14 = f2 (a_fit p w sn y) n ∧ ∀ c r k, c < cC p → r < cR p → k < 7 → Z 44 ((c * 30 + r) * 7 + k) = nI (fo (a_fit p w sn y) (fun i => a_k p (a_it p w i) c (nI r)) k n)
theorem SC_c {sn : List NT} (h : SC I sn) (e : ∀ k, k = 170 ∨ k = 171 ∨ k = 172 ∨ k = 173 → X k = I k) : SC X sn := by
  refine ⟨?_, fun i hi => ?_⟩
  · rw [e 170 (by omega)]; exact h.1
  · rw [e 171 (by omega), e 172 (by omega), e 173 (by omega)]; exact h.2 i hi
theorem ff_c (ho : CO p) (hQ : CQ p) (hR : cF p = 0 ∨ 0 < cR p) (hq : sl = 3 ∨ sl = 11) (hv : WO p w) (hc : CC I sl p) (hcd : CD I sl p) (hw : WC I 20 w) {sn : List NT} (hn : SN p sn) (hS : SC I sn) {y : Nat} (hy : wY w = nI y) : ∀ n, y + n ≤ 1000 → n ≤ 31 → (y + n ≤ 999 → WC (ff I sl n) 31 (a_it p w n)) ∧ FFc (ff I sl n) p w sn y n ∧ fsL DF (ff I sl n) I := by
  have hC := ho.1; have hR2 := ho.2.1
  intro n
  induction n with
  | zero =>
    intro _ _
    have fl : ∀ (A : MI) q, q ≠ 44 → m_fil A 44 0 1260 q = A q := fun A q h => by funext j; unfold m_fil; rw [if_neg h]
    have tk : ∀ q, q < 31 ∨ 34 < q → ff I sl 0 q = m_fil (m_up (m_up (m_up I 30 12 0) 30 13 (-1)) 30 14 (-1)) 44 0 1260 q := fun q h => take_k _ _ _ h
    refine ⟨fun _ => take_c (WC_c hw (fun q a b => ?_)) (by omega), ⟨?_, ?_, ?_, fun c r k hc hr hk => ?_⟩, fun k j q => ?_⟩
    · rw [fl _ _ (by omega), up_k _ _ _ (by omega), up_k _ _ _ (by omega), up_k _ _ _ (by omega)]
    · rw [tk 30 (by omega), fl _ _ (by decide), up_j _ _ _ (by decide), up_j _ _ _ (by decide), up_e]; rfl
    · rw [tk 30 (by omega), fl _ _ (by decide), up_j _ _ _ (by decide), up_e]; rfl
    · rw [tk 30 (by omega), fl _ _ (by decide), up_e]; rfl
    · rw [tk 44 (by omega)]
      unfold m_fil
      rw [if_pos rfl, if_pos (by omega)]; rfl
    · have h1 : k < 31 ∨ 34 < k := by
        by_cases z : 31 ≤ k ∧ k ≤ 34
        · exfalso
          rcases (by omega : k = 31 ∨ k = 32 ∨ k = 33 ∨ k = 34) with z | z | z | z <;> subst z <;> revert q <;> simp [inL]
        · omega
      have h2 : k ≠ 44 := fun z => by subst z; revert q; simp [inL]
      rw [tk k h1, fl _ _ h2]
      have h3 : ¬ (k = 30 ∧ j = 12) := fun ⟨a, b⟩ => by subst a b; revert q; simp [inL]
      have h4 : ¬ (k = 30 ∧ j = 13) := fun ⟨a, b⟩ => by subst a b; revert q; simp [inL]
      have h5 : ¬ (k = 30 ∧ j = 14) := fun ⟨a, b⟩ => by subst a b; revert q; simp [inL]
      by_cases z : k = 30
      · subst z
        rw [up_j _ _ _ (by omega), up_j _ _ _ (by omega), up_j _ _ _ (by omega)]
      · rw [up_k _ _ _ z, up_k _ _ _ z, up_k _ _ _ z]
  | succ n ih =>
    intro hn1 hn2
    obtain ⟨h1, ⟨h2, h3, h4, h5⟩, h6⟩ := ih (by omega) (by omega)
    have h1 := h1 (by omega)
    have hO := it_O ho hR hv hy n (by omega)
    have hSZ : SC (ff I sl n) sn := SC_c hS (fun k hk => fs_k h6 (by rcases hk with z | z | z | z <;> subst z <;> decide))
    have es := so_c ho h1 hO hn hSZ
    have ef : a_fit p w sn y n = a_seen p (a_it p w n) sn sn.length := by unfold a_fit; rw [decide_eq_true (by omega), Bool.true_and]
    have slk : ∀ (Z : MI), fsL DF Z I → ∀ q, sl ≤ q → q ≤ sl + 7 → Z q = I q := fun Z g q a b => fs_k g (by
      simp only [DF, DC, List.all_cons, List.all_nil, Bool.and_true, Bool.and_eq_true, Bool.not_eq_true', beq_eq_false_iff_ne]
      omega)
    have fcl := fc_le (a_fit p w sn y) n
    -- the year behind it
    have last : ∀ Y : MI, WC Y 31 (a_it p w n) → FFc Y p w sn y (n + 1) → fsL DF Y I → (y + (n + 1) ≤ 999 → WC (py_year none Y 31 sl) 31 (a_it p w (n + 1))) ∧ FFc (py_year none Y 31 sl) p w sn y (n + 1) ∧ fsL DF (py_year none Y 31 sl) I := by
      intro Y y1 ⟨y2, y3, y4, y5⟩ y6
      have fY : fr FT (py_year none Y 31 sl) Y := fr_yearT fr_refl
      have e30 : (py_year none Y 31 sl) 30 = Y 30 := fY 30 (by unfold FT; omega)
      have e44 : (py_year none Y 31 sl) 44 = Y 44 := fY 44 (by unfold FT; omega)
      refine ⟨fun hle => ?_, ⟨by rw [e30]; exact y2, by rw [e30]; exact y3, by rw [e30]; exact y4, fun c r k a b d => by rw [e44]; exact y5 c r k a b d⟩, fs_tr (fs_sub (by decide) (fs_fr fY FT_D)) y6⟩
      exact (year_c (kl := []) (lg := none) ho hQ hR (CC_c hc (slk Y y6)) (CD_c hcd (slk Y y6)) hO (by omega) (by omega) (fun g e => by cases e) y1 trivial (by rw [it_Y, hy, nI_add]; exact nI_lt (b := 999) (by omega) (by decide))).1
    simp only [ff]
    rw [es]
    generalize ff I sl n = Z at *
    cases hb : a_seen p (a_it p w n) sn sn.length with
    | false =>
      rw [if_pos (show bI false = 0 from rfl)]
      have e0 : ¬ a_fit p w sn y n = true := by rw [ef, hb]; decide
      refine last Z h1 ⟨?_, ?_, ?_, fun c r k a b d => ?_⟩ h6
      · simp only [fc]; rw [if_neg e0]; exact h2
      · simp only [f1]; rw [if_neg e0]; exact h3
      · simp only [f2]; rw [if_neg e0]; exact h4
      · simp only [fo]; rw [if_neg (fun z => e0 z.1)]; exact h5 c r k a b d
    | true =>
      rw [if_neg (show ¬ bI true = 0 by decide)]
      have e1 : a_fit p w sn y n = true := by rw [ef, hb]
      -- the count of one that fits
      have cnt : ∀ v : Int32, v = f1 (a_fit p w sn y) (n + 1) → FFc (co_c (ff_u Z n v) sl (cC p)) p w sn y (n + 1) ∧ WC (co_c (ff_u Z n v) sl (cC p)) 31 (a_it p w n) ∧ fsL DF (co_c (ff_u Z n v) sl (cC p)) I := by
        intro v ev
        have u1 : fsL DF (ff_u Z n v) I := fs_up (LX := DF) (by decide) (by decide) (fs_up (LX := DF) (by decide) (by decide) (fs_up (LX := DF) (by decide) (by decide) h6))
        have uk : ∀ q, q ≠ 30 → ff_u Z n v q = Z q := fun q h => by unfold ff_u; rw [up_k _ _ _ h, up_k _ _ _ h, up_k _ _ _ h]
        have uw : WC (ff_u Z n v) 31 (a_it p w n) := WC_c h1 (fun q a b => uk q (by omega))
        have us : ff_u Z n v sl 2 = nI (cR p) := by rw [slk _ u1 sl (by omega) (by omega)]; exact hc.2.1
        obtain ⟨g1, g2⟩ := co_c_e ho uw hO us (cC p) (Nat.le_refl _)
        have e30 := g2 30 (by decide)
        refine ⟨⟨?_, ?_, ?_, fun c r k a b d => ?_⟩, WC_c uw (fun q a b => g2 q (by omega)), ?_⟩
        · rw [e30]; unfold ff_u; rw [up_e, h2]; simp only [fc]; rw [if_pos e1]; exact nI_s _
        · rw [e30]; unfold ff_u; rw [up_j _ _ _ (by decide), up_j _ _ _ (by decide), up_e]; exact ev
        · rw [e30]; unfold ff_u; rw [up_j _ _ _ (by decide), up_e]; simp only [f2]; rw [if_pos e1]
        · rw [g1 c r k b d, uk 44 (by decide), h5 c r k a b d]
          simp only [fo]
          by_cases e2 : k = a_k p (a_it p w n) c (nI r)
          · rw [if_pos ⟨a, e2⟩, if_pos ⟨e1, e2.symm⟩]; exact nI_s _
          · rw [if_neg (fun z => e2 z.2), if_neg (fun z => e2 z.2.symm)]
        · exact fs_tr (fs_fr (P := fun q => q = 44) (fun k hk => g2 k hk) (fun k hk => by subst hk; decide)) u1
      have eC : ∀ v : Int32, (ff_u Z n v sl 1).toNatClampNeg = cC p := by
        intro v
        have : ff_u Z n v sl = Z sl := by unfold ff_u; rw [up_k _ _ _ (by omega), up_k _ _ _ (by omega), up_k _ _ _ (by omega)]
        rw [this, slk Z h6 sl (by omega) (by omega), hc.1, nI_clamp (by omega)]
      have eh : ff_h Z sl n = co_c (ff_u Z n (f1 (a_fit p w sn y) (n + 1))) sl (cC p) := by
        unfold ff_h
        rw [eC, eC, h2, h3]
        simp only [f1]
        rw [if_pos e1]
        by_cases z : fc (a_fit p w sn y) n = 0
        · rw [z, if_pos (show nI 0 = 0 from rfl), if_pos rfl]
        · rw [if_neg z, if_neg (fun e => z (by have := congrArg Int32.toNatClampNeg e; rw [nI_clamp (by omega)] at this; exact this))]
      rw [eh]
      obtain ⟨c1, c2, c3⟩ := cnt _ rfl
      exact last _ c2 c1 c3
end L74
