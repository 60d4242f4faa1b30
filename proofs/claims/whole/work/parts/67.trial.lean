/-! years ahead: both sides go there and come back -/
section T67
variable {I X : MI} {J JX : MJ} {k o sl sd : Nat} {p : CF} {w : WD} {kl : List NT} {un : List (WD × List NT)}
theorem it_Y (n : Nat) : wY (a_it p w n) = wY w + nI n := by
  induction n with
  | zero => show wY w = wY w + 0; rw [Int32.add_zero]
  | succ n ih => show wY (a_it p w n) + 1 = _; rw [ih, Int32.add_assoc, nI_s]
theorem it_O (ho : CO p) (hR : cF p = 0 ∨ 0 < cR p) (hv : WO p w) {y : Nat} (hy : wY w = nI y) : ∀ n, y + n ≤ 2000 → WO p (a_it p w n) := by
  intro n
  induction n with
  | zero => intro _; exact hv
  | succ n ih =>
    intro hn
    refine year_O ho hR (ih (by omega)) ?_
    rw [it_Y, hy, nI_add]
    exact nI_lt (b := 2000) (by omega) (by decide)
theorem cp_k (X : MI) {a b s d n q : Nat} (h : q ≠ b) : m_cpI X a b s d n q = X q := by unfold m_cpI; rw [if_neg h]
theorem cp_e (X : MI) {a b n j : Nat} (h : j < n) : m_cpI X a b 0 0 n b j = X a j := by
  unfold m_cpI va_cpy
  simp only [if_true]
  rw [if_pos (by omega), show 0 + (j - 0) = j by omega]
theorem take_c (h : WC X o w) (hd : k + 3 < o ∨ o + 3 < k) : WC (w_take X k o) k w := by
  obtain ⟨h1, h2, h3, h4, h5⟩ := h
  unfold w_take
  refine ⟨?_, ?_, fun f hf => ?_, fun c hc => ?_, fun f c hf hc => ?_⟩
  · rw [cp_k _ (by omega), cp_k _ (by omega), cp_k _ (by omega), up_j _ _ _ (by decide), up_e]; exact h1
  · rw [cp_k _ (by omega), cp_k _ (by omega), cp_k _ (by omega), up_e, up_k _ _ _ (by omega)]; exact h2
  · rw [cp_k _ (by omega), cp_k _ (by omega), cp_e _ hf, up_k _ _ _ (by omega), up_k _ _ _ (by omega)]; exact h3 f hf
  · rw [cp_k _ (by omega), cp_e _ hc, cp_k _ (by omega), up_k _ _ _ (by omega), up_k _ _ _ (by omega)]; exact h4 c hc
  · rw [cp_e _ (by omega), cp_k _ (by omega), cp_k _ (by omega), up_k _ _ _ (by omega), up_k _ _ _ (by omega)]; exact h5 f c hf hc
theorem take_k (X : MI) (k o : Nat) {q : Nat} (h : q < k ∨ k + 3 < q) : w_take X k o q = X q := fr_take (P := fun q => k ≤ q ∧ q ≤ k + 3) fr_refl (by omega) (by omega) (by omega) (by omega) q (by omega)
theorem it_c (ho : CO p) (hq : CQ p) (hR : cF p = 0 ∨ 0 < cR p) (hs : CC X sl p) (hd : CD X sl p) (hv : WO p w) (hsl : sl + 7 < 20) (hk : (20 ≤ k ∧ k ≤ 22) ∨ (28 ≤ k ∧ k ≤ 41)) (hw : WC X k w) {y : Nat} (hy : wY w = nI y) : ∀ n, y + n ≤ 999 → WC (py_it X k sl n) k (a_it p w n) := by
  intro n
  induction n with
  | zero => intro _; exact hw
  | succ n ih =>
    intro hn
    have frq : ∀ q, sl ≤ q → q ≤ sl + 7 → (py_it X k sl n) q = X q := fun q a b => fr_it X k sl n q (FP_sl hsl hk (fun g e => by cases e) (by omega))
    have hO := it_O ho hR hv hy n (by omega)
    have hY : wY (a_it p w n) < 999 := by rw [it_Y, hy, nI_add]; exact nI_lt (b := 999) (by omega) (by decide)
    exact (year_c (kl := []) (lg := none) ho hq hR (CC_c hs frq) (CD_c hd frq) hO hsl hk (fun g e => by cases e) (ih (by omega)) trivial hY).1
theorem kept_th (kl : List NT) : a_kept p w true kl = kl := by
  have h1 : ∀ f m kl, k_row p w true f m kl = kl := by
    intro f m kl
    induction m with
    | zero => rfl
    | succ m ih => simp only [k_row, kl_add, if_true]; rw [ih]; split <;> rfl
  have h2 : ∀ n kl, k_all p w true n kl = kl := by
    intro n kl
    induction n with
    | zero => rfl
    | succ n ih => simp only [k_all]; rw [ih, h1]
  have h3 : ∀ n kl, k_set p w true n kl = kl := by
    intro n kl
    induction n with
    | zero => rfl
    | succ n ih => simp only [k_set, kl_add, if_true]; rw [ih]; split <;> rfl
  unfold a_kept
  rw [h2, h3]
/-- what the reference keeps while it thinks -/
def TH (X : MI) (p : CF) (w : WD) (kl : List NT) : Prop := CM X p ∧ CN X p ∧ WM X p w ∧ KM X kl ∧ X 177 55 = 1
abbrev LY : List (Nat × Option Nat) := [(177, some 50), (177, some 53), (177, some 54), (177, some 56), (177, some 98), (213, none), (215, none)]
theorem yearT (ho : CO p) (hq : CQ p) (hR : cF p = 0 ∨ 0 < cR p) (hv : WO p w) (h : TH X p w kl) (J : MJ) : ok (F_MD_yearGoes X J) (fun t => TH t.1 p (a_year p w) kl ∧ fsL LY t.1 X ∧ fsL K1 t.2 J) := by
  obtain ⟨h1, h2, h3, h4, h5⟩ := h
  refine ok_m (ok_and (year_e (J := J) (th := true) ho hq hR h1 h2 hv h3 h4 h5) (q_MD_yearGoes (L := LY) (LJ := K1) (I0 := X) (J0 := J) (by decide) (by decide) (fs_r X) (fs_r J))) ?_
  rintro ⟨Y, JY⟩ ⟨⟨g1, g2, g3⟩, g4, g5⟩
  rw [kept_th] at g2
  have g4 : fsL LY Y X := g4
  exact ⟨⟨CM_c h1 (fun k hk => fs_k g4 (by rcases hk with z | z | z <;> subst z <;> decide)), CN_c h2 (fun k hk => fs_k g4 (by rcases hk with z | z | z <;> subst z <;> decide)), g1, g2, (g4 177 55 (by decide)).trans h5⟩, g4, g5⟩
theorem yearsT (ho : CO p) (hq : CQ p) (hR : cF p = 0 ∨ 0 < cR p) (hv : WO p w) (h : TH X p w kl) (J : MJ) {y : Nat} (hy : wY w = nI y) {n : Nat} (hn : y + n ≤ 2000) : ok (F_MD_yearsGo X J (nI n)) (fun t => TH t.1 p (a_it p w n) kl ∧ fsL LY t.1 X ∧ fsL K1 t.2 J) := by
  unfold F_MD_yearsGo
  refine ok_b (ok_cnt (σ := MI × MJ) (P := fun t => TH t.1 p (a_it p w n) kl ∧ fsL LY t.1 X ∧ fsL K1 t.2 J) n (fun m t => TH t.1 p (a_it p w m) kl ∧ fsL LY t.1 X ∧ fsL K1 t.2 J) ⟨h, fs_r X, fs_r J⟩ ?_ ?_) (fun t ht => ok_s ht)
  · rintro m hm ⟨Y, JY⟩ ⟨g1, g2, g3⟩
    simp only [F_MD_yearsGo_2]
    refine ok_f (nI_ge hm (by omega)) (ok_b (yearT ho hq hR (it_O ho hR hv hy m (by omega)) g1 JY) ?_)
    rintro ⟨Z, JZ⟩ ⟨e1, e2, e3⟩
    exact ok_s ⟨nI_s m, e1, fs_tr e2 g2, fs_tr e3 g3⟩
  · rintro ⟨Y, JY⟩ g
    simp only [F_MD_yearsGo_2]
    exact ok_t (Int32.le_refl _) (ok_s g)
theorem aside_e (hs : CM X p) (hn : CN X p) (hw : WM X p w) (hk : KM X kl) : ok (F_MD_putsAside X) (fun Y => TH Y p w kl ∧ (∀ j, j < 55 → Y 214 j = X 213 j) ∧ fsL [(177, some 55), (214, none)] Y X) := by
  have main : ok (F_MD_putsAside X) (fun Y => Y 177 55 = 1 ∧ ∀ j, j < 55 → Y 214 j = X 213 j) := by
    unfold F_MD_putsAside
    refine ok_b (ok_cnt (σ := MI) (P := fun Y => Y 177 55 = 1 ∧ ∀ j, j < 55 → Y 214 j = X 213 j) 55 (fun m Y => Y 177 55 = 1 ∧ (∀ j, j < m → Y 214 j = X 213 j) ∧ Y 213 = X 213) ⟨up_e _ _ _ _, fun j h => by omega, up_k _ _ _ (by decide)⟩ ?_ ?_) (fun Y hY => ok_s hY)
    · rintro m hm Y ⟨g1, g2, g3⟩
      simp only [F_MD_putsAside_7]
      refine ok_f (show ¬ (55 : Int32) ≤ nI m from nI_ge (b := 55) hm (by decide)) (ok_gd rfl (by omega) (by decide) (ok_gd rfl (by omega) (by decide) (ok_s ⟨nI_s m, ?_, fun j hj => ?_, ?_⟩)))
      · show m_up Y 214 (nI m).toNatClampNeg (Y 213 (nI m).toNatClampNeg) 177 55 = 1
        rw [up_k _ _ _ (by decide)]; exact g1
      · show m_up Y 214 (nI m).toNatClampNeg (Y 213 (nI m).toNatClampNeg) 214 j = _
        rw [nI_clamp (by omega)]
        by_cases e : j = m
        · rw [e, up_e, g3]
        · rw [up_j _ _ _ e]; exact g2 j (by omega)
      · show m_up Y 214 (nI m).toNatClampNeg (Y 213 (nI m).toNatClampNeg) 213 = _
        rw [up_k _ _ _ (by decide)]; exact g3
    · rintro Y ⟨g1, g2, g3⟩
      simp only [F_MD_putsAside_7]
      exact ok_t (show (55 : Int32) ≤ nI 55 by decide) (ok_s ⟨g1, g2⟩)
  refine ok_m (ok_and main (q_MD_putsAside (L := [(177, some 55), (214, none)]) (LJ := []) (I0 := X) (J0 := fun _ _ => 0) (by decide) (by decide) (fs_r X))) ?_
  rintro Y ⟨⟨g1, g2⟩, g3⟩
  have e213 : Y 213 = X 213 := fs_k g3 (by decide)
  exact ⟨⟨CM_c hs (fun k hk => fs_k g3 (by rcases hk with z | z | z <;> subst z <;> decide)), CN_c hn (fun k hk => fs_k g3 (by rcases hk with z | z | z <;> subst z <;> decide)), by unfold WM; rw [e213]; exact hw, by unfold KM; rw [e213]; exact hk, g1⟩, g2, g3⟩
theorem anew_e {X : MI} : ok (F_MD_triesAnew X) (fun Y => (∀ j, j < 55 → Y 213 j = X 214 j) ∧ (∀ j, 55 ≤ j → Y 213 j = X 213 j) ∧ fsL [(213, none)] Y X) := by
  have main : ok (F_MD_triesAnew X) (fun Y => (∀ j, j < 55 → Y 213 j = X 214 j) ∧ ∀ j, 55 ≤ j → Y 213 j = X 213 j) := by
    unfold F_MD_triesAnew
    refine ok_b (ok_cnt (σ := MI) (P := fun Y => (∀ j, j < 55 → Y 213 j = X 214 j) ∧ ∀ j, 55 ≤ j → Y 213 j = X 213 j) 55 (fun m Y => (∀ j, j < m → Y 213 j = X 214 j) ∧ (∀ j, 55 ≤ j → Y 213 j = X 213 j) ∧ Y 214 = X 214) ⟨fun j h => by omega, fun _ _ => rfl, rfl⟩ ?_ ?_) (fun Y hY => ok_s hY)
    · rintro m hm Y ⟨g1, g2, g3⟩
      simp only [F_MD_triesAnew_2]
      refine ok_f (show ¬ (55 : Int32) ≤ nI m from nI_ge (b := 55) hm (by decide)) (ok_gd rfl (by omega) (by decide) (ok_gd rfl (by omega) (by decide) (ok_s ⟨nI_s m, fun j hj => ?_, fun j hj => ?_, ?_⟩)))
      · show m_up Y 213 (nI m).toNatClampNeg (Y 214 (nI m).toNatClampNeg) 213 j = _
        rw [nI_clamp (by omega)]
        by_cases e : j = m
        · rw [e, up_e, g3]
        · rw [up_j _ _ _ e]; exact g1 j (by omega)
      · show m_up Y 213 (nI m).toNatClampNeg (Y 214 (nI m).toNatClampNeg) 213 j = _
        rw [nI_clamp (by omega), up_j _ _ _ (by omega)]; exact g2 j hj
      · show m_up Y 213 (nI m).toNatClampNeg (Y 214 (nI m).toNatClampNeg) 214 = _
        rw [up_k _ _ _ (by decide)]; exact g3
    · rintro Y ⟨g1, g2, g3⟩
      simp only [F_MD_triesAnew_2]
      exact ok_t (show (55 : Int32) ≤ nI 55 by decide) (ok_s ⟨g1, g2⟩)
  refine ok_m (ok_and main (q_MD_triesAnew (L := [(213, none)]) (LJ := []) (I0 := X) (J0 := fun _ _ => 0) (by decide) (by decide) (fs_r X))) ?_
  rintro Y ⟨⟨g1, g2⟩, g3⟩
  exact ⟨g1, g2, g3⟩
/-- back to how it lay: w0 stands aside -/
theorem anewT (ho : CO p) {w0 : WD} (h : TH X p w kl) (ha : WMg (X 214) p w0) : ok (F_MD_triesAnew X) (fun Y => TH Y p w0 kl ∧ fsL [(213, none)] Y X) := by
  obtain ⟨h1, h2, h3, h4, h5⟩ := h
  have hF := ho.2.2.1; have hC := ho.1
  refine ok_m (anew_e (X := X)) ?_
  rintro Y ⟨g1, g2, g3⟩
  refine ⟨⟨CM_c h1 (fun k hk => fs_k g3 (by rcases hk with z | z | z <;> subst z <;> decide)), CN_c h2 (fun k hk => fs_k g3 (by rcases hk with z | z | z <;> subst z <;> decide)), ?_, KM_c h4 (fun j hj => g2 j hj), by rw [g3 177 55 (by decide)]; exact h5⟩, g3⟩
  obtain ⟨a1, a2, a3, a4, a5⟩ := ha
  refine ⟨?_, fun f hf => ?_, fun f hf => ?_, fun c hc => ?_, fun f c hf hc => ?_⟩
  · rw [g1 0 (by omega)]; exact a1
  · rw [g1 _ (by omega)]; exact a2 f hf
  · rw [g1 _ (by omega)]; exact a3 f hf
  · rw [g1 _ (by omega)]; exact a4 c hc
  · rw [g1 _ (by omega)]; exact a5 f c hf hc
theorem backT (ho : CO p) {w0 : WD} (h : TH X p w kl) (ha : WMg (X 214) p w0) : ok (F_MD_takesBack X) (fun Y => WM Y p w0 ∧ KM Y kl ∧ Y 177 55 = 0 ∧ fsL [(177, some 55), (213, none)] Y X) := by
  unfold F_MD_takesBack
  refine ok_b (anewT ho h ha) ?_
  rintro Y ⟨⟨g1, g2, g3, g4, g5⟩, g6⟩
  have hL : subL [(177, some 55), (213, none)] [(177, some 55), (213, none)] = true := by decide
  exact ok_s ⟨WM_c ho g3 (fun j _ => by rw [up_k _ _ _ (by decide)]), KM_c g4 (fun j _ => by rw [up_k _ _ _ (by decide)]), up_e _ _ _ _, fs_up hL rfl (fs_sub (by decide) g6)⟩
theorem WMg_of (ho : CO p) (h : WM I p w) (e : ∀ j, j < 55 → X 214 j = I 213 j) : WMg (X 214) p w := by
  have hF := ho.2.2.1; have hC := ho.1
  obtain ⟨a1, a2, a3, a4, a5⟩ := h
  refine ⟨?_, fun f hf => ?_, fun f hf => ?_, fun c hc => ?_, fun f c hf hc => ?_⟩
  · rw [e 0 (by omega)]; exact a1
  · rw [e _ (by omega)]; exact a2 f hf
  · rw [e _ (by omega)]; exact a3 f hf
  · rw [e _ (by omega)]; exact a4 c hc
  · rw [e _ (by omega)]; exact a5 f c hf hc
theorem fs_fr {P : Nat → Prop} {D : List (Nat × Option Nat)} (h : fr P X I) (hD : ∀ k, P k → (k, none) ∈ D) : fsL D X I := by
  intro k j q
  by_cases hp : P k
  · exfalso
    have : inL D k j = true := List.any_eq_true.mpr ⟨(k, none), hD k hp, by simp⟩
    rw [this] at q; cases q
  · exact congrFun (h k hp) j
/-- the class's scratch -/
abbrev DC : List (Nat × Option Nat) := [(26, none), (27, none), (31, none), (32, none), (33, none), (34, none)]
theorem FT_D : ∀ k, FT k → (k, (none : Option Nat)) ∈ DC := by
  intro k h
  unfold FT at h
  rcases h with h | h | ⟨h1, h2⟩
  · subst h; decide
  · subst h; decide
  · rcases (by omega : k = 31 ∨ k = 32 ∨ k = 33 ∨ k = 34) with z | z | z | z <;> subst z <;> decide
/-- what the reference may touch while it thinks -/
abbrev DM : List (Nat × Option Nat) := [(177, some 50), (177, some 53), (177, some 54), (177, some 55), (177, some 56), (177, some 98), (213, none), (214, none), (215, none)]
/-- the relation behind a trial -/
theorem RelX_t {D DJ : List (Nat × Option Nat)} (hq : sl = 3 ∨ sl = 11) (h : RelX I J sl p w kl un) (hx : fsL D X I) (hj : fsL DJ JX J) (hw : WM X p w) (hk : KM X kl) (h55 : X 177 55 = 0)
    (d1 : disL D fTape = true) (d2 : disL D fFault = true) (d3 : disL D fRef = true) (d4 : disL D fImg = true) (d5 : disL D fSeed = true) (d6 : disL D fSeen = true) (d7 : disL D fSlope = true) (d8 : disL D [(20, none), (21, none), (22, none), (23, none), (45, none), (46, none)] = true) (d9 : disL D fHist = true) (hi : gIron X p w) (d11 : disL D fWord = true) (e1 : disL DJ [(177, some 68), (206, none)] = true) : RelX X JX sl p w kl un := by
  obtain ⟨⟨h1, h2, h3, h4, h5⟩, ⟨h6, h7, h8, h9⟩, h10, h11, h12⟩ := h
  obtain ⟨g1, g2, g3, g4, g5⟩ := h8
  have a := ag_of e1 hj
  have b := ag_of d8 hx
  refine ⟨⟨gTape_c (ag_of d1 hx) h1, gFault_c (ag_of d2 hx) h2, gRef_c (ag_of d3 hx) h3, gImg_c (ag_of d4 hx) h4, gSeed_c (ag_of d5 hx) (a (177, some 68) (by decide)) h5⟩, ⟨gSeen_c (ag_of d6 hx) h6, gSlope_c hq (ag_of d7 hx) (a (206, none) (by decide)) h7, ⟨g1, WC_c g2 (fun q c d => ?_), hw, KC_c g4 (fun q hq => ?_), hk⟩, gHist_c (ag_of d9 hx) h9⟩, hi, h55, gWord_c (ag_of d11 hx) h12⟩
  · rcases (by omega : q = 20 ∨ q = 21 ∨ q = 22 ∨ q = 23) with z | z | z | z <;> subst z <;> exact b (_, none) (by decide)
  · rcases hq with z | z <;> subst z <;> exact b (_, none) (by decide)
end T67
