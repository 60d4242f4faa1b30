/-! walks, later, whose, meets -/
section L68
variable {I X : MI} {J JX : MJ} {k o sl sd : Nat} {p : CF} {w : WD} {kl : List NT} {un : List (WD × List NT)}
/-- what a slope that stands gives -/
theorem RelX_R (h : RelX I J sl p w kl un) : cF p = 0 ∨ 0 < cR p := by
  obtain ⟨⟨-, -, h1, h2⟩, -⟩ := h.2.1.2.1
  by_cases q : cC p = 0
  · exact Or.inl (h1 q).1
  · exact Or.inr (by have := h2 (by omega); omega)
theorem RelX_y (h : RelX I J sl p w kl un) : ∃ y, y ≤ 999 ∧ wY w = nI y := by
  obtain ⟨⟨hv, hx, -⟩, -⟩ := h.2.1.2.2.1
  obtain ⟨y, h1, h2⟩ := ix_2 (v := wY w) (n := 1000) (by decide) ⟨hv.1.1, by have := hx.2.2.2.1; show wY w < 1000; grind⟩
  exact ⟨y, by omega, h2⟩
theorem most_c (hw : WC I 20 w) {y m : Nat} (hy : wY w = nI y) (h : y ≤ 999) (hm : m < 1000) : F_WF_yearsAtMost sl sd I (nI m) = some (nI (min m (999 - y))) := by
  unfold F_WF_yearsAtMost
  have e : (999 : Int32) - nI y = nI (999 - y) := nI_subN (a := 999) h
  rw [hw.1, hy, e]
  unfold f_Math_min_II
  by_cases q : 999 - y < m
  · rw [if_pos (nI_lt q (by omega)), show min m (999 - y) = 999 - y by omega]
  · rw [if_neg (nI_nlt (by omega) (by omega)), show min m (999 - y) = m by omega]
theorem ahead_e (hw : WM I p w) (ht : I 177 49 = bI (decide (0 < cC p))) (hC : 0 < cC p) {y a b : Nat} (hy : wY w = nI y) (h : y ≤ 999) (hb : b < 1000) (v : Int32) : F_MD_isAhead I v (nI a) (nI b) = some (@ite _ (nI a ≤ v ∧ v ≤ nI (min b (999 - y))) (Classical.propDecidable _) 1 0) := by
  unfold F_MD_isAhead
  rw [ht, decide_eq_true hC, if_neg (show ¬ bI true = 0 by decide), isIn_i, hw.1, hy]
  simp only [Option.bind_some]
  by_cases c1 : nI a ≤ v ∧ v ≤ nI b
  · rw [if_pos c1, if_neg (by decide)]
    by_cases c0 : v < 0
    · rw [if_neg (show ¬ (999 : Int32) < nI y + v by
        have : nI y ≤ 999 := nI_le (b := 999) h (by decide)
        have := nI_pos' (n := y) (by omega)
        have : ¬ v < -1000 ∨ v < -1000 := by grind
        by_cases z : a < 2 ^ 31
        · have := nI_pos' z
          grind
        · have h1 := c1.1
          have h2 := c1.2
          grind), if_pos]
      refine ⟨c1.1, ?_⟩
      have := nI_pos' (n := min b (999 - y)) (by omega)
      grind
    · obtain ⟨n, hn, rfl⟩ := nI_of2 (M := nI b) (n := b) (nI_toInt (by omega)) c0 c1.2
      rw [nI_add]
      by_cases c2 : 999 < y + n
      · rw [if_pos (show (999 : Int32) < nI (y + n) from nI_lt (a := 999) c2 (by omega)), if_neg (fun z => by have := (nI_leI (by omega) (by omega)).mp z.2; omega)]
      · rw [if_neg (show ¬ (999 : Int32) < nI (y + n) from nI_nlt (b := y + n) (a := 999) (by omega) (by decide)), if_pos ⟨c1.1, nI_le (by omega) (by omega)⟩]
  · rw [if_neg c1, if_pos rfl, if_neg]
    rintro ⟨z1, z2⟩
    apply c1
    refine ⟨z1, ?_⟩
    have := nI_le (a := min b (999 - y)) (b := b) (by omega) (by omega)
    grind
/-- walks -/
theorem op_walks (hr : Rel I J sl) (f c : Int32) : ∃ a I1 I2 J2, F_WF_walks sl sd I f c = some (a, I1) ∧ F_MD_walks I1 J f c = some (a, I2, J2) ∧ Rel I2 J2 sl := by
  obtain ⟨hq, p, w, kl, un, h⟩ := id hr
  obtain ⟨⟨ho, hQ, -⟩, ⟨hc, hcd, hm, hcn⟩, ht, -⟩ := h.2.1.2.1
  obtain ⟨⟨hv, -, -⟩, hw, hwm, hkc, hkm⟩ := h.2.1.2.2.1
  have hF := ho.2.2.1; have hC := ho.1
  unfold F_WF_walks
  rw [row_any ho hw hv]
  by_cases q : (0 ≤ f ∧ f < nI (cF p)) ∧ 0 ≤ c ∧ c < nI (cC p)
  · rw [if_pos q]
    obtain ⟨a, ha, rfl⟩ := ix_2 (by omega) q.1
    obtain ⟨b, hb, rfl⟩ := ix_2 (by omega) q.2
    rw [nI_clamp (by omega), nI_clamp (by omega)]
    by_cases c1 : wR w a b = -1
    · refine ⟨-1, I, I, J, by rw [if_pos c1], ?_, hr⟩
      unfold F_MD_walks
      rw [isFence_e ho hm]
      simp only [Option.bind_some]
      rw [if_pos q.1, if_neg (by decide), isCol_e ho hm]
      simp only [Option.bind_some]
      rw [if_pos q.2, if_neg (by decide), row_e ho hwm ha hb]
      simp only [Option.bind_some]
      rw [if_pos c1]
    · rw [if_neg c1]
      have e6 : m_up (m_up I 27 6 (f_Lay_ageOf I 20 (nI a))) 27 11 ((m_up I 27 6 (f_Lay_ageOf I 20 (nI a))) 20 0) 27 6 = wA w a := by rw [up_j _ _ _ (by decide), up_e, age_c hw (by omega)]
      have e11 : m_up (m_up I 27 6 (f_Lay_ageOf I 20 (nI a))) 27 11 ((m_up I 27 6 (f_Lay_ageOf I 20 (nI a))) 20 0) 27 11 = wY w := by rw [up_e, up_k _ _ _ (by decide), hw.1]
      have frk : ∀ q, q ≠ 27 → m_up (m_up I 27 6 (f_Lay_ageOf I 20 (nI a))) 27 11 ((m_up I 27 6 (f_Lay_ageOf I 20 (nI a))) 20 0) q = I q := fun q hq => by rw [up_k _ _ _ hq, up_k _ _ _ hq]
      generalize m_up (m_up I 27 6 (f_Lay_ageOf I 20 (nI a))) 27 11 ((m_up I 27 6 (f_Lay_ageOf I 20 (nI a))) 20 0) = V at *
      have hcV : CC V sl p := CC_c hc (fun q h1 h2 => frk q (by omega))
      have hdV : CD V sl p := CD_c hcd (fun q h1 h2 => frk q (by omega))
      rw [paces_c ho hQ hcV hdV hv (by omega) (by omega) e6 e11]
      have fG : fsL [(26, none), (27, none)] (gI_Walker_paces V sl (nI b) (wR w a b)) I := by
        refine fs_fr (P := fun q => q = 26 ∨ q = 27) (fun q hq => ?_) (fun k hk => by rcases hk with z | z <;> subst z <;> decide)
        rw [paces_k _ _ _ _ (fun z => hq (Or.inl z)) (fun z => hq (Or.inr z)), frk q (fun z => hq (Or.inr z))]
      generalize gI_Walker_paces V sl (nI b) (wR w a b) = Z at *
      have hmZ : CM Z p := CM_c hm (fun k hk => fs_k fG (by rcases hk with z | z | z <;> subst z <;> decide))
      have hnZ : CN Z p := CN_c hcn (fun k hk => fs_k fG (by rcases hk with z | z | z <;> subst z <;> decide))
      have hwZ : WM Z p w := WM_c ho hwm (fun j _ => by rw [fs_k fG (by decide)])
      obtain ⟨⟨r1, Y, JY⟩, e, g1, g2, g3⟩ := ok_and (walkOf_e ho hQ hmZ hnZ hwZ hv ha hb J) (q_MD_walkOf (L := L_MD_walkOf) (LJ := K_MD_walkOf) (I0 := Z) (J0 := J) (by decide) (by decide) (fs_r Z) (fs_r J))
      have g1 : r1 = nI (a_pn p (wA w a) (wY w) b (wR w a b)) := g1
      have g2 : fsL L_MD_walkOf Y Z := g2
      refine ⟨nI (a_pn p (wA w a) (wY w) b (wR w a b)), Z, Y, JY, rfl, ?_, hq, p, w, kl, un, ?_⟩
      · unfold F_MD_walks
        rw [isFence_e ho hmZ]
        simp only [Option.bind_some]
        rw [if_pos q.1, if_neg (by decide), isCol_e ho hmZ]
        simp only [Option.bind_some]
        rw [if_pos q.2, if_neg (by decide), row_e ho hwZ ha hb]
        simp only [Option.bind_some]
        rw [if_neg c1, e]
        simp only [Option.bind_some]
        rw [g1]
      · have hx : fsL [(26, none), (27, none), (177, some 50), (177, some 53), (177, some 54), (177, some 98)] Y I := fs_tr (fs_sub (by decide) g2) (fs_sub (by decide) fG)
        exact RelX_f hq h hx g3 (by decide) (by decide) (by decide) (by decide) (by decide) (by decide) (by decide) (by decide) (by decide +kernel) (by decide) (by decide +kernel) (by decide) (by decide)
  · rw [if_neg q]
    refine ⟨-1, I, I, J, rfl, ?_, hr⟩
    unfold F_MD_walks
    rw [isFence_e ho hm]
    simp only [Option.bind_some]
    by_cases q1 : 0 ≤ f ∧ f < nI (cF p)
    · rw [if_pos q1, if_neg (by decide), isCol_e ho hm]
      simp only [Option.bind_some]
      rw [if_neg (fun z => q ⟨q1, z⟩), if_pos rfl]
    · rw [if_neg q1, if_pos rfl]
/-- n years ahead in the class -/
theorem goC (h : RelX I J sl p w kl un) (hq : sl = 3 ∨ sl = 11) {y n : Nat} (hy : wY w = nI y) (hn : y + n ≤ 999) : WC (py_it (w_take I 31 20) 31 sl n) 31 (a_it p w n) ∧ fsL DC (py_it (w_take I 31 20) 31 sl n) I := by
  obtain ⟨⟨ho, hQ, -⟩, ⟨hc, hcd, hm, hcn⟩, ht, -⟩ := h.2.1.2.1
  obtain ⟨⟨hv, -, -⟩, hw, hwm, hkc, hkm⟩ := h.2.1.2.2.1
  have tk : ∀ q, sl ≤ q → q ≤ sl + 7 → w_take I 31 20 q = I q := fun q h1 h2 => take_k _ _ _ (by omega)
  exact ⟨it_c ho hQ (RelX_R h) (CC_c hc tk) (CD_c hcd tk) hv (by omega) (by omega) (take_c hw (by omega)) hy n hn, fs_fr (fr_itT (fr_takeT fr_refl)) FT_D⟩
/-- n years ahead in the reference -/
theorem goM (h : RelX I J sl p w kl un) (hq : sl = 3 ∨ sl = 11) {D : List (Nat × Option Nat)} (hx : fsL D X I) (d7 : disL D fSlope = true) (d8 : disL D [(213, none)] = true) {y n : Nat} (hy : wY w = nI y) (hn : y + n ≤ 999) :
    ok (F_MD_putsAside X) (fun Y => TH Y p w kl ∧ WMg (Y 214) p w ∧ fsL [(177, some 55), (214, none)] Y X ∧ ok (F_MD_yearsGo Y J (nI n)) (fun t => TH t.1 p (a_it p w n) kl ∧ WMg (t.1 214) p w ∧ fsL DM t.1 X ∧ fsL K1 t.2 J)) := by
  obtain ⟨⟨ho, hQ, -⟩, ⟨hc, hcd, hm, hcn⟩, ht, -⟩ := h.2.1.2.1
  obtain ⟨⟨hv, -, -⟩, hw, hwm, hkc, hkm⟩ := h.2.1.2.2.1
  have a := ag_of d7 hx
  have e213 : X 213 = I 213 := (ag_of d8 hx) (213, none) (by decide)
  have hmX : CM X p := CM_c hm (fun k hk => by rcases hk with z | z | z <;> subst z <;> exact a (_, none) (by decide))
  have hnX : CN X p := CN_c hcn (fun k hk => by rcases hk with z | z | z <;> subst z <;> exact a (_, none) (by decide))
  have hwX : WM X p w := by unfold WM; rw [e213]; exact hwm
  have hkX : KM X kl := by unfold KM; rw [e213]; exact hkm
  refine ok_m (aside_e hmX hnX hwX hkX) ?_
  rintro Y ⟨g1, g2, g3⟩
  have g4 : WMg (Y 214) p w := WMg_of ho hwX g2
  refine ⟨g1, g4, g3, ok_m (yearsT ho hQ (RelX_R h) hv g1 J hy (n := n) (by omega)) ?_⟩
  rintro ⟨Z, JZ⟩ ⟨e1, e2, e3⟩
  have e2 : fsL LY Z Y := e2
  refine ⟨e1, ?_, fs_tr (fs_sub (by decide) e2) (fs_sub (by decide) g3), e3⟩
  show WMg (Z 214) p w
  rw [fs_k e2 (by decide)]; exact g4
/-- whose -/
theorem op_whose (hr : Rel I J sl) (c r v : Int32) : ∃ a I1 I2 J2, F_WF_whose sl sd I c r v = some (a, I1) ∧ F_MD_whose I1 J c r v = some (a, I2, J2) ∧ Rel I2 J2 sl := by
  obtain ⟨hq, p, w, kl, un, h⟩ := id hr
  obtain ⟨⟨ho, hQ, -⟩, ⟨hc, hcd, hm, hcn⟩, ht, -⟩ := h.2.1.2.1
  obtain ⟨⟨hv, -, -⟩, hw, hwm, hkc, hkm⟩ := h.2.1.2.2.1
  have hF := ho.2.2.1; have hC := ho.1; have hR := ho.2.1
  obtain ⟨y, y1, y2⟩ := RelX_y h
  unfold F_WF_whose
  rw [hasPlace_c hc]
  by_cases q : b_plc p c r
  · have hC0 : 0 < cC p := by
      by_cases z : 0 < cC p
      · exact z
      · have z1 := q.1.1; have z2 := q.1.2
        rw [show cC p = 0 by omega, nI_0] at z2
        exact absurd z2 (by grind)
    have hah : ∀ X : MI, WM X p w → X 177 49 = bI (decide (0 < cC p)) → F_MD_isAhead X v 0 60 = some (@ite _ (nI 0 ≤ v ∧ v ≤ nI (min 60 (999 - y))) (Classical.propDecidable _) 1 0) := fun X g1 g2 => ahead_e (a := 0) (b := 60) g1 g2 hC0 y2 y1 (by decide) v
    rw [if_pos q, if_neg (by decide), show (60 : Int32) = nI 60 from rfl, most_c hw y2 y1 (by decide)]
    simp only [Option.bind_some]
    by_cases c1 : nI 0 ≤ v ∧ v ≤ nI (min 60 (999 - y))
    · have c0 : ¬ v < 0 := by have := c1.1; rw [nI_0] at this; grind
      obtain ⟨n, hn, rfl⟩ := nI_of2 (M := nI (min 60 (999 - y))) (n := min 60 (999 - y)) (nI_toInt (by omega)) c0 c1.2
      obtain ⟨a, ha, rfl⟩ := ix_2 (by omega) q.1
      obtain ⟨b, hb, rfl⟩ := ix_2 (by omega) q.2
      rw [if_neg c0, if_pos c1.2, nI_clamp (by omega)]
      obtain ⟨z1, z2⟩ := goC h hq y2 (n := n) (by omega)
      generalize py_it (w_take I 31 20) 31 sl n = Z at *
      have hO := it_O ho (RelX_R h) hv y2 n (by omega)
      rw [owner_c z1 hO ho (by omega)]
      obtain ⟨A, ea, a1, a2, a3, ⟨⟨B, JB⟩, eb, b1, b2, b3, b4⟩⟩ := goM h hq z2 (by decide) (by decide) y2 (n := n) (by omega)
      have b1 : TH B p (a_it p w n) kl := b1
      obtain ⟨C, ec, c2, c3, c4, c5⟩ := backT ho b1 b2
      have hmZ : CM Z p := CM_c hm (fun k hk => fs_k z2 (by rcases hk with z | z | z <;> subst z <;> decide))
      have e49 : Z 177 49 = bI (decide (0 < cC p)) := by rw [z2 177 49 (by decide)]; exact ht
      refine ⟨_, Z, C, JB, rfl, ?_, hq, p, w, kl, un, ?_⟩
      · unfold F_MD_whose
        rw [isPlace_e ho hmZ e49]
        simp only [Option.bind_some]
        rw [if_pos q, if_neg (by decide), hah Z (WM_c ho hwm (fun j _ => by rw [fs_k z2 (by decide)])) e49]
        simp only [Option.bind_some]
        rw [if_pos c1, if_neg (by decide), ea]
        simp only [Option.bind_some]
        rw [eb]
        simp only [Option.bind_some]
        rw [whose_e ho b1.1 b1.2.2.1 hO ha]
        simp only [Option.bind_some]
        rw [ec]; rfl
      · have hx : fsL (DM ++ DC) C I := fs_tr (fs_sub (by decide) c5) (fs_tr (fs_sub (by decide) b3) (fs_sub (by decide) z2))
        exact RelX_t hq h hx b4 c2 c3 c4 (by decide) (by decide) (by decide) (by decide) (by decide) (by decide) (by decide) (by decide) (by decide +kernel) (gIron_c (ag_of (by decide) hx) h.2.2.1) (by decide +kernel) (by decide)
    · refine ⟨-1, I, I, J, ?_, ?_, hr⟩
      · by_cases c0 : v < 0
        · rw [if_pos c0]
        · rw [if_neg c0, if_neg (fun z => c1 ⟨by rw [nI_0]; grind, z⟩)]
      · unfold F_MD_whose
        rw [isPlace_e ho hm ht]
        simp only [Option.bind_some]
        rw [if_pos q, if_neg (by decide), hah I hwm ht]
        simp only [Option.bind_some]
        rw [if_neg c1, if_pos rfl]
  · refine ⟨-1, I, I, J, by rw [if_neg q, if_pos rfl], ?_, hr⟩
    unfold F_MD_whose
    rw [isPlace_e ho hm ht]
    simp only [Option.bind_some]
    rw [if_neg q, if_pos rfl]
end L68
