/-! years -/
section L83
variable {I X Z B : MI} {J JX J2 : MJ} {k o sl sd : Nat} {p : CF} {w w' : WD} {kl kl' : List NT} {un un' : List (WD × List NT)}
/-- an act under way: the class, the reference -/
def AC (Z I : MI) (w : WD) (kl : List NT) (un : List (WD × List NT)) : Prop := WC Z 20 w ∧ KC Z 45 kl ∧ HC Z un ∧ Z 30 7 = -1 ∧ fsL DA Z I
def AM (B Z : MI) (p : CF) (w : WD) (kl : List NT) (un : List (WD × List NT)) : Prop := (CM B p ∧ CN B p) ∧ WM B p w ∧ KM B kl ∧ HM B p un ∧ B 177 55 = 0 ∧ fsL LA B Z
def AW (p : CF) (w : WD) (kl : List NT) : Prop := WO p w ∧ WX p w ∧ KN kl
theorem AC_0 (h : RelX I J sl p w kl un) : ok (F_WF_beginAct sl sd I) (fun A => AC A I w kl (u_add (w, kl) un) ∧ A 0 12 = I 0 12) := by
  refine ok_m (begin_c h) ?_
  rintro A ⟨a1, a2, a3, a4, a5, a6⟩
  exact ⟨⟨a3, a4, a2, a1, fs_sub (by decide +kernel) a6⟩, a5⟩
theorem AM_0 (h : RelX I J sl p w kl un) (hz : fsL DA Z I) : ok (F_MD_keeps Z) (fun B => AM B Z p w kl (u_add (w, kl) un)) := by
  obtain ⟨⟨ho, hQ, h00, -⟩, -⟩ := h.2.1.2.1
  obtain ⟨hU, -, -⟩ := gHist_i.mp h.2.1.2.2.2
  obtain ⟨m1, m2, m3, m4, m5, m6⟩ := ref_A h hz
  refine ok_m (keep_m ho m5 hU.1 m3 m4) ?_
  rintro B ⟨b1, b2⟩
  refine ⟨⟨CM_c m1 (fun k hk => fs_k b2 (by rcases hk with z | z | z <;> subst z <;> decide)), CN_c m2 (fun k hk => fs_k b2 (by rcases hk with z | z | z <;> subst z <;> decide))⟩, WM_c ho m3 (fun j _ => by rw [fs_k b2 (by decide)]), KM_c m4 (fun j _ => by rw [fs_k b2 (by decide)]), b1, ?_, fs_sub (by decide) b2⟩
  rw [b2 177 55 (by decide), DA_k hz (by omega)]
  exact h.2.2.2.1
theorem A_end {DJ : List (Nat × Option Nat)} (hq : sl = 3 ∨ sl = 11) (h : RelX I J sl p w kl un) (hc : AC Z I w' kl' (u_add (w, kl) un)) (hm : AM B Z p w' kl' (u_add (w, kl) un)) (hj : fsL DJ J2 J) (e1 : disL DJ [(206, none)] = true) (hsd : gSeed B J2) (hO : AW p w' kl') : RelX B J2 sl p w' kl' (u_add (w, kl) un) := by
  obtain ⟨hU, -, -⟩ := gHist_i.mp h.2.1.2.2.2
  obtain ⟨c1, c2, c3, c4, c5⟩ := hc
  obtain ⟨-, m1, m2, m3, -, m5⟩ := hm
  exact RelX_a hq h c5 m5 hj e1 hsd hO (u_O hU h.2.1.2.2.1.1) c3 c1 c2 c4 m3 m1 m2
theorem KN_add (h : KN kl) {x : NT} (hx : NO x) : KN (k_add kl x) := by
  intro y hy
  unfold k_add at hy
  have key : y ∈ kl ∨ y = x := by
    by_cases q : kl.length = 40
    · rw [if_pos q] at hy
      rcases List.mem_append.mp hy with z | z
      · exact Or.inl (List.mem_of_mem_tail z)
      · exact Or.inr (List.mem_singleton.mp z)
    · rw [if_neg q] at hy
      rcases List.mem_append.mp hy with z | z
      · exact Or.inl z
      · exact Or.inr (List.mem_singleton.mp z)
  rcases key with z | z
  · exact h y z
  · subst z; exact hx
theorem NO_of (hv : WO p w) (hx : WX p w) {f c : Nat} (hf : f < 6) (hc : c < 256) : NO (wY w, nI f, nI c) := ⟨⟨hv.1.1, hx.2.2.2.1⟩, ⟨nI_pos' (by omega), nI_lt (b := 6) hf (by decide)⟩, ⟨nI_pos' (by omega), nI_le (b := 255) (by omega) (by decide)⟩⟩
theorem KN_year (ho : CO p) (hv : WO p w) (hx : WX p w) (h : KN kl) : KN (a_kept p w false kl) := by
  have hC := ho.1; have hF := ho.2.2.1
  have r : ∀ f, f < 6 → ∀ c, c ≤ 6 → ∀ kl, KN kl → KN (k_row p w false f c kl) := by
    intro f hf c
    induction c with
    | zero => intro _ kl h; exact h
    | succ c ih =>
      intro hc kl h
      simp only [k_row]
      split
      · exact KN_add (ih (by omega) kl h) (NO_of hv hx hf (by omega))
      · exact ih (by omega) kl h
  have a : ∀ f, f ≤ 6 → ∀ kl, KN kl → KN (k_all p w false f kl) := by
    intro f
    induction f with
    | zero => intro _ kl h; exact h
    | succ f ih => intro hf kl h; exact r f (by omega) _ hC _ (ih (by omega) kl h)
  have s : ∀ f, f ≤ 6 → ∀ kl, KN kl → KN (k_set p w false f kl) := by
    intro f
    induction f with
    | zero => intro _ kl h; exact h
    | succ f ih =>
      intro hf kl h
      simp only [k_set]
      split
      · exact KN_add (ih (by omega) kl h) (NO_of hv hx (by omega) (c := 255) (by omega))
      · exact ih (by omega) kl h
  exact s _ hF _ (a _ hF _ h)
theorem AW_year (ho : CO p) (hR : cF p = 0 ∨ 0 < cR p) (h : AW p w kl) (hy : wY w < 999) : AW p (a_year p w) (a_kept p w false kl) := by
  obtain ⟨hv, hx, hk⟩ := h
  have h0 := hv.1.1
  exact ⟨year_O ho hR hv (by grind), ⟨fun _ _ => rfl, hx.2.1, hx.2.2.1, by show wY w + 1 ≤ 999; grind, hx.2.2.2.2⟩, KN_year ho hv hx hk⟩
theorem AC_year (h : RelX I J sl p w kl un) (hq : sl = 3 ∨ sl = 11) (hc : AC Z I w' kl' un') (hu : un'.length ≤ 20) (hv : WO p w') (hy : wY w' < 999) : AC (py_year (some 45) Z 20 sl) I (a_year p w') (a_kept p w' false kl') un' ∧ py_went (some 45) Z 20 sl = nI (a_went p w') ∧ py_year (some 45) Z 20 sl 0 = Z 0 := by
  obtain ⟨⟨ho, hQ, h00, -⟩, ⟨hcc, hcd, -, -⟩, -⟩ := h.2.1.2.1
  obtain ⟨c1, c2, c3, c4, c5⟩ := hc
  have slk : ∀ q, sl ≤ q → q ≤ sl + 7 → Z q = I q := fun q a b => DA_k c5 (by omega)
  obtain ⟨y1, y2, y3⟩ := year_c (lg := some 45) (kl := kl') ho hQ (RelX_R h) (CC_c hcc slk) (CD_c hcd slk) hv (by omega) (by omega) (fun g e => by cases e; omega) c1 c2 hy
  have fy := fr_year (some 45) Z 20 sl
  have ky : ∀ q, q ≠ 26 → q ≠ 27 → q ≠ 20 → q ≠ 21 → q ≠ 23 → q ≠ 45 → q ≠ 46 → py_year (some 45) Z 20 sl q = Z q := fun q a b c d e f g => fy q (by
    rintro (z | z | z | z | z | ⟨x, z1, z2⟩)
    · exact a z
    · exact b z
    · exact c z
    · exact d z
    · exact e z
    · cases z1; omega)
  refine ⟨⟨y1, y2, HC_c c3 hu (fun q a b => ky q (by omega) (by omega) (by omega) (by omega) (by omega) (by omega) (by omega)), ?_, ?_⟩, y3, ky 0 (by omega) (by omega) (by omega) (by omega) (by omega) (by omega) (by omega)⟩
  · rw [ky 30 (by omega) (by omega) (by omega) (by omega) (by omega) (by omega) (by omega)]; exact c4
  · refine fs_tr (fs_fr fy (fun q hq => ?_)) c5
    rcases hq with z | z | z | z | z | ⟨x, z1, z2⟩
    · subst z; simp [DA]
    · subst z; simp [DA]
    · subst z; simp [DA]
    · subst z; simp [DA]
    · subst z; simp [DA]
    · cases z1
      rcases z2 with z | z <;> subst z <;> simp [DA]
theorem AM_year (ho : CO p) (hQ : CQ p) (hR : cF p = 0 ∨ 0 < cR p) (hm : AM B Z p w kl un) (hv : WO p w) (J : MJ) : ok (F_MD_yearGoes B J) (fun t => AM t.1 Z p (a_year p w) (a_kept p w false kl) un ∧ t.1 177 56 = B 177 56 + nI (a_went p w) ∧ fsL K1 t.2 J ∧ t.1 0 = B 0) := by
  obtain ⟨⟨h1, h2⟩, h3, h4, h5, h6, h7⟩ := hm
  refine ok_m (ok_and (year_e (J := J) (th := false) ho hQ hR h1 h2 hv h3 h4 h6) (q_MD_yearGoes (L := LY) (LJ := K1) (I0 := B) (J0 := J) (by decide) (by decide) (fs_r B) (fs_r J))) ?_
  rintro ⟨Y, JY⟩ ⟨⟨g1, g2, g3⟩, g4, g5⟩
  have g4 : fsL LY Y B := g4
  exact ⟨⟨⟨CM_c h1 (fun k hk => fs_k g4 (by rcases hk with z | z | z <;> subst z <;> decide)), CN_c h2 (fun k hk => fs_k g4 (by rcases hk with z | z | z <;> subst z <;> decide))⟩, g1, g2, HM_c h5 (g4 177 66 (by decide)) (g4 177 67 (by decide)) (fs_k g4 (by decide)), (g4 177 55 (by decide)).trans h6, fs_tr (fs_sub (by decide) g4) h7⟩, g3, g5, fs_k g4 (by decide)⟩
/-- what is kept and what went, over n years -/
def a_kt (p : CF) (w : WD) (kl : List NT) : Nat → List NT
  | 0 => kl
  | n + 1 => a_kept p (a_it p w n) false (a_kt p w kl n)
def a_ws (p : CF) (w : WD) : Nat → Nat
  | 0 => 0
  | n + 1 => a_ws p w n + a_went p (a_it p w n)
theorem AW_it (ho : CO p) (hR : cF p = 0 ∨ 0 < cR p) (h : AW p w kl) {y : Nat} (hy : wY w = nI y) : ∀ n, y + n ≤ 999 → AW p (a_it p w n) (a_kt p w kl n) := by
  intro n
  induction n with
  | zero => intro _; exact h
  | succ n ih => intro hn; exact AW_year ho hR (ih (by omega)) (by rw [it_Y, hy, nI_add]; exact nI_lt (b := 999) (by omega) (by decide))
/-- years -/
theorem op_years (hr : Rel I J sl) (v : Int32) : ∃ a I1 I2 J2, F_WF_years sl sd I v = some (a, I1) ∧ F_MD_years I1 J v = some (a, I2, J2) ∧ Rel I2 J2 sl := by
  have href := Rel_ref hr (k := 3) (by decide)
  obtain ⟨hq, p, w, kl, un, h⟩ := id hr
  obtain ⟨⟨ho, hQ, h00, -⟩, ⟨hc, hcd, hm, hcn⟩, ht, -⟩ := h.2.1.2.1
  obtain ⟨hA, hw, hwm, hkc, hkm⟩ := h.2.1.2.2.1
  have hv := hA.1
  obtain ⟨hU, -, -⟩ := gHist_i.mp h.2.1.2.2.2
  obtain ⟨y, y1, y2⟩ := RelX_y h
  have hwZ : WM (m_up I 176 3 (I 176 3 + 1)) p w := WM_c ho hwm (fun j _ => by rw [up_k _ _ _ (by decide)])
  have htZ : (m_up I 176 3 (I 176 3 + 1)) 177 49 = bI (decide (0 < cC p)) := by rw [up_k _ _ _ (by decide)]; exact ht
  unfold F_WF_years
  rw [told_c ho hc]
  by_cases hC0 : 0 < cC p
  · have hah : ∀ X : MI, WM X p w → X 177 49 = bI (decide (0 < cC p)) → F_MD_isAhead X v 1 100 = some (@ite _ (nI 1 ≤ v ∧ v ≤ nI (min 100 (999 - y))) (Classical.propDecidable _) 1 0) := fun X g1 g2 => ahead_e (a := 1) (b := 100) g1 g2 hC0 y2 y1 (by decide) v
    rw [decide_eq_true hC0, if_neg (show ¬ bI true = 0 by decide), show (100 : Int32) = nI 100 from rfl, most_c hw y2 y1 (by decide)]
    simp only [Option.bind_some]
    by_cases c1 : nI 1 ≤ v ∧ v ≤ nI (min 100 (999 - y))
    · have c0 : ¬ v < 0 := by have : (1 : Int32) ≤ v := c1.1; grind
      obtain ⟨n, hn, rfl⟩ := nI_of2 (M := nI (min 100 (999 - y))) (n := min 100 (999 - y)) (nI_toInt (by omega)) c0 c1.2
      have n1 : 1 ≤ n := (nI_leI (by omega) (by omega)).mp c1.1
      rw [if_neg (show ¬ nI n < 1 from nI_nlt (a := n) (b := 1) (by omega) (by omega)), if_pos c1.2]
      obtain ⟨A, ea, a1, a2⟩ := AC_0 (sd := sd) h
      have hul := (u_O (w := w) (kl := kl) hU hA).1
      have loopC : ok (wl (fun s : Int32 × Int32 × MI => F_WF_years_39 sl sd s.2.2 (nI n) s.1 s.2.1) ((0 : Int32), (0 : Int32), A)) (fun t => t.1 = nI (a_ws p w n) ∧ AC t.2 I (a_it p w n) (a_kt p w kl n) (u_add (w, kl) un) ∧ t.2 0 = A 0) := by
        have key : ∀ d m (X : MI), m + d = n → AC X I (a_it p w m) (a_kt p w kl m) (u_add (w, kl) un) → X 0 = A 0 → ok (wl (fun s : Int32 × Int32 × MI => F_WF_years_39 sl sd s.2.2 (nI n) s.1 s.2.1) (nI (a_ws p w m), nI m, X)) (fun t => t.1 = nI (a_ws p w n) ∧ AC t.2 I (a_it p w n) (a_kt p w kl n) (u_add (w, kl) un) ∧ t.2 0 = A 0) := by
          intro d
          induction d with
          | zero =>
            intro m X hd g1 g2
            have hd : m = n := by omega
            subst hd
            refine ok_e (x := (nI (a_ws p w m), X)) (wl_in ?_) ⟨rfl, g1, g2⟩
            simp only [F_WF_years_39]
            rw [if_pos (Int32.le_refl _)]
          | succ d ih =>
            intro m X hd g1 g2
            obtain ⟨z1, z2, z3⟩ := AC_year h hq g1 hul (it_O ho (RelX_R h) hv y2 m (by omega)) (by rw [it_Y, y2, nI_add]; exact nI_lt (b := 999) (by omega) (by decide))
            have st : F_WF_years_39 sl sd X (nI n) (nI (a_ws p w m)) (nI m) = some (.inl (nI (a_ws p w (m + 1)), nI (m + 1), py_year (some 45) X 20 sl)) := by
              unfold F_WF_years_39
              rw [if_neg (nI_ge (by omega) (by omega)), z2, nI_add, nI_s]; rfl
            have e2 : wl (fun s : Int32 × Int32 × MI => F_WF_years_39 sl sd s.2.2 (nI n) s.1 s.2.1) (nI (a_ws p w m), nI m, X) = wl (fun s : Int32 × Int32 × MI => F_WF_years_39 sl sd s.2.2 (nI n) s.1 s.2.1) (nI (a_ws p w (m + 1)), nI (m + 1), py_year (some 45) X 20 sl) := wl_st st
            rw [e2]
            exact ih (m + 1) _ (by omega) z1 (z3.trans g2)
        exact key n 0 A (by omega) a1 rfl
      obtain ⟨⟨t1, Z⟩, ez, z1, z2, z3⟩ := loopC
      have z1 : t1 = nI (a_ws p w n) := z1
      subst z1
      have z2 : AC Z I (a_it p w n) (a_kt p w kl n) (u_add (w, kl) un) := z2
      have z3 : Z 0 = A 0 := z3
      rw [ea]
      simp only [Option.bind_some]
      rw [ez]
      simp only [Option.bind_some]
      obtain ⟨B, eb, b1⟩ := AM_0 h z2.2.2.2.2
      have b2 : AM (m_up B 177 56 0) Z p w kl (u_add (w, kl) un) := by
        obtain ⟨⟨g1, g2⟩, g3, g4, g5, g6, g7⟩ := b1
        have kk : ∀ q, q ≠ 177 → m_up B 177 56 0 q = B q := fun q hq => up_k _ _ _ hq
        exact ⟨⟨CM_c g1 (fun k hk => kk k (by omega)), CN_c g2 (fun k hk => kk k (by omega))⟩, WM_c ho g3 (fun j _ => by rw [kk _ (by decide)]), KM_c g4 (fun j _ => by rw [kk _ (by decide)]), HM_c g5 (up_j _ _ _ (by decide)) (up_j _ _ _ (by decide)) (kk _ (by decide)), (up_j _ _ _ (by decide)).trans g6, fs_up (LX := [(177, some 56)]) (by decide) (by decide) g7⟩
      have loopM : ok (F_MD_yearsGo (m_up B 177 56 0) J (nI n)) (fun t => AM t.1 Z p (a_it p w n) (a_kt p w kl n) (u_add (w, kl) un) ∧ t.1 177 56 = nI (a_ws p w n) ∧ fsL K1 t.2 J ∧ t.1 0 = B 0) := by
        unfold F_MD_yearsGo
        refine ok_b (ok_cnt (σ := MI × MJ) (P := fun t => AM t.1 Z p (a_it p w n) (a_kt p w kl n) (u_add (w, kl) un) ∧ t.1 177 56 = nI (a_ws p w n) ∧ fsL K1 t.2 J ∧ t.1 0 = B 0) n (fun m t => AM t.1 Z p (a_it p w m) (a_kt p w kl m) (u_add (w, kl) un) ∧ t.1 177 56 = nI (a_ws p w m) ∧ fsL K1 t.2 J ∧ t.1 0 = B 0) ⟨b2, (show m_up B 177 56 0 177 56 = 0 from up_e _ _ _ _), fs_r J, (show m_up B 177 56 0 0 = B 0 from up_k _ _ _ (by decide))⟩ ?_ ?_) (fun t ht => ok_s ht)
        · rintro m hm2 ⟨Y, JY⟩ ⟨g1, g2, g3, g4⟩
          have g2 : Y 177 56 = nI (a_ws p w m) := g2
          simp only [F_MD_yearsGo_2]
          refine ok_f (nI_ge hm2 (by omega)) (ok_b (AM_year ho hQ (RelX_R h) g1 (it_O ho (RelX_R h) hv y2 m (by omega)) JY) ?_)
          rintro ⟨U, JU⟩ ⟨e1, e2, e3, e4⟩
          have e2 : U 177 56 = Y 177 56 + nI (a_went p (a_it p w m)) := e2
          refine ok_s ⟨nI_s m, e1, ?_, fs_tr e3 g3, e4.trans g4⟩
          show U 177 56 = _
          rw [e2, g2, nI_add]; rfl
        · rintro ⟨Y, JY⟩ g
          simp only [F_MD_yearsGo_2]
          exact ok_t (Int32.le_refl _) (ok_s g)
      obtain ⟨⟨C, JC⟩, ec, c2, c3, c4, c5⟩ := loopM
      have c3 : C 177 56 = nI (a_ws p w n) := c3
      have c5 : C 0 = B 0 := c5
      obtain ⟨m1, m2, m3, m4, m5, m6⟩ := ref_A h z2.2.2.2.2
      refine ⟨nI (a_ws p w n), Z, C, JC, rfl, ?_, hq, p, a_it p w n, a_kt p w kl n, u_add (w, kl) un, A_end hq h z2 c2 c4 (by decide) ?_ (AW_it ho (RelX_R h) hA y2 n (by omega))⟩
      · unfold F_MD_years
        rw [hah Z m3 m6]
        simp only [Option.bind_some]
        rw [if_pos c1, if_neg (by decide), eb]
        simp only [Option.bind_some]
        rw [ec]
        simp only [Option.bind_some]
        rw [c3]
      · obtain ⟨s, s1, s2, s3⟩ := h.1.2.2.2.2
        refine ⟨s, s1, ?_, ?_⟩
        · rw [c5, fs_k b1.2.2.2.2.2 (by decide), z3, a2]; exact s2
        · have := c4 177 68 (by decide)
          exact this.trans s3
    · have refu : F_MD_years (m_up I 176 3 (I 176 3 + 1)) J v = some (-1, m_up (m_up I 176 3 (I 176 3 + 1)) 179 3 (I 179 3 + 1), J) := by
        unfold F_MD_years
        rw [hah _ hwZ htZ]
        simp only [Option.bind_some]
        rw [if_neg c1, if_pos rfl, show (3 : Int32) = nI 3 from rfl, refs_e (by decide)]
        rfl
      refine ⟨-1, _, _, J, ?_, refu, href⟩
      rw [show (3 : Int32) = nI 3 from rfl, refuse_c (by decide)]
      by_cases c0 : v < 1
      · rw [if_pos c0]; rfl
      · have c1' : nI 1 ≤ v := by show (1 : Int32) ≤ v; grind
        rw [if_neg c0, if_neg (fun z => c1 ⟨c1', z⟩)]; rfl
  · refine ⟨-1, m_up I 176 3 (I 176 3 + 1), _, J, ?_, ?_, href⟩
    · rw [decide_eq_false hC0, if_pos (show bI false = 0 from rfl), show (3 : Int32) = nI 3 from rfl, refuse_c (by decide)]; rfl
    · unfold F_MD_years F_MD_isAhead
      rw [htZ, decide_eq_false hC0, if_pos (show bI false = 0 from rfl)]
      simp only [Option.bind_some]
      rw [if_pos trivial, show (3 : Int32) = nI 3 from rfl, refs_e (by decide)]
      rfl
end L83
