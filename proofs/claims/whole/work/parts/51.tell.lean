/-! a row of codes reckoned: the reference -/
def wtM (J : MJ) : List Int → Prop
  | [] => True
  | v :: s => J 246 s.length = xL v ∧ wtM J s
theorem wtM_up {J : MJ} {v : Int64} {j : Nat} : ∀ {s : List Int}, s.length ≤ j → wtM J s → wtM (m_up J 246 j v) s := by
  intro s
  induction s with
  | nil => intro _ _; trivial
  | cons a s ih =>
    intro hj h
    simp only [List.length_cons] at hj
    exact ⟨by rw [up_j _ _ _ (by omega)]; exact h.1, ih (by omega) h.2⟩
theorem up_same {α : Type} {X : Nat → Nat → α} {k j : Nat} {v : α} (h : X k j = v) : m_up X k j v = X := by
  funext a b
  simp only [m_up]
  by_cases z1 : a = k
  · by_cases z2 : b = j
    · rw [if_pos z1, if_pos z2, z1, z2]; exact h.symm
    · rw [if_pos z1, if_neg z2]
  · rw [if_neg z1]
theorem q_ty1_len {c : Nat} {t t' : List Bool} (h : q_ty1 c t = some t') (hb : t.length ≤ 90) : t'.length ≤ 90 := by
  unfold q_ty1 at h
  repeat' split at h
  all_goals first | (cases h; done) | (cases h; simp only [List.length_cons] at *; omega)
theorem q_ty_len {cs : List Nat} {t t' : List Bool} (h : q_ty cs t = some t') (hb : t.length ≤ 90) : t'.length ≤ 90 := by
  induction cs generalizing t with
  | nil => cases h; exact hb
  | cons c l ih =>
    simp only [q_ty] at h
    cases hq : q_ty1 c t with
    | none => rw [hq] at h; cases h
    | some t2 => rw [hq] at h; exact ih h (q_ty1_len hq hb)
/-- codes below 40, behind the tests of the code's size -/
theorem stepL {X : MI} {J : MJ} {pt : Nat → Int} {fo : Nat → Int → Int} {c : Nat} {s : List Int} {t t' : List Bool} {α : Type} (g : MI → MJ → α) (hty : q_ty1 c t = some t') (hs : q_tv s t) (hw : wtM J s) (hl : X 177 98 = nI s.length) (hb : t.length ≤ 90) (hc : c < 40) :
    ∃ J', (if nI c = (13 : Int32) then ((F_MD_qPuts X J (1 : Int64)).bind fun r12 => some (g r12.1 r12.2)) else (if nI c = (12 : Int32) then (gd ((X 177 98) - (1 : Int32)) 1700 <| gd ((X 177 98) - (1 : Int32)) 1700 <| bnd (m_up J 246 (((X 177 98) - (1 : Int32)).toNatClampNeg) ((1 : Int64) - (J 246 ((X 177 98) - (1 : Int32)).toNatClampNeg)) : MJ) fun x11 => some (g X x11)) else ((F_MD_qJoins X J (nI c)).bind fun r8 => some (g r8.1 r8.2)))) = some (g (m_up X 177 98 (nI (q_ev1 pt fo c s).length)) J') ∧ wtM J' (q_ev1 pt fo c s) := by
  have hlen := q_tv_len hs
  unfold q_ty1 at hty
  unfold q_ev1
  rw [if_neg (show ¬ 1000 ≤ c by omega), if_neg (show ¬ 60 ≤ c by omega), if_neg (show ¬ 40 ≤ c by omega)] at hty
  rw [if_neg (show ¬ 1000 ≤ c by omega), if_neg (show ¬ 60 ≤ c by omega), if_neg (show ¬ 40 ≤ c by omega)]
  by_cases c4 : c = 13
  · rw [if_pos c4] at hty
    rw [if_pos c4]
    by_cases c5 : t.length < 90
    · refine ⟨m_up J 246 s.length (xL 1), ?_, ⟨up_e _ _ _ _, wtM_up (Nat.le_refl _) hw⟩⟩
      rw [if_pos (show nI c = 13 by rw [c4]; rfl), show (1 : Int64) = xL 1 by decide, puts_e hl (by omega)]; rfl
    · rw [if_neg c5] at hty; cases hty
  rw [if_neg c4] at hty
  rw [if_neg c4, if_neg (show ¬ nI c = 13 from fun z => c4 ((nI_eq (b := 13) (by omega) (by decide)).mp z))]
  by_cases c5 : c = 12
  · rw [if_pos c5] at hty
    rw [if_pos c5, if_pos (show nI c = 12 by rw [c5]; rfl)]
    match t, hs, hty, hlen, hb with
    | true :: t, hs, hty, hlen, hb =>
      obtain ⟨v, s, rfl, h1, h2⟩ := q_tv_c hs
      simp only [List.length_cons] at hlen hb hl
      have e : nI (s.length + 1) - 1 = nI s.length := nI_subN (a := s.length + 1) (b := 1) (by omega)
      refine ⟨m_up J 246 s.length (xL (1 - v)), ?_, ⟨up_e _ _ _ _, wtM_up (Nat.le_refl _) hw.2⟩⟩
      rw [hl, e, gd_n (by omega) (by decide), gd_n (by omega) (by decide), nI_clamp (by omega), hw.1, show (1 : Int64) = xL 1 by decide, xL_sub]
      show some (g X _) = some (g (m_up X 177 98 (nI (s.length + 1))) _)
      rw [up_same hl]
  rw [if_neg c5] at hty
  rw [if_neg c5, if_neg (show ¬ nI c = 12 from fun z => c5 ((nI_eq (b := 12) (by omega) (by decide)).mp z))]
  have pr : ∀ {a b : Int} {r : List Int}, s = b :: a :: r → smv a → smv b → 1 ≤ c → c ≤ 11 → ∃ J', ((F_MD_qJoins X J (nI c)).bind fun r8 => some (g r8.1 r8.2)) = some (g (m_up X 177 98 (nI (q_bin c a b :: r).length)) J') ∧ wtM J' (q_bin c a b :: r) := by
    intro a b r e h1 h2 h3 h4
    subst e
    simp only [List.length_cons] at hl hlen
    refine ⟨m_up J 246 r.length (xL (q_bin c a b)), ?_, ⟨up_e _ _ _ _, wtM_up (Nat.le_refl _) hw.2.2⟩⟩
    rw [joins_e (t := r.length) hl (by omega) hw.2.1 hw.1 h1 h2 h3 h4]; rfl
  by_cases c6 : 1 ≤ c ∧ c ≤ 6
  · rw [if_pos c6] at hty
    match t, hs, hty with
    | false :: false :: t, hs, hty =>
      obtain ⟨v, s, rfl, h1, h2⟩ := q_tv_c hs
      obtain ⟨u, s, rfl, h3, h4⟩ := q_tv_c h2
      exact pr rfl h3.1 h1.1 c6.1 (by omega)
  rw [if_neg c6] at hty
  by_cases c7 : 7 ≤ c ∧ c ≤ 9
  · rw [if_pos c7] at hty
    match t, hs, hty with
    | false :: false :: t, hs, hty =>
      obtain ⟨v, s, rfl, h1, h2⟩ := q_tv_c hs
      obtain ⟨u, s, rfl, h3, h4⟩ := q_tv_c h2
      exact pr rfl h3.1 h1.1 (by omega) (by omega)
  rw [if_neg c7] at hty
  by_cases c8 : 10 ≤ c ∧ c ≤ 11
  · rw [if_pos c8] at hty
    match t, hs, hty with
    | true :: true :: t, hs, hty =>
      obtain ⟨v, s, rfl, h1, h2⟩ := q_tv_c hs
      obtain ⟨u, s, rfl, h3, h4⟩ := q_tv_c h2
      exact pr rfl h3.1 h1.1 (by omega) (by omega)
  rw [if_neg c8] at hty; cases hty
/-- one code of walks or roots -/
theorem stepM {X : MI} {J : MJ} {pt : Nat → Int} {fo : Nat → Int → Int} {al : Nat → Bool} {c f k : Nat} {w v3 : Int32} {s : List Int} {t t' : List Bool} (hty : q_ty1 c t = some t') (hs : q_tv s t) (hw : wtM J s) (hl : X 177 98 = nI s.length) (hb : t.length ≤ 90)
    (ha : (40 ≤ c → c < 60 → al (c - 40) = true) ∧ (60 ≤ c → c < 1000 → false = true)) (hp : ∀ k, k < 8 → al k = true → F_MD_qPartOf X (nI k) (nI f) = some (xL (pt k)))
    (h2 : (2 : Int32) + w = nI k) (hk : k < 4) (hn : ¬ X 211 k ≤ v3) {i : Nat} (hi : (1600 : Int32) + v3 = nI i) (hi2 : i < 3200) (hc : X 212 i = nI c) :
    ∃ J', F_MD_codesTell_19 X J w (nI f) v3 = some (.inl (v3 + 1, m_up X 177 98 (nI (q_ev1 pt fo c s).length), J')) ∧ wtM J' (q_ev1 pt fo c s) := by
  have hlen := q_tv_len hs
  unfold F_MD_codesTell_19
  rw [h2, gd_n hk (by decide), nI_clamp (by omega), if_neg hn, hi, gd_n hi2 (by decide), nI_clamp (by omega), hc]
  by_cases c3 : 40 ≤ c
  · unfold q_ty1 at hty
    unfold q_ev1
    by_cases c1 : 1000 ≤ c
    · rw [if_pos c1] at hty
      rw [if_pos c1]
      by_cases c2 : c ≤ 10999 ∧ t.length < 90
      · have n1 : ¬ nI c < (1000 : Int32) := nI_nlt (b := 1000) (by omega) (by omega)
        have e : nI c - 1000 = nI (c - 1000) := nI_subN (a := c) (b := 1000) (by omega)
        refine ⟨m_up J 246 s.length (xL ((c - 1000 : Nat) : Int)), ?_, ⟨up_e _ _ _ _, wtM_up (Nat.le_refl _) hw⟩⟩
        rw [if_neg n1, e, ← xI_n, xI_L (by omega) (by omega), puts_e hl (by omega)]; rfl
      · rw [if_neg c2] at hty; cases hty
    rw [if_neg c1] at hty
    rw [if_neg c1]
    have m1 : nI c < (1000 : Int32) := nI_lt (b := 1000) (by omega) (by decide)
    rw [if_pos m1]
    by_cases c2 : 60 ≤ c
    · exact absurd (ha.2 c2 (by omega)) (by decide)
    rw [if_neg c2, if_pos c3] at hty
    rw [if_neg c2, if_pos c3]
    have n1 : ¬ nI c < (40 : Int32) := nI_nlt (b := 40) (by omega) (by omega)
    rw [if_neg n1]
    by_cases c4 : c ≤ 47 ∧ t.length < 90
    · have e : nI c - 40 = nI (c - 40) := nI_subN (a := c) (b := 40) (by omega)
      refine ⟨m_up J 246 s.length (xL (pt (c - 40))), ?_, ⟨up_e _ _ _ _, wtM_up (Nat.le_refl _) hw⟩⟩
      rw [e, hp _ (by omega) (ha.1 c3 (by omega))]
      simp only [Option.bind_some]
      rw [puts_e hl (by omega)]; rfl
    · rw [if_neg c4] at hty; cases hty
  · have m1 : nI c < (1000 : Int32) := nI_lt (b := 1000) (by omega) (by decide)
    have m2 : nI c < (40 : Int32) := nI_lt (b := 40) (by omega) (by decide)
    rw [if_pos m1, if_pos m2]
    exact stepL (fun X J => (Sum.inl (v3 + 1, X, J) : (Int32 × MI × MJ) ⊕ (MI × MJ))) hty hs hw hl hb (by omega)
/-- one code of a question -/
theorem stepQ {X : MI} {J : MJ} {pt : Nat → Int} {fo : Nat → Int → Int} {al : Nat → Bool} {oo : Bool} {c f i : Nat} {s : List Int} {t t' : List Bool} (hty : q_ty1 c t = some t') (hs : q_tv s t) (hw : wtM J s) (hl : X 177 98 = nI s.length) (hb : t.length ≤ 90)
    (hsp : ∀ k, smv (pt k)) (hso : ∀ k x, smv (fo k x)) (ha : (40 ≤ c → c < 60 → al (c - 40) = true) ∧ (60 ≤ c → c < 1000 → oo = true)) (hp : ∀ k, k < 8 → al k = true → F_MD_qPartOf X (nI k) (nI f) = some (xL (pt k)))
    (ho : oo = true → ∀ k x, k < 2 → smv x → F_MD_qOf X (nI k) (xL x) (nI f) = some (xL (fo k x))) (hn : ¬ X 177 92 ≤ nI i) (hi2 : i < 1700) (hc : X 244 i = nI c) :
    ∃ J', F_MD_qTold_7 X J (nI f) (nI i) = some (.inl (nI (i + 1), m_up X 177 98 (nI (q_ev1 pt fo c s).length), J')) ∧ wtM J' (q_ev1 pt fo c s) := by
  have hlen := q_tv_len hs
  unfold F_MD_qTold_7
  rw [if_neg hn, gd_n hi2 (by decide), nI_clamp (by omega), hc, nI_s]
  by_cases c3 : 40 ≤ c
  · unfold q_ty1 at hty
    unfold q_ev1
    by_cases c1 : 1000 ≤ c
    · rw [if_pos c1] at hty
      rw [if_pos c1]
      by_cases c2 : c ≤ 10999 ∧ t.length < 90
      · have n1 : ¬ nI c < (1000 : Int32) := nI_nlt (b := 1000) (by omega) (by omega)
        have e : nI c - 1000 = nI (c - 1000) := nI_subN (a := c) (b := 1000) (by omega)
        refine ⟨m_up J 246 s.length (xL ((c - 1000 : Nat) : Int)), ?_, ⟨up_e _ _ _ _, wtM_up (Nat.le_refl _) hw⟩⟩
        rw [if_neg n1, e, ← xI_n, xI_L (by omega) (by omega), puts_e hl (by omega)]; rfl
      · rw [if_neg c2] at hty; cases hty
    rw [if_neg c1] at hty
    rw [if_neg c1]
    have m1 : nI c < (1000 : Int32) := nI_lt (b := 1000) (by omega) (by decide)
    rw [if_pos m1]
    by_cases c2 : 60 ≤ c
    · rw [if_pos c2] at hty
      rw [if_pos c2]
      have n2 : ¬ nI c < (60 : Int32) := nI_nlt (b := 60) (by omega) (by omega)
      rw [if_neg n2]
      by_cases c5 : c ≤ 61
      · rw [if_pos c5] at hty
        match t, hs, hty, hlen, hb with
        | false :: t, hs, hty, hlen, hb =>
          obtain ⟨v, s, rfl, h1, h2⟩ := q_tv_c hs
          simp only [List.length_cons] at hlen hb hl
          have e1 : nI (s.length + 1) - 1 = nI s.length := nI_subN (a := s.length + 1) (b := 1) (by omega)
          have e : nI c - 60 = nI (c - 60) := nI_subN (a := c) (b := 60) (by omega)
          refine ⟨m_up J 246 s.length (xL (fo (c - 60) v)), ?_, ⟨up_e _ _ _ _, wtM_up (Nat.le_refl _) hw.2⟩⟩
          rw [hl, e1, e, gd_n (by omega) (by decide), nI_clamp (by omega), hw.1, ho (ha.2 c2 (by omega)) _ _ (by omega) h1.1]
          simp only [Option.bind_some]
          rw [clipM (smb (hso _ _)), q_cl_e (hso _ _)]
          simp only [Option.bind_some]
          rw [gd_n (by omega) (by decide)]
          show some (Sum.inl (_, X, _)) = some (Sum.inl (_, m_up X 177 98 (nI (s.length + 1)), _))
          rw [up_same hl]
      · rw [if_neg c5] at hty; cases hty
    rw [if_neg c2, if_pos c3] at hty
    rw [if_neg c2, if_pos c3]
    have n1 : ¬ nI c < (40 : Int32) := nI_nlt (b := 40) (by omega) (by omega)
    have n3 : nI c < (60 : Int32) := nI_lt (b := 60) (by omega) (by omega)
    rw [if_pos n3, if_neg n1]
    by_cases c4 : c ≤ 47 ∧ t.length < 90
    · have e : nI c - 40 = nI (c - 40) := nI_subN (a := c) (b := 40) (by omega)
      refine ⟨m_up J 246 s.length (xL (pt (c - 40))), ?_, ⟨up_e _ _ _ _, wtM_up (Nat.le_refl _) hw⟩⟩
      rw [e, hp _ (by omega) (ha.1 c3 (by omega))]
      simp only [Option.bind_some]
      rw [clipM (smb (hsp _)), q_cl_e (hsp _)]
      simp only [Option.bind_some]
      rw [puts_e hl (by omega)]; rfl
    · rw [if_neg c4] at hty; cases hty
  · have m1 : nI c < (1000 : Int32) := nI_lt (b := 1000) (by omega) (by decide)
    have m3 : nI c < (60 : Int32) := nI_lt (b := 60) (by omega) (by decide)
    have m2 : nI c < (40 : Int32) := nI_lt (b := 40) (by omega) (by decide)
    rw [if_pos m1, if_pos m3, if_pos m2]
    exact stepL (fun X J => (Sum.inl (nI (i + 1), X, J) : (Int32 × MI × MJ) ⊕ (MI × MJ))) hty hs hw hl hb (by omega)
theorem up_eq98 {A B : MI} (h : ∀ k j, ¬ (k = 177 ∧ j = 98) → A k j = B k j) (v : Int32) : m_up A 177 98 v = m_up B 177 98 v := by
  funext a b
  simp only [m_up]
  by_cases z1 : a = 177
  · by_cases z2 : b = 98
    · rw [if_pos z1, if_pos z1, if_pos z2, if_pos z2]
    · rw [if_pos z1, if_pos z1, if_neg z2, if_neg z2]; exact h a b (fun q => z2 q.2)
  · rw [if_neg z1, if_neg z1]; exact h a b (fun q => z1 q.1)
theorem up_ne98 (I : MI) (v : Int32) : ∀ k j, ¬ (k = 177 ∧ j = 98) → m_up I 177 98 v k j = I k j := by
  intro k j h
  simp only [m_up]
  by_cases z1 : k = 177
  · rw [if_pos z1, if_neg (fun z => h ⟨z1, z⟩)]
  · rw [if_neg z1]
/-- a loop over codes -/
theorem loopM {b : Int32 × MI × MJ → Option ((Int32 × MI × MJ) ⊕ (MI × MJ))} {I : MI} {pt : Nat → Int} {fo : Nat → Int → Int} {a : Nat} {cs : List Nat} {tf : List Bool} (hty : q_ty cs [] = some tf) (hsp : ∀ k, smv (pt k)) (hso : ∀ k x, smv (fo k x))
    (hst : ∀ n, n < cs.length → ∀ (J : MJ) (s : List Int) (t t' : List Bool), q_ty1 (cs.getD n 0) t = some t' → q_tv s t → wtM J s → t.length ≤ 90 → ∃ J', b (nI (a + n), m_up I 177 98 (nI s.length), J) = some (.inl (nI (a + (n + 1)), m_up I 177 98 (nI (q_ev1 pt fo (cs.getD n 0) s).length), J')) ∧ wtM J' (q_ev1 pt fo (cs.getD n 0) s))
    (hen : ∀ X J, (∀ k j, ¬ (k = 177 ∧ j = 98) → X k j = I k j) → b (nI (a + cs.length), X, J) = some (.inr (X, J))) (J : MJ) :
    ∃ J', wl b (nI a, m_up I 177 98 0, J) = some (m_up I 177 98 (nI (q_ev pt fo cs []).length), J') ∧ wtM J' (q_ev pt fo cs []) := by
  have key : ∀ m, m ≤ cs.length → ∀ (J : MJ) (t : List Bool), q_ty (cs.take (cs.length - m)) [] = some t → q_tv (q_ev pt fo (cs.take (cs.length - m)) []) t → wtM J (q_ev pt fo (cs.take (cs.length - m)) []) →
      ∃ J', wl b (nI (a + (cs.length - m)), m_up I 177 98 (nI (q_ev pt fo (cs.take (cs.length - m)) []).length), J) = some (m_up I 177 98 (nI (q_ev pt fo cs []).length), J') ∧ wtM J' (q_ev pt fo cs []) := by
    intro m
    induction m with
    | zero =>
      intro _ J t h1 h2 h3
      rw [Nat.sub_zero, List.take_length] at *
      exact ⟨J, wl_in (hen _ _ (up_ne98 I _)), h3⟩
    | succ m ih =>
      intro hm J t h1 h2 h3
      have hlt : cs.length - (m + 1) < cs.length := by omega
      obtain ⟨t2, h6⟩ := q_ty_take hty (cs.length - (m + 1) + 1)
      have h7 := h6
      rw [q_tk hlt, q_ty_a, h1] at h7
      have h7 : q_ty1 (cs.getD (cs.length - (m + 1)) 0) t = some t2 := h7
      obtain ⟨J', g1, g2⟩ := hst _ hlt J _ t t2 h7 h2 h3 (q_ty_len h1 (by decide))
      rw [wl_st g1]
      have e : cs.length - m = cs.length - (m + 1) + 1 := by omega
      have h8 := ih (by omega) J' t2
      rw [e, q_tk hlt, q_ev_a] at h8
      rw [q_tk hlt] at h6
      exact h8 h6 (q_tv1 hsp hso h7 h2) g2
  have h := key cs.length (Nat.le_refl _) J []
  rw [Nat.sub_self] at h
  obtain ⟨J', h1, h2⟩ := h rfl trivial trivial
  refine ⟨J', ?_, h2⟩
  rw [show (0 : Int32) = nI 0 from nI_0.symm]
  exact h1
/-- walks (0) and roots (1) of the reference -/
theorem tellM {I : MI} {pt : Nat → Int} {fo : Nat → Int → Int} {al : Nat → Bool} {w a f : Nat} {cs : List Nat} {bb : Bool} (hw : w < 2) (hfr : I 210 (2 + w) = nI a) (hto : I 211 (2 + w) = nI (a + cs.length)) (hl : a + cs.length ≤ 1600) (hc : ∀ i, i < cs.length → I 212 (1600 + (a + i)) = nI (cs.getD i 0))
    (hty : q_ty cs [] = some [bb]) (hal : q_al al false cs) (hsp : ∀ k, smv (pt k)) (hso : ∀ k x, smv (fo k x)) (hp : ∀ X : MI, (∀ k j, ¬ (k = 177 ∧ (j = 98 ∨ j = 50)) → X k j = I k j) → ∀ k, k < 8 → al k = true → F_MD_qPartOf X (nI k) (nI f) = some (xL (pt k))) (J : MJ) :
    ∃ J', F_MD_codesTell I J (nI w) (nI f) = some (xL (q_val pt fo cs), m_up (m_up I 177 50 (nI w)) 177 98 1, J') := by
  unfold F_MD_codesTell
  have e2 : (2 : Int32) + nI w = nI (2 + w) := nI_add 2 w
  rw [e2, gd_n (by omega) (by decide), nI_clamp (by omega), hfr]
  obtain ⟨J', h1, h2⟩ := loopM (b := fun s : Int32 × MI × MJ => F_MD_codesTell_19 s.2.1 s.2.2 (nI w) (nI f) s.1) (I := m_up I 177 50 (nI w)) (a := a) hty hsp hso (fun n hn J s t t' g1 g2 g3 g4 => by
    have hm : cs.getD n 0 ∈ cs := by
      rw [List.getD_eq_getElem?_getD, List.getElem?_eq_getElem (by omega)]
      exact List.getElem_mem _
    have r1 : ∀ k j, k ≠ 177 → m_up (m_up I 177 50 (nI w)) 177 98 (nI s.length) k j = I k j := fun k j hk => by rw [up_k _ _ _ hk, up_k _ _ _ hk]
    obtain ⟨J', q1, q2⟩ := stepM (X := m_up (m_up I 177 50 (nI w)) 177 98 (nI s.length)) (pt := pt) (fo := fo) (al := al) (f := f) (k := 2 + w) (w := nI w) (v3 := nI (a + n)) (i := 1600 + (a + n)) g1 g2 g3 (up_e _ _ _ _) g4 (hal _ hm) (hp _ (fun k j hk => by
        rw [up_ne98 _ _ k j (fun z => hk ⟨z.1, Or.inl z.2⟩)]
        simp only [m_up]
        by_cases z1 : k = 177
        · rw [if_pos z1, if_neg (fun z => hk ⟨z1, Or.inr z⟩)]
        · rw [if_neg z1])) e2 (by omega) (by rw [r1 _ _ (by decide), hto]; exact nI_ge (by omega) (by omega)) (nI_add 1600 _) (by omega) (by rw [r1 _ _ (by decide), hc n hn])
    refine ⟨J', ?_, q2⟩
    show F_MD_codesTell_19 _ _ _ _ (nI (a + n)) = _
    rw [q1, up_up, nI_s]
    rfl) (fun X J hX => by
    show F_MD_codesTell_19 X J (nI w) (nI f) (nI (a + cs.length)) = _
    unfold F_MD_codesTell_19
    have e3 : X 211 (2 + w) = nI (a + cs.length) := by rw [hX _ _ (by omega), up_k _ _ _ (by decide)]; exact hto
    rw [e2, gd_n (by omega) (by decide), nI_clamp (by omega), e3, if_pos (Int32.le_refl _)]) J
  obtain ⟨v, v1, v2, v3, v4⟩ := q_val_s hsp hso hty
  rw [h1]
  refine ⟨J', ?_⟩
  rw [v1] at h2 ⊢
  rw [v2]
  simp only [Option.bind_some]
  have h3 : J' 246 0 = xL v := h2.1
  rw [h3]
  rfl
