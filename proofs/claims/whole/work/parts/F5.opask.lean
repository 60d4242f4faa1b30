/-! ask -/
abbrev Dsq (sd : Nat) : List (Nat × Option Nat) := [(1, some 1), (19, none), (26, none), (27, none), (28, none), (29, none), (sd, none), (sd + 1, none), (sd + 2, none), (sd + 3, none), (sd + 4, none), (sd + 5, none), (sd + 6, none), (sd + 7, none), (177, some 1), (177, some 3), (177, some 7), (177, some 8), (177, some 50), (177, some 98), (177, some 100)] ++ LQ2
abbrev LBq : List (Nat × Option Nat) := [(177, some 1), (177, some 2), (177, some 3), (177, some 4), (177, some 5), (177, some 6), (177, some 50), (177, some 92), (177, some 94), (177, some 95), (177, some 96)]
section LF5
variable {I X Y Z : MI} {J J' : MJ} {sl sd n : Nat} {R : MRR} {tb : Nat → Nat} {p : CF} {w : WD} {kl : List NT} {un : List (WD × List NT)}
theorem Rel_q (hs : (sl = 3 ∧ sd = 11) ∨ (sl = 11 ∧ sd = 3)) (h : RelX I J sl p w kl un) (hx : fsL (Dsq sd) Z I) (hJ : fsL LA4J J' J) (z1 : Z 1 1 = 0) (z177 : Z 177 1 = 0) (zf : gFault Z) : RelX Z J' sl p w kl un := by
  obtain ⟨⟨h1, h2, h3, h4, h5⟩, ⟨h6, h7, h8, h9⟩, h10, h11, h12⟩ := h
  have hq : sl = 3 ∨ sl = 11 := by omega
  have ksl : ∀ q, sl ≤ q → q ≤ sl + 7 → Z q = I q := by
    intro q a c
    rcases hs with ⟨r, s⟩ | ⟨r, s⟩ <;> subst r <;> subst s
    · rcases (by omega : q = 3 ∨ q = 4 ∨ q = 5 ∨ q = 6 ∨ q = 7 ∨ q = 8 ∨ q = 9 ∨ q = 10) with z | z | z | z | z | z | z | z <;> subst z <;> exact fs_k hx (by decide)
    · rcases (by omega : q = 11 ∨ q = 12 ∨ q = 13 ∨ q = 14 ∨ q = 15 ∨ q = 16 ∨ q = 17 ∨ q = 18) with z | z | z | z | z | z | z | z <;> subst z <;> exact fs_k hx (by decide)
  have cell : ∀ k j, inL (Dsq 3) k j = false → inL (Dsq 11) k j = false → Z k j = I k j := by
    intro k j a c
    rcases hs with ⟨r, s⟩ | ⟨r, s⟩ <;> subst r <;> subst s
    · exact hx k j c
    · exact hx k j a
  have row : ∀ k, ((Dsq 3).all fun r => !(r.1 == k)) = true → ((Dsq 11).all fun r => !(r.1 == k)) = true → Z k = I k := by
    intro k a c
    rcases hs with ⟨r, s⟩ | ⟨r, s⟩ <;> subst r <;> subst s
    · exact fs_k hx c
    · exact fs_k hx a
  obtain ⟨h7a, ⟨c1, c2, c3, c4⟩, c5, c6, nm, c7⟩ := h7
  have e206 : J' 206 = J 206 := fs_k hJ (by decide)
  have gS : gSlope Z J' sl p := by
    refine ⟨h7a, ⟨CC_c c1 ksl, CD_c c2 ksl, CM_c c3 (fun k hk => ?_), ?_⟩, ?_, ?_, nm, fun f hf => ?_⟩
    · rcases hk with z | z | z <;> subst z <;> exact row _ (by decide) (by decide)
    · unfold CN codM at c4 ⊢
      rw [row 210 (by decide) (by decide), row 211 (by decide) (by decide), row 212 (by decide) (by decide)]; exact c4
    · rw [cell 177 49 (by decide) (by decide)]; exact c5
    · rw [ksl sl (by omega) (by omega), cell 177 43 (by decide) (by decide)]; exact c6
    · obtain ⟨d1, d2, d3, d4, d5⟩ := c7 f hf
      refine ⟨d1, d2, d3, by rw [e206]; exact d4, fun k hk => ?_⟩
      rw [ksl (sl + 2) (by omega) (by omega)]; exact d5 k hk
  have t0 : gTape Z := ⟨0, fun _ => 0, by omega, z1, z177, fun j hj => absurd hj (by omega)⟩
  have zr : gRef Z := fun j hj => by rw [row 176 (by decide) (by decide), row 179 (by decide) (by decide)]; exact h3 j hj
  rcases hs with ⟨r, s⟩ | ⟨r, s⟩ <;> subst r <;> subst s
  · exact ⟨⟨t0, zf, zr, gImg_c (ag_of (by decide) hx) h4, gSeed_c (ag_of (by decide) hx) (hJ 177 68 (by decide)) h5⟩, ⟨gSeen_c (ag_of (by decide) hx) h6, gS, gNow_c (ag_of (by decide) hx) h8, gHist_c (ag_of (by decide +kernel) hx) h9⟩, gIron_c (ag_of (by decide) hx) h10, (cell 177 55 (by decide) (by decide)).trans h11, gWord_c (ag_of (by decide +kernel) hx) h12⟩
  · exact ⟨⟨t0, zf, zr, gImg_c (ag_of (by decide) hx) h4, gSeed_c (ag_of (by decide) hx) (hJ 177 68 (by decide)) h5⟩, ⟨gSeen_c (ag_of (by decide) hx) h6, gS, gNow_c (ag_of (by decide) hx) h8, gHist_c (ag_of (by decide +kernel) hx) h9⟩, gIron_c (ag_of (by decide) hx) h10, (cell 177 55 (by decide) (by decide)).trans h11, gWord_c (ag_of (by decide +kernel) hx) h12⟩
theorem ask_start (n16 : n ≤ 1600) (h49 : ¬ X 177 49 = 0) (h1 : X 177 1 = nI n) (hb : ∀ j, j < n → tb j < 256 ∧ X 178 j = nI (tb j)) (hw : gWds X) : ∃ S, RE S tb n 0 false [] [] 0 0 2 ∧ fsL LBq S X ∧ S 177 1 = 0 ∧ F_MD_ask X J = askG S J := by
  have fS : fsL LBq (m_up (m_up (m_up (m_up (m_up (m_up (m_up (m_up (m_up (m_up (m_up X 177 3 (X 177 1)) 177 1 0) 177 2 0) 177 4 (-1)) 177 5 0) 177 6 (-1)) 177 50 2) 177 92 0) 177 94 0) 177 95 0) 177 96 0) X := fs_up (LX := LBq) (by decide) (by decide) (fs_up (LX := LBq) (by decide) (by decide) (fs_up (LX := LBq) (by decide) (by decide) (fs_up (LX := LBq) (by decide) (by decide) (fs_up (LX := LBq) (by decide) (by decide) (fs_up (LX := LBq) (by decide) (by decide) (fs_up (LX := LBq) (by decide) (by decide) (fs_up (LX := LBq) (by decide) (by decide) (fs_up (LX := LBq) (by decide) (by decide) (fs_up (LX := LBq) (by decide) (by decide) (fs_up (LX := LBq) (by decide) (by decide) (fs_r X)))))))))))
  refine ⟨_, ⟨⟨⟨?_, ?_, Nat.zero_le _⟩, ⟨0, ?_, Nat.le_refl _, Nat.zero_le _⟩, ?_, n16, fun j hj => ?_, fun q hq j hj => ?_, ?_⟩, ⟨⟨?_, fun i hi => absurd hi (by simp)⟩, ⟨?_, fun i hi => absurd hi (by simp)⟩, ?_, ?_⟩, ?_, by decide, by simp, by simp, fun x hx => (by cases hx), by decide⟩, fS, ?_, ?_⟩
  · simp [m_up]
  · simp [m_up, h1]
  · simp [m_up]; rfl
  · rw [if_neg (by decide)]
    left
    simp [m_up]
  · rw [fs_k fS (k := 178) (by decide)]; exact hb j hj
  · rw [fs_k fS (k := q.1) (by
      have : ∀ q, q ∈ m_wds → (LBq.all fun r => !(r.1 == q.1)) = true := by decide +kernel
      exact this q hq)]
    exact hw q hq j hj
  · simp [m_up]
  · simp [m_up]; rfl
  · simp [m_up]; rfl
  · simp [m_up]; rfl
  · simp [m_up]; rfl
  · simp [m_up]; rfl
  · simp [m_up]
  · unfold F_MD_ask askG
    simp only [bnd]
    rw [if_neg h49]
theorem FC_q (hs : sd = 3 ∨ sd = 11) (h : FC sd X I) : fsL (Dsq sd) X I := by
  rcases hs with s | s <;> subst s
  · refine fs_fr (P := fun q => q = 19 ∨ (3 ≤ q ∧ q ≤ 10)) (fun q hq => h q (by have : ¬ (q = 19 ∨ (3 ≤ q ∧ q ≤ 10)) := hq; omega) (by have : ¬ (q = 19 ∨ (3 ≤ q ∧ q ≤ 10)) := hq; omega)) (fun q hq => ?_)
    have hq : q = 19 ∨ (3 ≤ q ∧ q ≤ 10) := hq
    rcases (by omega : q = 19 ∨ q = 3 ∨ q = 4 ∨ q = 5 ∨ q = 6 ∨ q = 7 ∨ q = 8 ∨ q = 9 ∨ q = 10) with z | z | z | z | z | z | z | z | z <;> subst z <;> decide
  · refine fs_fr (P := fun q => q = 19 ∨ (11 ≤ q ∧ q ≤ 18)) (fun q hq => h q (by have : ¬ (q = 19 ∨ (11 ≤ q ∧ q ≤ 18)) := hq; omega) (by have : ¬ (q = 19 ∨ (11 ≤ q ∧ q ≤ 18)) := hq; omega)) (fun q hq => ?_)
    have hq : q = 19 ∨ (11 ≤ q ∧ q ≤ 18) := hq
    rcases (by omega : q = 19 ∨ q = 11 ∨ q = 12 ∨ q = 13 ∨ q = 14 ∨ q = 15 ∨ q = 16 ∨ q = 17 ∨ q = 18) with z | z | z | z | z | z | z | z | z <;> subst z <;> decide
theorem c4_q (hs : sd = 3 ∨ sd = 11) (h : ∀ q, cel4 q → Z q = X q) : fsL (Dsq sd) Z X := by
  refine fs_fr (P := fun q => q = 26 ∨ q = 27 ∨ q = 28 ∨ q = 29) (fun q hq => h q (by have : ¬ (q = 26 ∨ q = 27 ∨ q = 28 ∨ q = 29) := hq; unfold cel4; omega)) (fun q hq => ?_)
  have hq : q = 26 ∨ q = 27 ∨ q = 28 ∨ q = 29 := hq
  rcases hs with s | s <;> subst s <;> rcases hq with z | z | z | z <;> subst z <;> decide
theorem sub_q (hs : sd = 3 ∨ sd = 11) : subL LBq (Dsq sd) = true ∧ subL LQ2 (Dsq sd) = true ∧ subL LA4 (Dsq sd) = true ∧ subL [(1, some 1)] (Dsq sd) = true ∧ subL [(177, some 7), (177, some 8)] (Dsq sd) = true := by rcases hs with s | s <;> subst s <;> exact ⟨by decide, by decide, by decide, by decide, by decide⟩
theorem op_ask (hs : (sl = 3 ∧ sd = 11) ∨ (sl = 11 ∧ sd = 3)) (hr : Rel I J sl) : ∃ a I1 R1 I2 J2, F_WF_ask sl sd R I = some (a, I1, R1) ∧ F_MD_ask I1 J = some (a, I2, J2) ∧ Rel I2 J2 sl ∧ (R1 = R ∨ R1 = m_up R 19 4 (some (8, 0, sd))) := by
  obtain ⟨hq, p, w, kl, un, h⟩ := id hr
  obtain ⟨n, tb, n16, t1, t2, t3⟩ := h.1.1
  have hq2 : sd = 3 ∨ sd = 11 := by omega
  obtain ⟨dB, dQ, dA, d1, d7⟩ := sub_q hq2
  have hg := h.2.2.2.2.2
  have hW := h.2.2.2.2.1
  obtain ⟨⟨ho, hCQ, -, -⟩, ⟨hc, -, hm, -⟩, h49, -, -⟩ := id h.2.1.2.1
  obtain ⟨⟨hv, -, -⟩, hwc, hwm, -, -⟩ := id h.2.1.2.2.1
  have hF := ho.2.2.1
  by_cases c0 : 0 < cC p
  · have et : ¬ f_Slope_isTold I sl = 0 := by rw [told_c ho hc, decide_eq_true c0]; decide
    have e49 : ¬ I 177 49 = 0 := by rw [h49, decide_eq_true c0]; decide
    obtain ⟨X0, hQ, fX0, x9⟩ := quest_j (sd := sd) hq2 t1 n16 (fun j hj => ⟨(t3 j hj).1, (t3 j hj).2.2⟩) hg
    rcases hQ with ⟨kq, cs, X1, hk, s1, ⟨y9, y10, ycs, yl⟩, s3, s4, s5, s6, s7, s8⟩ | ⟨k, at', X1, s1, s2, s3, s4, s5⟩
    · have fX : FC sd X1 I := FC_t s3 fX0
      have kX : ∀ q, q ≠ 1 → q ≠ 19 → (q < sd ∨ sd + 7 < q) → m_up X1 1 1 0 q = I q := fun q a b c => by rw [up_k _ _ _ a]; exact fX q b c
      have key : ∀ f, f < cF p → smv (q_val (ptq p w f) (foq p w f) cs) ∧ (kq < 3 → q_val (ptq p w f) (foq p w f) cs = 0 ∨ q_val (ptq p w f) (foq p w f) cs = 1) := fun f hf => by
        obtain ⟨v, -, v2, v3, v4⟩ := q_val_s (ptq_s ho hv (f := f) (by omega)) (foq_s ho hv f) s6
        rw [v2]
        exact ⟨v3, fun z => v4 (decide_eq_true z)⟩
      obtain ⟨I1, a1, a2⟩ := ans_c (I := m_up X1 1 1 0) (sl := sl) (sd := sd) (k := kq) (F := cF p) (vv := fun f => q_val (ptq p w f) (foq p w f) cs) hk hF (by omega) (by rw [kX sl (by omega) (by omega) (by omega)]; exact hc.2.2.1) (fun f hf => (key f hf).1) (fun f hf Z hZ => by
        have kZ : ∀ q, cel4 q → q ≠ 1 → Z q = X1 q := fun q a b => by rw [hZ q a, up_k _ _ _ b]
        have e : ∀ q, sl ≤ q → q ≤ sl + 7 → Z q = I q := fun q a b => by rw [kZ q (by unfold cel4; omega) (by omega)]; exact fX q (by omega) (by omega)
        have e20 : ∀ q, 20 ≤ q → q ≤ 20 + 3 → Z q = I q := fun q a b => by rw [kZ q (by unfold cel4; omega) (by omega)]; exact fX q (by omega) (by omega)
        obtain ⟨Z', z1, z2⟩ := reck_q (I := Z) (sl := sl) (sd := sd) (p := p) (w := w) (f := f) (cs := cs) (by omega) (by omega) ho (CC_c hc e) (WC_c hwc e20) hv (by omega) (by rw [kZ sd (by unfold cel4; omega) (by omega), y9]; exact x9) (by rw [kZ sd (by unfold cel4; omega) (by omega)]; exact y10) yl (fun i hi => by rw [kZ (sd + 7) (by unfold cel4; omega) (by omega)]; exact ycs i hi) s6 s7
        exact ⟨Z', z1, fun q a => by
          have a' := a
          unfold cel4 at a'
          rw [z2 q a'.1 a'.2.1 a'.2.2.1 a'.2.2.2]; exact hZ q a⟩)
      have eC : F_WF_ask sl sd R I = some (accQ kq (fun f => q_val (ptq p w f) (foq p w f) cs) (if kq < 2 then -1 else 0) (cF p), I1, m_up R 19 4 (some (8, 0, sd))) := by
        unfold F_WF_ask
        rw [if_neg et, s1]
        simp only [Option.bind_some]
        rw [if_neg (by decide), s4, a1]; rfl
      have k1 : ∀ q, cel4 q → q ≠ 1 → q ≠ 19 → (q < sd ∨ sd + 7 < q) → I1 q = I q := fun q a b c d => by rw [a2 q a]; exact kX q b c d
      have kI : ∀ q, 177 ≤ q → I1 q = I q := fun q hq' => k1 q (by unfold cel4; omega) (by omega) (by omega) (by omega)
      obtain ⟨S, q1, q2, q3, q4⟩ := ask_start (X := I1) (J := J) (tb := tb) n16 (by rw [kI 177 (by omega)]; exact e49) (by rw [kI 177 (by omega)]; exact t2) (fun j hj => by rw [kI 178 (by omega)]; exact ⟨(t3 j hj).1, (t3 j hj).2.1⟩) (fun q hq' j hj => by rw [kI q.1 (wds_ge q hq')]; exact hW q hq' j hj)
      obtain ⟨Y1, r1, r2, r3, r4⟩ := s8 S J q1
      have fP : fsL [(177, some 7), (177, some 8)] (m_up (m_up Y1 177 7 (Y1 177 5)) 177 8 (Y1 177 6)) Y1 := fs_up (LX := [(177, some 8)]) (by decide) (by decide) (fs_up (LX := [(177, some 7)]) (by decide) (by decide) (fs_r Y1))
      have p7 : m_up (m_up Y1 177 7 (Y1 177 5)) 177 8 (Y1 177 6) 177 7 = 0 := by rw [up_j _ _ _ (by decide), up_e]; exact r2.1
      have p8 : m_up (m_up Y1 177 7 (Y1 177 5)) 177 8 (Y1 177 6) 177 8 = -1 := by rw [up_e]; exact r2.2
      have e133 : F_MD_ask_133 Y1 J (nI kq) = F_MD_ask_173 (m_up (m_up Y1 177 7 (Y1 177 5)) 177 8 (Y1 177 6)) J (nI kq) (if kq < 2 then -1 else 0) := by
        unfold F_MD_ask_133
        rw [if_pos r2.1]
        by_cases z : kq < 2
        · rw [if_neg (show ¬ (2 : Int32) ≤ nI kq from nI_ge (b := 2) z (by decide)), if_pos z]
        · rw [if_pos (show (2 : Int32) ≤ nI kq from nI_le (a := 2) (by omega) (by omega)), if_neg z]
      generalize m_up (m_up Y1 177 7 (Y1 177 5)) 177 8 (Y1 177 6) = P at *
      have fPS : fsL ([(177, some 7), (177, some 8)] ++ LQ2 ++ LBq) P I1 := fs_tr (fs_sub (by decide) fP) (fs_tr (fs_sub (by decide) r4) (fs_sub (by decide) q2))
      have kP : ∀ q, ((([(177, some 7), (177, some 8)] ++ LQ2 ++ LBq)).all fun r => !(r.1 == q)) = true → 177 ≤ q → P q = I q := fun q a b => by rw [fs_k fPS a, kI q b]
      have hmP : CM P p := CM_c hm (fun k hk => by rcases hk with z | z | z <;> subst z <;> exact kP _ (by decide) (by decide))
      have hwP : WM P p w := WM_c ho hwm (fun j _ => by rw [kP 213 (by decide) (by decide)])
      obtain ⟨I2, J2, g1, g2, g3⟩ := ask173 (I := P) (k := kq) (F := cF p) (vv := fun f => q_val (ptq p w f) (foq p w f) cs) hk hF hmP.2.2.1 key (fun f hf Y JY hY => toldQ ho (WM_c ho hwP (fun j _ => by rw [fs_k hY (k := 213) (by decide)])) (CM_c hmP (fun k hk => by rcases hk with z | z | z <;> subst z <;> exact fs_k hY (by decide))) hv hf (by rw [hY 177 92 (by decide), fP 177 92 (by decide)]; exact r3.1) yl (fun i hi => by rw [fs_k hY (k := 244) (by decide), fs_k fP (k := 244) (by decide)]; exact r3.2 i hi) s6 s7 JY) (if kq < 2 then -1 else 0) J
      refine ⟨_, I1, _, I2, J2, eC, by rw [q4, r1, e133, g1], ⟨hq, p, w, kl, un, ?_⟩, Or.inr rfl⟩
      have fI1 : fsL (Dsq sd) I1 I := fs_tr (c4_q hq2 a2) (fs_tr (fs_sub d1 (fs_up (LX := [(1, some 1)]) (by decide) (by decide) (fs_r X1))) (FC_q hq2 fX))
      have k12 : ∀ q, q < 177 → I2 q = I1 q := fun q hq' => by
        rw [fs_k g2 (k := q) (by
          simp only [LA4, List.all_cons, List.all_nil, Bool.and_true, Bool.and_eq_true, Bool.not_eq_true', beq_eq_false_iff_ne]
          omega), fs_k fPS (k := q) (by
          simp only [LBq, LQ2, LQ, LM, LSt, List.cons_append, List.nil_append, List.all_cons, List.all_nil, Bool.and_true, Bool.and_eq_true, Bool.not_eq_true', beq_eq_false_iff_ne]
          omega)]
      have f2 : fsL (Dsq sd) I2 I := fs_tr (fs_sub dA g2) (fs_tr (fs_sub d7 fP) (fs_tr (fs_sub dQ r4) (fs_tr (fs_sub dB q2) fI1)))
      have i1 : I2 1 1 = 0 := by rw [k12 1 (by decide), a2 1 (by unfold cel4; omega), up_e]
      have i19 : ∀ j, I2 19 j = X1 19 j := fun j => by rw [k12 19 (by decide), a2 19 (by unfold cel4; omega), up_k _ _ _ (by decide)]
      refine Rel_q hs h f2 g3 i1 ?_ ⟨?_, ?_⟩
      · rw [g2 177 1 (by decide), fP 177 1 (by decide), r4 177 1 (by decide)]; exact q3
      · rw [i19, s5.1, g2 177 7 (by decide)]; exact p7.symm
      · rw [i19, s5.2, g2 177 8 (by decide)]; exact p8.symm
    · have fX : FC sd X1 I := FC_t s3 fX0
      have eC : F_WF_ask sl sd R I = some (-1000000000000000, m_up X1 1 1 0, m_up R 19 4 (some (8, 0, sd))) := by
        unfold F_WF_ask
        rw [if_neg et, s1]
        simp only [Option.bind_some]
        rw [if_pos trivial]
      have kI : ∀ q, 177 ≤ q → m_up X1 1 1 0 q = I q := fun q hq' => by rw [up_k _ _ _ (by omega)]; exact fX q (by omega) (by omega)
      have fI1 : fsL (Dsq sd) (m_up X1 1 1 0) I := fs_tr (fs_sub d1 (fs_up (LX := [(1, some 1)]) (by decide) (by decide) (fs_r X1))) (FC_q hq2 fX)
      have i11 : m_up X1 1 1 0 1 1 = 0 := up_e _ _ _ _
      have i119 : m_up X1 1 1 0 19 = X1 19 := up_k _ _ _ (by decide)
      generalize m_up X1 1 1 0 = I1 at *
      obtain ⟨S, q1, q2, q3, q4⟩ := ask_start (X := I1) (J := J) (tb := tb) n16 (by rw [kI 177 (by omega)]; exact e49) (by rw [kI 177 (by omega)]; exact t2) (fun j hj => by rw [kI 178 (by omega)]; exact ⟨(t3 j hj).1, (t3 j hj).2.1⟩) (fun q hq' j hj => by rw [kI q.1 (wds_ge q hq')]; exact hW q hq' j hj)
      obtain ⟨v, Y1, r1, r2, r4⟩ := s5 S J q1
      have fP : fsL [(177, some 7), (177, some 8)] (m_up (m_up Y1 177 7 (Y1 177 5)) 177 8 (Y1 177 6)) Y1 := fs_up (LX := [(177, some 8)]) (by decide) (by decide) (fs_up (LX := [(177, some 7)]) (by decide) (by decide) (fs_r Y1))
      have e133 : F_MD_ask_133 Y1 J v = some (-1000000000000000, m_up (m_up Y1 177 7 (Y1 177 5)) 177 8 (Y1 177 6), J) := by
        unfold F_MD_ask_133
        rw [if_neg (mf_ne r2 s4.1 s4.2)]
      have f2 : fsL (Dsq sd) (m_up (m_up Y1 177 7 (Y1 177 5)) 177 8 (Y1 177 6)) I := fs_tr (fs_sub d7 fP) (fs_tr (fs_sub dQ r4) (fs_tr (fs_sub dB q2) fI1))
      refine ⟨_, I1, _, _, J, eC, by rw [q4, r1, e133], ⟨hq, p, w, kl, un, Rel_q hs h f2 (fs_r J) ?_ ?_ ⟨?_, ?_⟩⟩, Or.inr rfl⟩
      · rw [up_k _ _ _ (by decide), up_k _ _ _ (by decide), fs_k r4 (k := 1) (by decide), fs_k q2 (k := 1) (by decide)]; exact i11
      · rw [up_j _ _ _ (by decide), up_j _ _ _ (by decide), r4 177 1 (by decide)]; exact q3
      · rw [up_k _ _ _ (by decide), up_k _ _ _ (by decide), fs_k r4 (k := 19) (by decide), fs_k q2 (k := 19) (by decide), i119, s2.1, up_j _ _ _ (by decide), up_e, r2.1]
      · rw [up_k _ _ _ (by decide), up_k _ _ _ (by decide), fs_k r4 (k := 19) (by decide), fs_k q2 (k := 19) (by decide), i119, s2.2, up_e, r2.2]
  · have et : f_Slope_isTold I sl = 0 := by rw [told_c ho hc, decide_eq_false c0]; rfl
    have e49 : I 177 49 = 0 := by rw [h49, decide_eq_false c0]; rfl
    refine ⟨-1000000000000000, m_up I 1 1 0, R, m_up (m_up I 1 1 0) 177 1 0, J, ?_, ?_, Rel_tp hr, Or.inl rfl⟩
    · unfold F_WF_ask
      rw [if_pos et]
    · unfold F_MD_ask
      rw [up_k _ _ _ (by decide), if_pos e49]
end LF5
