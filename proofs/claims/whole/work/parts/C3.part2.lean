/-! both sides read a part -/
section LC3
variable {I X Y Z : MI} {sd n e o tk : Nat} {b : Bool} {tb : Nat → Nat} {L : List Nat} {F : Option (Int32 × MI)}
theorem JP_bad1 (hq : sd = 3 ∨ sd = 11) (h : CE X sd tb n e b L tk) (hF : F = some (0, wrm X 1 (sk tb n e))) (k7 : ¬ kd tb n e b = 257) (k4 : ¬ kd tb n e b = 40) (w22 : ¬ wo tb n e b = some 22) (w23 : ¬ wo tb n e b = some 23) (q8 : q_o tk 8 10 (wo tb n e b) = none) (q0 : q_o tk 0 8 (wo tb n e b) = none) : JP F X sd tb n e b L tk o := by
  refine Or.inr ⟨1, sk tb n e, wrm X 1 (sk tb n e), hF, (CE_w hq h 1 _).1, (CE_w hq h 1 _).2, ⟨by decide, by decide⟩, fun v0 Y W K bs hY => ?_⟩
  have hN : nf tb n e b 0 9999 = some (1, sk tb n e) := by unfold nf; rw [if_neg k7]
  rcases pt_num hY k4 w22 w23 q8 q0 with ⟨g1, -⟩ | ⟨k, at', Y1, g1, g2, g3, g4, g5, g6⟩
  · rw [hN] at g1; cases g1
  · rw [hN] at g1
    cases g1
    exact ⟨Y1, KP_F hY.1.1.1 (mf_ne g3.1 g5 g6) g2, g3, g4⟩
/-- a number -/
theorem JP_num (hq : sd = 3 ∨ sd = 11) (h : CE X sd tb n e b L tk) (ho : o ≤ 6) (k7 : kd tb n e b = 257) (rc : Nat → MI → Int32 → Option (Int32 × MI)) : JP (F_Reader_part sd rc X (nI o)) X sd tb n e b L tk o := by
  have hb : ∀ j, j < n → tb j < 256 := fun j hj => (h.1.1.2.2.1 j hj).1
  have wn := wo_n (tb := tb) (n := n) (e := e) (b := b) (by omega)
  have e6 : X 19 6 = 257 := (kd_is h.1 (by decide) (show (257 : Int32) = nI 257 from rfl)).mpr k7
  obtain ⟨d1, d2, d3⟩ := digs hb h.1.2.2 k7
  obtain ⟨⟨r1, V⟩, ev, v1, v2⟩ := num_c (sd := sd) h.1 (a := 0) (m := 9999) (by decide) (by decide)
  have ev : F_Reader_number sd X 0 9999 = some (r1, V) := ev
  have v1 : fsL LN V X := v1
  unfold F_Reader_part
  rw [if_pos e6, ev]
  simp only [Option.bind_some]
  rcases v2 with ⟨g1, g2, g3, g4, g5⟩ | ⟨k, at', g1, g2, g3⟩
  · have g2 : r1 = 1 := g2
    have g4 : V 19 10 = nI (n_val tb n e) := g4
    have g3 : RS V tb n (tke tb n e) true := g3
    have nv : n_val tb n e ≤ 9999 := by
      unfold nf at g1
      rw [if_pos k7] at g1
      split at g1
      · split at g1
        · rename_i z; exact z.2
        · cases g1
      · cases g1
    have sg := sk_ge (tb := tb) (n := n) e
    have cV := CE_m hq h g3 v1 (by omega)
    obtain ⟨U, u1, u2, u3⟩ := emit_n hq cV (by have := h.2.1.2.2; omega) (1000 + n_val tb n e)
    rw [tau_n (by omega)] at u1
    left
    refine ⟨tke tb n e, true, [1000 + n_val tb n e], U, ?_, u2, FX_t u3 (FX_N v1), by simp; omega, by omega, ty_n nv (by omega), alk_1 (by omega), fun v0 Y W K bs hY => ?_⟩
    · rw [g2, if_neg (by decide), g4, u1]
      simp only [Option.bind_some]
      rw [if_neg (by decide)]
    · rcases pt_num hY (by omega) (by rw [wn]; decide) (by rw [wn]; decide) (by rw [wn]; exact q_o_n _ _ _) (by rw [wn]; exact q_o_n _ _ _) with ⟨-, Y1, y1, y2, y3⟩ | ⟨k, at', Y1, y1, -⟩
      · exact ⟨Y1, KP_E hY.1.1.1 y2.1.1.1 y1, y2, y3⟩
      · rw [g1] at y1; cases y1
  · have g2 : r1 = 0 := g2
    have g3 : FTt V k at' := g3
    right
    have kk : 1 ≤ k ∧ k < 100 := by
      unfold nf at g1
      repeat' split at g1
      all_goals first | (cases g1; done) | (cases g1; omega)
    refine ⟨k, at', V, by rw [g2, if_pos rfl], g3, FX_N v1, kk, fun v0 Y W K bs hY => ?_⟩
    rcases pt_num hY (by omega) (by rw [wn]; decide) (by rw [wn]; decide) (by rw [wn]; exact q_o_n _ _ _) (by rw [wn]; exact q_o_n _ _ _) with ⟨y1, -⟩ | ⟨k2, at2, Y1, y1, y2, y3, y4, y5, y6⟩
    · rw [g1] at y1; cases y1
    · rw [g1] at y1
      cases y1
      exact ⟨Y1, KP_F hY.1.1.1 (mf_ne y3.1 y5 y6) y2, y3, y4⟩
theorem RE_o {W K : List Nat} {bs : Nat} (h : RE Y tb n e b W K o bs tk) : bs ≤ W.length := h.2.2.2.2.1
/-- ( SUM ) -/
theorem JP_par (hq : sd = 3 ∨ sd = 11) (h : CE X sd tb n e b L tk) (ho : o ≤ 6) (k4 : kd tb n e b = 40) {rc : Nat → MI → Int32 → Option (Int32 × MI)} (hrs : ∀ X e b L, o < 6 → CE X sd tb n e b L tk → JS true (rc 3 X (nI (o + 1))) X sd tb n e b L tk (o + 1)) : JP (F_Reader_part sd rc X (nI o)) X sd tb n e b L tk o := by
  have hb : ∀ j, j < n → tb j < 256 := fun j hj => (h.1.1.2.2.1 j hj).1
  obtain ⟨ql, -, -, -, te1⟩ := kd_sign (e := e) (b := b) (tb := tb) (n := n) (by omega)
  have sg := sk_ge (tb := tb) (n := n) e
  have e6 : X 19 6 = 40 := (kd_is h.1 (by decide) (show (40 : Int32) = nI 40 from rfl)).mpr k4
  unfold F_Reader_part
  rw [if_neg (by rw [e6]; decide), if_pos e6, nI_s]
  rcases opens_c (sd := sd) (o := o) h.1 ho ql with ⟨g1, g2⟩ | ⟨g1, V, g2, g3, g4⟩
  · right
    refine ⟨4, sk tb n e, wrm X 4 (sk tb n e), by rw [g2]; rfl, (CE_w hq h 4 _).1, (CE_w hq h 4 _).2, ⟨by decide, by decide⟩, fun v0 Y W K bs hY => ?_⟩
    rcases pt_open hY k4 with ⟨-, Y1, y1, y2, y3⟩ | ⟨z, -⟩
    · exact ⟨Y1, KP_F hY.1.1.1 (mf_ne y2.1 (by decide) (by decide)) y1, y2, y3⟩
    · omega
  · rw [g2]
    simp only [Option.bind_some]
    rw [if_neg (by decide)]
    rw [te1, k4] at g3
    have g3 : RS V tb n (sk tb n e + 1) false := g3
    have cV := CE_m hq h g3 (fs_sub (by decide) g4) (by omega)
    have opY : ∀ v0 Y W K bs, RE Y tb n e b W K o bs tk → ∃ Y1, KP v0 Y = KP v0 Y1 ∧ RE Y1 tb n (sk tb n e + 1) false (W ++ [20]) K (o + 1) bs tk ∧ fsL LQ Y1 Y := by
      intro v0 Y W K bs hY
      rcases pt_open hY k4 with ⟨z, -⟩ | ⟨-, Y1, y1, y2, y3⟩
      · omega
      · exact ⟨Y1, KP_c hY.1.1.1 y2.1.1.1 y1, y2, y3⟩
    have tp20 : ∀ W : List Nat, ¬ tp (fun x => ((if true = true then 1 else 3) ≤ x ∧ x ≤ 4) ∨ 60 ≤ x) (W ++ [20]) := fun W z => by have := tp_a.mp z; simp at this
    rcases hrs V _ _ _ g1 cV with ⟨e1, b1, cs, X1, s1, s2, s3, s4, s5, s6, s7, s8, s9⟩ | ⟨k, at', X1, s1, s2, s3, s4, s5⟩
    · rw [s1]
      simp only [Option.bind_some]
      rw [if_neg (by decide)]
      obtain ⟨r, er, hr⟩ := need_c (sd := sd) s2.1 (c := 41) (by decide)
      have er : F_Reader_need sd X1 41 = some r := er
      rw [er]
      simp only [Option.bind_some]
      have sg1 := sk_ge (tb := tb) (n := n) e1
      rcases hr with ⟨c1, c2, c3, c4⟩ | ⟨c1, c2⟩
      · left
        refine ⟨sk tb n e1 + 1, false, cs, r.2, by rw [c2, if_neg (by decide)], CE_m hq s2 c3 (fs_sub (by decide) c4) (by omega), FX_t (FX_R c4) (FX_t s3 (FX_R g4)), by omega, by omega, tyk_l s6 (by simp; omega), s7, fun v0 Y W K bs hY => ?_⟩
        obtain ⟨Y1, y1, y2, y3⟩ := opY v0 Y W K bs hY
        obtain ⟨Y2, S, ks, z1, z2, z3, z4, z5⟩ := s9 v0 Y1 _ _ bs y2 (tp20 W)
        obtain ⟨Y3, w1, w2, w3⟩ := go_close (v0 := v0) z2 c1 (Or.inl rfl) z3 (RE_o hY)
        refine ⟨Y3, (y1.trans z1).trans w1, ?_, fs_tr w3 (fs_tr z5 y3)⟩
        have : cl 20 = [] := rfl
        rw [this, List.append_nil, List.append_assoc, ← z4] at w2
        exact w2
      · right
        subst c2
        refine ⟨1, sk tb n e1, wrm X1 1 (sk tb n e1), rfl, wrm_t X1 1 _, FX_t (FX_N (wrm_f 1 _ (by decide))) (FX_t s3 (FX_R g4)), ⟨by decide, by decide⟩, fun v0 Y W K bs hY => ?_⟩
        obtain ⟨Y1, y1, y2, y3⟩ := opY v0 Y W K bs hY
        obtain ⟨Y2, S, ks, z1, z2, z3, z4, z5⟩ := s9 v0 Y1 _ _ bs y2 (tp20 W)
        obtain ⟨Y3, w1, w2, w3⟩ := go_fail (v0 := v0) z2 ⟨s8.1, s8.2.1, (s8.2.2 rfl).1, (s8.2.2 rfl).2⟩ c1 (Or.inl rfl) z3 (RE_o hY)
        exact ⟨Y3, (y1.trans z1).trans w1, w2, fs_tr w3 (fs_tr z5 y3)⟩
    · right
      refine ⟨k, at', X1, by rw [s1]; rfl, s2, FX_t s3 (FX_R g4), s4, fun v0 Y W K bs hY => ?_⟩
      obtain ⟨Y1, y1, y2, y3⟩ := opY v0 Y W K bs hY
      obtain ⟨Y2, z1, z2, z3⟩ := s5 v0 Y1 _ _ bs y2 (tp20 W)
      exact ⟨Y2, y1.trans z1, z2, fs_tr z3 y3⟩
/-- min, max -/
theorem JP_min (hq : sd = 3 ∨ sd = 11) (h : CE X sd tb n e b L tk) (ho : o ≤ 6) {mm : Nat} (hm : mm = 22 ∨ mm = 23) (hw : wo tb n e b = some mm) {rc : Nat → MI → Int32 → Option (Int32 × MI)} (hrs : ∀ X e b L, o < 6 → CE X sd tb n e b L tk → JS true (rc 3 X (nI (o + 1))) X sd tb n e b L tk (o + 1)) : JP (F_Reader_part_133 sd rc X (nI o) (nI mm)) X sd tb n e b L tk o := by
  have hb : ∀ j, j < n → tb j < 256 := fun j hj => (h.1.1.2.2.1 j hj).1
  have k256 : kd tb n e b = 256 := (wo_s.mp hw).2.1
  obtain ⟨ql, -⟩ := (kd_256 hb).mp k256
  have tg := tke_gt ql
  have sg := sk_ge (tb := tb) (n := n) e
  obtain ⟨A, ea, a1, a2⟩ := word_x (sd := sd) h.1 k256
  have cA := CE_m hq h a1 (fs_sub (by decide) a2) (by omega)
  have sgA := sk_ge (tb := tb) (n := n) (tke tb n e)
  unfold F_Reader_part_133
  rw [ea]
  simp only [Option.bind_some]
  by_cases c : kd tb n (tke tb n e) true = 40
  · have e6 : A 19 6 = 40 := (kd_is a1 (by decide) (show (40 : Int32) = nI 40 from rfl)).mpr c
    obtain ⟨ql1, -, -, -, te1⟩ := kd_sign (e := tke tb n e) (b := true) (tb := tb) (n := n) (by omega)
    rw [if_pos e6]
    unfold F_Reader_part_158
    rw [nI_s]
    rcases opens_c (sd := sd) (o := o) a1 ho ql1 with ⟨g1, g2⟩ | ⟨g1, V, g2, g3, g4⟩
    · right
      refine ⟨4, sk tb n (tke tb n e), wrm A 4 (sk tb n (tke tb n e)), by rw [g2]; rfl, wrm_t A 4 _, FX_t (FX_N (wrm_f 4 _ (by decide))) (FX_R a2), ⟨by decide, by decide⟩, fun v0 Y W K bs hY => ?_⟩
      rcases pt_min hY hm hw with ⟨-, -, Y1, y1, y2, y3⟩ | ⟨-, z, -⟩ | ⟨z, -⟩
      · exact ⟨Y1, KP_F hY.1.1.1 (mf_ne y2.1 (by decide) (by decide)) y1, y2, y3⟩
      · omega
      · exact absurd c z
    · rw [g2]
      simp only [Option.bind_some]
      rw [if_neg (by decide)]
      rw [te1, c] at g3
      have g3 : RS V tb n (sk tb n (tke tb n e) + 1) false := g3
      have cV := CE_m hq cA g3 (fs_sub (by decide) g4) (by omega)
      have fV : FX sd V X := FX_t (FX_R g4) (FX_R a2)
      have opY : ∀ v0 Y W K bs, RE Y tb n e b W K o bs tk → ∃ Y1, KP v0 Y = KP v0 Y1 ∧ RE Y1 tb n (sk tb n (tke tb n e) + 1) false (W ++ [mm - 1]) K (o + 1) bs tk ∧ fsL LQ Y1 Y := by
        intro v0 Y W K bs hY
        rcases pt_min hY hm hw with ⟨-, z, -⟩ | ⟨-, -, Y1, y1, y2, y3⟩ | ⟨z, -⟩
        · omega
        · exact ⟨Y1, KP_c hY.1.1.1 y2.1.1.1 y1, y2, y3⟩
        · exact absurd c z
      have tpb : ∀ (W : List Nat) (x : Nat), 20 ≤ x → x < 60 → ¬ tp (fun x => ((if true = true then 1 else 3) ≤ x ∧ x ≤ 4) ∨ 60 ≤ x) (W ++ [x]) := fun W x x1 x2 z => by have := tp_a.mp z; simp at this; omega
      rcases hrs V _ _ _ g1 cV with ⟨e1, b1, cs, X1, s1, s2, s3, s4, s5, s6, s7, s8, s9⟩ | ⟨k, at', X1, s1, s2, s3, s4, s5⟩
      · rw [s1]
        simp only [Option.bind_some]
        rw [if_neg (by decide)]
        obtain ⟨r, er, hr⟩ := need_c (sd := sd) s2.1 (c := 44) (by decide)
        have er : F_Reader_need sd X1 44 = some r := er
        rw [er]
        simp only [Option.bind_some]
        have sg1 := sk_ge (tb := tb) (n := n) e1
        rcases hr with ⟨c1, c2, c3, c4⟩ | ⟨c1, c2⟩
        · rw [c2, if_neg (by decide)]
          have cR := CE_m hq s2 c3 (fs_sub (by decide) c4) (by omega)
          have fR : FX sd r.2 X := FX_t (FX_R c4) (FX_t s3 fV)
          have mid : ∀ v0 Y W K bs, RE Y tb n e b W K o bs tk → ∃ Y1, KP v0 Y = KP v0 Y1 ∧ RE Y1 tb n (sk tb n e1 + 1) false (W ++ [mm + 1]) (K ++ cs) (o + 1) bs tk ∧ fsL LQ Y1 Y := by
            intro v0 Y W K bs hY
            obtain ⟨Y1, y1, y2, y3⟩ := opY v0 Y W K bs hY
            obtain ⟨Y2, S, ks, z1, z2, z3, z4, z5⟩ := s9 v0 Y1 _ _ bs y2 (tpb W _ (by omega) (by omega))
            rcases go_comma (v0 := v0) z2 ⟨s8.1, s8.2.1, (s8.2.2 rfl).1, (s8.2.2 rfl).2⟩ (by omega) z3 (RE_o hY) with ⟨-, Y3, w1, w2, w3⟩ | ⟨z, -⟩
            · refine ⟨Y3, (y1.trans z1).trans w1, ?_, fs_tr w3 (fs_tr z5 y3)⟩
              rw [show mm - 1 + 2 = mm + 1 by omega, List.append_assoc, ← z4] at w2
              exact w2
            · exact absurd c1 z
          rcases hrs r.2 _ _ _ g1 cR with ⟨e2, b2, ds, X2, t1, t2, t3, t4, t5, t6, t7, t8, t9⟩ | ⟨k, at', X2, t1, t2, t3, t4, t5⟩
          · rw [t1]
            simp only [Option.bind_some]
            rw [if_neg (by decide)]
            obtain ⟨q, eq, hqq⟩ := need_c (sd := sd) t2.1 (c := 41) (by decide)
            have eq : F_Reader_need sd X2 41 = some q := eq
            rw [eq]
            simp only [Option.bind_some]
            have sg2 := sk_ge (tb := tb) (n := n) e2
            rcases hqq with ⟨d1, d2, d3, d4⟩ | ⟨d1, d2⟩
            · rw [d2, if_neg (by decide)]
              have cQ := CE_m hq t2 d3 (fs_sub (by decide) d4) (by omega)
              have fQ : FX sd q.2 X := FX_t (FX_R d4) (FX_t t3 fR)
              left
              have mc : ∃ mc, (mc = 5 ∨ mc = 6) ∧ cl (mm + 1) = [mc] ∧ nI (q_tau mc) = (if nI mm = 22 then 20007 else 20008) := by
                rcases hm with z | z <;> subst z
                · exact ⟨5, Or.inl rfl, rfl, by decide⟩
                · exact ⟨6, Or.inr rfl, rfl, by decide⟩
              obtain ⟨mc, m1, m2, m3⟩ := mc
              obtain ⟨U, u1, u2, u3⟩ := emit_n hq cQ (by have := t2.2.1.2.2; omega) mc
              refine ⟨sk tb n e2 + 1, false, cs ++ ds ++ [mc], U, ?_, by simpa [List.append_assoc] using u2, FX_t u3 fQ, by simp; omega, by omega, ?_, alk_a (alk_a s7 t7) (alk_1 (by omega)), fun v0 Y W K bs hY => ?_⟩
              · rw [m3] at u1
                by_cases z : nI mm = 22
                · rw [if_pos z] at u1 ⊢
                  rw [u1]; rfl
                · rw [if_neg z] at u1 ⊢
                  rw [u1]; rfl
              · have s6 : tyk false (20 + 8 * (o + 1)) cs := s6
                have t6 : tyk false (20 + 8 * (o + 1)) ds := t6
                exact tyk_2 (m := 22 + 8 * o) (tyk_l s6 (by omega)) t6 (by omega) (fun t _ => ty_b (by omega) (by omega) t)
              · obtain ⟨Y1, y1, y2, y3⟩ := mid v0 Y W K bs hY
                obtain ⟨Y2, S, ks, z1, z2, z3, z4, z5⟩ := t9 v0 Y1 _ _ bs y2 (tpb W _ (by omega) (by omega))
                obtain ⟨Y3, w1, w2, w3⟩ := go_close (v0 := v0) z2 d1 (by omega) z3 (RE_o hY)
                refine ⟨Y3, (y1.trans z1).trans w1, ?_, fs_tr w3 (fs_tr z5 y3)⟩
                rw [m2] at w2
                have e1 : K ++ cs ++ ks ++ S.reverse ++ [mc] = K ++ (cs ++ ds ++ [mc]) := by rw [z4]; simp
                rw [e1] at w2
                exact w2
            · right
              subst d2
              refine ⟨1, sk tb n e2, wrm X2 1 (sk tb n e2), rfl, wrm_t X2 1 _, FX_t (FX_N (wrm_f 1 _ (by decide))) (FX_t t3 fR), ⟨by decide, by decide⟩, fun v0 Y W K bs hY => ?_⟩
              obtain ⟨Y1, y1, y2, y3⟩ := mid v0 Y W K bs hY
              obtain ⟨Y2, S, ks, z1, z2, z3, z4, z5⟩ := t9 v0 Y1 _ _ bs y2 (tpb W _ (by omega) (by omega))
              obtain ⟨Y3, w1, w2, w3⟩ := go_fail (v0 := v0) z2 ⟨t8.1, t8.2.1, (t8.2.2 rfl).1, (t8.2.2 rfl).2⟩ d1 (by omega) z3 (RE_o hY)
              exact ⟨Y3, (y1.trans z1).trans w1, w2, fs_tr w3 (fs_tr z5 y3)⟩
          · right
            refine ⟨k, at', X2, by rw [t1]; rfl, t2, FX_t t3 fR, t4, fun v0 Y W K bs hY => ?_⟩
            obtain ⟨Y1, y1, y2, y3⟩ := mid v0 Y W K bs hY
            obtain ⟨Y2, z1, z2, z3⟩ := t5 v0 Y1 _ _ bs y2 (tpb W _ (by omega) (by omega))
            exact ⟨Y2, y1.trans z1, z2, fs_tr z3 y3⟩
        · right
          subst c2
          refine ⟨1, sk tb n e1, wrm X1 1 (sk tb n e1), rfl, wrm_t X1 1 _, FX_t (FX_N (wrm_f 1 _ (by decide))) (FX_t s3 fV), ⟨by decide, by decide⟩, fun v0 Y W K bs hY => ?_⟩
          obtain ⟨Y1, y1, y2, y3⟩ := opY v0 Y W K bs hY
          obtain ⟨Y2, S, ks, z1, z2, z3, z4, z5⟩ := s9 v0 Y1 _ _ bs y2 (tpb W _ (by omega) (by omega))
          rcases go_comma (v0 := v0) z2 ⟨s8.1, s8.2.1, (s8.2.2 rfl).1, (s8.2.2 rfl).2⟩ (by omega) z3 (RE_o hY) with ⟨z, -⟩ | ⟨-, Y3, w1, w2, w3⟩
          · exact absurd z c1
          · exact ⟨Y3, (y1.trans z1).trans w1, w2, fs_tr w3 (fs_tr z5 y3)⟩
      · right
        refine ⟨k, at', X1, by rw [s1]; rfl, s2, FX_t s3 fV, s4, fun v0 Y W K bs hY => ?_⟩
        obtain ⟨Y1, y1, y2, y3⟩ := opY v0 Y W K bs hY
        obtain ⟨Y2, z1, z2, z3⟩ := s5 v0 Y1 _ _ bs y2 (tpb W _ (by omega) (by omega))
        exact ⟨Y2, y1.trans z1, z2, fs_tr z3 y3⟩
  · right
    have e6 : ¬ A 19 6 = 40 := fun z => c ((kd_is a1 (by decide) (show (40 : Int32) = nI 40 from rfl)).mp z)
    refine ⟨1, sk tb n (tke tb n e), wrm A 1 (sk tb n (tke tb n e)), ?_, wrm_t A 1 _, FX_t (FX_N (wrm_f 1 _ (by decide))) (FX_R a2), ⟨by decide, by decide⟩, fun v0 Y W K bs hY => ?_⟩
    · rw [if_neg e6, a1.2.1.2.1, show (1 : Int32) = nI 1 from rfl, wrong_e]; rfl
    · rcases pt_min hY hm hw with ⟨z, -⟩ | ⟨z, -⟩ | ⟨-, Y1, y1, y2, y3⟩
      · exact absurd z c
      · exact absurd z c
      · exact ⟨Y1, KP_F hY.1.1.1 (mf_ne y2.1 (by decide) (by decide)) y1, y2, y3⟩
end LC3
