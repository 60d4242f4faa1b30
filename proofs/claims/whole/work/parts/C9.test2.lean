/-! both sides read a test -/
section LC9
variable {I X Y Z : MI} {sd n e o tk : Nat} {b : Bool} {tb : Nat → Nat} {L : List Nat} {F : Option (Int32 × MI)}
theorem fact_j (hq : sd = 3 ∨ sd = 11) (h : CE X sd tb n e b L tk) (ho : o ≤ 6) {rc : Nat → MI → Int32 → Option (Int32 × MI)} (hrs : ∀ X e b L, CE X sd tb n e b L tk → JS true (rc 3 X (nI o)) X sd tb n e b L tk o) (hrf : ∀ X e b L, o < 6 → CE X sd tb n e b L tk → JF (rc 2 X (nI (o + 1))) X sd tb n e b L tk (o + 1)) (hrt : ∀ X e b L, o < 6 → CE X sd tb n e b L tk → JB true (rc 0 X (nI (o + 1))) X sd tb n e b L tk (o + 1)) : JF (F_Reader_fact sd rc X (nI o)) X sd tb n e b L tk o := by
  have hb : ∀ j, j < n → tb j < 256 := fun j hj => (h.1.1.2.2.1 j hj).1
  have i20 : F_Reader_isWord sd X 20 = _ := isw_w (sd := sd) h.1 (i := 20) (by decide)
  have i21 : F_Reader_isWord sd X 21 = _ := isw_w (sd := sd) h.1 (i := 21) (by decide)
  have sg := sk_ge (tb := tb) (n := n) e
  by_cases w20 : wo tb n e b = some 20
  · -- not
    have k256 := (wo_s.mp w20).2.1
    obtain ⟨ql, -⟩ := (kd_256 hb).mp k256
    have tg := tke_gt ql
    unfold F_Reader_fact
    rw [i20]
    simp only [Option.bind_some]
    rw [bI_if, if_pos w20, nI_s]
    rcases opens_c (sd := sd) (o := o) h.1 ho ql with ⟨g1, g2⟩ | ⟨g1, V, g2, g3, g4⟩
    · right
      refine ⟨4, sk tb n e, wrm X 4 (sk tb n e), by rw [g2]; rfl, (CE_w hq h 4 _).1, (CE_w hq h 4 _).2, ⟨by decide, by decide⟩, fun Y W K bs hY hW => ?_⟩
      rcases KT_not hY w20 with ⟨-, Y1, y1, y2, y3⟩ | ⟨z, -⟩
      · exact ⟨Y1, y1, y2, fs_sub (by decide) y3⟩
      · omega
    · rw [g2]
      simp only [Option.bind_some]
      rw [if_neg (by decide)]
      rw [k256] at g3
      have g3 : RS V tb n (tke tb n e) true := g3
      have cV := CE_m hq h g3 (fs_sub (by decide) g4) (by omega)
      have opY : ∀ Y W K bs, RE Y tb n e b W K o bs tk → ∃ Y1, KT Y = KT Y1 ∧ RE Y1 tb n (tke tb n e) true (W ++ [12]) K (o + 1) bs tk ∧ fsL LQ Y1 Y := by
        intro Y W K bs hY
        rcases KT_not hY w20 with ⟨z, -⟩ | ⟨-, Y1, y1, y2, y3⟩
        · omega
        · exact ⟨Y1, y1, y2, y3⟩
      rcases hrf V _ _ _ g1 cV with ⟨e1, b1, cs, X1, s1, s2, s3, s4, s5, s6, s7, s9⟩ | ⟨k2, at', X1, s1, s2, s3, s4, s5⟩
      · obtain ⟨U, u1, u2, u3⟩ := emit_n hq s2 (by rw [List.length_append]; have := h.2.1.2.2; omega) 12
        have u1 : F_Reader_emit sd X1 30000 = some (1, U) := u1
        rw [s1]
        simp only [Option.bind_some]
        rw [if_neg (by decide), u1]
        simp only [Option.bind_some]
        rw [if_neg (by decide)]
        left
        refine ⟨e1, b1, cs ++ [12], U, rfl, by simpa [List.append_assoc] using u2, FX_t u3 (FX_t s3 (FX_R g4)), by simp; omega, by omega, tyk_a (tyk_l s6 (by omega)) (fun t _ => ty_12 t), alk_a s7 (alk_1 (by omega)), fun Y W K bs hY hW => ?_⟩
        obtain ⟨Y1, y1, y2, y3⟩ := opY Y W K bs hY
        obtain ⟨Y2, z1, z2, z3⟩ := s9 Y1 _ _ bs y2 (sW_a hW (by omega))
        obtain ⟨Y3, v1, v2, v3⟩ := dn_1 z2 (RE_o hY)
        exact ⟨Y3, (y1.trans z1).trans v1, by simpa [List.append_assoc] using v2, fs_tr (fs_sub (by decide) v3) (fs_tr z3 (fs_sub (by decide) y3))⟩
      · right
        refine ⟨k2, at', X1, by rw [s1]; rfl, s2, FX_t s3 (FX_R g4), s4, fun Y W K bs hY hW => ?_⟩
        obtain ⟨Y1, y1, y2, y3⟩ := opY Y W K bs hY
        obtain ⟨Y2, z1, z2, z3⟩ := s5 Y1 _ _ bs y2 (sW_a hW (by omega))
        exact ⟨Y2, y1.trans z1, z2, fs_tr z3 (fs_sub (by decide) y3)⟩
  by_cases k91 : kd tb n e b = 91
  · -- [
    obtain ⟨ql, -, -, -, te1⟩ := kd_sign (e := e) (b := b) (tb := tb) (n := n) (by omega)
    have e6 : X 19 6 = 91 := (kd_is h.1 (by decide) (show (91 : Int32) = nI 91 from rfl)).mpr k91
    unfold F_Reader_fact
    rw [i20]
    simp only [Option.bind_some]
    rw [bI_if, if_neg w20, if_pos e6, nI_s]
    rcases opens_c (sd := sd) (o := o) h.1 ho ql with ⟨g1, g2⟩ | ⟨g1, V, g2, g3, g4⟩
    · right
      refine ⟨4, sk tb n e, wrm X 4 (sk tb n e), by rw [g2]; rfl, (CE_w hq h 4 _).1, (CE_w hq h 4 _).2, ⟨by decide, by decide⟩, fun Y W K bs hY hW => ?_⟩
      rcases KT_sq hY k91 with ⟨-, Y1, y1, y2, y3⟩ | ⟨z, -⟩
      · exact ⟨Y1, y1, y2, fs_sub (by decide) y3⟩
      · omega
    · rw [g2]
      simp only [Option.bind_some]
      rw [if_neg (by decide)]
      rw [te1, k91] at g3
      have g3 : RS V tb n (sk tb n e + 1) false := g3
      have cV := CE_m hq h g3 (fs_sub (by decide) g4) (by omega)
      have opY : ∀ Y W K bs, RE Y tb n e b W K o bs tk → ∃ Y1, KT Y = KT Y1 ∧ RE Y1 tb n (sk tb n e + 1) false (W ++ [25]) K (o + 1) bs tk ∧ fsL LQ Y1 Y := by
        intro Y W K bs hY
        rcases KT_sq hY k91 with ⟨z, -⟩ | ⟨-, Y1, y1, y2, y3⟩
        · omega
        · exact ⟨Y1, y1, y2, y3⟩
      have tp25 : ∀ W : List Nat, ¬ tp (fun x => x = 12 ∨ x = 10 ∨ (true = true ∧ x = 11)) (W ++ [25]) := fun W z => by have := tp_a.mp z; simp at this
      rcases hrt V _ _ _ g1 cV with ⟨e1, b1, cs, X1, s1, s2, s3, s4, s5, s6, s7, s8, s9⟩ | ⟨k, at', X1, s1, s2, s3, s4, s5⟩
      · rw [s1]
        simp only [Option.bind_some]
        rw [if_neg (by decide)]
        obtain ⟨r, er, hr⟩ := need_c (sd := sd) s2.1 (c := 93) (by decide)
        have er : F_Reader_need sd X1 93 = some r := er
        rw [er]
        simp only [Option.bind_some]
        have sg1 := sk_ge (tb := tb) (n := n) e1
        rcases hr with ⟨c1, c2, c3, c4⟩ | ⟨c1, c2⟩
        · left
          refine ⟨sk tb n e1 + 1, false, cs, r.2, by rw [c2, if_neg (by decide)], CE_m hq s2 c3 (fs_sub (by decide) c4) (by omega), FX_t (FX_R c4) (FX_t s3 (FX_R g4)), by omega, by omega, tyk_l s6 (by simp; omega), s7, fun Y W K bs hY hW => ?_⟩
          obtain ⟨Y1, y1, y2, y3⟩ := opY Y W K bs hY
          obtain ⟨Y2, S, ks, z1, z2, z3, z4, z5⟩ := s9 Y1 _ _ bs y2 (sW_a hW (by omega)) (tp25 W)
          obtain ⟨Y3, w1, w2, w3⟩ := KH_sq z2 c1 z3 (RE_o hY)
          refine ⟨Y3, (y1.trans z1).trans w1, ?_, fs_tr (fs_sub (by decide) w3) (fs_tr z5 (fs_sub (by decide) y3))⟩
          rw [List.append_assoc, ← z4] at w2
          exact w2
        · right
          subst c2
          refine ⟨1, sk tb n e1, wrm X1 1 (sk tb n e1), rfl, wrm_t X1 1 _, FX_t (FX_N (wrm_f 1 _ (by decide))) (FX_t s3 (FX_R g4)), ⟨by decide, by decide⟩, fun Y W K bs hY hW => ?_⟩
          obtain ⟨Y1, y1, y2, y3⟩ := opY Y W K bs hY
          obtain ⟨Y2, S, ks, z1, z2, z3, z4, z5⟩ := s9 Y1 _ _ bs y2 (sW_a hW (by omega)) (tp25 W)
          rcases KH_no z2 (Or.inl c1) s8.1 (s8.2 rfl) with ⟨-, Y3, w1, w2, w3⟩ | ⟨z, -⟩
          · exact ⟨Y3, (y1.trans z1).trans w1, w2, fs_tr (fs_sub (by decide) w3) (fs_tr z5 (fs_sub (by decide) y3))⟩
          · exact absurd (List.mem_append_left _ (List.mem_append_right _ (List.mem_singleton.mpr rfl))) z
      · right
        refine ⟨k, at', X1, by rw [s1]; rfl, s2, FX_t s3 (FX_R g4), s4, fun Y W K bs hY hW => ?_⟩
        obtain ⟨Y1, y1, y2, y3⟩ := opY Y W K bs hY
        obtain ⟨Y2, z1, z2, z3⟩ := s5 Y1 _ _ bs y2 (sW_a hW (by omega)) (tp25 W)
        exact ⟨Y2, y1.trans z1, z2, fs_tr z3 (fs_sub (by decide) y3)⟩
  by_cases w21 : wo tb n e b = some 21
  · -- all
    have k256 := (wo_s.mp w21).2.1
    obtain ⟨ql, -⟩ := (kd_256 hb).mp k256
    have tg := tke_gt ql
    have n6 : ¬ X 19 6 = 91 := fun z => k91 ((kd_is h.1 (by decide) (show (91 : Int32) = nI 91 from rfl)).mp z)
    obtain ⟨A, ea, a1, a2⟩ := word_x (sd := sd) h.1 k256
    have cA := CE_m hq h a1 (fs_sub (by decide) a2) (by omega)
    obtain ⟨U, u1, u2, u3⟩ := emit_n hq cA (by have := h.2.1.2.2; omega) 13
    have u1 : F_Reader_emit sd A 1 = some (1, U) := u1
    unfold F_Reader_fact
    rw [i20]
    simp only [Option.bind_some]
    rw [bI_if, if_neg w20, if_neg n6, i21]
    simp only [Option.bind_some]
    rw [bI_if, if_pos w21, ea]
    simp only [Option.bind_some]
    rw [u1]
    simp only [Option.bind_some]
    rw [gq_e (Or.inr trivial)]
    left
    refine ⟨tke tb n e, true, [13], U, rfl, u2, FX_t u3 (FX_R a2), by simp; omega, by omega, ty_13 (by omega), alk_1 (by omega), fun Y W K bs hY hW => ?_⟩
    obtain ⟨Y1, y1, y2, y3⟩ := KT_all hY w21
    exact ⟨Y1, y1, y2, fs_sub (by decide) y3⟩
  · exact fact_c hq h ho w20 w21 k91 hrs
theorem anS_w {t : Bool} {S : List Nat} (h : anS t S) : anS true S := fun x hx => by
  rcases h x hx with z | z
  · exact Or.inl z
  · exact Or.inr ⟨rfl, z.2⟩
/-- and .. -/
theorem both_l (hq : sd = 3 ∨ sd = 11) (ho : o ≤ 6) {rc : Nat → MI → Int32 → Option (Int32 × MI)} (hrp : ∀ X e b L, CE X sd tb n e b L tk → JF (rc 2 X (nI o)) X sd tb n e b L tk o) : ∀ d e, n - e ≤ d → ∀ X b L c, CE X sd tb n e b L tk → c ≤ e →
    (∃ e' b' cs X', wl (fun s : Int32 × MI => F_Reader_both_12 sd rc s.2 (nI o) s.1) (nI c, X) = some (.inl X') ∧ CE X' sd tb n e' b' (L ++ cs) tk ∧ FX sd X' X ∧ e + cs.length ≤ e' ∧ (∀ pre, tyk true (11 + 8 * o) pre → tyk true (11 + 8 * o) (pre ++ cs)) ∧ alk tk cs ∧ ¬ wo tb n e' b' = some 19 ∧ ∀ Y W S K bs, RE Y tb n e b (W ++ S) K o bs tk → sW W → ¬ tp (fun x => x = 12 ∨ x = 10) W → bs ≤ W.length → anS false S → ∃ Y' S' ks, KH Y = KH Y' ∧ RE Y' tb n e' b' (W ++ S') (K ++ ks) o bs tk ∧ anS false S' ∧ S.reverse ++ cs = ks ++ S'.reverse ∧ fsL LQ2 Y' Y) ∨
    (∃ k at' X', wl (fun s : Int32 × MI => F_Reader_both_12 sd rc s.2 (nI o) s.1) (nI c, X) = some (.inr (0, X')) ∧ FTt X' k at' ∧ FX sd X' X ∧ (1 ≤ k ∧ k < 100) ∧ ∀ Y W S K bs, RE Y tb n e b (W ++ S) K o bs tk → sW W → ¬ tp (fun x => x = 12 ∨ x = 10) W → bs ≤ W.length → anS false S → ∃ Y', KH Y = some Y' ∧ MFt Y' k at' ∧ fsL LQ2 Y' Y) := by
  have stop : ∀ {X : MI} {e : Nat} {b : Bool} {L : List Nat} {c : Nat}, CE X sd tb n e b L tk → ¬ wo tb n e b = some 19 → F_Reader_both_12 sd rc X (nI o) (nI c) = some (.inr (.inl X)) := fun {X e b L c} h hw => by
    unfold F_Reader_both_12
    by_cases z : (1600 : Int32) ≤ nI c
    · rw [if_pos z]
    · have i19 : F_Reader_isWord sd X 19 = _ := isw_w (sd := sd) h.1 (i := 19) (by decide)
      rw [if_neg z, i19]
      simp only [Option.bind_some]
      rw [bI_if, if_neg hw]
  have fin : ∀ {X : MI} {e : Nat} {b : Bool} {L : List Nat} {c : Nat}, CE X sd tb n e b L tk → ¬ wo tb n e b = some 19 → (∃ e' b' cs X', wl (fun s : Int32 × MI => F_Reader_both_12 sd rc s.2 (nI o) s.1) (nI c, X) = some (.inl X') ∧ CE X' sd tb n e' b' (L ++ cs) tk ∧ FX sd X' X ∧ e + cs.length ≤ e' ∧ (∀ pre, tyk true (11 + 8 * o) pre → tyk true (11 + 8 * o) (pre ++ cs)) ∧ alk tk cs ∧ ¬ wo tb n e' b' = some 19 ∧ ∀ Y W S K bs, RE Y tb n e b (W ++ S) K o bs tk → sW W → ¬ tp (fun x => x = 12 ∨ x = 10) W → bs ≤ W.length → anS false S → ∃ Y' S' ks, KH Y = KH Y' ∧ RE Y' tb n e' b' (W ++ S') (K ++ ks) o bs tk ∧ anS false S' ∧ S.reverse ++ cs = ks ++ S'.reverse ∧ fsL LQ2 Y' Y) := fun {X e b L c} h hw =>
    ⟨e, b, [], X, wl_in (stop h hw), by rw [List.append_nil]; exact h, FX_r sd X, by simp, fun pre hp => by rw [List.append_nil]; exact hp, fun x hx => (by cases hx), hw, fun Y W S K bs hY _ hW hb hS => ⟨Y, S, [], rfl, by rw [List.append_nil]; exact hY, hS, by simp, fs_r Y⟩⟩
  intro d
  induction d with
  | zero =>
    intro e hd X b L c h hc
    have he := h.1.2.2
    refine Or.inl (fin h (fun z => ?_))
    have k256 := (wo_s.mp z).2.1
    obtain ⟨ql, -⟩ := (kd_256 (fun j hj => (h.1.1.2.2.1 j hj).1)).mp k256
    have := sk_ge (tb := tb) (n := n) e
    omega
  | succ d ih =>
    intro e hd X b L c h hc
    have he := h.1.2.2
    have n16 := h.1.1.2.1
    by_cases w19 : wo tb n e b = some 19
    · have hbb : ∀ j, j < n → tb j < 256 := fun j hj => (h.1.1.2.2.1 j hj).1
      have k256 := (wo_s.mp w19).2.1
      obtain ⟨ql, -⟩ := (kd_256 hbb).mp k256
      have tg := tke_gt ql
      have sg := sk_ge (tb := tb) (n := n) e
      obtain ⟨A, ea, a1, a2⟩ := word_x (sd := sd) h.1 k256
      have cA := CE_m hq h a1 (fs_sub (by decide) a2) (by omega)
      have m3 : F_Reader_both_12 sd rc X (nI o) (nI c) = (rc 2 A (nI o)).bind fun r5 => if r5.1 = (0 : Int32) then (some (.inr (.inr ((0 : Int32), r5.2)))) else ((F_Reader_emit sd r5.2 (20009 : Int32)).bind fun r7 => some (.inl ((nI c + 1 : Int32), r7.2))) := by
        unfold F_Reader_both_12
        have i19 : F_Reader_isWord sd X 19 = _ := isw_w (sd := sd) h.1 (i := 19) (by decide)
        rw [if_neg (show ¬ (1600 : Int32) ≤ nI c from nI_ge (b := 1600) (by omega) (by decide)), i19]
        simp only [Option.bind_some]
        rw [bI_if, if_pos w19, ea]; rfl
      have goY : ∀ Y W S K bs, RE Y tb n e b (W ++ S) K o bs tk → ¬ tp (fun x => x = 12 ∨ x = 10) W → bs ≤ W.length → anS false S → ∃ Y1, KH Y = KT Y1 ∧ RE Y1 tb n (tke tb n e) true (W ++ [10]) (K ++ S.reverse) o bs tk ∧ fsL LQ Y1 Y := by
        intro Y W S K bs hY hW hbs hS
        exact KH_and hY w19 hS (tp_m hW (fun x hx => Or.inr hx)) hbs
      have tp10 : ∀ W : List Nat, ¬ tp (fun x => x = 12) (W ++ [10]) := fun W z => by have := tp_a.mp z; omega
      rcases hrp A _ _ _ cA with ⟨e1, b1, cs, X1, s1, s2, s3, s4, s5, s6, s7, s9⟩ | ⟨k2, at', X1, s1, s2, s3, s4, s5⟩
      · obtain ⟨U, u1, u2, u3⟩ := emit_n hq s2 (by rw [List.length_append]; have := h.2.1.2.2; omega) 10
        have u1 : F_Reader_emit sd X1 20009 = some (1, U) := u1
        rw [s1] at m3
        simp only [Option.bind_some] at m3
        rw [if_neg (by decide), u1] at m3
        simp only [Option.bind_some, nI_s] at m3
        have e2 : wl (fun s : Int32 × MI => F_Reader_both_12 sd rc s.2 (nI o) s.1) (nI c, X) = wl (fun s : Int32 × MI => F_Reader_both_12 sd rc s.2 (nI o) s.1) (nI (c + 1), U) := wl_st m3
        have fU : FX sd U X := FX_t u3 (FX_t s3 (FX_R a2))
        rw [e2]
        have hty : ∀ pre, tyk true (11 + 8 * o) pre → tyk true (11 + 8 * o) (pre ++ (cs ++ [10])) := fun pre hp => by
          rw [← List.append_assoc]
          exact tyk_2 hp s6 (by omega) (fun t _ => ty_t (by omega) (by omega) t)
        have go2 : ∀ Y W S K bs, RE Y tb n e b (W ++ S) K o bs tk → sW W → ¬ tp (fun x => x = 12 ∨ x = 10) W → bs ≤ W.length → anS false S → ∃ Y2, KH Y = KH Y2 ∧ RE Y2 tb n e1 b1 (W ++ [10]) (K ++ S.reverse ++ cs) o bs tk ∧ fsL LQ2 Y2 Y := by
          intro Y W S K bs hY hs hW hbs hS
          obtain ⟨Y1, y1, y2, y3⟩ := goY Y W S K bs hY hW hbs hS
          obtain ⟨Y2, z1, z2, z3⟩ := s9 Y1 _ _ bs y2 (sW_a hs (by omega))
          exact ⟨Y2, (y1.trans z1).trans (KD_H z2 (tp10 W)), z2, fs_tr z3 (fs_sub (by decide) y3)⟩
        have a10 : anS false [10] := fun x hx => Or.inl (List.mem_singleton.mp hx)
        rcases ih e1 (by omega) U b1 (L ++ cs ++ [10]) (c + 1) u2 (by omega) with ⟨e3, b3, ds, X3, t1, t2, t3, t4, t5, t6, t7, t8⟩ | ⟨k3, at3, X3, t1, t2, t3, t4, t5⟩
        · left
          refine ⟨e3, b3, cs ++ [10] ++ ds, X3, t1, by simpa [List.append_assoc] using t2, FX_t t3 fU, by simp; omega, fun pre hp => ?_, alk_a (alk_a s7 (alk_1 (by omega))) t6, t7, fun Y W S K bs hY hs hW hbs hS => ?_⟩
          · have := t5 _ (hty pre hp)
            simpa [List.append_assoc] using this
          · obtain ⟨Y2, z1, z2, z3⟩ := go2 Y W S K bs hY hs hW hbs hS
            obtain ⟨Y3, S', ks, w1, w2, w3, w4, w5⟩ := t8 Y2 W [10] _ bs z2 hs hW hbs a10
            refine ⟨Y3, S', S.reverse ++ cs ++ ks, z1.trans w1, by simpa [List.append_assoc] using w2, w3, ?_, fs_tr w5 z3⟩
            have w4 : [10] ++ ds = ks ++ S'.reverse := w4
            rw [List.append_assoc cs, w4]; simp
        · right
          refine ⟨k3, at3, X3, t1, t2, FX_t t3 fU, t4, fun Y W S K bs hY hs hW hbs hS => ?_⟩
          obtain ⟨Y2, z1, z2, z3⟩ := go2 Y W S K bs hY hs hW hbs hS
          obtain ⟨Y3, w1, w2, w3⟩ := t5 Y2 W [10] _ bs z2 hs hW hbs a10
          exact ⟨Y3, z1.trans w1, w2, fs_tr w3 z3⟩
      · right
        rw [s1] at m3
        simp only [Option.bind_some] at m3
        rw [if_pos trivial] at m3
        refine ⟨k2, at', X1, wl_in m3, s2, FX_t s3 (FX_R a2), s4, fun Y W S K bs hY hs hW hbs hS => ?_⟩
        obtain ⟨Y1, y1, y2, y3⟩ := goY Y W S K bs hY hW hbs hS
        obtain ⟨Y2, z1, z2, z3⟩ := s5 Y1 _ _ bs y2 (sW_a hs (by omega))
        exact ⟨Y2, y1.trans z1, z2, fs_tr z3 (fs_sub (by decide) y3)⟩
    · exact Or.inl (fin h w19)
theorem both_j (hq : sd = 3 ∨ sd = 11) (ho : o ≤ 6) {rc : Nat → MI → Int32 → Option (Int32 × MI)} (hrp : ∀ X e b L, CE X sd tb n e b L tk → JF (rc 2 X (nI o)) X sd tb n e b L tk o) (h : CE X sd tb n e b L tk) : JB false (F_Reader_both sd rc X (nI o)) X sd tb n e b L tk o := by
  unfold F_Reader_both
  have tw : ∀ {W : List Nat}, ¬ tp (fun x => x = 12 ∨ x = 10 ∨ (false = true ∧ x = 11)) W → ¬ tp (fun x => x = 12 ∨ x = 10) W ∧ ¬ tp (fun x => x = 12) W := fun hW => ⟨tp_m hW (fun x hx => by omega), tp_m hW (fun x hx => Or.inl hx)⟩
  rcases hrp X _ _ _ h with ⟨e1, b1, cs, X1, s1, s2, s3, s4, s5, s6, s7, s9⟩ | ⟨k, at', X1, s1, s2, s3, s4, s5⟩
  · rw [s1]
    simp only [Option.bind_some]
    rw [if_neg (by decide)]
    have go2 : ∀ Y W K bs, RE Y tb n e b W K o bs tk → sW W → ¬ tp (fun x => x = 12) W → ∃ Y2, KT Y = KH Y2 ∧ RE Y2 tb n e1 b1 (W ++ []) (K ++ cs) o bs tk ∧ fsL LQ2 Y2 Y := by
      intro Y W K bs hY hs hW
      obtain ⟨Y2, z1, z2, z3⟩ := s9 Y _ _ bs hY hs
      exact ⟨Y2, z1.trans (KD_H z2 hW), by rw [List.append_nil]; exact z2, z3⟩
    have a0 : anS false [] := fun x hx => by cases hx
    rcases both_l hq ho hrp (n - e1) e1 (Nat.le_refl _) X1 b1 (L ++ cs) 0 s2 (Nat.zero_le _) with ⟨e2, b2, ds, X2, t1, t2, t3, t4, t5, t6, t7, t8⟩ | ⟨k, at', X2, t1, t2, t3, t4, t5⟩
    · left
      have t1 : wl (fun s : Int32 × MI => F_Reader_both_12 sd rc s.2 (nI o) s.1) (0, X1) = some (.inl X2) := t1
      refine ⟨e2, b2, cs ++ ds, X2, by rw [t1]; rfl, by simpa [List.append_assoc] using t2, FX_t t3 s3, by simp; omega, by omega, t5 cs (tyk_l s6 (by omega)), alk_a s7 t6, ⟨t7, fun z => by cases z⟩, fun Y W K bs hY hs hW => ?_⟩
      obtain ⟨Y1, y1, y2, y3⟩ := go2 Y W K bs hY hs (tw hW).2
      obtain ⟨Y2, S', ks, w1, w2, w3, w4, w5⟩ := t8 Y1 W [] _ bs y2 hs (tw hW).1 (RE_o hY) a0
      have w4 : ds = ks ++ S'.reverse := w4
      exact ⟨Y2, S', cs ++ ks, y1.trans w1, by simpa [List.append_assoc] using w2, w3, by rw [w4]; simp, fs_tr w5 y3⟩
    · right
      have t1 : wl (fun s : Int32 × MI => F_Reader_both_12 sd rc s.2 (nI o) s.1) (0, X1) = some (.inr (0, X2)) := t1
      refine ⟨k, at', X2, by rw [t1]; rfl, t2, FX_t t3 s3, t4, fun Y W K bs hY hs hW => ?_⟩
      obtain ⟨Y1, y1, y2, y3⟩ := go2 Y W K bs hY hs (tw hW).2
      obtain ⟨Y2, w1, w2, w3⟩ := t5 Y1 W [] _ bs y2 hs (tw hW).1 (RE_o hY) a0
      exact ⟨Y2, y1.trans w1, w2, fs_tr w3 y3⟩
  · right
    exact ⟨k, at', X1, by rw [s1]; rfl, s2, s3, s4, fun Y W K bs hY hs hW => s5 Y W K bs hY hs⟩
end LC9
