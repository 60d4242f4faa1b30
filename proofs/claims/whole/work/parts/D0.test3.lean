/-! both sides read a whole test -/
section LD0
variable {I X Y Z : MI} {sd n e o tk : Nat} {b : Bool} {tb : Nat → Nat} {L : List Nat} {F : Option (Int32 × MI)}
/-- or .. -/
theorem test_l (hq : sd = 3 ∨ sd = 11) (ho : o ≤ 6) {rc : Nat → MI → Int32 → Option (Int32 × MI)} (hrp : ∀ X e b L, CE X sd tb n e b L tk → JB false (rc 1 X (nI o)) X sd tb n e b L tk o) : ∀ d e, n - e ≤ d → ∀ X b L c, CE X sd tb n e b L tk → c ≤ e → ¬ wo tb n e b = some 19 →
    (∃ e' b' cs X', wl (fun s : Int32 × MI => F_Reader_test_12 sd rc s.2 (nI o) s.1) (nI c, X) = some (.inl X') ∧ CE X' sd tb n e' b' (L ++ cs) tk ∧ FX sd X' X ∧ e + cs.length ≤ e' ∧ (∀ pre, tyk true (10 + 8 * o) pre → tyk true (10 + 8 * o) (pre ++ cs)) ∧ alk tk cs ∧ (¬ wo tb n e' b' = some 19 ∧ ¬ wo tb n e' b' = some 18) ∧ ∀ Y W S K bs, RE Y tb n e b (W ++ S) K o bs tk → sW W → ¬ tp (fun x => x = 12 ∨ x = 10 ∨ x = 11) W → bs ≤ W.length → anS true S → ∃ Y' S' ks, KH Y = KH Y' ∧ RE Y' tb n e' b' (W ++ S') (K ++ ks) o bs tk ∧ anS true S' ∧ S.reverse ++ cs = ks ++ S'.reverse ∧ fsL LQ2 Y' Y) ∨
    (∃ k at' X', wl (fun s : Int32 × MI => F_Reader_test_12 sd rc s.2 (nI o) s.1) (nI c, X) = some (.inr (0, X')) ∧ FTt X' k at' ∧ FX sd X' X ∧ (1 ≤ k ∧ k < 100) ∧ ∀ Y W S K bs, RE Y tb n e b (W ++ S) K o bs tk → sW W → ¬ tp (fun x => x = 12 ∨ x = 10 ∨ x = 11) W → bs ≤ W.length → anS true S → ∃ Y', KH Y = some Y' ∧ MFt Y' k at' ∧ fsL LQ2 Y' Y) := by
  have stop : ∀ {X : MI} {e : Nat} {b : Bool} {L : List Nat} {c : Nat}, CE X sd tb n e b L tk → ¬ wo tb n e b = some 18 → F_Reader_test_12 sd rc X (nI o) (nI c) = some (.inr (.inl X)) := fun {X e b L c} h hw => by
    unfold F_Reader_test_12
    by_cases z : (1600 : Int32) ≤ nI c
    · rw [if_pos z]
    · have i19 : F_Reader_isWord sd X 18 = _ := isw_w (sd := sd) h.1 (i := 18) (by decide)
      rw [if_neg z, i19]
      simp only [Option.bind_some]
      rw [bI_if, if_neg hw]
  have fin : ∀ {X : MI} {e : Nat} {b : Bool} {L : List Nat} {c : Nat}, CE X sd tb n e b L tk → ¬ wo tb n e b = some 19 → ¬ wo tb n e b = some 18 → (∃ e' b' cs X', wl (fun s : Int32 × MI => F_Reader_test_12 sd rc s.2 (nI o) s.1) (nI c, X) = some (.inl X') ∧ CE X' sd tb n e' b' (L ++ cs) tk ∧ FX sd X' X ∧ e + cs.length ≤ e' ∧ (∀ pre, tyk true (10 + 8 * o) pre → tyk true (10 + 8 * o) (pre ++ cs)) ∧ alk tk cs ∧ (¬ wo tb n e' b' = some 19 ∧ ¬ wo tb n e' b' = some 18) ∧ ∀ Y W S K bs, RE Y tb n e b (W ++ S) K o bs tk → sW W → ¬ tp (fun x => x = 12 ∨ x = 10 ∨ x = 11) W → bs ≤ W.length → anS true S → ∃ Y' S' ks, KH Y = KH Y' ∧ RE Y' tb n e' b' (W ++ S') (K ++ ks) o bs tk ∧ anS true S' ∧ S.reverse ++ cs = ks ++ S'.reverse ∧ fsL LQ2 Y' Y) := fun {X e b L c} h hw hw2 =>
    ⟨e, b, [], X, wl_in (stop h hw2), by rw [List.append_nil]; exact h, FX_r sd X, by simp, fun pre hp => by rw [List.append_nil]; exact hp, fun x hx => (by cases hx), ⟨hw, hw2⟩, fun Y W S K bs hY _ hW hb hS => ⟨Y, S, [], rfl, by rw [List.append_nil]; exact hY, hS, by simp, fs_r Y⟩⟩
  intro d
  induction d with
  | zero =>
    intro e hd X b L c h hc w19
    have he := h.1.2.2
    refine Or.inl (fin h w19 (fun z => ?_))
    have k256 := (wo_s.mp z).2.1
    obtain ⟨ql, -⟩ := (kd_256 (fun j hj => (h.1.1.2.2.1 j hj).1)).mp k256
    have := sk_ge (tb := tb) (n := n) e
    omega
  | succ d ih =>
    intro e hd X b L c h hc w19
    have he := h.1.2.2
    have n16 := h.1.1.2.1
    by_cases w18 : wo tb n e b = some 18
    · have hbb : ∀ j, j < n → tb j < 256 := fun j hj => (h.1.1.2.2.1 j hj).1
      have k256 := (wo_s.mp w18).2.1
      obtain ⟨ql, -⟩ := (kd_256 hbb).mp k256
      have tg := tke_gt ql
      have sg := sk_ge (tb := tb) (n := n) e
      obtain ⟨A, ea, a1, a2⟩ := word_x (sd := sd) h.1 k256
      have cA := CE_m hq h a1 (fs_sub (by decide) a2) (by omega)
      have m3 : F_Reader_test_12 sd rc X (nI o) (nI c) = (rc 1 A (nI o)).bind fun r5 => if r5.1 = (0 : Int32) then (some (.inr (.inr ((0 : Int32), r5.2)))) else ((F_Reader_emit sd r5.2 (20010 : Int32)).bind fun r7 => some (.inl ((nI c + 1 : Int32), r7.2))) := by
        unfold F_Reader_test_12
        have i18 : F_Reader_isWord sd X 18 = _ := isw_w (sd := sd) h.1 (i := 18) (by decide)
        rw [if_neg (show ¬ (1600 : Int32) ≤ nI c from nI_ge (b := 1600) (by omega) (by decide)), i18]
        simp only [Option.bind_some]
        rw [bI_if, if_pos w18, ea]; rfl
      have goY : ∀ Y W S K bs, RE Y tb n e b (W ++ S) K o bs tk → ¬ tp (fun x => x = 12 ∨ x = 10 ∨ x = 11) W → bs ≤ W.length → anS true S → ∃ Y1, KH Y = KT Y1 ∧ RE Y1 tb n (tke tb n e) true (W ++ [11]) (K ++ S.reverse) o bs tk ∧ fsL LQ Y1 Y := by
        intro Y W S K bs hY hW hbs hS
        exact KH_or hY w18 hS (tp_m hW (fun x hx => Or.inr hx)) hbs
      have tp11 : ∀ W : List Nat, ¬ tp (fun x => x = 12 ∨ x = 10 ∨ (false = true ∧ x = 11)) (W ++ [11]) := fun W z => by have := tp_a.mp z; simp at this
      rcases hrp A _ _ _ cA with ⟨e1, b1, cs, X1, s1, s2, s3, s4, s5, s6, s7, s8, s9⟩ | ⟨k2, at', X1, s1, s2, s3, s4, s5⟩
      · obtain ⟨U, u1, u2, u3⟩ := emit_n hq s2 (by rw [List.length_append]; have := h.2.1.2.2; omega) 11
        have u1 : F_Reader_emit sd X1 20010 = some (1, U) := u1
        rw [s1] at m3
        simp only [Option.bind_some] at m3
        rw [if_neg (by decide), u1] at m3
        simp only [Option.bind_some, nI_s] at m3
        have e2 : wl (fun s : Int32 × MI => F_Reader_test_12 sd rc s.2 (nI o) s.1) (nI c, X) = wl (fun s : Int32 × MI => F_Reader_test_12 sd rc s.2 (nI o) s.1) (nI (c + 1), U) := wl_st m3
        have fU : FX sd U X := FX_t u3 (FX_t s3 (FX_R a2))
        rw [e2]
        have s6 : tyk true (11 + 8 * o) cs := s6
        have hty : ∀ pre, tyk true (10 + 8 * o) pre → tyk true (10 + 8 * o) (pre ++ (cs ++ [11])) := fun pre hp => by
          rw [← List.append_assoc]
          exact tyk_2 hp s6 (by omega) (fun t _ => ty_t (by omega) (by omega) t)
        have go2 : ∀ Y W S K bs, RE Y tb n e b (W ++ S) K o bs tk → sW W → ¬ tp (fun x => x = 12 ∨ x = 10 ∨ x = 11) W → bs ≤ W.length → anS true S → ∃ Y2 Sp kp, KH Y = KH Y2 ∧ RE Y2 tb n e1 b1 (W ++ ([11] ++ Sp)) (K ++ S.reverse ++ kp) o bs tk ∧ anS true ([11] ++ Sp) ∧ cs = kp ++ Sp.reverse ∧ fsL LQ2 Y2 Y := by
          intro Y W S K bs hY hs hW hbs hS
          obtain ⟨Y1, y1, y2, y3⟩ := goY Y W S K bs hY hW hbs hS
          obtain ⟨Y2, Sp, kp, z1, z2, z3, z4, z5⟩ := s9 Y1 _ _ bs y2 (sW_a hs (by omega)) (tp11 W)
          refine ⟨Y2, Sp, kp, y1.trans z1, by rw [← List.append_assoc]; exact z2, fun x hx => ?_, z4, fs_tr z5 (fs_sub (by decide) y3)⟩
          rcases List.mem_append.mp hx with z | z
          · exact Or.inr ⟨rfl, List.mem_singleton.mp z⟩
          · exact anS_w z3 x z
        rcases ih e1 (by omega) U b1 (L ++ cs ++ [11]) (c + 1) u2 (by omega) s8.1 with ⟨e3, b3, ds, X3, t1, t2, t3, t4, t5, t6, t7, t8⟩ | ⟨k3, at3, X3, t1, t2, t3, t4, t5⟩
        · left
          refine ⟨e3, b3, cs ++ [11] ++ ds, X3, t1, by simpa [List.append_assoc] using t2, FX_t t3 fU, by simp; omega, fun pre hp => ?_, alk_a (alk_a s7 (alk_1 (by omega))) t6, t7, fun Y W S K bs hY hs hW hbs hS => ?_⟩
          · have := t5 _ (hty pre hp)
            simpa [List.append_assoc] using this
          · obtain ⟨Y2, Sp, kp, z1, z2, z3, z4, z5⟩ := go2 Y W S K bs hY hs hW hbs hS
            obtain ⟨Y3, S', ks, w1, w2, w3, w4, w5⟩ := t8 Y2 W ([11] ++ Sp) _ bs z2 hs hW hbs z3
            refine ⟨Y3, S', S.reverse ++ kp ++ ks, z1.trans w1, by simpa [List.append_assoc] using w2, w3, ?_, fs_tr w5 z5⟩
            have w4 : Sp.reverse ++ ([11] ++ ds) = ks ++ S'.reverse := by rw [← w4]; simp
            rw [z4]
            have : S.reverse ++ (kp ++ Sp.reverse ++ [11] ++ ds) = S.reverse ++ kp ++ (Sp.reverse ++ ([11] ++ ds)) := by simp
            rw [this, w4]; simp
        · right
          refine ⟨k3, at3, X3, t1, t2, FX_t t3 fU, t4, fun Y W S K bs hY hs hW hbs hS => ?_⟩
          obtain ⟨Y2, Sp, kp, z1, z2, z3, z4, z5⟩ := go2 Y W S K bs hY hs hW hbs hS
          obtain ⟨Y3, w1, w2, w3⟩ := t5 Y2 W ([11] ++ Sp) _ bs z2 hs hW hbs z3
          exact ⟨Y3, z1.trans w1, w2, fs_tr w3 z5⟩
      · right
        rw [s1] at m3
        simp only [Option.bind_some] at m3
        rw [if_pos trivial] at m3
        refine ⟨k2, at', X1, wl_in m3, s2, FX_t s3 (FX_R a2), s4, fun Y W S K bs hY hs hW hbs hS => ?_⟩
        obtain ⟨Y1, y1, y2, y3⟩ := goY Y W S K bs hY hW hbs hS
        obtain ⟨Y2, z1, z2, z3⟩ := s5 Y1 _ _ bs y2 (sW_a hs (by omega)) (tp11 W)
        exact ⟨Y2, y1.trans z1, z2, fs_tr z3 (fs_sub (by decide) y3)⟩
    · exact Or.inl (fin h w19 w18)
theorem test_j (hq : sd = 3 ∨ sd = 11) (ho : o ≤ 6) {rc : Nat → MI → Int32 → Option (Int32 × MI)} (hrp : ∀ X e b L, CE X sd tb n e b L tk → JB false (rc 1 X (nI o)) X sd tb n e b L tk o) (h : CE X sd tb n e b L tk) : JB true (F_Reader_test sd rc X (nI o)) X sd tb n e b L tk o := by
  unfold F_Reader_test
  have tw : ∀ {W : List Nat}, ¬ tp (fun x => x = 12 ∨ x = 10 ∨ (true = true ∧ x = 11)) W → ¬ tp (fun x => x = 12 ∨ x = 10 ∨ x = 11) W ∧ ¬ tp (fun x => x = 12 ∨ x = 10 ∨ (false = true ∧ x = 11)) W := fun hW => ⟨tp_m hW (fun x hx => by simp; omega), tp_m hW (fun x hx => by simp at hx ⊢; omega)⟩
  rcases hrp X _ _ _ h with ⟨e1, b1, cs, X1, s1, s2, s3, s4, s5, s6, s7, s8, s9⟩ | ⟨k, at', X1, s1, s2, s3, s4, s5⟩
  · rw [s1]
    simp only [Option.bind_some]
    rw [if_neg (by decide)]
    have s6 : tyk true (11 + 8 * o) cs := s6
    rcases test_l hq ho hrp (n - e1) e1 (Nat.le_refl _) X1 b1 (L ++ cs) 0 s2 (Nat.zero_le _) s8.1 with ⟨e2, b2, ds, X2, t1, t2, t3, t4, t5, t6, t7, t8⟩ | ⟨k, at', X2, t1, t2, t3, t4, t5⟩
    · left
      have t1 : wl (fun s : Int32 × MI => F_Reader_test_12 sd rc s.2 (nI o) s.1) (0, X1) = some (.inl X2) := t1
      refine ⟨e2, b2, cs ++ ds, X2, by rw [t1]; rfl, by simpa [List.append_assoc] using t2, FX_t t3 s3, by simp; omega, by omega, t5 cs (tyk_l s6 (by omega)), alk_a s7 t6, ⟨t7.1, fun _ => t7.2⟩, fun Y W K bs hY hs hW => ?_⟩
      obtain ⟨Y1, Sp, kp, y1, y2, y3, y4, y5⟩ := s9 Y W K bs hY hs (tw hW).2
      obtain ⟨Y2, S', ks, w1, w2, w3, w4, w5⟩ := t8 Y1 W Sp _ bs y2 hs (tw hW).1 (RE_o hY) (anS_w y3)
      refine ⟨Y2, S', kp ++ ks, y1.trans w1, by simpa [List.append_assoc] using w2, w3, ?_, fs_tr w5 y5⟩
      rw [y4, List.append_assoc, w4]; simp
    · right
      have t1 : wl (fun s : Int32 × MI => F_Reader_test_12 sd rc s.2 (nI o) s.1) (0, X1) = some (.inr (0, X2)) := t1
      refine ⟨k, at', X2, by rw [t1]; rfl, t2, FX_t t3 s3, t4, fun Y W K bs hY hs hW => ?_⟩
      obtain ⟨Y1, Sp, kp, y1, y2, y3, y4, y5⟩ := s9 Y W K bs hY hs (tw hW).2
      obtain ⟨Y2, w1, w2, w3⟩ := t5 Y1 W Sp _ bs y2 hs (tw hW).1 (RE_o hY) (anS_w y3)
      exact ⟨Y2, y1.trans w1, w2, fs_tr w3 y5⟩
  · right
    exact ⟨k, at', X1, by rw [s1]; rfl, s2, s3, s4, fun Y W K bs hY hs hW => s5 Y W K bs hY hs (tw hW).2⟩
theorem rdt_j (hq : sd = 3 ∨ sd = 11) (h3 : tk < 3) : ∀ φ o, o ≤ 6 → (6 * (7 - o) + 1 ≤ φ → ∀ X e b L, CE X sd tb n e b L tk → JF (rdr sd φ 2 X (nI o)) X sd tb n e b L tk o) ∧ (6 * (7 - o) + 2 ≤ φ → ∀ X e b L, CE X sd tb n e b L tk → JB false (rdr sd φ 1 X (nI o)) X sd tb n e b L tk o) ∧ (6 * (7 - o) + 3 ≤ φ → ∀ X e b L, CE X sd tb n e b L tk → JB true (rdr sd φ 0 X (nI o)) X sd tb n e b L tk o) := by
  intro φ
  induction φ with
  | zero => intro o ho; exact ⟨fun z => by omega, fun z => by omega, fun z => by omega⟩
  | succ φ ih =>
    intro o ho
    refine ⟨fun z X e b L h => ?_, fun z X e b L h => ?_, fun z X e b L h => ?_⟩
    · have e5 : rdr sd (φ + 1) 2 X (nI o) = F_Reader_fact sd (rdr sd φ) X (nI o) := rfl
      rw [e5]
      exact fact_j hq h ho (fun X e b L h => (rdr_j hq h3 φ o ho).2.2 (by omega) X e b L h) (fun X e b L o6 h => (ih (o + 1) (by omega)).1 (by omega) X e b L h) (fun X e b L o6 h => (ih (o + 1) (by omega)).2.2 (by omega) X e b L h)
    · have e4 : rdr sd (φ + 1) 1 X (nI o) = F_Reader_both sd (rdr sd φ) X (nI o) := rfl
      rw [e4]
      exact both_j hq ho (fun X e b L h => (ih o ho).1 (by omega) X e b L h) h
    · have e3 : rdr sd (φ + 1) 0 X (nI o) = F_Reader_test sd (rdr sd φ) X (nI o) := rfl
      rw [e3]
      exact test_j hq ho (fun X e b L h => (ih o ho).2.1 (by omega) X e b L h) h
/-- the reference's whole test -/
theorem d110_m {S K : List Nat} {bs : Nat} (h : QS Y S K o bs) (hv : wv S) (h5 : Y 177 5 = 0) (hl : S.length + K.length < 1690) : ∃ Y', wl (fun s : MI => F_MD_qTest_110 s) Y = some Y' ∧ QS Y' [] (K ++ S.reverse) o bs ∧ fsL LSt Y' Y := by
  refine drops_w (o := o) (bs := bs) (fun W => 0 < W.length) (fun Y W K h hv h5 hl hK => ?_) S.length S rfl [] K Y h hv h5 (fun S' x S'' ex => by rw [List.length_append]; simp) (by simp) (by simp; omega)
  unfold F_MD_qTest_110
  rw [if_pos h5, h.1.1]
  by_cases c : 0 < W.length
  · exact ⟨fun _ => by rw [if_neg (show ¬ nI W.length ≤ 0 from nI_ge (a := 0) (by omega) (by omega))], fun z => absurd c z⟩
  · exact ⟨fun z => absurd z c, fun _ => by rw [show W.length = 0 by omega]; rfl⟩
def testR (F : Option (Int32 × MI)) (X : MI) (sd : Nat) (tb : Nat → Nat) (n e : Nat) (b : Bool) (L : List Nat) (tk : Nat) : Prop :=
  (∃ e' b' cs X', F = some (1, X') ∧ CE X' sd tb n e' b' (L ++ cs) tk ∧ FX sd X' X ∧ e + cs.length ≤ e' ∧ e < e' ∧ tyk true 10 cs ∧ alk tk cs ∧ ∀ Y K, RE Y tb n e b [] K 0 0 tk → ∃ Y', F_MD_qTest Y = some Y' ∧ RE Y' tb n e' b' [] (K ++ cs) 0 0 tk ∧ fsL LQ2 Y' Y) ∨
  (∃ k at' X', F = some (0, X') ∧ FTt X' k at' ∧ FX sd X' X ∧ (1 ≤ k ∧ k < 100) ∧ ∀ Y K, RE Y tb n e b [] K 0 0 tk → ∃ Y', F_MD_qTest Y = some Y' ∧ MFt Y' k at' ∧ fsL LQ2 Y' Y)
theorem test0_j (hq : sd = 3 ∨ sd = 11) (h3 : tk < 3) (h : CE X sd tb n e b L tk) : testR (F_Reader_test0 sd X 0) X sd tb n e b L tk := by
  have s0 : sW [] := fun x hx => by cases hx
  rcases (rdt_j hq h3 60 0 (by decide)).2.2 (by decide) X e b L h with ⟨e1, b1, cs, X1, s1, s2, s3, s4, s5, s6, s7, s8, s9⟩ | ⟨k, at', X1, s1, s2, s3, s4, s5⟩
  · left
    refine ⟨e1, b1, cs, X1, s1, s2, s3, s4, s5, s6, s7, fun Y K hY => ?_⟩
    obtain ⟨Y1, S, ks, y1, y2, y3, y4, y5⟩ := s9 Y [] K 0 hY s0 tp_0
    rw [List.nil_append] at y2
    have n25 : ¬ 25 ∈ S := fun z => by have := y3 25 z; omega
    obtain ⟨r1, r2⟩ := RE_LK y2
    obtain ⟨n16, hn, -, -⟩ := RE_n y2
    have hlen := r1.2.2.2.2.2.1
    rcases KH_no y2 (Or.inr n25) s8.1 (s8.2 rfl) with ⟨z, -⟩ | ⟨-, z⟩
    · exact absurd z n25
    · obtain ⟨Y2, z1, z2, z3⟩ := d110_m r1.2.1 r1.2.2.2.2.2.2.1 r1.1.1.1 (by omega)
      rw [List.append_assoc, ← y4] at z2
      have hle : (K ++ cs).length ≤ e1 := by rw [List.length_append]; have := hY.2.2.2.2.2.1; simp at this; omega
      refine ⟨Y2, ?_, ⟨QP_f r1.1 z3 (by decide) (by decide +kernel), z2, (z3 177 50 (by decide)).trans r1.2.2.1, h3, Nat.zero_le _, by simpa using hle, fun x hx => (by cases hx), by decide⟩, fs_tr (fs_sub (by decide) z3) (fs_tr (fs_sub (by decide) r2) y5)⟩
      unfold F_MD_qTest
      have : KT Y = some (LK' Y1 tb n e1) := y1.trans z
      unfold KT at this
      rw [this]
      simp only [Option.bind_some]
      rw [z1]; rfl
  · right
    refine ⟨k, at', X1, s1, s2, s3, s4, fun Y K hY => ?_⟩
    obtain ⟨Y1, y1, y2, y3⟩ := s5 Y [] K 0 hY s0 tp_0
    refine ⟨Y1, ?_, y2, y3⟩
    unfold F_MD_qTest
    unfold KT at y1
    rw [y1]
    simp only [Option.bind_some]
    have : wl (fun s : MI => F_MD_qTest_110 s) Y1 = some Y1 := wl_in (by
      unfold F_MD_qTest_110
      rw [if_neg (mf_ne y2 s4.1 s4.2)])
    rw [this]; rfl
end LD0
