/-! both sides read parts, products, sums -/
theorem rev1 {S : List Nat} (h : S.length ≤ 1) : S.reverse = S := by
  match S, h with
  | [], _ => rfl
  | [_], _ => rfl
  | _ :: _ :: _, h => simp at h
section LC4
variable {I X Y Z : MI} {sd n e o tk : Nat} {b : Bool} {tb : Nat → Nat} {L : List Nat} {F : Option (Int32 × MI)}
theorem part_j (hq : sd = 3 ∨ sd = 11) (h : CE X sd tb n e b L tk) (ho : o ≤ 6) (h3 : tk < 3) {rc : Nat → MI → Int32 → Option (Int32 × MI)} (hrs : ∀ X e b L, o < 6 → CE X sd tb n e b L tk → JS true (rc 3 X (nI (o + 1))) X sd tb n e b L tk (o + 1)) (hrp : ∀ X e b L, o < 6 → CE X sd tb n e b L tk → JP (rc 5 X (nI (o + 1))) X sd tb n e b L tk (o + 1)) : JP (F_Reader_part sd rc X (nI o)) X sd tb n e b L tk o := by
  have hb : ∀ j, j < n → tb j < 256 := fun j hj => (h.1.1.2.2.1 j hj).1
  have kl := kd_lt (e := e) (b := b) h.1.1
  by_cases k7 : kd tb n e b = 257
  · exact JP_num hq h ho k7 rc
  by_cases k4 : kd tb n e b = 40
  · exact JP_par hq h ho k4 hrs
  have n7 : ¬ X 19 6 = 257 := fun z => k7 ((kd_is h.1 (by decide) (show (257 : Int32) = nI 257 from rfl)).mp z)
  have n4 : ¬ X 19 6 = 40 := fun z => k4 ((kd_is h.1 (by decide) (show (40 : Int32) = nI 40 from rfl)).mp z)
  have at7 := h.1.2.1.2.1
  unfold F_Reader_part
  rw [if_neg n7, if_neg n4]
  by_cases k6 : kd tb n e b = 256
  · have e6 : X 19 6 = 256 := (kd_is h.1 (by decide) (show (256 : Int32) = nI 256 from rfl)).mpr k6
    have w9 := h.1.2.1.2.2.2 k6
    obtain ⟨ql, -⟩ := (kd_256 hb).mp k6
    have tg := tke_gt ql
    have sg := sk_ge (tb := tb) (n := n) e
    rw [if_pos e6, w9, at7]
    rcases w_no_v (lets tb n e) with hw | ⟨j, j29, -, hw⟩
    · have hwo : wo tb n e b = none := by unfold wo; rw [if_pos k6, if_pos hw]
      rw [hw, if_pos (by decide)]
      refine JP_bad1 hq h ?_ k7 k4 (by rw [hwo]; decide) (by rw [hwo]; decide) (by rw [hwo]; exact q_o_n _ _ _) (by rw [hwo]; exact q_o_n _ _ _)
      rw [show (1 : Int32) = nI 1 from rfl, wrong_e]
      simp only [Option.bind_some]
      rw [gq_e (Or.inl trivial)]
    · have hwo : wo tb n e b = some j := wo_s.mpr ⟨j29, k6, hw⟩
      rw [hw, if_neg (nI_pos (by omega))]
      by_cases j24 : j < 24
      · rw [if_pos (show nI j < 24 from nI_lt (b := 24) j24 (by decide))]
        by_cases j22 : j = 22
        · subst j22
          rw [if_pos (by decide)]
          exact JP_min hq h ho (Or.inl rfl) hwo hrs
        rw [if_neg (fun z => j22 ((n_eq (by omega) (by decide) (show (22 : Int32) = nI 22 from rfl)).mp z))]
        by_cases j23 : j = 23
        · subst j23
          rw [if_pos (by decide)]
          exact JP_min hq h ho (Or.inr rfl) hwo hrs
        rw [if_neg (fun z => j23 ((n_eq (by omega) (by decide) (show (23 : Int32) = nI 23 from rfl)).mp z)), h.2.2.1, h.2.2.2]
        obtain ⟨mp, ma⟩ := msk_p tk h3 j j24
        cases q8 : q_o tk 8 10 (some j) with
        | some k =>
          -- row, below
          have k10 := q_o_k _ _ _ _ _ q8
          have tt := tau_o tk h3 j j24 k k10.2 q8
          have tt : tk = 2 ∧ ((j = 5 ∧ k = 8) ∨ (j = 17 ∧ k = 9)) := by simpa using tt
          rw [if_neg (fun z => ma.mp z k k10.2 q8), nI_s]
          rcases opens_c (sd := sd) (o := o) h.1 ho ql with ⟨g1, g2⟩ | ⟨g1, V, g2, g3, g4⟩
          · right
            refine ⟨4, sk tb n e, wrm X 4 (sk tb n e), by rw [g2]; rfl, (CE_w hq h 4 _).1, (CE_w hq h 4 _).2, ⟨by decide, by decide⟩, fun v0 Y W K bs hY => ?_⟩
            rcases pt_of hY (by rw [hwo]; exact q8) with ⟨-, Y1, y1, y2, y3⟩ | ⟨z, -⟩
            · exact ⟨Y1, KP_F hY.1.1.1 (mf_ne y2.1 (by decide) (by decide)) y1, y2, y3⟩
            · omega
          · rw [g2]
            simp only [Option.bind_some]
            rw [if_neg (by decide)]
            rw [k6] at g3
            have g3 : RS V tb n (tke tb n e) true := g3
            have cV := CE_m hq h g3 (fs_sub (by decide) g4) (by omega)
            have opY : ∀ v0 Y W K bs, RE Y tb n e b W K o bs tk → ∃ Y1, KP v0 Y = KP v0 Y1 ∧ RE Y1 tb n (tke tb n e) true (W ++ [60 + k - 8]) K (o + 1) bs tk ∧ fsL LQ Y1 Y := by
              intro v0 Y W K bs hY
              rcases pt_of hY (by rw [hwo]; exact q8) with ⟨z, -⟩ | ⟨-, Y1, y1, y2, y3⟩
              · omega
              · exact ⟨Y1, KP_c hY.1.1.1 y2.1.1.1 y1, y2, y3⟩
            rcases hrp V _ _ _ g1 cV with ⟨e1, b1, cs, X1, s1, s2, s3, s4, s5, s6, s7, s9⟩ | ⟨k2, at', X1, s1, s2, s3, s4, s5⟩
            · rw [s1]
              simp only [Option.bind_some]
              rw [if_neg (by decide)]
              obtain ⟨U, u1, u2, u3⟩ := emit_n hq s2 (by rw [List.length_append]; have := h.2.1.2.2; omega) (60 + k - 8)
              have tu : nI (q_tau (60 + k - 8)) = if nI j = 5 then 30001 else 30002 := by
                rcases tt.2 with ⟨z1, z2⟩ | ⟨z1, z2⟩ <;> subst z1 <;> subst z2 <;> decide
              left
              refine ⟨e1, b1, cs ++ [60 + k - 8], U, ?_, by simpa [List.append_assoc] using u2, FX_t u3 (FX_t s3 (FX_R g4)), by simp; omega, by omega, ?_, alk_a s7 ?_, fun v0 Y W K bs hY => ?_⟩
              · rw [tu] at u1
                by_cases z : nI j = 5
                · rw [if_pos z] at u1 ⊢
                  rw [u1]; rfl
                · rw [if_neg z] at u1 ⊢
                  rw [u1]; rfl
              · exact tyk_a (m := 22 + 8 * o) (tyk_l s6 (by omega)) (fun t _ => ty_o (by omega) (by omega) t)
              · intro x hx
                rw [List.mem_singleton.mp hx]
                exact ⟨fun a c => by omega, fun _ _ => decide_eq_true tt.1⟩
              · obtain ⟨Y1, y1, y2, y3⟩ := opY v0 Y W K bs hY
                obtain ⟨Y2, z1, z2, z3⟩ := s9 v0 Y1 _ _ bs y2
                obtain ⟨n16, hn2, -, -⟩ := RE_n z2
                have zl := z2.2.2.2.2.2.1
                rw [List.length_append, List.length_append] at zl
                simp at zl
                obtain ⟨Y3, w1, w2, w3⟩ := ends_1 (x := 60 + k - 8) z2.2.1 z2.1.1.1 (by rw [List.length_append]; omega) (by omega) (by omega) (RE_o hY) (by omega)
                refine ⟨Y3, (y1.trans z1).trans (KE_c w1), ⟨QP_f z2.1 w3 (by decide) (by decide +kernel), by rw [← List.append_assoc]; exact w2, (w3 177 50 (by decide)).trans z2.2.2.1, h3, RE_o hY, ?_, wv_p z2.2.2.2.2.2.2.1, by omega⟩, fs_tr (fs_sub (by decide) w3) (fs_tr z3 y3)⟩
                rw [List.length_append, List.length_append]; simp; omega
            · right
              refine ⟨k2, at', X1, by rw [s1]; rfl, s2, FX_t s3 (FX_R g4), s4, fun v0 Y W K bs hY => ?_⟩
              obtain ⟨Y1, y1, y2, y3⟩ := opY v0 Y W K bs hY
              obtain ⟨Y2, z1, z2, z3⟩ := s5 v0 Y1 _ _ bs y2
              exact ⟨Y2, y1.trans z1, z2, fs_tr z3 y3⟩
        | none =>
          rw [if_pos (ma.mpr (fun k _ z => by rw [q8] at z; cases z))]
          cases q0 : q_o tk 0 8 (some j) with
          | some k =>
            have k8 := q_o_k _ _ _ _ _ q0
            obtain ⟨t1, t2⟩ := tau_w tk h3 j j24 k k8.2 q0
            rw [if_neg (fun z => mp.mp z k k8.2 q0)]
            obtain ⟨A, ea, a1, a2⟩ := word_x (sd := sd) h.1 k6
            have cA := CE_m hq h a1 (fs_sub (by decide) a2) (by omega)
            obtain ⟨U, u1, u2, u3⟩ := emit_n hq cA (by have := h.2.1.2.2; omega) (40 + k)
            have e10 : (10000 : Int32) + nI j = nI (q_tau (40 + k)) := by rw [t1]; exact nI_add 10000 j
            left
            refine ⟨tke tb n e, true, [40 + k], U, ?_, u2, FX_t u3 (FX_R a2), by simp; omega, by omega, ty_w k8.2 (by omega), ?_, fun v0 Y W K bs hY => ?_⟩
            · rw [ea]
              simp only [Option.bind_some]
              rw [e10, u1]
              simp only [Option.bind_some]
              rw [gq_e (Or.inr trivial)]
            · intro x hx
              rw [List.mem_singleton.mp hx]
              exact ⟨fun _ _ => by rw [show 40 + k - 40 = k by omega]; exact t2, fun a c => by omega⟩
            · obtain ⟨Y1, y1, y2, y3⟩ := pt_word hY (by rw [hwo]; simp; omega) (by rw [hwo]; simp; omega) (by rw [hwo]; exact q8) (by rw [hwo]; exact q0)
              exact ⟨Y1, KP_E hY.1.1.1 y2.1.1.1 y1, y2, y3⟩
          | none =>
            rw [if_pos (mp.mpr (fun k _ z => by rw [q0] at z; cases z))]
            refine JP_bad1 hq h ?_ k7 k4 (by rw [hwo]; simp; omega) (by rw [hwo]; simp; omega) (by rw [hwo]; exact q8) (by rw [hwo]; exact q0)
            rw [show (1 : Int32) = nI 1 from rfl, wrong_e]
            simp only [Option.bind_some]
            rw [gq_e (Or.inl trivial)]
      · rw [if_neg (show ¬ nI j < 24 from nI_nlt (b := 24) (by omega) (by omega))]
        have q2 := q_o_22 tk h3 j j29 (by omega)
        refine JP_bad1 hq h ?_ k7 k4 (by rw [hwo]; simp; omega) (by rw [hwo]; simp; omega) (by rw [hwo]; exact q2.1) (by rw [hwo]; exact q2.2)
        rw [show (1 : Int32) = nI 1 from rfl, wrong_e]
        simp only [Option.bind_some]
        rw [gq_e (Or.inl trivial)]
  · have n6 : ¬ X 19 6 = 256 := fun z => k6 ((kd_is h.1 (by decide) (show (256 : Int32) = nI 256 from rfl)).mp z)
    have hwo := wo_n k6
    rw [if_neg n6, at7]
    refine JP_bad1 hq h ?_ k7 k4 (by rw [hwo]; decide) (by rw [hwo]; decide) (by rw [hwo]; exact q_o_n _ _ _) (by rw [hwo]; exact q_o_n _ _ _)
    rw [show (1 : Int32) = nI 1 from rfl, wrong_e]
    simp only [Option.bind_some]
    rw [gq_e (Or.inl trivial)]
/-- behind a part the reference stands where it goes on -/
theorem KE_G {v0 : Int32} {W K : List Nat} {bs : Nat} (h : RE Y tb n e b W K o bs tk) (hW : ¬ tp (fun x => 60 ≤ x) W) : KE v0 Y = KG v0 Y := by
  obtain ⟨n16, hn, sg, sl⟩ := RE_n h
  have := h.2.2.2.2.2.1
  unfold KE
  rw [ends_0 h.2.1 h.1.1.1 (by omega) (by have := RE_o h; omega) h.2.2.2.2.2.2.1 (fun z => hW z.2)]
  rfl
theorem tp_m {P Q : Nat → Prop} {W : List Nat} (h : ¬ tp P W) (hi : ∀ x, Q x → P x) : ¬ tp Q W := by
  rintro ⟨W0, x, e1, h2⟩
  exact h ⟨W0, x, e1, hi x h2⟩
/-- the loop of a product -/
theorem prod_l (hq : sd = 3 ∨ sd = 11) (ho : o ≤ 6) (h3 : tk < 3) {rc : Nat → MI → Int32 → Option (Int32 × MI)} (hrp : ∀ X e b L, CE X sd tb n e b L tk → JP (rc 5 X (nI o)) X sd tb n e b L tk o) : ∀ d e, n - e ≤ d → ∀ X b L c, CE X sd tb n e b L tk → c ≤ e →
    (∃ e' b' cs X', wl (fun s : Int32 × MI => F_Reader_product_12 sd rc s.2 (nI o) s.1) (nI c, X) = some (.inl X') ∧ CE X' sd tb n e' b' (L ++ cs) tk ∧ FX sd X' X ∧ e + cs.length ≤ e' ∧ (∀ pre, tyk false (21 + 8 * o) pre → tyk false (21 + 8 * o) (pre ++ cs)) ∧ alk tk cs ∧ (¬ kd tb n e' b' = 42 ∧ ¬ kd tb n e' b' = 47) ∧ ∀ v0 Y W S K bs, RE Y tb n e b (W ++ S) K o bs tk → ¬ tp (fun x => (3 ≤ x ∧ x ≤ 4) ∨ 60 ≤ x) W → bs ≤ W.length → (∀ x, x ∈ S → 3 ≤ x ∧ x ≤ 4) → S.length ≤ 1 → ∃ Y' S' ks, KG v0 Y = KG v0 Y' ∧ RE Y' tb n e' b' (W ++ S') (K ++ ks) o bs tk ∧ (∀ x, x ∈ S' → 3 ≤ x ∧ x ≤ 4) ∧ S'.length ≤ 1 ∧ S ++ cs = ks ++ S' ∧ fsL LQ Y' Y) ∨
    (∃ k at' X', wl (fun s : Int32 × MI => F_Reader_product_12 sd rc s.2 (nI o) s.1) (nI c, X) = some (.inr (0, X')) ∧ FTt X' k at' ∧ FX sd X' X ∧ (1 ≤ k ∧ k < 100) ∧ ∀ v0 Y W S K bs, RE Y tb n e b (W ++ S) K o bs tk → ¬ tp (fun x => (3 ≤ x ∧ x ≤ 4) ∨ 60 ≤ x) W → bs ≤ W.length → (∀ x, x ∈ S → 3 ≤ x ∧ x ≤ 4) → S.length ≤ 1 → ∃ Y', KG v0 Y = some Y' ∧ MFr Y' k at' ∧ fsL LQ Y' Y) := by
  intro d
  induction d with
  | zero =>
    intro e hd X b L c h hc
    have he := h.1.2.2
    have n16 := h.1.1.2.1
    have kE : kd tb n e b = 258 := by
      rcases kd_end (tb := tb) b he with z | z
      · have := sk_ge (tb := tb) (n := n) e; omega
      · exact z.2
    have stp : F_Reader_product_12 sd rc X (nI o) (nI c) = some (.inr (.inl X)) := by
      unfold F_Reader_product_12
      by_cases z : (1600 : Int32) ≤ nI c
      · rw [if_pos z]
      · rw [if_neg z, if_neg (fun y => by have := (kd_is h.1 (by decide) (show (42 : Int32) = nI 42 from rfl)).mp y; omega), if_neg (fun y => by have := (kd_is h.1 (by decide) (show (47 : Int32) = nI 47 from rfl)).mp y; omega)]
    left
    refine ⟨e, b, [], X, wl_in stp, by rw [List.append_nil]; exact h, FX_r sd X, by simp, fun pre hp => by rw [List.append_nil]; exact hp, fun x hx => (by cases hx), ⟨by omega, by omega⟩, fun v0 Y W S K bs hY hW hb hS hl => ⟨Y, S, [], rfl, by rw [List.append_nil]; exact hY, hS, hl, by simp, fs_r Y⟩⟩
  | succ d ih =>
    intro e hd X b L c h hc
    have hb : ∀ j, j < n → tb j < 256 := fun j hj => (h.1.1.2.2.1 j hj).1
    have he := h.1.2.2
    have n16 := h.1.1.2.1
    by_cases k : kd tb n e b = 42 ∨ kd tb n e b = 47
    · obtain ⟨ql, -, -, -, te1⟩ := kd_sign (e := e) (b := b) (tb := tb) (n := n) (by omega)
      have sg := sk_ge (tb := tb) (n := n) e
      obtain ⟨A, ea, a1, a2⟩ := sign_n (sd := sd) h.1 (c := kd tb n e b) (by omega) rfl
      have cA := CE_m hq h a1 (fs_sub (by decide) a2) (by omega)
      -- the operator
      have hop : ∃ m, (m = 3 ∨ m = 4) ∧ m = (if kd tb n e b = 42 then 3 else 4) ∧ F_Reader_product_12 sd rc X (nI o) (nI c) = F_Reader_product_55 sd rc X (nI o) (nI c) (nI (q_tau m)) := by
        refine ⟨if kd tb n e b = 42 then 3 else 4, by split <;> simp, rfl, ?_⟩
        unfold F_Reader_product_12 F_Reader_product_37
        rw [if_neg (show ¬ (1600 : Int32) ≤ nI c from nI_ge (b := 1600) (by omega) (by decide))]
        by_cases z : kd tb n e b = 42
        · have e6 : X 19 6 = 42 := (kd_is h.1 (by decide) (show (42 : Int32) = nI 42 from rfl)).mpr z
          rw [if_pos e6, if_pos e6, if_pos z]; rfl
        · have e6 : ¬ X 19 6 = 42 := fun y => z ((kd_is h.1 (by decide) (show (42 : Int32) = nI 42 from rfl)).mp y)
          rw [if_neg e6, if_pos ((kd_is h.1 (by decide) (show (47 : Int32) = nI 47 from rfl)).mpr (k.resolve_left z)), if_neg e6, if_neg z]; rfl
      obtain ⟨m, m1, m2, m3⟩ := hop
      unfold F_Reader_product_55 at m3
      rw [ea] at m3
      simp only [Option.bind_some] at m3
      have goY : ∀ v0 Y W S K bs, RE Y tb n e b (W ++ S) K o bs tk → ¬ tp (fun x => (3 ≤ x ∧ x ≤ 4) ∨ 60 ≤ x) W → bs ≤ W.length → (∀ x, x ∈ S → 3 ≤ x ∧ x ≤ 4) → S.length ≤ 1 → ∃ Y1, KG v0 Y = KP v0 Y1 ∧ RE Y1 tb n (sk tb n e + 1) false (W ++ [m]) (K ++ S) o bs tk ∧ fsL LQ Y1 Y := by
        intro v0 Y W S K bs hY hW hbs hS hl
        obtain ⟨Y1, y1, y2, y3⟩ := go_mul (v0 := v0) hY k (fun x hx => by have := hS x hx; omega) (tp_m hW (fun x hx => by omega)) hbs
        rw [← m2] at y2
        rw [rev1 hl] at y2
        exact ⟨Y1, y1, y2, y3⟩
      have tpm : ∀ W : List Nat, ¬ tp (fun x => 60 ≤ x) (W ++ [m]) := fun W z => by have := tp_a.mp z; omega
      rcases hrp A _ _ _ cA with ⟨e1, b1, cs, X1, s1, s2, s3, s4, s5, s6, s7, s9⟩ | ⟨k2, at', X1, s1, s2, s3, s4, s5⟩
      · obtain ⟨U, u1, u2, u3⟩ := emit_n hq s2 (by rw [List.length_append]; have := h.2.1.2.2; omega) m
        rw [s1] at m3
        simp only [Option.bind_some] at m3
        rw [if_neg (by decide), u1] at m3
        simp only [Option.bind_some, nI_s] at m3
        have e2 : wl (fun s : Int32 × MI => F_Reader_product_12 sd rc s.2 (nI o) s.1) (nI c, X) = wl (fun s : Int32 × MI => F_Reader_product_12 sd rc s.2 (nI o) s.1) (nI (c + 1), U) := wl_st m3
        have fU : FX sd U X := FX_t u3 (FX_t s3 (FX_R a2))
        rw [e2]
        have hty : ∀ pre, tyk false (21 + 8 * o) pre → tyk false (21 + 8 * o) (pre ++ (cs ++ [m])) := fun pre hp => by
          rw [← List.append_assoc]
          exact tyk_2 hp s6 (by omega) (fun t _ => ty_b (by omega) (by omega) t)
        rcases ih e1 (by omega) U b1 (L ++ cs ++ [m]) (c + 1) u2 (by omega) with ⟨e3, b3, ds, X3, t1, t2, t3, t4, t5, t6, t7, t8⟩ | ⟨k3, at3, X3, t1, t2, t3, t4, t5⟩
        · left
          refine ⟨e3, b3, cs ++ [m] ++ ds, X3, t1, by simpa [List.append_assoc] using t2, FX_t t3 fU, by simp; omega, fun pre hp => ?_, alk_a (alk_a s7 (alk_1 (by omega))) t6, t7, fun v0 Y W S K bs hY hW hbs hS hl => ?_⟩
          · have := t5 _ (hty pre hp)
            simpa [List.append_assoc] using this
          · obtain ⟨Y1, y1, y2, y3⟩ := goY v0 Y W S K bs hY hW hbs hS hl
            obtain ⟨Y2, z1, z2, z3⟩ := s9 v0 Y1 _ _ bs y2
            have z4 := KE_G (v0 := v0) z2 (tpm W)
            obtain ⟨Y3, S', ks, w1, w2, w3, w4, w5, w6⟩ := t8 v0 Y2 W [m] _ bs z2 hW hbs (fun x hx => by rw [List.mem_singleton.mp hx]; omega) (by simp)
            refine ⟨Y3, S', S ++ cs ++ ks, ((y1.trans z1).trans z4).trans w1, ?_, w3, w4, ?_, fs_tr w6 (fs_tr z3 y3)⟩
            · simpa [List.append_assoc] using w2
            · have : S ++ (cs ++ [m] ++ ds) = S ++ cs ++ ([m] ++ ds) := by simp
              rw [this, w5]; simp
        · right
          refine ⟨k3, at3, X3, t1, t2, FX_t t3 fU, t4, fun v0 Y W S K bs hY hW hbs hS hl => ?_⟩
          obtain ⟨Y1, y1, y2, y3⟩ := goY v0 Y W S K bs hY hW hbs hS hl
          obtain ⟨Y2, z1, z2, z3⟩ := s9 v0 Y1 _ _ bs y2
          have z4 := KE_G (v0 := v0) z2 (tpm W)
          obtain ⟨Y3, w1, w2, w3⟩ := t5 v0 Y2 W [m] _ bs z2 hW hbs (fun x hx => by rw [List.mem_singleton.mp hx]; omega) (by simp)
          exact ⟨Y3, ((y1.trans z1).trans z4).trans w1, w2, fs_tr w3 (fs_tr z3 y3)⟩
      · right
        rw [s1] at m3
        simp only [Option.bind_some] at m3
        rw [if_pos trivial] at m3
        refine ⟨k2, at', X1, wl_in m3, s2, FX_t s3 (FX_R a2), s4, fun v0 Y W S K bs hY hW hbs hS hl => ?_⟩
        obtain ⟨Y1, y1, y2, y3⟩ := goY v0 Y W S K bs hY hW hbs hS hl
        obtain ⟨Y2, z1, z2, z3⟩ := s5 v0 Y1 _ _ bs y2
        exact ⟨Y2, y1.trans z1, z2, fs_tr z3 y3⟩
    · have stp : F_Reader_product_12 sd rc X (nI o) (nI c) = some (.inr (.inl X)) := by
        unfold F_Reader_product_12
        by_cases z : (1600 : Int32) ≤ nI c
        · rw [if_pos z]
        · rw [if_neg z, if_neg (fun y => k (Or.inl ((kd_is h.1 (by decide) (show (42 : Int32) = nI 42 from rfl)).mp y))), if_neg (fun y => k (Or.inr ((kd_is h.1 (by decide) (show (47 : Int32) = nI 47 from rfl)).mp y)))]
      left
      refine ⟨e, b, [], X, wl_in stp, by rw [List.append_nil]; exact h, FX_r sd X, by simp, fun pre hp => by rw [List.append_nil]; exact hp, fun x hx => (by cases hx), ⟨fun z => k (Or.inl z), fun z => k (Or.inr z)⟩, fun v0 Y W S K bs hY hW hb hS hl => ⟨Y, S, [], rfl, by rw [List.append_nil]; exact hY, hS, hl, by simp, fs_r Y⟩⟩
/-- a product -/
theorem prod_j (hq : sd = 3 ∨ sd = 11) (ho : o ≤ 6) (h3 : tk < 3) {rc : Nat → MI → Int32 → Option (Int32 × MI)} (hrp : ∀ X e b L, CE X sd tb n e b L tk → JP (rc 5 X (nI o)) X sd tb n e b L tk o) (h : CE X sd tb n e b L tk) : JS false (F_Reader_product sd rc X (nI o)) X sd tb n e b L tk o := by
  unfold F_Reader_product
  rcases hrp X _ _ _ h with ⟨e1, b1, cs, X1, s1, s2, s3, s4, s5, s6, s7, s9⟩ | ⟨k, at', X1, s1, s2, s3, s4, s5⟩
  · rw [s1]
    simp only [Option.bind_some]
    rw [if_neg (by decide)]
    rcases prod_l hq ho h3 hrp (n - e1) e1 (Nat.le_refl _) X1 b1 (L ++ cs) 0 s2 (Nat.zero_le _) with ⟨e2, b2, ds, X2, t1, t2, t3, t4, t5, t6, t7, t8⟩ | ⟨k, at', X2, t1, t2, t3, t4, t5⟩
    · left
      have t1 : wl (fun s : Int32 × MI => F_Reader_product_12 sd rc s.2 (nI o) s.1) (0, X1) = some (.inl X2) := t1
      refine ⟨e2, b2, cs ++ ds, X2, by rw [t1]; rfl, by simpa [List.append_assoc] using t2, FX_t t3 s3, by simp; omega, by omega, ?_, alk_a s7 t6, ⟨t7.1, t7.2, fun z => by cases z⟩, fun v0 Y W K bs hY hW => ?_⟩
      · exact t5 cs (tyk_l s6 (by omega))
      · have hW : ¬ tp (fun x => (3 ≤ x ∧ x ≤ 4) ∨ 60 ≤ x) W := tp_m hW (fun x hx => by simp; omega)
        obtain ⟨Y1, y1, y2, y3⟩ := s9 v0 Y W K bs hY
        have y4 := KE_G (v0 := v0) y2 (tp_m hW (fun x hx => Or.inr hx))
        obtain ⟨Y2, S', ks, w1, w2, w3, w4, w5, w6⟩ := t8 v0 Y1 W [] _ bs (by rw [List.append_nil]; exact y2) hW (RE_o hY) (fun x hx => by cases hx) (by simp)
        refine ⟨Y2, S', cs ++ ks, (y1.trans y4).trans w1, by simpa [List.append_assoc] using w2, fun x hx => by have := w3 x hx; simp; omega, ?_, fs_tr w6 y3⟩
        rw [rev1 w4]
        have w5 : ds = ks ++ S' := by simpa using w5
        rw [w5]; simp
    · right
      have t1 : wl (fun s : Int32 × MI => F_Reader_product_12 sd rc s.2 (nI o) s.1) (0, X1) = some (.inr (0, X2)) := t1
      refine ⟨k, at', X2, by rw [t1]; rfl, t2, FX_t t3 s3, t4, fun v0 Y W K bs hY hW => ?_⟩
      have hW : ¬ tp (fun x => (3 ≤ x ∧ x ≤ 4) ∨ 60 ≤ x) W := tp_m hW (fun x hx => by simp; omega)
      obtain ⟨Y1, y1, y2, y3⟩ := s9 v0 Y W K bs hY
      have y4 := KE_G (v0 := v0) y2 (tp_m hW (fun x hx => Or.inr hx))
      obtain ⟨Y2, w1, w2, w3⟩ := t5 v0 Y1 W [] _ bs (by rw [List.append_nil]; exact y2) hW (RE_o hY) (fun x hx => by cases hx) (by simp)
      exact ⟨Y2, (y1.trans y4).trans w1, w2, fs_tr w3 y3⟩
  · right
    refine ⟨k, at', X1, by rw [s1]; rfl, s2, s3, s4, fun v0 Y W K bs hY hW => s5 v0 Y W K bs hY⟩
end LC4
