/-! names -/
def nam (tb : Nat → Nat) (n e : Nat) : List Nat := (lets tb n e).map (· - 96)
def own (o : Option Nat) : Bool := match o with
  | some i => decide (i < 24)
  | none => false
abbrev LM5 : List (Nat × Option Nat) := (177, some 35) :: LM
section LD1
variable {I X Y Z V : MI} {J : MJ} {sd n e o bs tk : Nat} {b : Bool} {tb : Nat → Nat}
theorem nam_len : (nam tb n e).length = tke tb n e - sk tb n e := by unfold nam lets; rw [List.length_map, bs_len]
theorem nam_get {i : Nat} (h : i < tke tb n e - sk tb n e) : (nam tb n e).getD i 0 = tb (sk tb n e + i) - 96 := by
  have := bs_get (fun i => tb (sk tb n e + i)) h
  unfold nam lets
  rw [List.getD_eq_getElem?_getD, List.getElem?_map]
  rw [List.getD_eq_getElem?_getD] at this
  rw [List.getElem?_eq_getElem (by rw [bs_len]; exact h)] at this ⊢
  have this : (o_bs (fun i => tb (sk tb n e + i)) (tke tb n e - sk tb n e))[i]'(by rw [bs_len]; exact h) = tb (sk tb n e + i) := this
  show (o_bs (fun i => tb (sk tb n e + i)) (tke tb n e - sk tb n e))[i]'(by rw [bs_len]; exact h) - 96 = _
  rw [this]
theorem let_b {c : Nat} (h : cL c = true) : 97 ≤ c ∧ c ≤ 122 := by unfold cL at h; simpa using h
theorem word_in (hb : ∀ j, j < n → tb j < 256) (hk : kd tb n e b = 256) : sk tb n e < n ∧ tke tb n e = t_e cL tb n (sk tb n e) ∧ ∀ j, sk tb n e ≤ j → j < tke tb n e → 97 ≤ tb j ∧ tb j ≤ 122 := by
  obtain ⟨q, q1, -⟩ := (kd_256 hb).mp hk
  have te1 : tke tb n e = t_e cL tb n (sk tb n e) := by unfold tke; rw [if_pos q, if_pos q1]
  exact ⟨q, te1, fun j h1 h2 => let_b (te_in (P := cL) (tb := tb) (n := n) h1 (by rw [← te1]; exact h2))⟩
theorem nam_ok (hb : ∀ j, j < n → tb j < 256) (hk : kd tb n e b = 256) : 1 ≤ (nam tb n e).length ∧ ∀ a, a ∈ nam tb n e → 1 ≤ a ∧ a ≤ 26 := by
  obtain ⟨q, -, h3⟩ := word_in hb hk
  have tg := tke_gt q
  refine ⟨by rw [nam_len]; omega, fun a ha => ?_⟩
  obtain ⟨i, hi, rfl⟩ := List.getElem_of_mem ha
  have hi2 : i < tke tb n e - sk tb n e := by rw [← nam_len]; exact hi
  have e1 := nam_get (tb := tb) (n := n) (e := e) hi2
  rw [List.getD_eq_getElem?_getD, List.getElem?_eq_getElem hi] at e1
  have e1 : (nam tb n e)[i] = tb (sk tb n e + i) - 96 := e1
  rw [e1]
  have := h3 (sk tb n e + i) (by omega) (by omega)
  omega
theorem own_m (h : QP Y tb n e b) : F_MD_isOwnHere (LK' Y tb n e) = some (bI (own (wo tb n e b)), LK' Y tb n e) := by
  have h0 := hereL h (w := 180) (i := 0) (lw := 5) (by decide) rfl
  have h1 := hereL h (w := 181) (i := 1) (lw := 2) (by decide) rfl
  have h2 := hereL h (w := 182) (i := 2) (lw := 5) (by decide) rfl
  have h3 := hereL h (w := 183) (i := 3) (lw := 4) (by decide) rfl
  have h4 := hereL h (w := 184) (i := 4) (lw := 5) (by decide) rfl
  have h5 := hereL h (w := 185) (i := 5) (lw := 3) (by decide) rfl
  have h6 := hereL h (w := 186) (i := 6) (lw := 3) (by decide) rfl
  have h7 := hereL h (w := 187) (i := 7) (lw := 5) (by decide) rfl
  have h8 := hereL h (w := 188) (i := 8) (lw := 5) (by decide) rfl
  have h9 := hereL h (w := 189) (i := 9) (lw := 5) (by decide) rfl
  have h10 := hereL h (w := 190) (i := 10) (lw := 4) (by decide) rfl
  have h11 := hereL h (w := 191) (i := 11) (lw := 4) (by decide) rfl
  have h12 := hereL h (w := 192) (i := 12) (lw := 4) (by decide) rfl
  have h13 := hereL h (w := 193) (i := 13) (lw := 6) (by decide) rfl
  have h14 := hereL h (w := 194) (i := 14) (lw := 5) (by decide) rfl
  have h15 := hereL h (w := 195) (i := 15) (lw := 3) (by decide) rfl
  have h16 := hereL h (w := 196) (i := 16) (lw := 5) (by decide) rfl
  have h17 := hereL h (w := 197) (i := 17) (lw := 5) (by decide) rfl
  have h18 := hereL h (w := 198) (i := 18) (lw := 2) (by decide) rfl
  have h19 := hereL h (w := 199) (i := 19) (lw := 3) (by decide) rfl
  have h20 := hereL h (w := 200) (i := 20) (lw := 3) (by decide) rfl
  have h21 := hereL h (w := 201) (i := 21) (lw := 3) (by decide) rfl
  have h22 := hereL h (w := 202) (i := 22) (lw := 3) (by decide) rfl
  have h23 := hereL h (w := 203) (i := 23) (lw := 3) (by decide) rfl
  generalize LK' Y tb n e = V at *
  have c1 : F_MD_isOwnHere_223 V 1 = some (1, V) := by unfold F_MD_isOwnHere_223; rw [if_neg (by decide)]
  have c2 : F_MD_isOwnHere_147 V 1 = some (1, V) := by unfold F_MD_isOwnHere_147 F_MD_isOwnHere_218; rw [if_neg (by decide), c1]
  have c3 : F_MD_isOwnHere_71 V 1 = some (1, V) := by unfold F_MD_isOwnHere_71 F_MD_isOwnHere_142; rw [if_neg (by decide), c2]
  have b3 : F_MD_isOwnHere_66 V = some (1, V) := by unfold F_MD_isOwnHere_66; exact c3
  have b2 : F_MD_isOwnHere_142 V = some (1, V) := by unfold F_MD_isOwnHere_142; exact c2
  have b1 : F_MD_isOwnHere_218 V = some (1, V) := by unfold F_MD_isOwnHere_218; exact c1
  have d1 : F_MD_isOwnHere_223 V 0 = some (bI (decide (wo tb n e b = some 18 ∨ wo tb n e b = some 19 ∨ wo tb n e b = some 20 ∨ wo tb n e b = some 21 ∨ wo tb n e b = some 22 ∨ wo tb n e b = some 23)), V) := by
    unfold F_MD_isOwnHere_223
    rw [if_pos rfl, h18]
    simp only [Option.bind_some, h19, h20, h21, h22, h23, bI_if]
    repeat' split
    all_goals simp_all [bI]
  have d2 : F_MD_isOwnHere_147 V 0 = some (bI (decide (wo tb n e b = some 12 ∨ wo tb n e b = some 13 ∨ wo tb n e b = some 14 ∨ wo tb n e b = some 15 ∨ wo tb n e b = some 16 ∨ wo tb n e b = some 17 ∨ wo tb n e b = some 18 ∨ wo tb n e b = some 19 ∨ wo tb n e b = some 20 ∨ wo tb n e b = some 21 ∨ wo tb n e b = some 22 ∨ wo tb n e b = some 23)), V) := by
    unfold F_MD_isOwnHere_147
    rw [if_pos rfl, h12]
    simp only [Option.bind_some, h13, h14, h15, h16, h17, bI_if, b1, d1]
    repeat' split
    all_goals simp_all [bI]
  have d3 : F_MD_isOwnHere_71 V 0 = some (bI (decide (wo tb n e b = some 6 ∨ wo tb n e b = some 7 ∨ wo tb n e b = some 8 ∨ wo tb n e b = some 9 ∨ wo tb n e b = some 10 ∨ wo tb n e b = some 11 ∨ wo tb n e b = some 12 ∨ wo tb n e b = some 13 ∨ wo tb n e b = some 14 ∨ wo tb n e b = some 15 ∨ wo tb n e b = some 16 ∨ wo tb n e b = some 17 ∨ wo tb n e b = some 18 ∨ wo tb n e b = some 19 ∨ wo tb n e b = some 20 ∨ wo tb n e b = some 21 ∨ wo tb n e b = some 22 ∨ wo tb n e b = some 23)), V) := by
    unfold F_MD_isOwnHere_71
    rw [if_pos rfl, h6]
    simp only [Option.bind_some, h7, h8, h9, h10, h11, bI_if, b2, d2]
    repeat' split
    all_goals simp_all [bI]
  have dd : own (wo tb n e b) = decide (wo tb n e b = some 0 ∨ wo tb n e b = some 1 ∨ wo tb n e b = some 2 ∨ wo tb n e b = some 3 ∨ wo tb n e b = some 4 ∨ wo tb n e b = some 5 ∨ wo tb n e b = some 6 ∨ wo tb n e b = some 7 ∨ wo tb n e b = some 8 ∨ wo tb n e b = some 9 ∨ wo tb n e b = some 10 ∨ wo tb n e b = some 11 ∨ wo tb n e b = some 12 ∨ wo tb n e b = some 13 ∨ wo tb n e b = some 14 ∨ wo tb n e b = some 15 ∨ wo tb n e b = some 16 ∨ wo tb n e b = some 17 ∨ wo tb n e b = some 18 ∨ wo tb n e b = some 19 ∨ wo tb n e b = some 20 ∨ wo tb n e b = some 21 ∨ wo tb n e b = some 22 ∨ wo tb n e b = some 23) := by
    cases wo tb n e b with
    | none => rfl
    | some j =>
      show decide (j < 24) = _
      refine decide_eq_decide.mpr ?_
      simp only [Option.some.injEq]
      omega
  rw [dd]
  unfold F_MD_isOwnHere
  rw [h0]
  simp only [Option.bind_some, h1, h2, h3, h4, h5, bI_if, b3, d3]
  repeat' split
  all_goals simp_all [bI]
theorem own_w (hk : kd tb n e b = 256) : (w_no (lets tb n e) < 0 ∨ 24 ≤ w_no (lets tb n e)) ↔ own (wo tb n e b) = false := by
  rcases w_no_v (lets tb n e) with hw | ⟨j, j29, -, hw⟩
  · have hwo : wo tb n e b = none := by unfold wo; rw [if_pos hk, if_pos hw]
    rw [hwo, hw]
    exact ⟨fun _ => rfl, fun _ => Or.inl (by decide)⟩
  · have hwo : wo tb n e b = some j := wo_s.mpr ⟨j29, hk, hw⟩
    rw [hwo, hw]
    show _ ↔ decide (j < 24) = false
    rw [decide_eq_false_iff_not]
    constructor
    · rintro (z | z)
      · exact absurd z (nI_pos (by omega))
      · intro y
        exact absurd z (show ¬ (24 : Int32) ≤ nI j from nI_ge (b := 24) y (by decide))
    · intro z
      exact Or.inr (show (24 : Int32) ≤ nI j from nI_le (a := 24) (by omega) (by omega))
/-- the reference reads a name -/
theorem name_m (h : QP Y tb n e b) : ok (F_MD_name Y) (fun r => fsL LM5 r.2 Y ∧ ((mf tb n e b = none ∧ kd tb n e b = 256 ∧ r.1 = lN (n27 (nam tb n e) 0) ∧ QP r.2 tb n (tke tb n e) true ∧ r.2 177 35 = nI (sk tb n e)) ∨ (∃ k at', mf tb n e b = some (k, at') ∧ MFt r.2 k at'))) := by
  obtain ⟨k1, k2, k3⟩ := LK_s h
  have hb := QP_b h
  have own1 := own_m h
  have e4 := end_is h
  have hlk := look_m h
  have k4 : LK' Y tb n e 177 4 = Y 177 4 := by unfold LK'; rw [up_j _ _ _ (by decide)]
  have k3' : fsL LM5 (LK' Y tb n e) Y := fs_sub (by decide) k3
  unfold F_MD_name
  refine ok_t h.1.1 ?_
  rw [hlk]
  refine ok_be rfl ?_
  generalize LK' Y tb n e = V at *
  have badr : ∀ at', ok ((F_MD_fail V (1 : Int32) (nI at')).bind fun r5 => some ((0 : Int64), r5)) (fun r => fsL LM5 r.2 Y ∧ MFt r.2 1 at') := fun at' => by
    rw [show (1 : Int32) = nI 1 from rfl, fail_m k1.1.1]
    exact ok_s ⟨fs_tr (fs_sub (by decide) (fail_f V 1 at')) k3', fail_t V 1 at'⟩
  have sl := sk_le (tb := tb) h.1.2.2
  have n16 := h.2.2.2.1
  have nope : ¬ kd tb n e b = 256 → mf tb n e b = some (1, sk tb n e) := fun z => by unfold mf; rw [if_neg (fun y => z y.1)]
  show ok ((F_MD_isLetter (ch tb n e)).bind _) _
  unfold ch
  by_cases q : sk tb n e < n
  · rw [if_pos q, letter_m (hb _ q)]
    refine ok_be rfl ?_
    rcases Bool.eq_false_or_eq_true (cL (tb (sk tb n e))) with q1 | q1
    · rw [q1]
      refine ok_f (show ¬ bI true = 0 by decide) ?_
      show ok (if V 177 2 = V 177 4 then _ else _) _
      rw [k2, k4]
      by_cases q2 : b = true ∧ sk tb n e = e
      · refine ok_t (e4.mpr q2) ?_
        show ok ((F_MD_fail V 1 (V 177 2)).bind _) _
        rw [k2]
        refine ok_m (badr (sk tb n e)) ?_
        rintro r ⟨r1, r2⟩
        exact ⟨r1, Or.inr ⟨1, _, nope (fun z => ((kd_256 hb).mp z).2.2 q2), r2⟩⟩
      · refine ok_f (fun z => q2 (e4.mp z)) ?_
        have k256 : kd tb n e b = 256 := (kd_256 hb).mpr ⟨q, q1, q2⟩
        obtain ⟨-, te1, wi⟩ := word_in hb k256
        have tl := tke_le (tb := tb) h.1.2.2
        have tg := tke_gt q
        have ow := own_w (tb := tb) (n := n) (e := e) (b := b) k256
        rw [own1]
        refine ok_be rfl ?_
        cases ho : own (wo tb n e b) with
        | true =>
          refine ok_f (show ¬ bI true = 0 by decide) ?_
          show ok ((F_MD_fail V 1 (V 177 2)).bind _) _
          rw [k2]
          refine ok_m (badr (sk tb n e)) ?_
          rintro r ⟨r1, r2⟩
          refine ⟨r1, Or.inr ⟨1, _, ?_, r2⟩⟩
          unfold mf
          rw [if_neg (fun z => by have := ow.mp z.2; rw [ho] at this; cases this)]
        | false =>
          refine ok_t (show bI false = 0 from rfl) ?_
          show ok ((wl (fun s : Int64 × MI => F_MD_name_58 s.2 s.1) ((0 : Int64), m_up V 177 35 (V 177 2))).bind _) _
          rw [k2]
          have kQ : QP (m_up V 177 35 (nI (sk tb n e))) tb n e b := QP_f k1 (L := [(177, some 35)]) (fs_up (LX := [(177, some 35)]) (by decide) (by decide) (fs_r V)) (by decide) (by decide +kernel)
          have fU : fsL LM5 (m_up V 177 35 (nI (sk tb n e))) Y := fs_up (LX := LM5) (by decide) (by decide) k3'
          have u2 : m_up V 177 35 (nI (sk tb n e)) 177 2 = nI (sk tb n e) := by rw [up_j _ _ _ (by decide)]; exact k2
          have u35 : m_up V 177 35 (nI (sk tb n e)) 177 35 = nI (sk tb n e) := up_e _ _ _ _
          generalize m_up V 177 35 (nI (sk tb n e)) = U at *
          obtain ⟨nl, na⟩ := nam_ok hb k256
          have nln : (nam tb n e).length = tke tb n e - sk tb n e := nam_len
          have hT := kQ.2.2.2.2.1
          have nI3 : U 177 3 = nI n := kQ.1.2.1
          have e0 : ((0 : Int64), U) = (lN (v27 (nam tb n e) 0), m_up U 177 2 (nI (sk tb n e + 0))) := by
            rw [Nat.add_zero, up_same u2]; rfl
          have st : ∀ t, t ≤ tke tb n e - sk tb n e → t ≤ 6 → F_MD_name_58 (m_up U 177 2 (nI (sk tb n e + t))) (lN (v27 (nam tb n e) t)) = if t < tke tb n e - sk tb n e then (if t = 6 then some (.inr (.inr ((0 : Int64), m_up (m_up (m_up U 177 2 (nI (sk tb n e + t))) 177 5 (nI 1)) 177 6 (nI (sk tb n e + t))))) else some (.inl (lN (v27 (nam tb n e) (t + 1)), m_up U 177 2 (nI (sk tb n e + (t + 1)))))) else some (.inr (.inl (lN (v27 (nam tb n e) t), m_up U 177 2 (nI (sk tb n e + t))))) := by
            intro t ht t6
            unfold F_MD_name_58
            rw [up_j (j := 2) (j' := 3) _ _ _ (by decide), nI3, up_e, up_k _ _ _ (show (178 : Nat) ≠ 177 by decide), up_j (j := 2) (j' := 35) _ _ _ (by decide), u35]
            by_cases c : sk tb n e + t < n
            · obtain ⟨t1, t2⟩ := hT _ c
              rw [if_neg (nI_ge c (by omega)), gd_n (by omega) (by decide), nI_clamp (by omega), t2, letter_m t1]
              simp only [Option.bind_some]
              by_cases c2 : t < tke tb n e - sk tb n e
              · have lt := wi (sk tb n e + t) (by omega) (by omega)
                have lc : cL (tb (sk tb n e + t)) = true := by unfold cL; simp; omega
                rw [lc, if_neg (show ¬ bI true = 0 by decide), if_pos c2, nI_subN (by omega), show sk tb n e + t - sk tb n e = t by omega]
                by_cases c3 : t = 6
                · have q5 : m_up U 177 2 (nI (sk tb n e + t)) 177 5 = 0 := by rw [up_j _ _ _ (by decide)]; exact kQ.1.1
                  rw [if_pos (by rw [c3]; rfl), if_pos c3, show (1 : Int32) = nI 1 from rfl, fail_m q5]; rfl
                · rw [if_neg (fun z => c3 ((n_eq (by omega) (by decide) (show (6 : Int32) = nI 6 from rfl)).mp z)), if_neg c3, gd_n (by omega) (by decide), nI_s, up_up]
                  have e5 : (((27 : Int64) * lN (v27 (nam tb n e) t) + (nI (tb (sk tb n e + t))).toInt64) - 97 + 1) = lN (v27 (nam tb n e) (t + 1)) := by
                    rw [v27_s (by omega), nam_get c2, n64 (by omega), show (27 : Int64) = lN 27 from rfl, show (97 : Int64) = lN 97 from rfl, lN_mul, lN_add, lN_sub (by omega), lN_1]
                    congr 1
                    omega
                  simp only [bnd]
                  rw [e5, Nat.add_assoc]
              · have : cL (tb (sk tb n e + t)) = false := by
                  have tt : sk tb n e + t = tke tb n e := by omega
                  rw [tt, te1]
                  exact te_no (by rw [← te1]; omega)
                rw [this, if_pos (show bI false = 0 from rfl), if_neg c2]
            · rw [if_pos (nI_le (by omega) (by omega)), if_neg (by omega)]
          by_cases c6 : tke tb n e - sk tb n e ≤ 6
          · have lp : wl (fun s : Int64 × MI => F_MD_name_58 s.2 s.1) ((0 : Int64), U) = some (.inl (lN (n27 (nam tb n e) 0), m_up U 177 2 (nI (tke tb n e)))) := by
              refine wl_f (tke tb n e - sk tb n e) (fun t => (lN (v27 (nam tb n e) t), m_up U 177 2 (nI (sk tb n e + t)))) e0 (fun t ht => ?_) ?_
              · show F_MD_name_58 (m_up U 177 2 (nI (sk tb n e + t))) (lN (v27 (nam tb n e) t)) = _
                rw [st t (by omega) (by omega), if_pos ht, if_neg (by omega)]
              · show F_MD_name_58 (m_up U 177 2 (nI (sk tb n e + (tke tb n e - sk tb n e)))) (lN (v27 (nam tb n e) (tke tb n e - sk tb n e))) = _
                rw [st _ (Nat.le_refl _) c6, if_neg (by omega), ← nln, v27_f, nln, show sk tb n e + (tke tb n e - sk tb n e) = tke tb n e by omega]
            rw [lp]
            refine ok_s ⟨fs_up (LX := LM5) (by decide) (by decide) (fs_up (LX := LM5) (by decide) (by decide) fU), Or.inl ⟨?_, k256, rfl, ?_, ?_⟩⟩
            · unfold mf
              rw [if_pos ⟨k256, ow.mpr ho⟩, if_pos c6]
            · have := QP_w kQ (show e ≤ tke tb n e by have := sk_ge (tb := tb) (n := n) e; omega) tl
              show QP (m_up (m_up U 177 2 (nI (tke tb n e))) 177 4 (m_up U 177 2 (nI (tke tb n e)) 177 2)) tb n (tke tb n e) true
              rw [up_e]; exact this
            · show m_up (m_up U 177 2 (nI (tke tb n e))) 177 4 (m_up U 177 2 (nI (tke tb n e)) 177 2) 177 35 = _
              rw [up_j _ _ _ (by decide), up_j _ _ _ (by decide)]; exact u35
          · have lp : wl (fun s : Int64 × MI => F_MD_name_58 s.2 s.1) ((0 : Int64), U) = some (.inr ((0 : Int64), m_up (m_up (m_up U 177 2 (nI (sk tb n e + 6))) 177 5 (nI 1)) 177 6 (nI (sk tb n e + 6)))) := by
              refine wl_f 6 (fun t => (lN (v27 (nam tb n e) t), m_up U 177 2 (nI (sk tb n e + t)))) e0 (fun t ht => ?_) ?_
              · show F_MD_name_58 (m_up U 177 2 (nI (sk tb n e + t))) (lN (v27 (nam tb n e) t)) = _
                rw [st t (by omega) (by omega), if_pos (by omega), if_neg (by omega)]
              · show F_MD_name_58 (m_up U 177 2 (nI (sk tb n e + 6))) (lN (v27 (nam tb n e) 6)) = _
                rw [st 6 (by omega) (by omega), if_pos (by omega), if_pos rfl]
            rw [lp]
            refine ok_s ⟨fs_tr (fs_sub (by decide) (fail_f (m_up U 177 2 (nI (sk tb n e + 6))) 1 (sk tb n e + 6))) (fs_up (LX := LM5) (by decide) (by decide) fU), Or.inr ⟨1, sk tb n e + 6, ?_, fail_t (m_up U 177 2 (nI (sk tb n e + 6))) 1 (sk tb n e + 6)⟩⟩
            unfold mf
            rw [if_pos ⟨k256, ow.mpr ho⟩, if_neg c6]
    · rw [q1]
      refine ok_t (show bI false = 0 from rfl) ?_
      show ok ((F_MD_fail V 1 (V 177 2)).bind _) _
      rw [k2]
      refine ok_m (badr (sk tb n e)) ?_
      rintro r ⟨r1, r2⟩
      exact ⟨r1, Or.inr ⟨1, _, nope (fun z => by have := ((kd_256 hb).mp z).2.1; rw [q1] at this; cases this), r2⟩⟩
  · rw [if_neg q]
    have : F_MD_isLetter (-1) = some 0 := by decide
    rw [this]
    refine ok_be rfl (ok_t rfl ?_)
    show ok ((F_MD_fail V 1 (V 177 2)).bind _) _
    rw [k2]
    refine ok_m (badr (sk tb n e)) ?_
    rintro r ⟨r1, r2⟩
    exact ⟨r1, Or.inr ⟨1, _, nope (fun z => q ((kd_256 hb).mp z).1), r2⟩⟩
end LD1
