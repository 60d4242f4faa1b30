/-! the reference: signs, words, numbers -/
section LB5
variable {I X Y Z : MI} {n e : Nat} {b : Bool} {tb : Nat → Nat}
/-- it stands behind a word or number that ends at e2 -/
theorem QP_w (h : QP Y tb n e b) {e2 : Nat} (h1 : e ≤ e2) (h2 : e2 ≤ n) : QP (m_up (m_up Y 177 2 (nI e2)) 177 4 (nI e2)) tb n e2 true := by
  obtain ⟨⟨g1, g2, g3⟩, -, -, g6⟩ := h
  refine ⟨⟨?_, ?_, h2⟩, ⟨e2, ?_, Nat.le_refl _, sk_ge _⟩, ?_, MT_c g6 (fun q hq => by rw [up_k _ _ _ hq, up_k _ _ _ hq]) (by rw [up_j _ _ _ (by decide), up_j _ _ _ (by decide)]) wds_177⟩
  · rw [up_j _ _ _ (by decide), up_j _ _ _ (by decide)]; exact g1
  · rw [up_j _ _ _ (by decide), up_j _ _ _ (by decide)]; exact g2
  · rw [up_j _ _ _ (by decide), up_e]
  · rw [if_pos rfl, up_e]
/-- behind a sign -/
theorem QP_s (h : QP Y tb n e b) {e2 : Nat} (h1 : e < e2) (h2 : e2 ≤ n) : QP (m_up Y 177 2 (nI e2)) tb n e2 false := by
  obtain ⟨⟨g1, g2, g3⟩, -, g5, g6⟩ := h
  refine ⟨⟨?_, ?_, h2⟩, ⟨e2, up_e _ _ _ _, Nat.le_refl _, sk_ge _⟩, ?_, MT_c g6 (fun q hq => up_k _ _ _ hq) (up_j _ _ _ (by decide)) wds_177⟩
  · rw [up_j _ _ _ (by decide)]; exact g1
  · rw [up_j _ _ _ (by decide)]; exact g2
  · rw [if_neg (by decide), up_j _ _ _ (by decide)]
    cases b with
    | true => rw [if_pos rfl] at g5; exact Or.inr ⟨e, h1, g5⟩
    | false =>
      rw [if_neg (by decide)] at g5
      rcases g5 with g | ⟨x, x1, x2⟩
      · exact Or.inl g
      · exact Or.inr ⟨x, by omega, x2⟩
theorem isw_len (hb : ∀ j, j < n → tb j < 256) {i : Nat} (hi : i < 29) (h : isw tb n e b i = true) : sk tb n e < n ∧ tke tb n e = sk tb n e + (w_ds.getD i []).length := by
  obtain ⟨h1, h2⟩ := isw_i h
  have q := ((kd_256 hb).mp h1).1
  have tg := tke_gt q
  have := (w_no_e hi _).mp h2
  have hl : (lets tb n e).length = tke tb n e - sk tb n e := by unfold lets; exact bs_len _ _
  rw [this] at hl
  exact ⟨q, by omega⟩
theorem takes_m (h : QP Y tb n e b) {w i lw : Nat} (hw : (w, i) ∈ w_tab) (hl : (w_ds.getD i []).length = lw) : ok (F_MD_takes w lw Y) (fun r => (isw tb n e b i = true ∧ r.1 = 1 ∧ QP r.2 tb n (tke tb n e) true ∧ fsL LM r.2 Y) ∨ (isw tb n e b i = false ∧ r = (0, LK' Y tb n e))) := by
  obtain ⟨k1, k2, k3⟩ := LK_s h
  have hb := QP_b h
  have hn := h.1.2.2
  have n16 := h.2.2.2.1
  unfold F_MD_takes
  rw [here_m h hw hl]
  simp only [Option.bind_some]
  cases q : isw tb n e b i with
  | false => exact ok_t rfl (ok_s (Or.inr ⟨rfl, rfl⟩))
  | true =>
    obtain ⟨q1, q2⟩ := isw_len hb (w_tab_29 _ hw) q
    have tl := tke_le (tb := tb) hn
    have sg := sk_ge (tb := tb) (n := n) e
    refine ok_f (by decide) ?_
    have e1 : LK' Y tb n e 177 2 + Int32.ofNat lw = nI (tke tb n e) := by
      rw [k2, q2]
      have : nI (sk tb n e) + nI lw = nI (sk tb n e + lw) := nI_add _ _
      rw [hl]
      exact this
    rw [e1]
    exact ok_s (Or.inl ⟨rfl, rfl, QP_w k1 (by omega) tl, fs_up (LX := LM) (by decide) (by decide) (fs_up (LX := LM) (by decide) (by decide) k3)⟩)
theorem fail_m (h : Y 177 5 = 0) (k at' : Nat) : F_MD_fail Y (nI k) (nI at') = some (m_up (m_up Y 177 5 (nI k)) 177 6 (nI at')) := by
  unfold F_MD_fail
  rw [if_pos h]
theorem fail_t (Y : MI) (k at' : Nat) : MFt (m_up (m_up Y 177 5 (nI k)) 177 6 (nI at')) k at' := ⟨by rw [up_j _ _ _ (by decide), up_e], up_e _ _ _ _⟩
theorem fail_f (Y : MI) (k at' : Nat) : fsL LM (m_up (m_up Y 177 5 (nI k)) 177 6 (nI at')) Y := fs_up (LX := LM) (by decide) (by decide) (fs_up (LX := LM) (by decide) (by decide) (fs_r Y))
theorem asks_m (h : QP Y tb n e b) {w i lw : Nat} (hw : (w, i) ∈ w_tab) (hl : (w_ds.getD i []).length = lw) : ok (F_MD_asks w lw Y) (fun r => fsL LM r Y ∧ ((isw tb n e b i = true ∧ QP r tb n (tke tb n e) true) ∨ (isw tb n e b i = false ∧ MFt r 1 (sk tb n e)))) := by
  obtain ⟨k1, k2, k3⟩ := LK_s h
  unfold F_MD_asks
  refine ok_t h.1.1 (ok_b (takes_m h hw hl) ?_)
  rintro r (⟨h1, h2, h3, h4⟩ | ⟨h1, h2⟩)
  · refine ok_f (by rw [h2]; decide) (ok_s ⟨h4, Or.inl ⟨h1, h3⟩⟩)
  · subst h2
    refine ok_t rfl ?_
    show ok ((F_MD_fail (LK' Y tb n e) 1 (LK' Y tb n e 177 2)).bind fun r4 => some r4) _
    rw [k2, show (1 : Int32) = nI 1 from rfl, fail_m k1.1.1]
    exact ok_s ⟨fs_tr (fail_f _ 1 _) k3, Or.inr ⟨h1, fail_t _ 1 _⟩⟩
theorem asks_b {w lw : Nat} (h : ¬ Y 177 5 = 0) : F_MD_asks w lw Y = some Y := by unfold F_MD_asks; rw [if_neg h]
theorem here_b {w lw : Nat} (h : ¬ Y 177 5 = 0) : F_MD_isHere w lw Y = some (0, Y) := by unfold F_MD_isHere; rw [if_neg h]
theorem takes_b {w lw : Nat} (h : ¬ Y 177 5 = 0) : F_MD_takes w lw Y = some (0, Y) := by unfold F_MD_takes; rw [here_b h]; rfl
theorem tsign_m (h : QP Y tb n e b) {c : Nat} (hc : sgn c) : ok (F_MD_takesSign Y (nI c)) (fun r => (kd tb n e b = c ∧ r.1 = 1 ∧ r.2 = m_up (LK' Y tb n e) 177 2 (nI (sk tb n e + 1)) ∧ QP r.2 tb n (sk tb n e + 1) false ∧ fsL LM r.2 Y) ∨ (¬ kd tb n e b = c ∧ r = (0, LK' Y tb n e))) := by
  obtain ⟨k1, k2, k3⟩ := LK_s h
  have hb := QP_b h
  have hn := h.1.2.2
  unfold F_MD_takesSign
  rw [look_m h]
  simp only [Option.bind_some]
  refine ok_t h.1.1 ?_
  by_cases q : kd tb n e b = c
  · obtain ⟨q1, -⟩ := kd_sign (e := e) (b := b) (show kd tb n e b < 256 by have := hc.1; omega)
    have sg := sk_ge (tb := tb) (n := n) e
    refine ok_t ((ch_is hb hc).mpr q) ?_
    rw [k2, nI_s]
    exact ok_s (Or.inl ⟨q, rfl, rfl, QP_s k1 (by omega) (by omega), fs_up (LX := LM) (by decide) (by decide) k3⟩)
  · exact ok_f (fun z => q ((ch_is hb hc).mp z)) (ok_s (Or.inr ⟨q, rfl⟩))
theorem asign_m (h : QP Y tb n e b) {c : Nat} (hc : sgn c) : ok (F_MD_asksSign Y (nI c)) (fun r => fsL LM r Y ∧ ((kd tb n e b = c ∧ QP r tb n (sk tb n e + 1) false) ∨ (¬ kd tb n e b = c ∧ MFt r 1 (sk tb n e)))) := by
  obtain ⟨k1, k2, k3⟩ := LK_s h
  unfold F_MD_asksSign
  refine ok_t h.1.1 (ok_b (tsign_m h hc) ?_)
  rintro r (⟨h1, h2, h3, h4, h5⟩ | ⟨h1, h2⟩)
  · refine ok_f (by rw [h2]; decide) (ok_s ⟨h5, Or.inl ⟨h1, h4⟩⟩)
  · subst h2
    refine ok_t rfl ?_
    show ok ((F_MD_fail (LK' Y tb n e) 1 (LK' Y tb n e 177 2)).bind fun r4 => some r4) _
    rw [k2, show (1 : Int32) = nI 1 from rfl, fail_m k1.1.1]
    exact ok_s ⟨fs_tr (fail_f _ 1 _) k3, Or.inr ⟨h1, fail_t _ 1 _⟩⟩
theorem asign_b {c : Int32} (h : ¬ Y 177 5 = 0) : F_MD_asksSign Y c = some Y := by unfold F_MD_asksSign; rw [if_neg h]
theorem num_b {a m : Int32} (h : ¬ Y 177 5 = 0) : F_MD_number Y a m = some (0, Y) := by unfold F_MD_number; rw [if_neg h]
theorem num_m (h : QP Y tb n e b) {a m : Nat} (ha : a < 20000) (hm : m < 20000) : ok (F_MD_number Y (nI a) (nI m)) (fun r => fsL LM r.2 Y ∧ ((nf tb n e b a m = none ∧ r.1 = nI (n_val tb n e) ∧ QP r.2 tb n (tke tb n e) true ∧ r.2 177 10 = nI (sk tb n e)) ∨ (∃ k at', nf tb n e b a m = some (k, at') ∧ MFt r.2 k at'))) := by
  obtain ⟨k1, k2, k3⟩ := LK_s h
  have hb := QP_b h
  have hn := h.1.2.2
  have n16 := h.2.2.2.1
  have sl := sk_le (tb := tb) hn
  have sg := sk_ge (tb := tb) (n := n) e
  have e4 := end_is h
  have k4 : LK' Y tb n e 177 4 = Y 177 4 := by unfold LK'; rw [up_j _ _ _ (by decide)]
  unfold F_MD_number
  rw [look_m h]
  simp only [Option.bind_some]
  rw [k2, k4]
  generalize LK' Y tb n e = V at *
  have no : ¬ kd tb n e b = 257 → ok ((F_MD_fail V 1 (nI (sk tb n e))).bind fun r5 => some ((0 : Int32), r5)) (fun r => fsL LM r.2 Y ∧ ((nf tb n e b a m = none ∧ r.1 = nI (n_val tb n e) ∧ QP r.2 tb n (tke tb n e) true ∧ r.2 177 10 = nI (sk tb n e)) ∨ (∃ k at', nf tb n e b a m = some (k, at') ∧ MFt r.2 k at'))) := by
    intro q
    have hN : nf tb n e b a m = some (1, sk tb n e) := by unfold nf; rw [if_neg q]
    rw [show (1 : Int32) = nI 1 from rfl, fail_m k1.1.1]
    exact ok_s ⟨fs_tr (fail_f _ 1 _) k3, Or.inr ⟨1, _, hN, fail_t _ 1 _⟩⟩
  refine ok_t h.1.1 ?_
  unfold ch
  by_cases q : sk tb n e < n
  · have cb := hb _ q
    rw [if_pos q, digit_m cb]
    simp only [Option.bind_some]
    rcases Bool.eq_false_or_eq_true (cD (tb (sk tb n e))) with q1 | q1
    · rw [q1]
      refine ok_f (by decide) ?_
      by_cases q2 : b = true ∧ sk tb n e = e
      · exact ok_t (e4.mpr q2) (no (fun z => ((kd_257 hb).mp z).2.2 q2))
      · refine ok_f (fun z => q2 (e4.mp z)) ?_
        have k257 : kd tb n e b = 257 := (kd_257 hb).mpr ⟨q, q1, q2⟩
        obtain ⟨d1, d2, d3⟩ := digs hb hn k257
        have stop : tke tb n e < n → cD (tb (tke tb n e)) = false := by
          have hnl : cL (tb (sk tb n e)) = false := by have := dig_b q1; unfold cL; simp; omega
          have e1 : tke tb n e = t_e cD tb n (sk tb n e) := by unfold tke; rw [if_pos q, hnl, if_neg (by decide), if_pos q1]
          rw [e1]; exact te_no
        -- the loop, digit by digit
        have st : ∀ k, k ≤ tke tb n e - sk tb n e → F_MD_number_49 (m_up V 177 2 (nI (sk tb n e + k))) (nI a) (nI m) (nI (sk tb n e)) (nI (d_val tb (sk tb n e) k)) = if k < tke tb n e - sk tb n e then (if k = 4 then some (.inr (.inr (0, m_up (m_up (m_up V 177 2 (nI (sk tb n e + k))) 177 5 (nI 1)) 177 6 (nI (sk tb n e + k))))) else some (.inl (nI (d_val tb (sk tb n e) (k + 1)), m_up V 177 2 (nI (sk tb n e + (k + 1)))))) else some (.inr (.inl (nI (d_val tb (sk tb n e) k), m_up V 177 2 (nI (sk tb n e + k))))) := by
          intro k hk
          have x3 : m_up V 177 2 (nI (sk tb n e + k)) 177 3 = nI n := by rw [up_j _ _ _ (by decide)]; exact k1.1.2.1
          have x5 : m_up V 177 2 (nI (sk tb n e + k)) 177 5 = 0 := by rw [up_j _ _ _ (by decide)]; exact k1.1.1
          have x178 : m_up V 177 2 (nI (sk tb n e + k)) 178 = V 178 := up_k _ _ _ (by decide)
          unfold F_MD_number_49
          rw [x3, up_e, x178]
          by_cases c : k < tke tb n e - sk tb n e
          · rw [if_pos c]
            obtain ⟨t1, t2⟩ := k1.2.2.2.2.1 (sk tb n e + k) (by omega)
            have db := dig_b (d3 k c)
            rw [if_neg (nI_ge (by omega) (by omega)), gd_n (by omega) (by decide), gd_n (by omega) (by decide), nI_clamp (by omega), t2, digit_m t1, d3 k c]
            simp only [Option.bind_some]
            rw [if_neg (show ¬ bI true = 0 by decide), nI_subN (by omega), show sk tb n e + k - sk tb n e = k by omega]
            by_cases c4 : k = 4
            · rw [if_pos (show nI k = 4 by rw [c4]; rfl), if_pos c4, show (1 : Int32) = nI 1 from rfl, fail_m x5]; rfl
            · rw [if_neg (fun z => c4 ((n_eq (by omega) (by decide) (show (4 : Int32) = nI 4 from rfl)).mp z)), if_neg c4, nI_s, up_up]
              have e1 : (10 : Int32) * nI (d_val tb (sk tb n e) k) = nI (10 * d_val tb (sk tb n e) k) := nI_m3 10 _
              have e2 : nI (10 * d_val tb (sk tb n e) k) + nI (tb (sk tb n e + k)) - (48 : Int32) = nI (d_val tb (sk tb n e) (k + 1)) := by
                rw [nI_add]
                have := nI_subN (a := 10 * d_val tb (sk tb n e) k + tb (sk tb n e + k)) (b := 48) (by omega)
                simp only [d_val]
                rw [show 10 * d_val tb (sk tb n e) k + (tb (sk tb n e + k) - 48) = 10 * d_val tb (sk tb n e) k + tb (sk tb n e + k) - 48 by omega]
                exact this
              rw [e1, e2]; rfl
          · rw [if_neg c]
            have ek : sk tb n e + k = tke tb n e := by omega
            by_cases c2 : sk tb n e + k < n
            · obtain ⟨t1, t2⟩ := k1.2.2.2.2.1 (sk tb n e + k) c2
              have hs := stop (by omega)
              rw [← ek] at hs
              rw [if_neg (nI_ge c2 (by omega)), gd_n (by omega) (by decide), nI_clamp (by omega), t2, digit_m t1, hs]
              simp only [Option.bind_some]
              rw [if_pos (show bI false = 0 from rfl)]
            · rw [if_pos (nI_le (by omega) (by omega))]
        have v0 : V = m_up V 177 2 (nI (sk tb n e + 0)) := (up_same (by rw [Nat.add_zero]; exact k2)).symm
        have up : ∀ N, N ≤ tke tb n e - sk tb n e → N ≤ 4 → wl (fun s : Int32 × MI => F_MD_number_49 s.2 (nI a) (nI m) (nI (sk tb n e)) s.1) ((0 : Int32), V) = wl (fun s : Int32 × MI => F_MD_number_49 s.2 (nI a) (nI m) (nI (sk tb n e)) s.1) (nI (d_val tb (sk tb n e) N), m_up V 177 2 (nI (sk tb n e + N))) := by
          intro N hN1 hN2
          have := wl_up (b := fun s : Int32 × MI => F_MD_number_49 s.2 (nI a) (nI m) (nI (sk tb n e)) s.1) N (fun k => (nI (d_val tb (sk tb n e) k), m_up V 177 2 (nI (sk tb n e + k)))) (fun k hk => by
            have s1 := st k (by omega)
            rw [if_pos (by omega), if_neg (by omega)] at s1
            exact s1)
          rw [← this]
          show _ = wl _ (nI (d_val tb (sk tb n e) 0), m_up V 177 2 (nI (sk tb n e + 0)))
          rw [← v0]; rfl
        by_cases q4 : tke tb n e - sk tb n e ≤ 4
        · have vv : n_val tb n e < 10000 := by
            have a := d_val_lt (tb := tb) (s := sk tb n e) _ d3
            have : 10 ^ (tke tb n e - sk tb n e) ≤ 10 ^ 4 := Nat.pow_le_pow_right (by decide) q4
            unfold n_val
            omega
          have s1 := st (tke tb n e - sk tb n e) (Nat.le_refl _)
          rw [if_neg (Nat.lt_irrefl _), show sk tb n e + (tke tb n e - sk tb n e) = tke tb n e by omega] at s1
          rw [up _ (Nat.le_refl _) q4, show sk tb n e + (tke tb n e - sk tb n e) = tke tb n e by omega]
          have s2 : wl (fun s : Int32 × MI => F_MD_number_49 s.2 (nI a) (nI m) (nI (sk tb n e)) s.1) (nI (n_val tb n e), m_up V 177 2 (nI (tke tb n e))) = some (.inl (nI (n_val tb n e), m_up V 177 2 (nI (tke tb n e)))) := wl_in s1
          refine ok_be s2 ?_
          show ok (F_MD_number_129 (m_up V 177 2 (nI (tke tb n e))) (nI a) (nI m) (nI (sk tb n e)) (nI (n_val tb n e))) _
          unfold F_MD_number_129
          rw [isIn_i]
          simp only [Option.bind_some]
          rw [up_e]
          have hW := QP_w k1 (e2 := tke tb n e) (by omega) d2
          have fW : fsL LM (m_up (m_up V 177 2 (nI (tke tb n e))) 177 4 (nI (tke tb n e))) Y := fs_up (LX := LM) (by decide) (by decide) (fs_up (LX := LM) (by decide) (by decide) k3)
          generalize m_up (m_up V 177 2 (nI (tke tb n e))) 177 4 (nI (tke tb n e)) = W at *
          have W5 : m_up W 177 10 (nI (sk tb n e)) 177 5 = 0 := by rw [up_j _ _ _ (by decide)]; exact hW.1.1
          have fW2 : fsL LM (m_up W 177 10 (nI (sk tb n e))) Y := fs_up (LX := LM) (by decide) (by decide) fW
          have hc : (nI a ≤ nI (n_val tb n e) ∧ nI (n_val tb n e) ≤ nI m) ↔ (a ≤ n_val tb n e ∧ n_val tb n e ≤ m) := by rw [nI_leI (by omega) (by omega), nI_leI (by omega) (by omega)]
          by_cases q5 : a ≤ n_val tb n e ∧ n_val tb n e ≤ m
          · have hN : nf tb n e b a m = none := by unfold nf; rw [if_pos k257, if_pos q4, if_pos q5]
            rw [if_pos (hc.mpr q5)]
            refine ok_f (by decide) (ok_s ⟨fW2, Or.inl ⟨hN, rfl, ?_, up_e W 177 10 _⟩⟩)
            obtain ⟨⟨g1, g2, g3⟩, ⟨z, z1, z2, z3⟩, g5, g6⟩ := hW
            refine ⟨⟨?_, ?_, g3⟩, ⟨z, ?_, z2, z3⟩, ?_, MT_c g6 (fun q hq => up_k _ _ _ hq) (show m_up W 177 10 (nI (sk tb n e)) 177 6 = W 177 6 from up_j _ _ _ (by decide)) wds_177⟩
            · show m_up W 177 10 (nI (sk tb n e)) 177 5 = 0
              exact W5
            · show m_up W 177 10 (nI (sk tb n e)) 177 3 = _
              rw [up_j _ _ _ (by decide)]; exact g2
            · show m_up W 177 10 (nI (sk tb n e)) 177 2 = _
              rw [up_j _ _ _ (by decide)]; exact z1
            · rw [if_pos rfl] at g5 ⊢
              show m_up W 177 10 (nI (sk tb n e)) 177 4 = _
              rw [up_j _ _ _ (by decide)]; exact g5
          · have hN : nf tb n e b a m = some (2, sk tb n e) := by unfold nf; rw [if_pos k257, if_pos q4, if_neg q5]
            rw [if_neg (fun z => q5 (hc.mp z))]
            refine ok_t rfl ?_
            rw [show (2 : Int32) = nI 2 from rfl, fail_m W5]
            exact ok_s ⟨fs_tr (fail_f _ 2 _) fW2, Or.inr ⟨2, _, hN, fail_t _ 2 _⟩⟩
        · have hN : nf tb n e b a m = some (1, sk tb n e + 4) := by unfold nf; rw [if_pos k257, if_neg q4]
          have s1 := st 4 (by omega)
          rw [if_pos (by omega), if_pos rfl] at s1
          rw [up 4 (by omega) (Nat.le_refl _)]
          have s2 : wl (fun s : Int32 × MI => F_MD_number_49 s.2 (nI a) (nI m) (nI (sk tb n e)) s.1) (nI (d_val tb (sk tb n e) 4), m_up V 177 2 (nI (sk tb n e + 4))) = some (.inr (0, m_up (m_up (m_up V 177 2 (nI (sk tb n e + 4))) 177 5 (nI 1)) 177 6 (nI (sk tb n e + 4)))) := wl_in s1
          refine ok_be s2 ?_
          exact ok_s ⟨fs_tr (fail_f _ 1 _) (fs_up (LX := LM) (by decide) (by decide) k3), Or.inr ⟨1, _, hN, fail_t _ 1 _⟩⟩
    · rw [q1]
      exact ok_t rfl (no (fun z => by have := ((kd_257 hb).mp z).2.1; rw [q1] at this; cases this))
  · rw [if_neg q]
    have l1 : F_MD_isDigit (-1) = some 0 := by unfold F_MD_isDigit; rw [if_pos (by decide)]
    rw [l1]
    simp only [Option.bind_some]
    exact ok_t trivial (no (fun z => q ((kd_257 hb).mp z).1))
end LB5
