/-! on: the reference takes it over; the call -/
section LA6
variable {I X Y Z B : MI} {J : MJ} {sl sd : Nat} {p : CF} {tb : Nat → Nat} {n : Nat}
theorem isImage_t (ho : CO p) (hm : CM X p) (ht : X 177 49 = bI (decide (0 < cC p))) (hT : TP X n tb) : F_MD_isImage X (nI n) = some (@ite _ (0 < cC p ∧ o_G p tb n) (Classical.propDecidable _) 1 0) := by
  have hC := ho.1; have hR := ho.2.1; have hF := ho.2.2.1
  have n16 := hT.1
  unfold F_MD_isImage
  rw [ht]
  by_cases c0 : 0 < cC p
  · rw [decide_eq_true c0, if_neg (show ¬ bI true = 0 by decide), fm_e hm]
    simp only [Option.bind_some]
    have a2 : (2 : Int32) + nI (cC p) = nI (2 + cC p) := nI_add 2 _
    have aF : (4 : Int32) + nI (2 + cC p) * nI (cF p) = nI (4 + (2 + cC p) * cF p) := by
      rw [nI_m3]; exact nI_add 4 _
    have mul : (2 + cC p) * cF p ≤ 8 * 6 := Nat.mul_le_mul (by omega) hF
    rw [hm.1, a2, aF]
    by_cases n4 : n < 4 + (2 + cC p) * cF p
    · rw [if_pos (nI_lt n4 (by omega)), if_neg]
      intro g
      have := g.2.1.2.2
      unfold o_at at this
      omega
    · have b2 := hT.2 2 (by omega)
      have b20 := b2.1
      rw [if_neg (nI_nlt (by omega) (by omega)), b2.2.1]
      have a4 : (4 : Int32) + (2 : Int32) * nI (tb 2) + nI (2 + cC p) * nI (cF p) = nI (o_at p tb (cF p) + 1) := by
        have : (4 : Int32) + (2 : Int32) * nI (tb 2) = nI (4 + 2 * tb 2) := ad2 4 _
        rw [this, nI_m3, nI_add]
        unfold o_at
        congr 1; omega
      have oe : o_at p tb (cF p) = 3 + 2 * tb 2 + (2 + cC p) * cF p := rfl
      rw [a4]
      by_cases nE : n = o_at p tb (cF p) + 1
      · have s1 : nI n - (1 : Int32) = nI (o_at p tb (cF p)) := by
          have := nI_subN (a := n) (b := 1) (by omega)
          rw [show n - 1 = o_at p tb (cF p) by omega] at this
          exact this
        have bc := hT.2 (o_at p tb (cF p)) (by omega)
        have gc : n - 1 = o_at p tb (cF p) := by omega
        have cl := chk_lt (o_bs tb (o_at p tb (cF p)))
        rw [if_pos (show nI n = nI (o_at p tb (cF p) + 1) by rw [← nE]), s1, gd_n (by omega) (by decide), chk_m (X := X) (k := 178) (l := o_bs tb (o_at p tb (cF p))) (by omega) (by decide) (bs_len _ _) (fun i hi => by rw [bs_get tb hi]; exact (hT.2 i (by omega)).2.1) (fun b hb => by
          unfold o_bs at hb
          obtain ⟨i, i1, i2⟩ := List.mem_map.mp hb
          rw [← i2]
          exact (hT.2 i (by have := List.mem_range.mp i1; omega)).1)]
        simp only [Option.bind_some]
        rw [nI_clamp (by omega), bc.2.1]
        have bc0 := bc.1
        by_cases ck : chk (o_bs tb (o_at p tb (cF p))) = tb (o_at p tb (cF p))
        · rw [if_pos (by rw [ck])]
          have b0 := hT.2 0 (by omega)
          have b1 := hT.2 1 (by omega)
          have b00 := b0.1; have b10 := b1.1
          have aY : (256 : Int32) * nI (tb 0) + nI (tb 1) = nI (256 * tb 0 + tb 1) := by
            have : (256 : Int32) * nI (tb 0) = nI (256 * tb 0) := nI_m3 256 _
            rw [this, nI_add]
          rw [b0.2.1, b1.2.1, aY]
          by_cases y9 : 256 * tb 0 + tb 1 ≤ 999
          · rw [if_neg (show ¬ (999 : Int32) < nI (256 * tb 0 + tb 1) from nI_nlt (a := 999) (by omega) (by omega))]
            by_cases p24 : tb 2 ≤ 24
            · rw [posts_t ho hm ht hT p24 (by omega)]
              simp only [Option.bind_some]
              by_cases g1 : o_ps p tb (tb 2)
              · rw [if_pos g1, if_neg (by decide)]
                have key : ∀ d k, k + d = cF p → o_fs p tb k → wl (fun s : Int32 => F_MD_isImage_110 X (nI (2 + cC p)) s) (nI k) = some (@ite _ (o_fs p tb (cF p)) (Classical.propDecidable _) (.inl ()) (.inr 0)) := by
                  intro d
                  induction d with
                  | zero =>
                    intro k hk hs
                    have hk : k = cF p := by omega
                    subst hk
                    rw [if_pos hs]
                    refine wl_in ?_
                    simp only [F_MD_isImage_110]
                    rw [fm_e hm]
                    simp only [Option.bind_some]
                    rw [if_pos (Int32.le_refl _)]
                  | succ d ih =>
                    intro k hk hs
                    have al := at_le p tb (k := k) (F := cF p) (by omega)
                    have a3 : (3 : Int32) + (2 : Int32) * nI (tb 2) + nI (2 + cC p) * nI k = nI (o_at p tb k) := by
                      have : (3 : Int32) + (2 : Int32) * nI (tb 2) = nI (3 + 2 * tb 2) := ad2 3 _
                      rw [this, nI_m3, nI_add]; rfl
                    have st : F_MD_isImage_110 X (nI (2 + cC p)) (nI k) = @ite _ (o_f1 p tb k) (Classical.propDecidable _) (some (.inl (nI (k + 1)))) (some (.inr (.inr 0))) := by
                      unfold F_MD_isImage_110
                      rw [fm_e hm]
                      simp only [Option.bind_some]
                      rw [if_neg (nI_ge (by omega) (by omega)), b2.2.1, a3, fence_t ho hm hT (by omega)]
                      simp only [Option.bind_some, nI_s]
                      by_cases q : o_f1 p tb k
                      · rw [if_pos q, if_neg (by decide), if_pos q]
                      · rw [if_neg q, if_pos rfl, if_neg q]
                    by_cases q : o_f1 p tb k
                    · rw [if_pos q] at st
                      rw [wl_st st]
                      refine ih (k + 1) (by omega) (fun j hj => ?_)
                      by_cases e : j = k
                      · subst e; exact q
                      · exact hs j (by omega)
                    · rw [if_neg q] at st
                      rw [wl_in st, if_neg (fun z => q (z k (by omega)))]
                have k0 := key (cF p) 0 (by omega) (fun j hj => by omega)
                rw [nI_0] at k0
                rw [k0]
                by_cases g2 : o_fs p tb (cF p)
                · rw [if_pos g2, if_pos ⟨c0, ⟨by omega, p24, nE⟩, by rw [gc]; exact ck, y9, g1, g2⟩]; rfl
                · rw [if_neg g2, if_neg (fun z => g2 z.2.2.2.2.2)]; rfl
              · rw [if_neg g1, if_pos rfl, if_neg (fun z => g1 z.2.2.2.2.1)]
            · have : F_MD_arePostsTold X (nI (tb 2)) = some 0 := by
                unfold F_MD_arePostsTold
                rw [if_neg (show ¬ nI (tb 2) ≤ 24 from nI_ge (a := 24) (by omega) (by omega))]
              rw [this]
              simp only [Option.bind_some]
              rw [if_pos trivial, if_neg (fun z => p24 z.2.1.2.1)]
          · rw [if_pos (show (999 : Int32) < nI (256 * tb 0 + tb 1) from nI_lt (a := 999) (by omega) (by omega)), if_neg (fun z => y9 z.2.2.2.1)]
        · rw [if_neg (fun z => ck ((nI_inj (by omega) (by omega)).mp z).symm), if_neg (fun z => ck (by have := z.2.2.1; rw [gc] at this; exact this))]
      · rw [if_neg (fun z => nE ((nI_inj (by omega) (by omega)).mp z)), if_neg (fun z => nE z.2.1.2.2)]
  · rw [decide_eq_false c0, if_pos (show bI false = 0 from rfl), if_neg (fun z => c0 z.1)]
theorem on64 (v : Int32) : ok (wl (fun s : Int32 × MI => F_MD_on_64 s.2 v s.1) ((0 : Int32), X)) (fun Y => (∀ c, c < 6 → Y 213 (1 + c) = 0) ∧ (∀ j, j = 0 ∨ 7 ≤ j → Y 213 j = X 213 j) ∧ ∀ k, k ≠ 213 → Y k = X k) := by
  refine ok_cnt (σ := MI) 6 (fun m Y => (∀ c, c < m → Y 213 (1 + c) = 0) ∧ (∀ j, j = 0 ∨ 7 ≤ j → Y 213 j = X 213 j) ∧ ∀ k, k ≠ 213 → Y k = X k) ⟨fun c hc => by omega, fun _ _ => rfl, fun _ _ => rfl⟩ ?_ ?_
  · rintro m hm Y ⟨g1, g2, g3⟩
    simp only [F_MD_on_64]
    refine ok_f (show ¬ (6 : Int32) ≤ nI m from nI_ge (b := 6) hm (by decide)) ?_
    rw [ad_1, gd_n (by omega) (by decide), nI_clamp (by omega)]
    refine ok_s ⟨nI_s m, fun c hc => ?_, fun j hj => ?_, fun k hk => ?_⟩
    · by_cases e : c = m
      · subst e; exact up_e Y 213 (1 + c) 0
      · exact (up_j _ _ _ (by omega)).trans (g1 c (by omega))
    · exact (up_j _ _ _ (by omega)).trans (g2 j hj)
    · exact (up_k _ _ _ hk).trans (g3 k hk)
  · rintro Y h
    simp only [F_MD_on_64]
    exact ok_t (by decide) (ok_s h)
theorem on87 (ho : CO p) (hT : TP X n tb) (hn : 4 + 2 * tb 2 ≤ n) (g : o_ps p tb (tb 2)) (h0 : ∀ c, c < 6 → X 213 (1 + c) = 0) (v : Int32) : ok (wl (fun s : Int32 × MI => F_MD_on_87 s.2 v s.1) ((0 : Int32), X)) (fun Y => (∀ c, c < 6 → Y 213 (1 + c) = nI (o_P tb (tb 2) c)) ∧ (∀ j, j = 0 ∨ 7 ≤ j → Y 213 j = X 213 j) ∧ ∀ k, k ≠ 213 → Y k = X k) := by
  have hC := ho.1; have hR := ho.2.1
  have n16 := hT.1
  have b2 := hT.2 2 (by omega)
  have b20 := b2.1
  refine ok_cnt (σ := MI) (tb 2) (fun m Y => (∀ c, c < 6 → Y 213 (1 + c) = nI (o_P tb m c)) ∧ (∀ j, j = 0 ∨ 7 ≤ j → Y 213 j = X 213 j) ∧ ∀ k, k ≠ 213 → Y k = X k) ⟨fun c hc => by rw [h0 c hc]; rfl, fun _ _ => rfl, fun _ _ => rfl⟩ ?_ ?_
  · rintro m hm Y ⟨g1, g2, g3⟩
    simp only [F_MD_on_87]
    have e178 : Y 178 = X 178 := g3 178 (by decide)
    have c1 := hT.2 (3 + 2 * m) (by omega)
    have c2 := hT.2 (4 + 2 * m) (by omega)
    have gp := (g m hm).1
    have gp1 := gp.1; have gp2 := gp.2
    have a3 : (3 : Int32) + (2 : Int32) * nI m = nI (3 + 2 * m) := ad2 3 m
    have a4 : (4 : Int32) + (2 : Int32) * nI m = nI (4 + 2 * m) := ad2 4 m
    rw [e178, b2.2.1, if_neg (nI_ge hm (by omega)), a3, a4, gd_n (by omega) (by decide), nI_clamp (by omega), c1.2.1, ad_1, gd_n (by omega) (by decide), gd_n (by omega) (by decide), gd_n (by omega) (by decide), nI_clamp (by omega), nI_clamp (by omega), c2.2.1, one_shl (by omega), g1 _ (by omega), nx_or]
    refine ok_s ⟨nI_s m, fun c hc => ?_, fun j hj => ?_, fun k hk => ?_⟩
    · simp only [o_P]
      by_cases e : c = tb (3 + 2 * m)
      · rw [if_pos e, ← e]; exact up_e Y 213 (1 + c) _
      · rw [if_neg e]; exact (up_j _ _ _ (by omega)).trans (g1 c hc)
    · exact (up_j _ _ _ (by omega)).trans (g2 j hj)
    · exact (up_k _ _ _ hk).trans (g3 k hk)
  · rintro Y ⟨g1, g2, g3⟩
    simp only [F_MD_on_87]
    have e178 : Y 178 = X 178 := g3 178 (by decide)
    rw [e178, b2.2.1, if_pos (Int32.le_refl _)]
    exact ok_s ⟨g1, g2, g3⟩
theorem on206 (ho : CO p) (hm : CM X p) (hT : TP X n tb) {f : Nat} (hf : f < cF p) (hn : o_at p tb f + 2 + cC p ≤ n) (v : Int32) : ok (wl (fun s : Int32 × MI => F_MD_on_206 s.2 v (nI f) (nI (o_at p tb f)) s.1) ((0 : Int32), X)) (fun Y => (∀ c, c < cC p → Y 213 (9 + 8 * f + c) = s_v (tb (o_at p tb f + 2 + c))) ∧ (∀ j, j < 9 + 8 * f → Y 213 j = X 213 j) ∧ ∀ k, k ≠ 213 → Y k = X k) := by
  have hC := ho.1; have hR := ho.2.1; have hF := ho.2.2.1
  have n16 := hT.1
  refine ok_cnt (σ := MI) (cC p) (fun m Y => (∀ c, c < m → Y 213 (9 + 8 * f + c) = s_v (tb (o_at p tb f + 2 + c))) ∧ (∀ j, j < 9 + 8 * f → Y 213 j = X 213 j) ∧ ∀ k, k ≠ 213 → Y k = X k) ⟨fun c hc => by omega, fun _ _ => rfl, fun _ _ => rfl⟩ ?_ ?_
  · rintro m hm2 Y ⟨g1, g2, g3⟩
    simp only [F_MD_on_206]
    have e178 : Y 178 = X 178 := g3 178 (by decide)
    have hmY : CM Y p := CM_c hm (fun k hk => g3 k (by omega))
    have b := hT.2 (o_at p tb f + 2 + m) (by omega)
    have a2 : nI (o_at p tb f) + (2 : Int32) + nI m = nI (o_at p tb f + 2 + m) := by
      have : nI (o_at p tb f) + (2 : Int32) = nI (o_at p tb f + 2) := nI_add _ 2
      rw [this, nI_add]
    have ri : ∀ u : Int32, F_MD_rowIs Y (nI f) (nI m) u = some (m_up Y 213 (9 + 8 * f + m) u) := fun u => by
      unfold F_MD_rowIs
      rw [ad_row, gd_n (by omega) (by decide), nI_clamp (by omega)]
    have fin : ∀ u : Int32, u = s_v (tb (o_at p tb f + 2 + m)) → ok (some (Sum.inl (nI m + 1, m_up Y 213 (9 + 8 * f + m) u)) : Option ((Int32 × MI) ⊕ MI)) (Sum.elim (fun q => q.1 = nI (m + 1) ∧ (∀ c, c < m + 1 → q.2 213 (9 + 8 * f + c) = s_v (tb (o_at p tb f + 2 + c))) ∧ (∀ j, j < 9 + 8 * f → q.2 213 j = X 213 j) ∧ ∀ k, k ≠ 213 → q.2 k = X k) (fun _ => False)) := by
      intro u hu
      refine ok_s ⟨nI_s m, fun c hc => ?_, fun j hj => ?_, fun k hk => ?_⟩
      · by_cases e : c = m
        · subst e; rw [← hu]; exact up_e Y 213 (9 + 8 * f + c) u
        · exact (up_j _ _ _ (by omega)).trans (g1 c (by omega))
      · exact (up_j _ _ _ (by omega)).trans (g2 j hj)
      · exact (up_k _ _ _ hk).trans (g3 k hk)
    rw [hmY.1, if_neg (nI_ge hm2 (by omega)), a2, gd_n (by omega) (by decide), nI_clamp (by omega), e178, b.2.1]
    by_cases q : tb (o_at p tb f + 2 + m) = 255
    · rw [if_pos ((n_255 b.1).mpr q), ri]
      simp only [Option.bind_some]
      exact fin (-1) (by unfold s_v; rw [if_pos q])
    · rw [if_neg (fun z => q ((n_255 b.1).mp z)), gd_n (by omega) (by decide), ri]
      simp only [Option.bind_some]
      exact fin _ (by unfold s_v; rw [if_neg q])
  · rintro Y ⟨g1, g2, g3⟩
    simp only [F_MD_on_206]
    have hmY : CM Y p := CM_c hm (fun k hk => g3 k (by omega))
    rw [hmY.1, if_pos (Int32.le_refl _)]
    exact ok_s ⟨g1, g2, g3⟩
theorem on137 (ho : CO p) (hm : CM X p) (hT : TP X n tb) (hn : o_at p tb (cF p) < n) : ok (wl (fun s : Int32 × MI => F_MD_on_137 s.2 (nI (2 + cC p)) s.1) ((0 : Int32), X)) (fun Y => (∀ f, f < cF p → Y 213 (7 + 8 * f) = nI (tb (o_at p tb f)) ∧ Y 213 (8 + 8 * f) = nI (tb (o_at p tb f + 1)) ∧ ∀ c, c < cC p → Y 213 (9 + 8 * f + c) = s_v (tb (o_at p tb f + 2 + c))) ∧ (∀ j, j < 7 → Y 213 j = X 213 j) ∧ ∀ k, k ≠ 213 → Y k = X k) := by
  have hC := ho.1; have hR := ho.2.1; have hF := ho.2.2.1
  have n16 := hT.1
  have b2 := hT.2 2 (by unfold o_at at hn; omega)
  refine ok_cnt (σ := MI) (cF p) (fun m Y => (∀ f, f < m → Y 213 (7 + 8 * f) = nI (tb (o_at p tb f)) ∧ Y 213 (8 + 8 * f) = nI (tb (o_at p tb f + 1)) ∧ ∀ c, c < cC p → Y 213 (9 + 8 * f + c) = s_v (tb (o_at p tb f + 2 + c))) ∧ (∀ j, j < 7 → Y 213 j = X 213 j) ∧ ∀ k, k ≠ 213 → Y k = X k) ⟨fun c hc => by omega, fun _ _ => rfl, fun _ _ => rfl⟩ ?_ ?_
  · rintro m hm2 Y ⟨g1, g2, g3⟩
    simp only [F_MD_on_137]
    have al := at_le p tb (k := m) (F := cF p) hm2
    have e178 : Y 178 = X 178 := g3 178 (by decide)
    have hmY : CM Y p := CM_c hm (fun k hk => g3 k (by omega))
    have tY : TP Y n tb := TP_c hT e178 (g3 2 (by decide))
    have c1 := tY.2 (o_at p tb m) (by omega)
    have c2 := tY.2 (o_at p tb m + 1) (by omega)
    have a3 : (3 : Int32) + (2 : Int32) * nI (tb 2) + nI (2 + cC p) * nI m = nI (o_at p tb m) := by
      have : (3 : Int32) + (2 : Int32) * nI (tb 2) = nI (3 + 2 * tb 2) := ad2 3 _
      rw [this, nI_m3, nI_add]; rfl
    have e2 : Y 178 2 = nI (tb 2) := by rw [e178]; exact b2.2.1
    have a1 : nI (o_at p tb m) + (1 : Int32) = nI (o_at p tb m + 1) := nI_s _
    rw [fm_e hmY]
    simp only [Option.bind_some]
    rw [if_neg (nI_ge hm2 (by omega)), e2, a3, a1, ad_cut, ad_age, gd_n (by omega) (by decide), gd_n (by omega) (by decide), gd_n (by omega) (by decide), gd_n (by omega) (by decide), nI_clamp (by omega), nI_clamp (by omega), nI_clamp (by omega), nI_clamp (by omega), c1.2.1, c2.2.1]
    simp only [bnd]
    have kZ : ∀ k, k ≠ 213 → (m_up (m_up Y 213 (7 + 8 * m) (nI (tb (o_at p tb m)))) 213 (8 + 8 * m) (nI (tb (o_at p tb m + 1)))) k = Y k := fun k hk => by rw [up_k _ _ _ hk, up_k _ _ _ hk]
    have z1 : (m_up (m_up Y 213 (7 + 8 * m) (nI (tb (o_at p tb m)))) 213 (8 + 8 * m) (nI (tb (o_at p tb m + 1)))) 213 (7 + 8 * m) = nI (tb (o_at p tb m)) := by rw [up_j _ _ _ (by omega), up_e]
    have z2 : (m_up (m_up Y 213 (7 + 8 * m) (nI (tb (o_at p tb m)))) 213 (8 + 8 * m) (nI (tb (o_at p tb m + 1)))) 213 (8 + 8 * m) = nI (tb (o_at p tb m + 1)) := up_e _ _ _ _
    have z3 : ∀ j, j < 7 + 8 * m → (m_up (m_up Y 213 (7 + 8 * m) (nI (tb (o_at p tb m)))) 213 (8 + 8 * m) (nI (tb (o_at p tb m + 1)))) 213 j = Y 213 j := fun j hj => by rw [up_j _ _ _ (by omega), up_j _ _ _ (by omega)]
    generalize m_up (m_up Y 213 (7 + 8 * m) (nI (tb (o_at p tb m)))) 213 (8 + 8 * m) (nI (tb (o_at p tb m + 1))) = Z at *
    refine ok_b (on206 ho (X := Z) (CM_c hmY (fun k hk => kZ k (by omega))) (TP_c tY (kZ 178 (by decide)) (kZ 2 (by decide))) hm2 (by omega) (nI (2 + cC p))) ?_
    rintro U ⟨u1, u2, u3⟩
    refine ok_s ⟨nI_s m, fun f hf => ?_, fun j hj => ?_, fun k hk => (u3 k hk).trans ((kZ k hk).trans (g3 k hk))⟩
    · show U 213 (7 + 8 * f) = _ ∧ U 213 (8 + 8 * f) = _ ∧ ∀ c, c < cC p → U 213 (9 + 8 * f + c) = _
      by_cases e : f = m
      · subst e
        exact ⟨(u2 _ (by omega)).trans z1, (u2 _ (by omega)).trans z2, u1⟩
      · obtain ⟨x1, x2, x3⟩ := g1 f (by omega)
        exact ⟨(u2 _ (by omega)).trans ((z3 _ (by omega)).trans x1), (u2 _ (by omega)).trans ((z3 _ (by omega)).trans x2), fun c hc => (u2 _ (by omega)).trans ((z3 _ (by omega)).trans (x3 c hc))⟩
    · exact (u2 j (by omega)).trans ((z3 j (by omega)).trans (g2 j hj))
  · rintro Y ⟨g1, g2, g3⟩
    simp only [F_MD_on_137]
    have hmY : CM Y p := CM_c hm (fun k hk => g3 k (by omega))
    rw [fm_e hmY]
    simp only [Option.bind_some]
    rw [if_pos (Int32.le_refl _)]
    exact ok_s ⟨g1, g2, g3⟩
/-- the reference's on -/
theorem on_m (ho : CO p) (hm : CM X p) (ht : X 177 49 = bI (decide (0 < cC p))) (hT : TP X n tb) (h1 : X 177 1 = nI n) :
    (¬ (0 < cC p ∧ o_G p tb n) → F_MD_on X = some (0, m_up (m_up X 177 1 0) 179 5 (X 179 5 + 1))) ∧ ((0 < cC p ∧ o_G p tb n) → ok (F_MD_on X) (fun t => t.1 = 1 ∧ WM t.2 p (o_w p tb) ∧ t.2 213 55 = 0 ∧ t.2 177 66 = 0 ∧ t.2 177 1 = 0 ∧ fsL [(177, some 1), (177, some 66), (213, none)] t.2 X)) := by
  have hC := ho.1; have hR := ho.2.1; have hF := ho.2.2.1
  have kA : ∀ q, q ≠ 177 → m_up X 177 1 (0 : Int32) q = X q := fun q hq => up_k _ _ _ hq
  have iA : F_MD_isImage (m_up X 177 1 (0 : Int32)) (nI n) = some (@ite _ (0 < cC p ∧ o_G p tb n) (Classical.propDecidable _) 1 0) :=
    isImage_t ho (CM_c hm (fun k hk => kA k (by omega))) (by rw [up_j _ _ _ (by decide)]; exact ht) (TP_c hT (kA 178 (by decide)) (kA 2 (by decide)))
  refine ⟨fun g => ?_, fun g => ?_⟩
  · unfold F_MD_on
    rw [h1, iA]
    simp only [Option.bind_some]
    rw [if_neg g, if_pos rfl]
  · obtain ⟨-, ⟨n3, p24, nE⟩, ck, y9, gp, gf⟩ := id g
    have oe : o_at p tb (cF p) = 3 + 2 * tb 2 + (2 + cC p) * cF p := rfl
    have b0 := hT.2 0 (by omega)
    have b1 := hT.2 1 (by omega)
    have aY : (256 : Int32) * nI (tb 0) + nI (tb 1) = nI (256 * tb 0 + tb 1) := by
      have : (256 : Int32) * nI (tb 0) = nI (256 * tb 0) := nI_m3 256 _
      rw [this, nI_add]
    have a2 : (2 : Int32) + nI (cC p) = nI (2 + cC p) := nI_add 2 _
    unfold F_MD_on
    rw [h1, iA]
    simp only [Option.bind_some]
    rw [if_pos g]
    refine ok_f (by decide) ?_
    rw [b0.2.1, b1.2.1, aY, hm.1, a2]
    have kB : ∀ q, q ≠ 177 → q ≠ 213 → m_up (m_up X 177 1 (0 : Int32)) 213 0 (nI (256 * tb 0 + tb 1)) q = X q := fun q a b => by rw [up_k _ _ _ b, up_k _ _ _ a]
    have e0 : m_up (m_up X 177 1 (0 : Int32)) 213 0 (nI (256 * tb 0 + tb 1)) 213 0 = nI (256 * tb 0 + tb 1) := up_e _ _ _ _
    have e1 : m_up (m_up X 177 1 (0 : Int32)) 213 0 (nI (256 * tb 0 + tb 1)) 177 1 = 0 := by rw [up_k _ _ _ (by decide), up_e]
    have fB : fsL [(177, some 1), (177, some 66), (213, none)] (m_up (m_up X 177 1 (0 : Int32)) 213 0 (nI (256 * tb 0 + tb 1))) X := fs_up (LX := [(213, none)]) (by decide) (by simp [inL]) (fs_up (LX := [(177, some 1)]) (by decide) (by decide) (fs_r X))
    generalize m_up (m_up X 177 1 (0 : Int32)) 213 0 (nI (256 * tb 0 + tb 1)) = B at *
    refine ok_b (on64 (X := B) (nI (2 + cC p))) ?_
    rintro C ⟨c1, c2, c3⟩
    have tC : TP C n tb := TP_c hT ((c3 178 (by decide)).trans (kB 178 (by decide) (by decide))) ((c3 2 (by decide)).trans (kB 2 (by decide) (by decide)))
    refine ok_b (on87 ho tC (by omega) gp c1 (nI (2 + cC p))) ?_
    rintro D ⟨d1, d2, d3⟩
    have tD : TP D n tb := TP_c tC (d3 178 (by decide)) (d3 2 (by decide))
    refine ok_b (on137 ho (X := D) (CM_c hm (fun k hk => (d3 k (by omega)).trans ((c3 k (by omega)).trans (kB k (by omega) (by omega))))) tD (by omega)) ?_
    rintro E ⟨f1, f2, f3⟩
    have fE : fsL [(177, some 1), (177, some 66), (213, none)] E X := fs_tr (fs_fr (P := fun q => q = 213) (fun k hk => (f3 k hk).trans ((d3 k hk).trans (c3 k hk))) (fun k hk => by subst hk; decide)) fB
    refine ok_s ⟨rfl, ⟨?_, fun f hf => ?_, fun f hf => ?_, fun c hc => ?_, fun f c hf hc => ?_⟩, ?_, up_e (m_up E 213 55 0) 177 66 0, ?_, fs_up (LX := [(177, some 66)]) (by decide) (by decide) (fs_up (LX := [(213, none)]) (by decide) (by simp [inL]) fE)⟩
    · show m_up (m_up E 213 55 0) 177 66 0 213 0 = nI (256 * tb 0 + tb 1)
      rw [up_k _ _ _ (by decide), up_j _ _ _ (by decide), f2 0 (by decide), d2 0 (Or.inl rfl), c2 0 (Or.inl rfl)]; exact e0
    · show m_up (m_up E 213 55 0) 177 66 0 213 (8 + 8 * f) = (if f < cF p then nI (tb (o_at p tb f + 1)) else 0)
      rw [up_k _ _ _ (by decide), up_j _ _ _ (by omega), if_pos hf]; exact (f1 f hf).2.1
    · show m_up (m_up E 213 55 0) 177 66 0 213 (7 + 8 * f) = (if f < cF p then nI (tb (o_at p tb f)) else 0)
      rw [up_k _ _ _ (by decide), up_j _ _ _ (by omega), if_pos hf]; exact (f1 f hf).1
    · show m_up (m_up E 213 55 0) 177 66 0 213 (1 + c) = nI (o_P tb (tb 2) c)
      rw [up_k _ _ _ (by decide), up_j _ _ _ (by omega), f2 _ (by omega)]; exact d1 c hc
    · show m_up (m_up E 213 55 0) 177 66 0 213 (9 + 8 * f + c) = (if (f < cF p ∨ (f = cF p ∧ c < 0)) ∧ c < cC p then s_v (tb (o_at p tb f + 2 + c)) else -1)
      rw [up_k _ _ _ (by decide), up_j _ _ _ (by omega), if_pos ⟨Or.inl hf, hc⟩]; exact (f1 f hf).2.2 c hc
    · show m_up (m_up E 213 55 0) 177 66 0 213 55 = 0
      rw [up_k _ _ _ (by decide), up_e]
    · show m_up (m_up E 213 55 0) 177 66 0 177 1 = 0
      rw [up_j _ _ _ (by decide), up_k _ _ _ (by decide), f3 177 (by decide), d3 177 (by decide), c3 177 (by decide)]; exact e1
end LA6
