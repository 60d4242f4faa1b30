/-! on: the class reads an image; the reference holds it against the rules -/
section LA5
variable {I X Y Z : MI} {J : MJ} {sl sd : Nat} {p : CF} {tb : Nat → Nat} {n : Nat}
theorem nI_inj {a b : Nat} (ha : a < 2 ^ 31) (hb : b < 2 ^ 31) : nI a = nI b ↔ a = b := by
  refine ⟨fun h => ?_, fun h => by rw [h]⟩
  have := congrArg Int32.toNatClampNeg h
  rwa [nI_clamp ha, nI_clamp hb] at this
theorem byte_no (e : I 1 1 = nI n) (hn : n ≤ 1600) {j : Nat} (hj : n ≤ j) (hj2 : j < 2 ^ 31) : F_Tape_byteAt I (nI j) = some (-1) := by
  unfold F_Tape_byteAt
  rw [if_neg (nI_pos hj2), e, if_pos (nI_le hj (by omega))]
theorem chk_r (hT : TP X n tb) (h1 : X 1 1 = nI n) {m : Nat} (hm : m < n) (v4 v5 : Int32) : wl (fun s : Int32 × Int32 => F_Image_read_64 sl X v4 v5 (nI m) s.1 s.2) ((131 : Int32), (0 : Int32)) = some (nI (chk (o_bs tb m))) := by
  have n16 := hT.1
  refine wl_f m (fun k => (nI (chk (o_bs tb k)), nI k)) rfl (fun k hk => ?_) ?_
  · show F_Image_read_64 sl X v4 v5 (nI m) (nI (chk (o_bs tb k))) (nI k) = _
    unfold F_Image_read_64
    rw [if_neg (nI_ge hk (by omega)), byte_c hT h1 (by omega)]
    simp only [Option.bind_some]
    rw [rem3 (chk_lt _) (hT.2 k (by omega)).1, nI_s, chk_bs]
  · show F_Image_read_64 sl X v4 v5 (nI m) (nI (chk (o_bs tb m))) (nI m) = _
    unfold F_Image_read_64
    rw [if_pos (Int32.le_refl _)]
theorem read_c (ho : CO p) (hc : CC X sl p) (hq : sl = 3 ∨ sl = 11) (hT : TP X n tb) (h1 : X 1 1 = nI n) : ok (F_Image_read sl X) (fun r => fr4 r.2 X ∧ ((o_G p tb n ∧ r.1 = 1 ∧ WC r.2 31 (o_w p tb)) ∨ (¬ o_G p tb n ∧ r.1 = 0))) := by
  have hC := ho.1; have hR := ho.2.1; have hF := ho.2.2.1
  have n16 := hT.1
  unfold F_Image_read
  by_cases n3 : 3 ≤ n
  · have b2 := (hT.2 2 (by omega)).1
    have e2 : F_Tape_byteAt X 2 = some (nI (tb 2)) := byte_c hT h1 (j := 2) (by omega)
    rw [e2]
    simp only [Option.bind_some]
    rw [if_neg (nI_pos (by omega))]
    by_cases p24 : tb 2 ≤ 24
    · rw [if_neg (show ¬ (24 : Int32) < nI (tb 2) from nI_nlt (a := 24) (b := tb 2) (by omega) (by omega))]
      have a3 : (3 : Int32) + (2 : Int32) * nI (tb 2) = nI (3 + 2 * tb 2) := ad2 3 _
      have aF : nI (cF p) * ((2 : Int32) + nI (cC p)) = nI ((2 + cC p) * cF p) := by
        have : (2 : Int32) + nI (cC p) = nI (2 + cC p) := nI_add 2 _
        rw [this, nI_m3, Nat.mul_comm]
      have mul : (2 + cC p) * cF p ≤ 8 * 6 := Nat.mul_le_mul (by omega) hF
      rw [hc.1, hc.2.2.1, a3, aF, nI_add, nI_s, h1]
      have eA : 3 + 2 * tb 2 + (2 + cC p) * cF p = o_at p tb (cF p) := rfl
      rw [eA]
      by_cases nE : n = o_at p tb (cF p) + 1
      · rw [if_pos (show nI n = nI (o_at p tb (cF p) + 1) by rw [← nE]), chk_r hT h1 (show o_at p tb (cF p) < n by omega)]
        simp only [Option.bind_some, bnd]
        have kX : fr4 (m_fil (m_fil (m_fil (m_up (m_up X 31 0 (0 : Int32)) 31 1 (0 : Int32)) (31 + 1) (0 : Int32) 6) (31 + 2) (0 : Int32) 6) (31 + 3) (-1 : Int32) 36) X := fun q hq => by
          funext j
          unfold m_fil
          rw [if_neg (by omega), if_neg (by omega), if_neg (by omega), up_k _ _ _ (by omega), up_k _ _ _ (by omega)]
        have c0 : (m_fil (m_fil (m_fil (m_up (m_up X 31 0 (0 : Int32)) 31 1 (0 : Int32)) (31 + 1) (0 : Int32) 6) (31 + 2) (0 : Int32) 6) (31 + 3) (-1 : Int32) 36) 31 1 = 0 := by
          unfold m_fil
          rw [if_neg (by omega), if_neg (by omega), if_neg (by omega), up_e]
        have c1 : ∀ f, f < 6 → (m_fil (m_fil (m_fil (m_up (m_up X 31 0 (0 : Int32)) 31 1 (0 : Int32)) (31 + 1) (0 : Int32) 6) (31 + 2) (0 : Int32) 6) (31 + 3) (-1 : Int32) 36) 32 f = 0 := fun f hf => by
          unfold m_fil
          rw [if_neg (by omega), if_neg (by omega), if_pos rfl, if_pos hf]
        have c2 : ∀ c, c < 6 → (m_fil (m_fil (m_fil (m_up (m_up X 31 0 (0 : Int32)) 31 1 (0 : Int32)) (31 + 1) (0 : Int32) 6) (31 + 2) (0 : Int32) 6) (31 + 3) (-1 : Int32) 36) 33 c = 0 := fun c hc => by
          unfold m_fil
          rw [if_neg (by omega), if_pos rfl, if_pos hc]
        have c3 : ∀ j, j < 36 → (m_fil (m_fil (m_fil (m_up (m_up X 31 0 (0 : Int32)) 31 1 (0 : Int32)) (31 + 1) (0 : Int32) 6) (31 + 2) (0 : Int32) 6) (31 + 3) (-1 : Int32) 36) 34 j = -1 := fun j hj => by
          unfold m_fil
          rw [if_pos rfl, if_pos hj]
        generalize m_fil (m_fil (m_fil (m_up (m_up X 31 0 (0 : Int32)) 31 1 (0 : Int32)) (31 + 1) (0 : Int32) 6) (31 + 2) (0 : Int32) 6) (31 + 3) (-1 : Int32) 36 = A at *
        have tA : TP A n tb := TP_c hT (kX 178 (by omega)) (kX 2 (by omega))
        have eA1 : A 1 1 = nI n := by rw [kX 1 (by omega)]; exact h1
        have x0 := (hT.2 0 (by omega)).1
        have x1 := (hT.2 1 (by omega)).1
        have e0 : F_Tape_byteAt A 0 = some (nI (tb 0)) := byte_c tA eA1 (j := 0) (by omega)
        have e1 : F_Tape_byteAt A 1 = some (nI (tb 1)) := byte_c tA eA1 (j := 1) (by omega)
        have aY : nI (tb 0) * (256 : Int32) + nI (tb 1) = nI (256 * tb 0 + tb 1) := by
          have : nI (tb 0) * (256 : Int32) = nI (tb 0 * 256) := nI_m3 _ 256
          rw [this, nI_add, Nat.mul_comm]
        rw [e0]
        simp only [Option.bind_some]
        rw [e1]
        simp only [Option.bind_some]
        rw [aY]
        have kB : fr4 (m_up A 31 0 (nI (256 * tb 0 + tb 1))) X := fun q hq => by rw [up_k _ _ _ (by omega)]; exact kX q hq
        have d0 : m_up A 31 0 (nI (256 * tb 0 + tb 1)) 31 0 = nI (256 * tb 0 + tb 1) := up_e _ _ _ _
        have d1 : m_up A 31 0 (nI (256 * tb 0 + tb 1)) 31 1 = 0 := by rw [up_j _ _ _ (by decide)]; exact c0
        have d2 : ∀ q, q ≠ 31 → m_up A 31 0 (nI (256 * tb 0 + tb 1)) q = A q := fun q hq => up_k _ _ _ hq
        generalize m_up A 31 0 (nI (256 * tb 0 + tb 1)) = B at *
        have tB : TP B n tb := TP_c hT (kB 178 (by omega)) (kB 2 (by omega))
        have eB1 : B 1 1 = nI n := by rw [kB 1 (by omega)]; exact h1
        have cB : CC B sl p := CC_c hc (fun q a b => kB q (by omega))
        rw [byte_c tB eB1 (show o_at p tb (cF p) < n by omega)]
        simp only [Option.bind_some]
        have xc := (hT.2 (o_at p tb (cF p)) (by omega)).1
        have cl := chk_lt (o_bs tb (o_at p tb (cF p)))
        have gc : n - 1 = o_at p tb (cF p) := by omega
        by_cases ck : chk (o_bs tb (o_at p tb (cF p))) = tb (o_at p tb (cF p))
        · rw [if_pos (by rw [ck])]
          by_cases y9 : 256 * tb 0 + tb 1 ≤ 999
          · rw [if_neg (show ¬ (999 : Int32) < nI (256 * tb 0 + tb 1) from nI_nlt (a := 999) (by omega) (by omega))]
            refine ok_b (posts_r ho cB hq tB eB1 p24 (by unfold o_at at nE; omega) (fun c hc => by rw [d2 33 (by decide)]; exact c2 c hc)) ?_
            rintro ⟨r1, C⟩ ⟨k1, k2⟩
            have k1 : ∀ q, q ≠ 33 → C q = B q := k1
            have kC : fr4 C X := fun q hq => (k1 q (by omega)).trans (kB q hq)
            rcases k2 with ⟨g1, g2, g3⟩ | ⟨g1, g2⟩
            · have g2 : r1 = 1 := g2
              have g3 : ∀ c, c < 6 → C 33 c = nI (o_P tb (tb 2) c) := g3
              refine ok_f (show ¬ r1 = 0 by rw [g2]; decide) ?_
              have wC : WC C 31 (o_v p tb 0 0 0) := by
                refine ⟨?_, ?_, fun f hf => ?_, fun c hc => g3 c hc, fun f c hf hc => ?_⟩
                · rw [k1 31 (by decide)]; exact d0
                · rw [k1 31 (by decide), d1]
                  symm
                  show a_msk (fun f => if f < 0 then nI (tb (o_at p tb f + 1)) else (0 : Int32)) 6 = 0
                  have : (fun f => if f < 0 then nI (tb (o_at p tb f + 1)) else (0 : Int32)) = fun _ => 0 := funext fun f => if_neg (by omega)
                  rw [this]; decide
                · show C 32 f = (if f < 0 then nI (tb (o_at p tb f)) else 0)
                  rw [k1 32 (by decide), d2 32 (by decide), c1 f hf, if_neg (by omega)]
                · show C 34 (6 * f + c) = (if (f < 0 ∨ (f = 0 ∧ c < 0)) ∧ c < cC p then s_v (tb (o_at p tb f + 2 + c)) else -1)
                  rw [k1 34 (by decide), d2 34 (by decide), c3 _ (by omega), if_neg (by omega)]
              have ea0 : 3 + 2 * tb 2 = o_at p tb 0 := by unfold o_at; omega
              rw [ea0]
              refine ok_b (fences_r ho (X := C) (CC_c hc (fun q a b => kC q (by omega))) hq (TP_c hT (kC 178 (by omega)) (kC 2 (by omega))) (by rw [kC 1 (by omega)]; exact h1) (by omega) wC) ?_
              rintro ⟨r2, D⟩ ⟨m1, m2⟩
              have m1 : fr4 D C := m1
              have kD : fr4 D X := fun q hq => (m1 q hq).trans (kC q hq)
              rcases m2 with ⟨f1, f2, f3⟩ | ⟨f1, f2⟩
              · have f2 : r2 = 1 := f2
                subst f2
                exact ok_f (show ¬ (1 : Int32) = 0 by decide) (ok_s ⟨kD, Or.inl ⟨⟨⟨n3, p24, nE⟩, by rw [gc]; exact ck, y9, g1, f1⟩, rfl, f3⟩⟩)
              · have f2 : r2 = 0 := f2
                subst f2
                exact ok_t rfl (ok_s ⟨kD, Or.inr ⟨fun g => f1 g.2.2.2.2, rfl⟩⟩)
            · have g2 : r1 = 0 := g2
              subst g2
              exact ok_t rfl (ok_s ⟨kC, Or.inr ⟨fun g => g1 g.2.2.2.1, rfl⟩⟩)
          · rw [if_pos (show (999 : Int32) < nI (256 * tb 0 + tb 1) from nI_lt (a := 999) (by omega) (by omega))]
            exact ok_s ⟨kB, Or.inr ⟨fun g => y9 g.2.2.1, rfl⟩⟩
        · rw [if_neg (fun z => ck ((nI_inj (by omega) (by omega)).mp z))]
          exact ok_s ⟨kB, Or.inr ⟨fun g => ck (by have := g.2.1; rw [gc] at this; exact this), rfl⟩⟩
      · rw [if_neg (fun z => nE ((nI_inj (by omega) (by have : o_at p tb (cF p) = 3 + 2 * tb 2 + (2 + cC p) * cF p := rfl; omega)).mp z))]
        exact ok_s ⟨fun _ _ => rfl, Or.inr ⟨fun g => nE g.1.2.2, rfl⟩⟩
    · rw [if_pos (show (24 : Int32) < nI (tb 2) from nI_lt (a := 24) (by omega) (by omega))]
      exact ok_s ⟨fun _ _ => rfl, Or.inr ⟨fun g => p24 g.1.2.1, rfl⟩⟩
  · have e2 : F_Tape_byteAt X 2 = some (-1) := byte_no h1 n16 (j := 2) (by omega) (by omega)
    rw [e2]
    simp only [Option.bind_some]
    rw [if_pos (by decide)]
    exact ok_s ⟨fun _ _ => rfl, Or.inr ⟨fun g => n3 g.1.1, rfl⟩⟩
/-! the reference -/
theorem posts_t (ho : CO p) (hm : CM X p) (ht : X 177 49 = bI (decide (0 < cC p))) (hT : TP X n tb) {P : Nat} (hP : P ≤ 24) (hn : 4 + 2 * P ≤ n) : F_MD_arePostsTold X (nI P) = some (@ite _ (o_ps p tb P) (Classical.propDecidable _) 1 0) := by
  have hC := ho.1; have hR := ho.2.1
  have n16 := hT.1
  have key : ∀ d k, k + d = P → o_ps p tb k → wl (fun s : Int32 => F_MD_arePostsTold_10 X (nI P) s) (nI k) = some (@ite _ (o_ps p tb P) (Classical.propDecidable _) (.inl ()) (.inr 0)) := by
    intro d
    induction d with
    | zero =>
      intro k hk hps
      have hk : k = P := by omega
      subst hk
      rw [if_pos hps]
      refine wl_in ?_
      simp only [F_MD_arePostsTold_10]
      rw [if_pos (Int32.le_refl _)]
    | succ d ih =>
      intro k hk hps
      have b1 := hT.2 (3 + 2 * k) (by omega)
      have b2 := hT.2 (4 + 2 * k) (by omega)
      have a3 : (3 : Int32) + (2 : Int32) * nI k = nI (3 + 2 * k) := ad2 3 k
      have a4 : nI (3 + 2 * k) + (1 : Int32) = nI (4 + 2 * k) := by rw [nI_s]; congr 1; omega
      have or1 : (30 : Int32) * nI (tb (3 + 2 * k)) + nI (tb (4 + 2 * k)) = nI (o_or tb k) := by
        have : (30 : Int32) * nI (tb (3 + 2 * k)) = nI (30 * tb (3 + 2 * k)) := nI_m3 30 _
        rw [this, nI_add]; rfl
      have st : F_MD_arePostsTold_10 X (nI P) (nI k) = @ite _ (o_p1 p tb k) (Classical.propDecidable _) (some (.inl (nI (k + 1)))) (some (.inr (.inr 0))) := by
        unfold F_MD_arePostsTold_10
        rw [if_neg (nI_ge (by omega) (by omega)), a3, a4, gd_n (by omega) (by decide), gd_n (by omega) (by decide), nI_clamp (by omega), nI_clamp (by omega), b1.2.1, b2.2.1, isPlace_e ho hm ht]
        simp only [Option.bind_some]
        rw [or1, nI_s]
        by_cases q : o_pl p tb k
        · rw [if_pos ((plc_n ho b1.1 b2.1).mpr q), if_neg (by decide)]
          by_cases k0 : k = 0
          · subst k0
            rw [if_pos (show nI 0 ≤ 0 from Int32.le_refl _), if_pos ⟨q, Or.inl rfl⟩]
          · have c1 := hT.2 (3 + 2 * (k - 1)) (by omega)
            have c2 := hT.2 (4 + 2 * (k - 1)) (by omega)
            have s2 : nI (3 + 2 * k) - (2 : Int32) = nI (3 + 2 * (k - 1)) := by
              have := nI_subN (a := 3 + 2 * k) (b := 2) (by omega)
              rw [show 3 + 2 * k - 2 = 3 + 2 * (k - 1) by omega] at this
              exact this
            have s1 : nI (3 + 2 * k) - (1 : Int32) = nI (4 + 2 * (k - 1)) := by
              have := nI_subN (a := 3 + 2 * k) (b := 1) (by omega)
              rw [show 3 + 2 * k - 1 = 4 + 2 * (k - 1) by omega] at this
              exact this
            have or0 : (30 : Int32) * nI (tb (3 + 2 * (k - 1))) + nI (tb (4 + 2 * (k - 1))) = nI (o_or tb (k - 1)) := by
              have : (30 : Int32) * nI (tb (3 + 2 * (k - 1))) = nI (30 * tb (3 + 2 * (k - 1))) := nI_m3 30 _
              rw [this, nI_add]; rfl
            have l1 : o_or tb k < 2 ^ 31 := by unfold o_or; have := b1.1; have := b2.1; omega
            have l0 : o_or tb (k - 1) < 2 ^ 31 := by unfold o_or; have := c1.1; have := c2.1; omega
            rw [if_neg (show ¬ nI k ≤ 0 from nI_ge (a := 0) (by omega) (by omega)), gd_n (by omega) (by decide), gd_n (by omega) (by decide), s2, s1, gd_n (by omega) (by decide), gd_n (by omega) (by decide), nI_clamp (by omega), nI_clamp (by omega), c1.2.1, c2.2.1, or0]
            by_cases q2 : o_or tb (k - 1) < o_or tb k
            · rw [if_pos (nI_lt q2 l1), if_pos ⟨q, Or.inr q2⟩]
            · rw [if_neg (nI_nlt (by omega) l0), if_neg (fun z => z.2.elim k0 q2)]
        · rw [if_neg (fun z => q ((plc_n ho b1.1 b2.1).mp z)), if_pos rfl, if_neg (fun z => q z.1)]
      by_cases q : o_p1 p tb k
      · rw [if_pos q] at st
        rw [wl_st st]
        refine ih (k + 1) (by omega) (fun j hj => ?_)
        by_cases e : j = k
        · subst e; exact q
        · exact hps j (by omega)
      · rw [if_neg q] at st
        rw [wl_in st, if_neg (fun z => q (z k (by omega)))]
  unfold F_MD_arePostsTold
  have k0 := key P 0 (by omega) (fun j hj => by omega)
  rw [nI_0] at k0
  rw [if_pos (show nI P ≤ 24 from nI_le (b := 24) hP (by decide)), k0]
  by_cases q : o_ps p tb P
  · rw [if_pos q, if_pos q]; rfl
  · rw [if_neg q, if_neg q]; rfl
theorem fence_t (ho : CO p) (hm : CM X p) (hT : TP X n tb) {f : Nat} (hn : o_at p tb f + 2 + cC p ≤ n) : F_MD_isFenceTold X (nI (o_at p tb f)) = some (@ite _ (o_f1 p tb f) (Classical.propDecidable _) 1 0) := by
  have hC := ho.1; have hR := ho.2.1
  have n16 := hT.1
  have key : ∀ d c, c + d = cC p → (∀ j, j < c → o_st p tb f j) → wl (fun s : Int32 => F_MD_isFenceTold_27 X (nI (o_at p tb f)) s) (nI c) = some (@ite _ (∀ j, j < cC p → o_st p tb f j) (Classical.propDecidable _) (.inl ()) (.inr 0)) := by
    intro d
    induction d with
    | zero =>
      intro c hc hs
      have hc : c = cC p := by omega
      subst hc
      rw [if_pos hs]
      refine wl_in ?_
      simp only [F_MD_isFenceTold_27]
      rw [hm.1, if_pos (Int32.le_refl _)]
    | succ d ih =>
      intro c hc hs
      have b := hT.2 (o_at p tb f + 2 + c) (by omega)
      have a2 : nI (o_at p tb f) + (2 : Int32) + nI c = nI (o_at p tb f + 2 + c) := by
        have : nI (o_at p tb f) + (2 : Int32) = nI (o_at p tb f + 2) := nI_add _ 2
        rw [this, nI_add]
      have st : F_MD_isFenceTold_27 X (nI (o_at p tb f)) (nI c) = @ite _ (o_st p tb f c) (Classical.propDecidable _) (some (.inl (nI (c + 1)))) (some (.inr (.inr 0))) := by
        unfold F_MD_isFenceTold_27
        rw [hm.1, if_neg (nI_ge (by omega) (by omega)), a2, gd_n (by omega) (by decide), gd_n (by omega) (by decide), nI_clamp (by omega), b.2.1, hm.2.1, nI_s]
        have b0 := b.1
        by_cases q2 : tb (o_at p tb f + 2 + c) < cR p
        · rw [if_pos (nI_lt q2 (by omega)), if_pos (show o_st p tb f c from Or.inl q2)]
        · rw [if_neg (nI_nlt (by omega) (by omega))]
          by_cases q : tb (o_at p tb f + 2 + c) = 255
          · rw [if_pos ((n_255 b.1).mpr q), if_pos (show o_st p tb f c from Or.inr q)]
          · rw [if_neg (fun z => q ((n_255 b.1).mp z)), if_neg (show ¬ o_st p tb f c from fun z => z.elim q2 q)]
      by_cases q : o_st p tb f c
      · rw [if_pos q] at st
        rw [wl_st st]
        refine ih (c + 1) (by omega) (fun j hj => ?_)
        by_cases e : j = c
        · subst e; exact q
        · exact hs j (by omega)
      · rw [if_neg q] at st
        rw [wl_in st, if_neg (fun z => q (z c (by omega)))]
  have b1 := hT.2 (o_at p tb f) (by omega)
  have b2 := hT.2 (o_at p tb f + 1) (by omega)
  have b10 := b1.1; have b20 := b2.1
  have a1 : nI (o_at p tb f) + (1 : Int32) = nI (o_at p tb f + 1) := nI_s _
  unfold F_MD_isFenceTold
  rw [gd_n (by omega) (by decide), nI_clamp (by omega), b1.2.1, a1]
  by_cases q1 : tb (o_at p tb f) ≤ 99
  · rw [if_neg (show ¬ (99 : Int32) < nI (tb (o_at p tb f)) from nI_nlt (a := 99) (by omega) (by omega)), gd_n (by omega) (by decide), nI_clamp (by omega), b2.2.1]
    by_cases q2 : tb (o_at p tb f + 1) ≤ 1
    · have k0 := key (cC p) 0 (by omega) (fun j hj => by omega)
      rw [nI_0] at k0
      rw [if_pos (show nI (tb (o_at p tb f + 1)) ≤ 1 from nI_le (b := 1) q2 (by decide)), k0]
      by_cases q : ∀ j, j < cC p → o_st p tb f j
      · rw [if_pos q, if_pos ⟨q1, q2, q⟩]; rfl
      · rw [if_neg q, if_neg (fun z => q z.2.2)]; rfl
    · rw [if_neg (show ¬ nI (tb (o_at p tb f + 1)) ≤ 1 from nI_ge (a := 1) (by omega) (by omega)), if_neg (fun z => q2 z.2.1)]
  · rw [if_pos (show (99 : Int32) < nI (tb (o_at p tb f)) from nI_lt (a := 99) (by omega) (by omega)), if_neg (fun z => q1 z.1)]
end LA5
