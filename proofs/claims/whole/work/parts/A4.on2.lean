/-! on: the class reads the fences, the whole -/
section LA4
variable {I X Y Z : MI} {J : MJ} {sl sd : Nat} {p : CF} {tb : Nat → Nat} {n : Nat}
/-- all but the lay that is read into -/
def fr4 (Y X : MI) : Prop := ∀ q, (q < 31 ∨ 34 < q) → Y q = X q
theorem WC_w {w w' : WD} (h : WC X 31 w) (h1 : wY w' = wY w) (h2 : a_msk (wK w') 6 = a_msk (wK w) 6) (h3 : ∀ f, f < 6 → wA w' f = wA w f) (h4 : ∀ c, c < 6 → wP w' c = wP w c) (h5 : ∀ f c, f < 6 → c < 6 → wR w' f c = wR w f c) : WC X 31 w' := by
  obtain ⟨g1, g2, g3, g4, g5⟩ := h
  exact ⟨g1.trans h1.symm, g2.trans h2.symm, fun f hf => (g3 f hf).trans (h3 f hf).symm, fun c hc => (g4 c hc).trans (h4 c hc).symm, fun f c hf hc => (g5 f c hf hc).trans (h5 f c hf hc).symm⟩
theorem at_s (p : CF) (tb : Nat → Nat) (k : Nat) : o_at p tb (k + 1) = o_at p tb k + 2 + cC p := by
  unfold o_at
  rw [Nat.mul_add]; omega
theorem at_le (p : CF) (tb : Nat → Nat) {k F : Nat} (h : k < F) : o_at p tb k + 2 + cC p ≤ o_at p tb F := by
  unfold o_at
  have : (2 + cC p) * (k + 1) ≤ (2 + cC p) * F := Nat.mul_le_mul_left _ h
  rw [Nat.mul_add] at this; omega
/-- the stakes of a fence -/
theorem stakes_r (ho : CO p) (hc : CC X sl p) (hq : sl = 3 ∨ sl = 11) (hT : TP X n tb) (h1 : X 1 1 = nI n) {k : Nat} (hk : k < cF p) (hn : o_at p tb k + 2 + cC p ≤ n) (hw : WC X 31 (o_v p tb (k + 1) k 0)) :
    ok (wl (fun s : Int32 × Int32 × MI => F_Image_readFences_76 sl s.2.2 s.1 (nI k) s.2.1) (nI (o_at p tb k + 2), (0 : Int32), X)) (Sum.elim (fun r : Int32 × MI => r.1 = nI (o_at p tb (k + 1)) ∧ (∀ c, c < cC p → o_st p tb k c) ∧ WC r.2 31 (o_v p tb (k + 1) (k + 1) 0) ∧ fr4 r.2 X) (fun r : Int32 × MI => r.1 = 0 ∧ ¬ (∀ c, c < cC p → o_st p tb k c) ∧ fr4 r.2 X)) := by
  have hC := ho.1; have hR := ho.2.1; have hF := ho.2.2.1
  have n16 := hT.1
  have loop : ∀ d c (Y : MI), c + d = cC p → (∀ j, j < c → o_st p tb k j) → WC Y 31 (o_v p tb (k + 1) k c) → fr4 Y X → ok (wl (fun s : Int32 × Int32 × MI => F_Image_readFences_76 sl s.2.2 s.1 (nI k) s.2.1) (nI (o_at p tb k + 2 + c), nI c, Y)) (Sum.elim (fun r : Int32 × MI => r.1 = nI (o_at p tb (k + 1)) ∧ (∀ c, c < cC p → o_st p tb k c) ∧ WC r.2 31 (o_v p tb (k + 1) (k + 1) 0) ∧ fr4 r.2 X) (fun r : Int32 × MI => r.1 = 0 ∧ ¬ (∀ c, c < cC p → o_st p tb k c) ∧ fr4 r.2 X)) := by
    intro d
    induction d with
    | zero =>
      intro c Y hd hs hw hy
      have hd : c = cC p := by omega
      subst hd
      have e1 : Y sl 1 = nI (cC p) := by rw [hy sl (by omega)]; exact hc.1
      refine ok_e (x := (Sum.inl (nI (o_at p tb k + 2 + cC p), Y) : (Int32 × MI) ⊕ (Int32 × MI))) (wl_in ?_) ⟨by rw [at_s], hs, WC_w hw rfl rfl (fun _ _ => rfl) (fun _ _ => rfl) (fun f c hf hc2 => ?_), hy⟩
      · simp only [F_Image_readFences_76]
        rw [e1, if_pos (Int32.le_refl _)]
      · show (if (f < k + 1 ∨ (f = k + 1 ∧ c < 0)) ∧ c < cC p then _ else _) = (if (f < k ∨ (f = k ∧ c < cC p)) ∧ c < cC p then _ else _)
        by_cases q : f < k + 1 ∧ c < cC p
        · rw [if_pos (by omega), if_pos (by omega)]
        · rw [if_neg (by omega), if_neg (by omega)]
    | succ d ih =>
      intro c Y hd hs hw hy
      have tY : TP Y n tb := TP_c hT (hy 178 (by omega)) (hy 2 (by omega))
      have e0 : Y 1 1 = nI n := by rw [hy 1 (by omega)]; exact h1
      have e1 : Y sl 1 = nI (cC p) := by rw [hy sl (by omega)]; exact hc.1
      have e2 : Y sl 2 = nI (cR p) := by rw [hy sl (by omega)]; exact hc.2.1
      have b := (hT.2 (o_at p tb k + 2 + c) (by omega)).1
      have put : ∀ v : Int32, WC (w_putStake Y 31 (nI k) (nI c) (s_v (tb (o_at p tb k + 2 + c)))) 31 (o_v p tb (k + 1) k (c + 1)) := fun _ => by
        refine WC_put hw (by omega) (by omega) rfl rfl rfl rfl (fun f' c' hf' hc' => ?_)
        show (if (f' < k ∨ (f' = k ∧ c' < c + 1)) ∧ c' < cC p then s_v (tb (o_at p tb f' + 2 + c')) else -1) = (if f' = k ∧ c' = c then s_v (tb (o_at p tb k + 2 + c)) else (if (f' < k ∨ (f' = k ∧ c' < c)) ∧ c' < cC p then s_v (tb (o_at p tb f' + 2 + c')) else -1))
        by_cases e : f' = k ∧ c' = c
        · rw [if_pos e, if_pos (by omega), e.1, e.2]
        · rw [if_neg e]
          by_cases q : (f' < k ∨ (f' = k ∧ c' < c)) ∧ c' < cC p
          · rw [if_pos q, if_pos (by omega)]
          · rw [if_neg q, if_neg (by omega)]
      have kp : fr4 (w_putStake Y 31 (nI k) (nI c) (s_v (tb (o_at p tb k + 2 + c)))) X := fun q hq => by
        unfold w_putStake
        split
        · rw [up_k _ _ _ (by omega)]; exact hy q hq
        · exact hy q hq
      have st : F_Image_readFences_76 sl Y (nI (o_at p tb k + 2 + c)) (nI k) (nI c) = @ite _ (o_st p tb k c) (Classical.propDecidable _) (some (.inl (nI (o_at p tb k + 2 + (c + 1)), nI (c + 1), w_putStake Y 31 (nI k) (nI c) (s_v (tb (o_at p tb k + 2 + c)))))) (some (.inr (.inr (0, Y)))) := by
        unfold F_Image_readFences_76
        rw [e1, if_neg (nI_ge (by omega) (by omega)), byte_c tY e0 (by omega)]
        simp only [Option.bind_some]
        unfold F_Image_readFences_112
        rw [e2, nI_s, nI_s, show o_at p tb k + 2 + c + 1 = o_at p tb k + 2 + (c + 1) by omega]
        by_cases q : tb (o_at p tb k + 2 + c) = 255
        · rw [if_pos ((n_255 b).mpr q), if_pos ((n_255 b).mpr q), if_pos (show o_st p tb k c from Or.inr q)]
          unfold s_v
          rw [if_pos q]
        · rw [if_neg (fun z => q ((n_255 b).mp z)), if_neg (fun z => q ((n_255 b).mp z))]
          by_cases q2 : tb (o_at p tb k + 2 + c) < cR p
          · rw [if_pos (nI_lt q2 (by omega)), if_pos (show o_st p tb k c from Or.inl q2)]
            unfold s_v
            rw [if_neg q]
          · rw [if_neg (nI_nlt (by omega) (by omega)), if_neg (show ¬ o_st p tb k c from fun z => z.elim q2 q)]
      by_cases q : o_st p tb k c
      · rw [if_pos q] at st
        have e3 : wl (fun s : Int32 × Int32 × MI => F_Image_readFences_76 sl s.2.2 s.1 (nI k) s.2.1) (nI (o_at p tb k + 2 + c), nI c, Y) = wl (fun s : Int32 × Int32 × MI => F_Image_readFences_76 sl s.2.2 s.1 (nI k) s.2.1) (nI (o_at p tb k + 2 + (c + 1)), nI (c + 1), w_putStake Y 31 (nI k) (nI c) (s_v (tb (o_at p tb k + 2 + c)))) := wl_st st
        rw [e3]
        refine ih (c + 1) _ (by omega) (fun j hj => ?_) (put 0) kp
        by_cases e : j = c
        · subst e; exact q
        · exact hs j (by omega)
      · rw [if_neg q] at st
        exact ok_e (x := (Sum.inr (0, Y) : (Int32 × MI) ⊕ (Int32 × MI))) (wl_in st) ⟨rfl, fun z => q (z c (by omega)), hy⟩
  exact loop (cC p) 0 X (by omega) (fun j hj => by omega) hw (fun _ _ => rfl)
/-- the fences -/
theorem fences_r (ho : CO p) (hc : CC X sl p) (hq : sl = 3 ∨ sl = 11) (hT : TP X n tb) (h1 : X 1 1 = nI n) (hn : o_at p tb (cF p) < n) (hw : WC X 31 (o_v p tb 0 0 0)) :
    ok (F_Image_readFences sl X (nI (o_at p tb 0))) (fun r => fr4 r.2 X ∧ ((o_fs p tb (cF p) ∧ r.1 = 1 ∧ WC r.2 31 (o_w p tb)) ∨ (¬ o_fs p tb (cF p) ∧ r.1 = 0))) := by
  have hC := ho.1; have hR := ho.2.1; have hF := ho.2.2.1
  have n16 := hT.1
  have loop : ∀ d k (Y : MI), k + d = cF p → o_fs p tb k → WC Y 31 (o_v p tb k k 0) → fr4 Y X → ok (wl (fun s : Int32 × Int32 × MI => F_Image_readFences_6 sl s.2.2 s.1 s.2.1) (nI (o_at p tb k), nI k, Y)) (Sum.elim (fun Z : MI => fr4 Z X ∧ o_fs p tb (cF p) ∧ WC Z 31 (o_w p tb)) (fun r : Int32 × MI => fr4 r.2 X ∧ ¬ o_fs p tb (cF p) ∧ r.1 = 0)) := by
    intro d
    induction d with
    | zero =>
      intro k Y hd hs hw hy
      have hd : k = cF p := by omega
      subst hd
      have e1 : Y sl 3 = nI (cF p) := by rw [hy sl (by omega)]; exact hc.2.2.1
      refine ok_e (x := (Sum.inl Y : MI ⊕ (Int32 × MI))) (wl_in ?_) ⟨hy, hs, hw⟩
      simp only [F_Image_readFences_6]
      rw [e1, if_pos (Int32.le_refl _)]
    | succ d ih =>
      intro k Y hd hs hw hy
      have al := at_le p tb (k := k) (F := cF p) (by omega)
      have tY : TP Y n tb := TP_c hT (hy 178 (by omega)) (hy 2 (by omega))
      have e0 : Y 1 1 = nI n := by rw [hy 1 (by omega)]; exact h1
      have e1 : Y sl 3 = nI (cF p) := by rw [hy sl (by omega)]; exact hc.2.2.1
      have b1 := (hT.2 (o_at p tb k) (by omega)).1
      have b2 := (hT.2 (o_at p tb k + 1) (by omega)).1
      have a1 : nI (o_at p tb k) + (1 : Int32) = nI (o_at p tb k + 1) := nI_s _
      have a2 : nI (o_at p tb k) + (2 : Int32) = nI (o_at p tb k + 2) := nI_add _ 2
      have op : F_Image_readFences_6 sl Y (nI (o_at p tb k)) (nI k) = if (99 : Int32) < nI (tb (o_at p tb k)) then some (.inr (.inr (0, Y))) else if nI (tb (o_at p tb k + 1)) ≤ 1 then ((wl (fun s : Int32 × Int32 × MI => F_Image_readFences_76 sl s.2.2 s.1 (nI k) s.2.1) (nI (o_at p tb k + 2), (0 : Int32), m_up (gI_Lay_putAge Y 31 (nI k) (nI (tb (o_at p tb k)))) 31 1 (((gI_Lay_putAge Y 31 (nI k) (nI (tb (o_at p tb k)))) 31 1) ||| (nI (tb (o_at p tb k + 1)) <<< (nI k &&& 31))))).bind <| sel (fun q => some (.inr (.inr q))) fun t6 => some (.inl (t6.1, nI (k + 1), t6.2))) else some (.inr (.inr (0, Y))) := by
        unfold F_Image_readFences_6
        rw [e1, if_neg (nI_ge (by omega) (by omega)), a1, a2, byte_c tY e0 (by omega), byte_c tY e0 (by omega)]
        simp only [Option.bind_some, nI_s]
      by_cases q1 : tb (o_at p tb k) ≤ 99
      · rw [if_neg (show ¬ (99 : Int32) < nI (tb (o_at p tb k)) from nI_nlt (a := 99) (by omega) (by omega))] at op
        by_cases q2 : tb (o_at p tb k + 1) ≤ 1
        · rw [if_pos (show nI (tb (o_at p tb k + 1)) ≤ 1 from nI_le (b := 1) q2 (by decide))] at op
          have wA' : WC (gI_Lay_putAge Y 31 (nI k) (nI (tb (o_at p tb k)))) 31 (nI (256 * tb 0 + tb 1), wK (o_v p tb k k 0), wA (o_v p tb (k + 1) k 0), wP (o_v p tb k k 0), wR (o_v p tb k k 0)) := by
            refine WC_age hw (by omega) rfl rfl (fun f' hf' => ?_) rfl (fun _ _ _ _ => rfl)
            show (if f' < k + 1 then nI (tb (o_at p tb f')) else 0) = (if f' = k then nI (tb (o_at p tb k)) else (if f' < k then nI (tb (o_at p tb f')) else 0))
            by_cases e : f' = k
            · rw [if_pos e, if_pos (by omega), e]
            · rw [if_neg e]
              by_cases q : f' < k
              · rw [if_pos q, if_pos (by omega)]
              · rw [if_neg q, if_neg (by omega)]
          have kA : ∀ q, q ≠ 32 → gI_Lay_putAge Y 31 (nI k) (nI (tb (o_at p tb k))) q = Y q := fun q hq => putAge_k (k := 31) _ _ _ hq
          generalize gI_Lay_putAge Y 31 (nI k) (nI (tb (o_at p tb k))) = A at *
          have mk : A 31 1 ||| (nI (tb (o_at p tb k + 1)) <<< (nI k &&& 31)) = a_msk (wK (o_v p tb (k + 1) k 0)) 6 := by
            rw [wA'.2.1]
            have hK : ∀ g, g ≠ k → wK (o_v p tb (k + 1) k 0) g = wK (o_v p tb k k 0) g := fun g hg => by
              show (if g < k + 1 then nI (tb (o_at p tb g + 1)) else 0) = (if g < k then nI (tb (o_at p tb g + 1)) else 0)
              by_cases q : g < k
              · rw [if_pos q, if_pos (by omega)]
              · rw [if_neg q, if_neg (by omega)]
            have hK0 : wK (o_v p tb k k 0) k = 0 := by
              show (if k < k then nI (tb (o_at p tb k + 1)) else 0) = 0
              rw [if_neg (Nat.lt_irrefl _)]
            have hK1 : wK (o_v p tb (k + 1) k 0) k = nI (tb (o_at p tb k + 1)) := by
              show (if k < k + 1 then nI (tb (o_at p tb k + 1)) else 0) = _
              rw [if_pos (Nat.lt_succ_self _)]
            show a_msk (wK (o_v p tb k k 0)) 6 ||| _ = _
            rcases (by omega : tb (o_at p tb k + 1) = 0 ∨ tb (o_at p tb k + 1) = 1) with e | e
            · have eK : wK (o_v p tb (k + 1) k 0) = wK (o_v p tb k k 0) := funext fun g => by
                by_cases q : g = k
                · rw [q, hK0, hK1, e]; rfl
                · exact hK g q
              rw [eK, e, shl_n (by omega), Nat.mul_zero]
              obtain ⟨m, m1, m2, -⟩ := msk_le (wK (o_v p tb k k 0)) 6 (Nat.le_refl _)
              rw [m2, nx_or, Nat.or_zero]
            · rw [e] at hK1
              have := msk_cut (K := wK (o_v p tb k k 0)) (K' := wK (o_v p tb (k + 1) k 0)) (f := k) (by rw [hK0]; decide) hK1 hK 6
              rw [this, if_pos (by omega), e]
              rfl
          rw [mk] at op
          have wB : WC (m_up A 31 1 (a_msk (wK (o_v p tb (k + 1) k 0)) 6)) 31 (o_v p tb (k + 1) k 0) := by
            obtain ⟨g1, g2, g3, g4, g5⟩ := wA'
            refine ⟨?_, up_e _ _ _ _, fun f hf => ?_, fun c hc => ?_, fun f c hf hc => ?_⟩
            · rw [up_j _ _ _ (by decide)]; exact g1
            · rw [up_k _ _ _ (by decide)]; exact g3 f hf
            · rw [up_k _ _ _ (by decide)]; exact g4 c hc
            · rw [up_k _ _ _ (by decide)]; exact g5 f c hf hc
          have kB : fr4 (m_up A 31 1 (a_msk (wK (o_v p tb (k + 1) k 0)) 6)) X := fun q hq => by rw [up_k _ _ _ (by omega), kA q (by omega)]; exact hy q hq
          generalize m_up A 31 1 (a_msk (wK (o_v p tb (k + 1) k 0)) 6) = B at *
          obtain ⟨r, er, hr⟩ := stakes_r ho (X := B) (CC_c hc (fun q a b => kB q (by omega))) hq (TP_c hT (kB 178 (by omega)) (kB 2 (by omega))) (by rw [kB 1 (by omega)]; exact h1) (show k < cF p by omega) (by omega) wB
          rw [er] at op
          simp only [Option.bind_some] at op
          rcases r with ⟨t1, C⟩ | ⟨t1, C⟩
          · obtain ⟨r1, r2, r3, r4⟩ := hr
            have r1 : t1 = nI (o_at p tb (k + 1)) := r1
            have r3 : WC C 31 (o_v p tb (k + 1) (k + 1) 0) := r3
            have op : F_Image_readFences_6 sl Y (nI (o_at p tb k)) (nI k) = some (.inl (t1, nI (k + 1), C)) := op
            rw [r1] at op
            have e3 : wl (fun s : Int32 × Int32 × MI => F_Image_readFences_6 sl s.2.2 s.1 s.2.1) (nI (o_at p tb k), nI k, Y) = wl (fun s : Int32 × Int32 × MI => F_Image_readFences_6 sl s.2.2 s.1 s.2.1) (nI (o_at p tb (k + 1)), nI (k + 1), C) := wl_st op
            rw [e3]
            refine ih (k + 1) C (by omega) (fun j hj => ?_) r3 (fun q hq => (r4 q hq).trans (kB q hq))
            by_cases e : j = k
            · subst e; exact ⟨q1, q2, r2⟩
            · exact hs j (by omega)
          · obtain ⟨r1, r2, r4⟩ := hr
            have r1 : t1 = 0 := r1
            have r4 : fr4 C B := r4
            have op : F_Image_readFences_6 sl Y (nI (o_at p tb k)) (nI k) = some (.inr (.inr (t1, C))) := op
            exact ok_e (x := (Sum.inr (t1, C) : MI ⊕ (Int32 × MI))) (wl_in op) ⟨fun q hq => (r4 q hq).trans (kB q hq), fun z => r2 (z k (by omega)).2.2, r1⟩
        · rw [if_neg (show ¬ nI (tb (o_at p tb k + 1)) ≤ 1 from nI_ge (a := 1) (by omega) (by omega))] at op
          exact ok_e (x := (Sum.inr (0, Y) : MI ⊕ (Int32 × MI))) (wl_in op) ⟨hy, fun z => q2 (z k (by omega)).2.1, rfl⟩
      · rw [if_pos (show (99 : Int32) < nI (tb (o_at p tb k)) from nI_lt (a := 99) (by omega) (by omega))] at op
        exact ok_e (x := (Sum.inr (0, Y) : MI ⊕ (Int32 × MI))) (wl_in op) ⟨hy, fun z => q1 (z k (by omega)).1, rfl⟩
  unfold F_Image_readFences
  refine ok_b (loop (cF p) 0 X (by omega) (fun j hj => by omega) hw (fun _ _ => rfl)) ?_
  rintro (Z | ⟨r1, Z⟩) h
  · exact ok_s ⟨h.1, Or.inl ⟨h.2.1, rfl, h.2.2⟩⟩
  · exact ok_s ⟨h.1, Or.inr ⟨h.2.1, h.2.2⟩⟩
end LA4
