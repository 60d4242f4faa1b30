/-! a year passes in the reference: stakes walk, ages, roots -/
section G56
variable {I : MI} {J : MJ} {p : CF} {w : WD} {kl : List NT} {th : Bool}
/-- those ahead of n, and ahead of m of n, have walked -/
def P2 (I : MI) (p : CF) (w : WD) (kl : List NT) (th : Bool) (n m : Nat) (X : MI) : Prop :=
  (∀ f c, f < cF p → c < cC p → X 213 (9 + 8 * f + c) = if f < n ∨ (f = n ∧ c < m) then a_row p w f c else wR w f c) ∧ (∀ j, j < 55 → (∀ f c, f < cF p → c < cC p → j ≠ 9 + 8 * f + c) → X 213 j = I 213 j) ∧ (∀ k, k ≠ 213 → k ≠ 177 → X k = I k) ∧ (∀ j, j ≠ 56 → X 177 j = I 177 j) ∧
  X 177 56 = I 177 56 + nI (sm (fun f => sm (fun c => if a_goes p w f c then 1 else 0) (cC p)) n + sm (fun c => if a_goes p w n c then 1 else 0) m) ∧ KM X (k_row p w th n m (k_all p w th n kl))
theorem P2_next {n : Nat} {X : MI} (h : P2 I p w kl th n (cC p) X) : P2 I p w kl th (n + 1) 0 X := by
  obtain ⟨h1, h2, h3, h4, h5, h6⟩ := h
  refine ⟨fun f c hf hc => ?_, h2, h3, h4, ?_, h6⟩
  · rw [h1 f c hf hc]
    by_cases q : f < n ∨ (f = n ∧ c < cC p)
    · rw [if_pos q, if_pos (by omega)]
    · rw [if_neg q, if_neg (by omega)]
  · rw [h5]; rfl
theorem goes_85 (ho : CO p) (hs : CM I p) (hw : WM I p w) (hv : WO p w) (ht : I 177 55 = bI th) (h215 : ∀ f c, f < cF p → c < cC p → I 215 (6 * f + c) = nI (n_w p w f c)) {n m : Nat} (hn : n < cF p) (hm : m < cC p) {X : MI} (h : P2 I p w kl th n m X) :
    ok (F_MD_yearGoes_85 X (nI n) (nI m)) (Sum.elim (fun q => q.1 = nI (m + 1) ∧ P2 I p w kl th n (m + 1) q.2) (fun _ => False)) := by
  have hC := ho.1; have hF := ho.2.2.1; have hR := ho.2.1
  obtain ⟨h1, h2, h3, h4, h5, h6⟩ := h
  have r0 : X 213 (9 + 8 * n + m) = wR w n m := by rw [h1 n m hn hm, if_neg (by omega)]
  have hro : F_MD_rowOf X (nI n) (nI m) = some (wR w n m) := by
    unfold F_MD_rowOf
    rw [ad_row, gd_n (by omega) (by decide), nI_clamp (by omega), r0]
  unfold F_MD_yearGoes_85
  have e2 : X 204 2 = nI (cC p) := by rw [h3 204 (by decide) (by decide)]; exact hs.1
  rw [e2]
  refine ok_f (nI_ge hm (by omega)) (ok_be hro ?_)
  by_cases c1 : wR w n m = -1
  · have ga : a_goes p w n m = false := by unfold a_goes; rw [c1]; simp
    have ra : a_row p w n m = -1 := by unfold a_row; rw [if_pos c1]
    refine ok_t c1 (ok_s ⟨nI_s m, fun f c hf hc => ?_, h2, h3, h4, ?_, ?_⟩)
    · show X 213 _ = _
      rw [h1 f c hf hc]
      by_cases q : f < n ∨ (f = n ∧ c < m)
      · rw [if_pos q, if_pos (by omega)]
      · rw [if_neg q]
        by_cases q2 : f = n ∧ c = m
        · rw [if_pos (by omega), q2.1, q2.2, ra, c1]
        · rw [if_neg (by omega)]
    · show X 177 56 = _
      rw [h5]
      simp only [sm, ga]
      rfl
    · show KM X _
      simp only [k_row, ga]
      exact h6
  · refine ok_f c1 ?_
    obtain ⟨r, hr, e3, e4⟩ := rowN hv ho c1
    obtain ⟨q, hq, e5, e6⟩ := postN hv m
    have hnw : n_w p w n m = if wK w n = 1 then 0 else a_pn p (wA w n) (wY w) m (wR w n m) := by
      unfold n_w
      by_cases z : wK w n = 1
      · rw [if_pos (Or.inl z), if_pos z]
      · rw [if_neg (by rintro (h | h); exact z h; exact c1 h), if_neg z]
    have h9 : n_w p w n m ≤ 9 := by
      rw [hnw]
      split
      · omega
      · exact a_pn_le ho _ _ _ _
    have ha : a_o p w n m = w_n q (cR p) (n_w p w n m) r := by
      unfold a_o
      rw [e6, e4, hnw]
    have e215 : X 215 (6 * n + m) = nI (n_w p w n m) := by rw [h3 215 (by decide) (by decide)]; exact h215 n m hn hm
    refine ok_gd (ad_66 n m) (by omega) (by decide) ?_
    have eix : (((6 : Int32) * nI n) + nI m).toNatClampNeg = 6 * n + m := by rw [ad_66, nI_clamp (by omega)]
    rw [eix, e215]
    refine ok_b (walks_e (I := X) (kl := k_row p w th n m (k_all p w th n kl)) (th := th) (p := q) (R := cR p) (r := r) (n := n_w p w n m) (f := n) (c := m) (by omega) (by omega) hq hR hr h9 h6 (by rw [h4 55 (by decide)]; exact ht) (by rw [h3 204 (by decide) (by decide)]; exact hs.2.1) (by
      rw [h2 (1 + m) (by omega) (fun f c _ _ => by omega), hw.2.2.2.1 m (by omega)]; exact e5) (by rw [r0]; exact e3)) ?_
    rintro Y ⟨g1, g2, g3, g4, g5, g6⟩
    rw [← ha] at g1 g5 g6
    have ra : a_row p w n m = oI (a_o p w n m) := by unfold a_row; rw [if_neg c1]
    have y0 : X 213 0 = wY w := by rw [h2 0 (by decide) (fun f c _ _ => by omega)]; exact hw.1
    refine ok_s ⟨nI_s m, fun f c hf hc => ?_, fun j hj hj2 => ?_, fun k hk1 hk2 => ?_, fun j hj => ?_, ?_, ?_⟩
    · show Y 213 _ = _
      by_cases q2 : f = n ∧ c = m
      · rw [q2.1, q2.2, if_pos (by omega), ra]; exact g1
      · rw [g2 _ (by omega) (by omega), h1 f c hf hc]
        by_cases q : f < n ∨ (f = n ∧ c < m)
        · rw [if_pos q, if_pos (by omega)]
        · rw [if_neg q, if_neg (by omega)]
    · show Y 213 j = _
      rw [g2 j hj (hj2 n m hn hm)]; exact h2 j hj hj2
    · show Y k = _
      rw [g3 k hk1 hk2]; exact h3 k hk1 hk2
    · show Y 177 j = _
      rw [g4 j hj]; exact h4 j hj
    · show Y 177 56 = _
      rw [g5, h5]
      simp only [sm]
      cases ez : a_o p w n m with
      | none =>
        have ga : a_goes p w n m = true := by unfold a_goes; rw [ez]; simp [c1]
        rw [ga]
        show _ + nI _ + (1 : Int32) = _
        rw [Int32.add_assoc, nI_s]; rfl
      | some z =>
        have ga : a_goes p w n m = false := by unfold a_goes; rw [ez]; simp
        rw [ga]
        show _ + nI _ + (0 : Int32) = _
        rw [Int32.add_zero]; rfl
    · show KM Y _
      simp only [k_row]
      rw [y0] at g6
      cases ez : a_o p w n m with
      | none =>
        have ga : a_goes p w n m = true := by unfold a_goes; rw [ez]; simp [c1]
        rw [ga, if_pos rfl]
        rw [ez] at g6
        exact g6
      | some z =>
        have ga : a_goes p w n m = false := by unfold a_goes; rw [ez]; simp
        rw [ga, if_neg (by decide)]
        rw [ez] at g6
        exact g6
theorem goes_2 (ho : CO p) (hs : CM I p) (hw : WM I p w) (hv : WO p w) (hk : KM I kl) (ht : I 177 55 = bI th) (h215 : ∀ f c, f < cF p → c < cC p → I 215 (6 * f + c) = nI (n_w p w f c)) :
    ok (wl (fun s : Int32 × MI => F_MD_yearGoes_75 s.2 s.1) ((0 : Int32), I)) (P2 I p w kl th (cF p) 0) := by
  have hC := ho.1; have hF := ho.2.2.1
  refine ok_cnt (σ := MI) (cF p) (fun n X => P2 I p w kl th n 0 X) ⟨fun f c hf hc => ?_, fun _ _ _ => rfl, fun _ _ _ => rfl, fun _ _ => rfl, ?_, hk⟩ ?_ ?_
  · rw [if_neg (by omega)]; exact hw.2.2.2.2 f c hf hc
  · show _ = _ + (0 : Int32)
    rw [Int32.add_zero]
  · intro n hn X hX
    have e5 : X 205 2 = nI (cF p) := by rw [hX.2.2.1 205 (by decide) (by decide)]; exact hs.2.2.1
    simp only [F_MD_yearGoes_75]
    refine ok_be (a := nI (cF p)) (by unfold F_MD_fenceMany; rw [e5]) (ok_f (nI_ge hn (by omega)) ?_)
    refine ok_b (ok_cnt (σ := MI) (P := fun t => P2 I p w kl th (n + 1) 0 t) (cC p) (fun m X => P2 I p w kl th n m X) hX (fun m hm Y hY => goes_85 ho hs hw hv ht h215 hn hm hY) ?_) ?_
    · intro Y hY
      have e2 : Y 204 2 = nI (cC p) := by rw [hY.2.2.1 204 (by decide) (by decide)]; exact hs.1
      simp only [F_MD_yearGoes_85]
      rw [e2]
      exact ok_t (Int32.le_refl _) (ok_s (P2_next hY))
    · intro Y hY
      exact ok_s ⟨nI_s n, hY⟩
  · intro X hX
    have e5 : X 205 2 = nI (cF p) := by rw [hX.2.2.1 205 (by decide) (by decide)]; exact hs.2.2.1
    simp only [F_MD_yearGoes_75]
    exact ok_be (a := nI (cF p)) (by unfold F_MD_fenceMany; rw [e5]) (ok_t (Int32.le_refl _) (ok_s hX))
/-- ages, and nothing is cut any more -/
def P3 (I : MI) (p : CF) (w : WD) (n : Nat) (X : MI) : Prop := (∀ f, f < n → X 213 (7 + 8 * f) = a_age w f ∧ X 213 (8 + 8 * f) = 0) ∧ (∀ j, (∀ f, f < n → j ≠ 7 + 8 * f ∧ j ≠ 8 + 8 * f) → X 213 j = I 213 j) ∧ ∀ k, k ≠ 213 → X k = I k
theorem goes_3 (ho : CO p) (hs : CM I p) (ha : ∀ f, f < cF p → I 213 (7 + 8 * f) = wA w f) : ok (wl (fun s : Int32 × MI => F_MD_yearGoes_136 s.2 s.1) ((0 : Int32), I)) (P3 I p w (cF p)) := by
  have hF := ho.2.2.1
  refine ok_cnt (σ := MI) (cF p) (fun n X => P3 I p w n X) ⟨fun f h => by omega, fun _ _ => rfl, fun _ _ => rfl⟩ ?_ ?_
  · rintro n hn X ⟨h1, h2, h3⟩
    have e5 : F_MD_fenceMany X = some (nI (cF p)) := by unfold F_MD_fenceMany; rw [h3 205 (by decide)]; rw [hs.2.2.1]
    have eA : X 213 (7 + 8 * n) = wA w n := by rw [h2 _ (fun f hf => by omega)]; exact ha n hn
    have eg : F_MD_ageOf X (nI n) = some (wA w n) := by
      unfold F_MD_ageOf
      rw [ad_age, gd_n (by omega) (by decide), nI_clamp (by omega), eA]
    have last : ∀ Y : MI, (∀ j, j ≠ 7 + 8 * n → Y 213 j = X 213 j) → (∀ k, k ≠ 213 → Y k = X k) → Y 213 (7 + 8 * n) = a_age w n → ok (F_MD_yearGoes_170 Y (nI n)) (Sum.elim (fun q => q.1 = nI (n + 1) ∧ P3 I p w (n + 1) q.2) (fun _ => False)) := by
      intro Y y1 y2 y3
      unfold F_MD_yearGoes_170
      refine ok_gd (ad_cut n) (by omega) (by decide) (ok_s ⟨nI_s n, fun f hf => ?_, fun j hj => ?_, fun k hk => ?_⟩)
      · show m_up Y 213 (((7 : Int32) + ((8 : Int32) * nI n)) + (1 : Int32)).toNatClampNeg 0 213 (7 + 8 * f) = _ ∧ m_up Y 213 (((7 : Int32) + ((8 : Int32) * nI n)) + (1 : Int32)).toNatClampNeg 0 213 (8 + 8 * f) = 0
        rw [ad_cut, nI_clamp (by omega)]
        by_cases e : f = n
        · rw [e, up_j _ _ _ (by omega), up_e]; exact ⟨y3, rfl⟩
        · rw [up_j _ _ _ (by omega), up_j _ _ _ (by omega), y1 _ (by omega), y1 _ (by omega)]; exact h1 f (by omega)
      · show m_up Y 213 (((7 : Int32) + ((8 : Int32) * nI n)) + (1 : Int32)).toNatClampNeg 0 213 j = _
        have hjn := hj n (by omega)
        rw [ad_cut, nI_clamp (by omega), up_j _ _ _ hjn.2, y1 _ hjn.1]
        exact h2 j (fun f hf => hj f (by omega))
      · show m_up Y 213 _ 0 k = _
        rw [up_k _ _ _ hk, y2 k hk]; exact h3 k hk
    simp only [F_MD_yearGoes_136]
    refine ok_be e5 (ok_f (nI_ge hn (by omega)) (ok_be eg ?_))
    refine ok_if (fun c1 => ?_) (fun c1 => ?_)
    · refine last X (fun _ _ => rfl) (fun _ _ => rfl) ?_
      rw [eA]
      unfold a_age
      rw [if_pos c1]
    · refine ok_gd (ad_age n) (by omega) (by decide) (ok_gd (ad_age n) (by omega) (by decide) (ok_bnd ?_))
      have eix : ((7 : Int32) + ((8 : Int32) * nI n)).toNatClampNeg = 7 + 8 * n := by rw [ad_age, nI_clamp (by omega)]
      rw [eix]
      refine last _ (fun j hj => up_j _ _ _ hj) (fun k hk => up_k _ _ _ hk) ?_
      rw [up_e, eA]
      unfold a_age
      rw [if_neg c1]
  · rintro X ⟨h1, h2, h3⟩
    have e5 : F_MD_fenceMany X = some (nI (cF p)) := by unfold F_MD_fenceMany; rw [h3 205 (by decide)]; rw [hs.2.2.1]
    simp only [F_MD_yearGoes_136]
    exact ok_be e5 (ok_t (Int32.le_refl _) (ok_s ⟨h1, h2, h3⟩))
/-- a fence is set -/
theorem isSet_e (ho : CO p) (hs : CM I p) {f : Nat} (hf : f < cF p) : ok (F_MD_isSet I (nI f)) (fun X => X 213 (7 + 8 * f) = 0 ∧ (∀ c, c < cC p → X 213 (9 + 8 * f + c) = 0) ∧ (∀ j, j ≠ 7 + 8 * f → (∀ c, c < cC p → j ≠ 9 + 8 * f + c) → X 213 j = I 213 j) ∧ ∀ k, k ≠ 213 → X k = I k) := by
  have hC := ho.1; have hF := ho.2.2.1
  unfold F_MD_isSet
  have eix : ((7 : Int32) + ((8 : Int32) * nI f)).toNatClampNeg = 7 + 8 * f := by rw [ad_age, nI_clamp (by omega)]
  refine ok_gd (ad_age f) (by omega) (by decide) ?_
  rw [eix]
  refine ok_b (ok_cnt (σ := MI) (P := fun X => X 213 (7 + 8 * f) = 0 ∧ (∀ c, c < cC p → X 213 (9 + 8 * f + c) = 0) ∧ (∀ j, j ≠ 7 + 8 * f → (∀ c, c < cC p → j ≠ 9 + 8 * f + c) → X 213 j = I 213 j) ∧ ∀ k, k ≠ 213 → X k = I k) (cC p) (fun n X => X 213 (7 + 8 * f) = 0 ∧ (∀ c, c < n → X 213 (9 + 8 * f + c) = 0) ∧ (∀ j, j ≠ 7 + 8 * f → (∀ c, c < cC p → j ≠ 9 + 8 * f + c) → X 213 j = I 213 j) ∧ ∀ k, k ≠ 213 → X k = I k) ⟨up_e _ _ _ _, fun c h => by omega, fun j h1 _ => up_j _ _ _ h1, fun k hk => up_k _ _ _ hk⟩ ?_ ?_) (fun X hX => ok_s hX)
  · rintro n hn X ⟨h1, h2, h3, h4⟩
    simp only [F_MD_isSet_15]
    rw [show X 204 2 = nI (cC p) by rw [h4 204 (by decide)]; exact hs.1]
    refine ok_f (nI_ge hn (by omega)) ?_
    unfold F_MD_rowIs
    rw [ad_row, gd_n (by omega) (by decide), nI_clamp (by omega)]
    refine ok_s ⟨nI_s n, ?_, fun c hc => ?_, fun j hj1 hj2 => ?_, fun k hk => ?_⟩
    · show m_up X 213 _ 0 213 _ = _
      rw [up_j _ _ _ (by omega)]; exact h1
    · show m_up X 213 _ 0 213 _ = _
      by_cases e : c = n
      · rw [e, up_e]
      · rw [up_j _ _ _ (by omega)]; exact h2 c (by omega)
    · show m_up X 213 _ 0 213 j = _
      rw [up_j _ _ _ (hj2 n hn)]; exact h3 j hj1 hj2
    · show m_up X 213 _ 0 k = _
      rw [up_k _ _ _ hk]; exact h4 k hk
  · rintro X ⟨h1, h2, h3, h4⟩
    simp only [F_MD_isSet_15]
    rw [show X 204 2 = nI (cC p) by rw [h4 204 (by decide)]; exact hs.1]
    exact ok_t (Int32.le_refl _) (ok_s ⟨h1, h2, h3, h4⟩)
end G56
