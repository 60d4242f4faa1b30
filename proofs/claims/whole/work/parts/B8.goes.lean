/-! the reference: how a sum goes on -/
theorem wl_u {σ τ : Type} (bd : σ → Option (σ ⊕ τ)) (s : σ) : wl bd s = (bd s).bind (Sum.elim (wl bd) some) := by
  cases h : bd s with
  | none =>
    cases hw : wl bd s with
    | none => rfl
    | some t =>
      obtain ⟨m, hm⟩ := wl_iff.mp hw
      cases m with
      | zero => cases hm
      | succ m => simp [wlN, h] at hm
  | some r =>
    cases r with
    | inl s' => exact wl_st h
    | inr t => exact wl_in h
noncomputable def KP (v0 : Int32) (Y : MI) : Option MI := wl (fun s : Int32 × MI => F_MD_qSums_15 s.2 v0 s.1) ((1 : Int32), Y)
noncomputable def KG (v0 : Int32) (Y : MI) : Option MI := (F_MD_qGoesOn Y).bind fun r => if r.1 = 0 then some r.2 else KP v0 r.2
noncomputable def KE (v0 : Int32) (Y : MI) : Option MI := (F_MD_qEndsPart Y).bind (KG v0)
section LB8
variable {I X Y Z : MI} {n e o bs tk : Nat} {b : Bool} {tb : Nat → Nat} {W K S : List Nat} {v0 : Int32}
theorem KZ (Y : MI) : wl (fun s : Int32 × MI => F_MD_qSums_15 s.2 v0 s.1) ((0 : Int32), Y) = some Y := wl_in (by
  show F_MD_qSums_15 Y v0 0 = _
  unfold F_MD_qSums_15
  rw [if_pos rfl])
theorem KP_e (h5 : Y 177 5 = 0) : KP v0 Y = (F_MD_qPartTold Y).bind fun r3 => if r3 177 5 = 0 then KG v0 r3 else some r3 := by
  unfold KP
  rw [wl_u]
  show (F_MD_qSums_15 Y v0 1).bind _ = _
  unfold F_MD_qSums_15
  rw [if_neg (by decide), if_pos h5]
  cases F_MD_qPartTold Y with
  | none => rfl
  | some r3 =>
    simp only [Option.bind_some]
    by_cases q : r3 177 5 = 0
    · rw [if_pos q, if_pos q]
      unfold KG
      cases F_MD_qGoesOn r3 with
      | none => rfl
      | some r5 =>
        simp only [Option.bind_some]
        by_cases q2 : r5.1 = 0
        · rw [if_pos q2, if_pos q2]
          exact KZ (v0 := v0) _
        · rw [if_neg q2, if_neg q2]; rfl
    · rw [if_neg q, if_neg q]
      exact KZ (v0 := v0) _
theorem KP_c {Y2 : MI} (h5 : Y 177 5 = 0) (h6 : Y2 177 5 = 0) (h : F_MD_qPartTold Y = F_MD_qPartTold Y2) : KP v0 Y = KP v0 Y2 := by rw [KP_e h5, KP_e h6, h]
theorem KG_c {Y2 : MI} (h : F_MD_qGoesOn Y = F_MD_qGoesOn Y2) : KG v0 Y = KG v0 Y2 := by unfold KG; rw [h]
theorem KE_c {Y2 : MI} (h : F_MD_qEndsPart Y = F_MD_qEndsPart Y2) : KE v0 Y = KE v0 Y2 := by unfold KE; rw [h]
theorem ison_m {x : Nat} (h : QS Y (W ++ [x]) K o bs) (hl : W.length < 1699) (hx : x < 2000) {v : Nat} (hv : v < 2000) : F_MD_qIsOn Y (nI v) = some (bI (decide (x = v))) := by
  obtain ⟨t1, t2⟩ := top_m h hl
  have g1 := h.1.1
  unfold F_MD_qIsOn
  rw [g1, List.length_append]
  rw [g1, List.length_append] at t1
  show (if nI (W.length + 1) ≤ 0 then _ else _) = _
  rw [if_neg (show ¬ nI (W.length + 1) ≤ 0 from nI_ge (a := 0) (by omega) (by omega))]
  have t1 : nI (W.length + 1) - 1 = nI W.length := t1
  show gd (nI (W.length + 1) - 1) 1700 (if Y 245 (nI (W.length + 1) - 1).toNatClampNeg = nI v then some 1 else some 0) = _
  rw [t1, gd_n (by omega) (by decide), nI_clamp (by omega), t2]
  by_cases q : x = v
  · rw [if_pos (by rw [q]), decide_eq_true q]; rfl
  · rw [if_neg (fun z => q ((nI_inj (by omega) (by omega)).mp z)), decide_eq_false q]; rfl
theorem ison_0 (h : QS Y [] K o bs) (v : Int32) : F_MD_qIsOn Y v = some 0 := by
  unfold F_MD_qIsOn
  rw [h.1.1, if_pos (show nI ([] : List Nat).length ≤ 0 from Int32.le_refl _)]
/-- is one of these on top -/
def tp (P : Nat → Prop) (W : List Nat) : Prop := ∃ W0 x, W = W0 ++ [x] ∧ P x
theorem tp_a {P : Nat → Prop} {x : Nat} : tp P (W ++ [x]) ↔ P x := by
  constructor
  · rintro ⟨W0, y, e, h⟩
    have := List.append_inj_right' e rfl
    cases this
    exact h
  · intro h; exact ⟨W, x, rfl, h⟩
theorem tp_0 {P : Nat → Prop} : ¬ tp P [] := by
  rintro ⟨W0, x, e, -⟩
  have := congrArg List.length e
  simp at this
/-- all that wait may be -/
def wv (W : List Nat) : Prop := ∀ x, x ∈ W → x < 100
theorem wv_a {x : Nat} : wv (W ++ [x]) ↔ wv W ∧ x < 100 := by
  unfold wv
  constructor
  · intro h
    exact ⟨fun y hy => h y (List.mem_append_left _ hy), h x (List.mem_append_right _ (List.mem_singleton.mpr rfl))⟩
  · rintro ⟨h1, h2⟩ y hy
    rcases List.mem_append.mp hy with z | z
    · exact h1 y z
    · rw [List.mem_singleton.mp z]; exact h2
theorem wv_p {W2 : List Nat} (h : wv (W ++ W2)) : wv W := fun x hx => h x (List.mem_append_left _ hx)
/-- drops_g for rows that may be -/
theorem drops_w {bd : MI → Option (MI ⊕ MI)} (go : List Nat → Prop) (hb : ∀ Y W K, QS Y W K o bs → wv W → Y 177 5 = 0 → W.length < 1700 → K.length < 1700 → (go W → bd Y = (F_MD_qDrops Y).bind fun r => some (.inl r)) ∧ (¬ go W → bd Y = some (.inr Y))) : ∀ d S, S.length = d → ∀ W K (Y : MI), QS Y (W ++ S) K o bs → wv (W ++ S) → Y 177 5 = 0 → (∀ S' x S'', S = S' ++ x :: S'' → go (W ++ S' ++ [x])) → ¬ go W → W.length + S.length + K.length < 1700 → ∃ Y', wl bd Y = some Y' ∧ QS Y' W (K ++ S.reverse) o bs ∧ fsL LSt Y' Y := by
  intro d
  induction d with
  | zero =>
    intro S hd W K Y h hv h5 hg hn hl
    have : S = [] := List.length_eq_zero_iff.mp hd
    subst this
    rw [List.append_nil] at h hv
    exact ⟨Y, wl_in ((hb Y W K h hv h5 (by simp at hl; omega) (by simp at hl; omega)).2 hn), by simpa using h, fs_r Y⟩
  | succ d ih =>
    intro S hd W K Y h hv h5 hg hn hl
    rcases List.eq_nil_or_concat S with e0 | ⟨S0, x, e0⟩
    · rw [e0] at hd; cases hd
    · rw [List.concat_eq_append] at e0
      subst e0
      rw [List.length_append] at hd hl
      simp at hd hl
      have h2 : QS Y ((W ++ S0) ++ [x]) K o bs := by rw [List.append_assoc]; exact h
      have hv2 : wv ((W ++ S0) ++ [x]) := by rw [List.append_assoc]; exact hv
      have gx := hg S0 x [] rfl
      obtain ⟨Y1, d1, d2, d3⟩ := drop_m h2 (by rw [List.length_append]; omega) (by omega)
      have b1 := (hb Y _ K h2 hv2 h5 (by rw [List.length_append, List.length_append]; simp; omega) (by omega)).1 gx
      rw [d1] at b1
      have b1 : bd Y = some (.inl Y1) := b1
      obtain ⟨Y', w1, w2, w3⟩ := ih S0 (by omega) W (K ++ [x]) Y1 d2 (wv_p hv2) ((d3 177 5 (by decide)).trans h5) (fun S' z S'' e => hg S' z (S'' ++ [x]) (by rw [e]; simp)) hn (by rw [List.length_append]; simp; omega)
      refine ⟨Y', by rw [wl_st b1]; exact w1, ?_, fs_tr w3 d3⟩
      rw [List.reverse_append]
      simpa using w2
theorem ends_0 (h : QS Y W K o bs) (h5 : Y 177 5 = 0) (hl : W.length < 1700) (hb : bs < 1700) (hv : wv W) (hW : ¬ (bs < W.length ∧ tp (fun x => 60 ≤ x) W)) : F_MD_qEndsPart Y = some Y := by
  have key : F_MD_qEndsPart_0 Y = some (.inr Y) := by
    unfold F_MD_qEndsPart_0
    rw [if_pos h5, h.1.1, h.2.2.2]
    by_cases q : bs < W.length
    · rw [if_neg (nI_ge q (by omega))]
      rcases List.eq_nil_or_concat W with e0 | ⟨W0, x, e0⟩
      · rw [e0] at q; simp at q
      · rw [List.concat_eq_append] at e0
        subst e0
        have hx : ¬ 60 ≤ x := fun z => hW ⟨q, tp_a.mpr z⟩
        rw [List.length_append] at hl
        obtain ⟨t1, t2⟩ := top_m h (by simp at hl; omega)
        rw [h.1.1] at t1
        rw [t1, gd_n (by simp at hl; omega) (by decide), nI_clamp (by simp at hl; omega), t2, if_pos (show nI x < 60 from nI_lt (b := 60) (by omega) (by decide))]
    · rw [if_pos (nI_le (by omega) (by omega))]
  unfold F_MD_qEndsPart
  have : wl (fun s : MI => F_MD_qEndsPart_0 s) Y = some Y := wl_in key
  rw [this]; rfl
theorem ends_1 {x : Nat} (h : QS Y (W ++ [x]) K (o + 1) bs) (h5 : Y 177 5 = 0) (hl : W.length + K.length < 1690) (hx : 60 ≤ x) (hx2 : x < 100) (hb : bs ≤ W.length) (ho : o < 100) : ∃ Y', F_MD_qEndsPart Y = F_MD_qEndsPart Y' ∧ QS Y' W (K ++ [x]) o bs ∧ fsL LSt Y' Y := by
  obtain ⟨t1, t2⟩ := top_m h (by omega)
  have h2 : QS (m_up Y 177 95 (nI o)) (W ++ [x]) K o bs := by
    obtain ⟨⟨g1, g2⟩, ⟨g3, g4⟩, g5, g6⟩ := h
    refine ⟨⟨?_, fun i hi => ?_⟩, ⟨?_, fun i hi => ?_⟩, up_e _ _ _ _, ?_⟩
    · rw [up_j _ _ _ (by decide)]; exact g1
    · rw [up_k _ _ _ (by decide)]; exact g2 i hi
    · rw [up_j _ _ _ (by decide)]; exact g3
    · rw [up_k _ _ _ (by decide)]; exact g4 i hi
    · rw [up_j _ _ _ (by decide)]; exact g6
  obtain ⟨Y', d1, d2, d3⟩ := drop_m h2 (by omega) (by omega)
  refine ⟨Y', ?_, d2, fs_tr d3 (fs_up (LX := LSt) (by decide) (by decide) (fs_r Y))⟩
  have key : F_MD_qEndsPart_0 Y = some (.inl Y') := by
    unfold F_MD_qEndsPart_0
    have e94 : Y 177 94 = nI (W.length + 1) := by rw [h.1.1, List.length_append]; rfl
    rw [if_pos h5, e94, h.2.2.2, if_neg (nI_ge (by omega) (by omega))]
    rw [e94] at t1
    rw [t1, gd_n (by omega) (by decide), nI_clamp (by omega), t2, if_neg (show ¬ nI x < 60 from nI_nlt (b := 60) (by omega) (by omega)), h.2.2.1]
    have : nI (o + 1) - (1 : Int32) = nI o := nI_subN (a := o + 1) (b := 1) (by omega)
    rw [this, d1]; rfl
  unfold F_MD_qEndsPart
  have : wl (fun s : MI => F_MD_qEndsPart_0 s) Y = wl (fun s : MI => F_MD_qEndsPart_0 s) Y' := wl_st key
  rw [this]
/-- is it a bracket -/
def q_br (x : Nat) : Bool := decide (20 ≤ x) && decide (x ≤ 24)
theorem isbr_m {x : Nat} (hx : x < 256) : F_MD_qIsBracket (nI x) = some (bI (q_br x)) := rng_c (a := 20) (b := 24) hx (by decide) (by decide)
theorem getD_l {W W2 : List Nat} {i : Nat} (h : i < W.length) : (W ++ W2).getD i 0 = W.getD i 0 := by
  rw [List.getD_eq_getElem?_getD, List.getD_eq_getElem?_getD, List.getElem?_append_left h]
theorem getD_r {W W2 : List Nat} (i : Nat) : (W ++ W2).getD (W.length + i) 0 = W2.getD i 0 := by
  rw [List.getD_eq_getElem?_getD, List.getD_eq_getElem?_getD, List.getElem?_append_right (by omega), show W.length + i - W.length = i by omega]
theorem bra_s {br : Nat} (h : QS Y (W ++ [br] ++ S) K o bs) (hl : W.length + S.length < 1690) (hb : bs ≤ W.length) (hbr : q_br br = true) (hS : ∀ x, x ∈ S → q_br x = false ∧ x < 100) : F_MD_qBracket Y = some (nI br) := by
  have brv : br < 100 := by unfold q_br at hbr; simp at hbr; omega
  have g1 : Y 177 94 = nI (W.length + S.length + 1) := by
    rw [h.1.1, List.length_append, List.length_append]
    congr 1; simp; omega
  have e1 : Y 177 94 - 1 = nI (W.length + S.length) := by rw [g1]; exact nI_subN (a := W.length + S.length + 1) (b := 1) (by omega)
  have gt : ∀ i, i < W.length + S.length + 1 → Y 245 i = nI ((W ++ ([br] ++ S)).getD i 0) := fun i hi => by
    rw [h.1.2 i (by rw [List.length_append, List.length_append]; simp; omega), List.append_assoc]
  have lp : wl (fun s : Int32 => F_MD_qBracket_7 Y s) (Y 177 94 - 1) = some (nI W.length) := by
    refine wl_f S.length (fun k => nI (W.length + S.length - k)) (by rw [e1]; rfl) (fun k hk => ?_) ?_
    · show F_MD_qBracket_7 Y (nI (W.length + S.length - k)) = some (.inl (nI (W.length + S.length - (k + 1))))
      unfold F_MD_qBracket_7
      have ei : (W ++ ([br] ++ S)).getD (W.length + S.length - k) 0 = S.getD (S.length - k - 1) 0 := by
        rw [show W.length + S.length - k = W.length + (1 + (S.length - k - 1)) by omega, getD_r]
        have := getD_r (W := [br]) (W2 := S) (S.length - k - 1)
        exact this
      have sx := hS _ (getD_mem' (l := S) (j := S.length - k - 1) (by omega))
      rw [h.2.2.2, if_neg (nI_nlt (by omega) (by omega)), gd_n (by omega) (by decide), nI_clamp (by omega), gt _ (by omega), ei, isbr_m (by omega), sx.1]
      simp only [Option.bind_some]
      have e2 : nI (W.length + S.length - k) + (-1 : Int32) = nI (W.length + S.length - (k + 1)) := by
        have : nI (W.length + S.length - k) + (-1 : Int32) = nI (W.length + S.length - k) - 1 := by grind
        rw [this]
        exact nI_subN (a := W.length + S.length - k) (b := 1) (by omega)
      rw [if_pos (show bI false = 0 from rfl), e2]
    · show F_MD_qBracket_7 Y (nI (W.length + S.length - S.length)) = _
      rw [show W.length + S.length - S.length = W.length by omega]
      unfold F_MD_qBracket_7
      have ei : (W ++ ([br] ++ S)).getD W.length 0 = br := by have := getD_r (W := W) (W2 := [br] ++ S) 0; exact this
      rw [h.2.2.2, if_neg (nI_nlt (by omega) (by omega)), gd_n (by omega) (by decide), nI_clamp (by omega), gt _ (by omega), ei, isbr_m (by omega), hbr]
      simp only [Option.bind_some]
      rw [if_neg (by decide)]
  unfold F_MD_qBracket
  rw [lp]
  simp only [Option.bind_some]
  unfold F_MD_qBracket_33
  have ei : (W ++ ([br] ++ S)).getD W.length 0 = br := by have := getD_r (W := W) (W2 := [br] ++ S) 0; exact this
  rw [h.2.2.2, if_neg (nI_nlt (by omega) (by omega)), gd_n (by omega) (by decide), nI_clamp (by omega), gt _ (by omega), ei]
theorem bra_0 (h : QS Y (W ++ S) K o bs) (hl : W.length + S.length < 1690) (hb : bs = W.length) (hS : ∀ x, x ∈ S → q_br x = false ∧ x < 100) : F_MD_qBracket Y = some (-1) := by
  have g1 : Y 177 94 = nI (W.length + S.length) := by rw [h.1.1, List.length_append]
  have mi : ∀ m, 1 ≤ m → m < 2 ^ 31 → nI m - 1 = nI (m - 1) := fun m h1 h2 => nI_subN (a := m) (b := 1) h1
  have lp : wl (fun s : Int32 => F_MD_qBracket_7 Y s) (Y 177 94 - 1) = some (nI W.length - 1) := by
    refine wl_f S.length (fun k => nI (W.length + S.length - k) - 1) (by rw [g1]; rfl) (fun k hk => ?_) ?_
    · show F_MD_qBracket_7 Y (nI (W.length + S.length - k) - 1) = some (.inl (nI (W.length + S.length - (k + 1)) - 1))
      unfold F_MD_qBracket_7
      rw [mi _ (by omega) (by omega)]
      have ei : (W ++ S).getD (W.length + S.length - k - 1) 0 = S.getD (S.length - k - 1) 0 := by
        rw [show W.length + S.length - k - 1 = W.length + (S.length - k - 1) by omega, getD_r]
      have sx := hS _ (getD_mem' (l := S) (j := S.length - k - 1) (by omega))
      rw [h.2.2.2, if_neg (nI_nlt (by omega) (by omega)), gd_n (by omega) (by decide), nI_clamp (by omega), h.1.2 _ (by rw [List.length_append]; omega), ei, isbr_m (by omega), sx.1]
      simp only [Option.bind_some]
      have e2 : nI (W.length + S.length - k - 1) + (-1 : Int32) = nI (W.length + S.length - k - 1) - 1 := by grind
      rw [if_pos (show bI false = 0 from rfl), show W.length + S.length - (k + 1) = W.length + S.length - k - 1 by omega, e2]
    · show F_MD_qBracket_7 Y (nI (W.length + S.length - S.length) - 1) = _
      rw [show W.length + S.length - S.length = W.length by omega]
      unfold F_MD_qBracket_7
      rw [h.2.2.2, hb, if_pos ?_]
      rw [Int32.lt_iff_toInt_lt, nI_toInt (by omega)]
      by_cases z : W.length = 0
      · rw [z]; decide
      · rw [mi _ (by omega) (by omega), nI_toInt (by omega)]; omega
  unfold F_MD_qBracket
  rw [lp]
  simp only [Option.bind_some]
  unfold F_MD_qBracket_33
  rw [h.2.2.2, hb, if_pos ?_]
  rw [Int32.lt_iff_toInt_lt, nI_toInt (by omega)]
  by_cases z : W.length = 0
  · rw [z]; decide
  · rw [mi _ (by omega) (by omega), nI_toInt (by omega)]; omega
end LB8
