/-! the reference: a plain part; a sum goes on -/
theorem bind_id {α : Type} (x : Option α) : (x.bind fun r => some r) = x := by cases x <;> rfl
section LC0
variable {I X Y Z : MI} {n e o bs tk : Nat} {b : Bool} {tb : Nat → Nat} {W K S : List Nat} {v0 : Int32}
theorem ends_5 : pc (F_MD_qEndsPart Y) (fun r => r 177 5 = Y 177 5) := by
  refine pc_m (q_MD_qEndsPart (L := LSt) (LJ := []) (I0 := Y) (J0 := fun _ _ => 0) (by decide) (by decide) (fs_r Y)) ?_
  intro r h
  exact h 177 5 (by decide)
theorem KP_E {Y1 : MI} (h5 : Y 177 5 = 0) (h6 : Y1 177 5 = 0) (h : F_MD_qPartTold Y = F_MD_qEndsPart Y1) : KP v0 Y = KE v0 Y1 := by
  rw [KP_e h5, h]
  unfold KE
  cases hc : F_MD_qEndsPart Y1 with
  | none => rfl
  | some r3 =>
    have := ends_5 r3 hc
    simp only [Option.bind_some]
    rw [if_pos (this.trans h6)]
theorem KP_F {Y1 : MI} (h5 : Y 177 5 = 0) (h6 : ¬ Y1 177 5 = 0) (h : F_MD_qPartTold Y = some Y1) : KP v0 Y = some Y1 := by
  rw [KP_e h5, h]
  simp only [Option.bind_some]
  rw [if_neg h6]
theorem ends_b (h : ¬ Y 177 5 = 0) : F_MD_qEndsPart Y = some Y := by
  unfold F_MD_qEndsPart
  have : wl (fun s : MI => F_MD_qEndsPart_0 s) Y = some Y := wl_in (by unfold F_MD_qEndsPart_0; rw [if_neg h])
  rw [this]; rfl
theorem code_v (h : QS Y W K o bs) (hK : K.length < 1700) (v : Int32) : ∃ Y', F_MD_qCode Y v = some Y' ∧ fsL LSt Y' Y ∧ Y' 177 92 = nI (K.length + 1) := by
  refine ⟨m_up (m_up Y 244 K.length v) 177 92 (nI (K.length + 1)), ?_, fs_up (LX := LSt) (by decide) (by decide) (fs_up (LX := [(244, none)]) (by decide) (by simp [inL]) (fs_r Y)), up_e _ _ _ _⟩
  unfold F_MD_qCode
  rw [h.2.1.1, gd_n hK (by decide), nI_clamp (by omega), nI_s]
theorem pt_end (h : RE Y tb n e b W K o bs tk) (h40 : ¬ kd tb n e b = 40) (hm : ¬ wo tb n e b = some 22) (hm2 : ¬ wo tb n e b = some 23) (ho : q_o tk 8 10 (wo tb n e b) = none) : F_MD_qPartTold Y = F_MD_qPartTold_186 (LK' Y tb n e) := by
  obtain ⟨r1, r2⟩ := RE_LK h
  obtain ⟨h1, h2, h3, h4, h5, h6, h7, h8⟩ := h
  have hb := QP_b h1
  have stp : F_MD_qPartTold_2 Y 1 = some (.inl (0, LK' Y tb n e)) := by
    unfold F_MD_qPartTold_2
    rw [if_neg (by decide), if_pos h1.1.1, look_m h1]
    simp only [Option.bind_some]
    have := qof_m r1.1 r1.2.2.1 h4 (f := 8) (t := 10) (by decide) (by decide)
    rw [LK_LK, ho] at this
    have this : F_MD_qWordOf (LK' Y tb n e) 8 10 = some (-1, LK' Y tb n e) := this
    rw [this]
    simp only [Option.bind_some]
    rw [if_neg (fun z => h40 ((ch_40 hb).mp z)), hereL h1 (i := 22) (by decide +kernel) (by rfl)]
    simp only [Option.bind_some, bI_if]
    rw [if_neg hm, hereL h1 (i := 23) (by decide +kernel) (by rfl)]
    simp only [Option.bind_some, bI_if]
    rw [if_neg hm2, if_pos trivial]
  unfold F_MD_qPartTold
  have e1 : wl (fun s : Int32 × MI => F_MD_qPartTold_2 s.2 s.1) ((1 : Int32), Y) = wl (fun s : Int32 × MI => F_MD_qPartTold_2 s.2 s.1) ((0 : Int32), LK' Y tb n e) := wl_st stp
  have e2 : wl (fun s : Int32 × MI => F_MD_qPartTold_2 s.2 s.1) ((0 : Int32), LK' Y tb n e) = some (LK' Y tb n e) := wl_in (by
    show F_MD_qPartTold_2 (LK' Y tb n e) 0 = _
    unfold F_MD_qPartTold_2
    rw [if_pos rfl])
  rw [e1, e2]; rfl
theorem RE_code {Y1 : MI} {e2 : Nat} {b2 : Bool} (h : RE Y tb n e b W K o bs tk) (hq : QP Y1 tb n e2 b2) (h1 : fsL LM Y1 Y) (he : e < e2) (c : Nat) : ∃ Y2, F_MD_qCode Y1 (nI c) = some Y2 ∧ RE Y2 tb n e2 b2 W (K ++ [c]) o bs tk ∧ fsL LQ Y2 Y := by
  obtain ⟨n16, hn, sg, sl⟩ := RE_n h
  obtain ⟨g1, g2, g3, g4, g5, g6, g7, g8⟩ := h
  have q1 : QS Y1 W K o bs := QS_f g2 h1 (by decide)
  obtain ⟨Y2, c1, c2, c3⟩ := code_m q1 (by omega) c
  refine ⟨Y2, c1, ⟨QP_f hq c3 (by decide) (by decide +kernel), c2, ((c3 177 50 (by decide)).trans (h1 177 50 (by decide))).trans g3, g4, g5, ?_, g7, g8⟩, fs_tr (fs_sub (by decide) c3) (fs_sub (by decide) h1)⟩
  rw [List.length_append]; simp; omega
/-- a word that is a part -/
theorem pt_word (h : RE Y tb n e b W K o bs tk) (hm : ¬ wo tb n e b = some 22) (hm2 : ¬ wo tb n e b = some 23) (ho : q_o tk 8 10 (wo tb n e b) = none) {k : Nat} (hk : q_o tk 0 8 (wo tb n e b) = some k) : ∃ Y1, F_MD_qPartTold Y = F_MD_qEndsPart Y1 ∧ RE Y1 tb n (tke tb n e) true W (K ++ [40 + k]) o bs tk ∧ fsL LQ Y1 Y := by
  obtain ⟨r1, r2⟩ := RE_LK h
  have hh : q_h tk (wo tb n e b) = some k ∧ k < 8 := by
    unfold q_o at hk
    cases z : q_h tk (wo tb n e b) with
    | none => rw [z] at hk; cases hk
    | some k2 =>
      rw [z] at hk
      have hk : (if 0 ≤ k2 ∧ k2 < 8 ∧ q_a tk k2 = true then some k2 else none) = some k := hk
      split at hk
      · rename_i c
        cases hk
        exact ⟨rfl, c.2.1⟩
      · cases hk
  have k256 : kd tb n e b = 256 := by
    by_cases z : kd tb n e b = 256
    · exact z
    · rw [wo_n z] at hh
      have := hh.1
      unfold q_h at this
      simp at this
  have hb := QP_b h.1
  obtain ⟨q, -⟩ := (kd_256 hb).mp k256
  have tg := tke_gt q
  obtain ⟨n16, hn, sg, sl⟩ := RE_n h
  rw [pt_end h (by omega) hm hm2 ho]
  obtain ⟨V, v1, v2, v3⟩ := askw_m (tk := tk) r1.1 hh.1
  obtain ⟨U, u1, u2, u3⟩ := RE_code r1 v3 v2 (by omega) (40 + k)
  refine ⟨U, ?_, u2, fs_tr u3 r2⟩
  unfold F_MD_qPartTold_186
  have qo := qof_m r1.1 r1.2.2.1 r1.2.2.2.1 (f := 0) (t := 8) (by decide) (by decide)
  rw [LK_LK, hk] at qo
  have qo : F_MD_qWordOf (LK' Y tb n e) 0 8 = some (nI k, LK' Y tb n e) := qo
  have hk1 : ¬ nI k = -1 := fun z => by have := nI_pos' (n := k) (by omega); rw [z] at this; exact absurd this (by decide)
  rw [if_pos r1.1.1.1, qo]
  simp only [Option.bind_some]
  rw [if_neg hk1, v1]
  simp only [Option.bind_some]
  unfold F_MD_qPartTold_212
  have e40 : (40 : Int32) + nI k = nI (40 + k) := nI_add 40 k
  rw [if_neg hk1, e40, u1]
  simp only [Option.bind_some]
  exact bind_id _
/-- a number, or what can't be -/
theorem pt_num (h : RE Y tb n e b W K o bs tk) (h40 : ¬ kd tb n e b = 40) (hm : ¬ wo tb n e b = some 22) (hm2 : ¬ wo tb n e b = some 23) (ho : q_o tk 8 10 (wo tb n e b) = none) (hk : q_o tk 0 8 (wo tb n e b) = none) : (nf tb n e b 0 9999 = none ∧ ∃ Y1, F_MD_qPartTold Y = F_MD_qEndsPart Y1 ∧ RE Y1 tb n (tke tb n e) true W (K ++ [1000 + n_val tb n e]) o bs tk ∧ fsL LQ Y1 Y) ∨ (∃ k at' Y1, nf tb n e b 0 9999 = some (k, at') ∧ F_MD_qPartTold Y = some Y1 ∧ MFr Y1 k at' ∧ fsL LQ Y1 Y ∧ 1 ≤ k ∧ k < 100) := by
  obtain ⟨r1, r2⟩ := RE_LK h
  have hb := QP_b h.1
  obtain ⟨n16, hn, sg, sl⟩ := RE_n h
  rw [pt_end h h40 hm hm2 ho]
  have qo := qof_m r1.1 r1.2.2.1 r1.2.2.2.1 (f := 0) (t := 8) (by decide) (by decide)
  rw [LK_LK, hk] at qo
  have qo : F_MD_qWordOf (LK' Y tb n e) 0 8 = some (-1, LK' Y tb n e) := qo
  obtain ⟨⟨v, V⟩, v1, v2, v3⟩ := num_m r1.1 (a := 0) (m := 9999) (by decide) (by decide)
  have v1 : F_MD_number (LK' Y tb n e) 0 9999 = some (v, V) := v1
  have v2 : fsL LM V (LK' Y tb n e) := v2
  have e186 : F_MD_qPartTold_186 (LK' Y tb n e) = (F_MD_qCode V (1000 + v)).bind fun r3 => (F_MD_qEndsPart r3).bind fun r4 => some r4 := by
    unfold F_MD_qPartTold_186
    rw [if_pos r1.1.1.1, qo]
    simp only [Option.bind_some]
    rw [if_pos trivial]
    unfold F_MD_qPartTold_212
    rw [if_pos rfl, v1]
    rfl
  rw [e186]
  rcases v3 with ⟨g1, g2, g3, g4⟩ | ⟨k, at', g1, g2⟩
  · left
    refine ⟨g1, ?_⟩
    have g2 : v = nI (n_val tb n e) := g2
    have k257 : kd tb n e b = 257 := by
      unfold nf at g1
      by_cases z : kd tb n e b = 257
      · exact z
      · rw [if_neg z] at g1; cases g1
    obtain ⟨d1, d2, d3⟩ := digs hb hn k257
    obtain ⟨U, u1, u2, u3⟩ := RE_code r1 g3 v2 (by omega) (1000 + n_val tb n e)
    refine ⟨U, ?_, u2, fs_tr u3 r2⟩
    have e1000 : (1000 : Int32) + nI (n_val tb n e) = nI (1000 + n_val tb n e) := nI_add 1000 _
    rw [g2, e1000, u1]
    simp only [Option.bind_some]
    exact bind_id _
  · right
    have g2 : MFt V k at' := g2
    have kk : 1 ≤ k ∧ k < 100 := by
      unfold nf at g1
      repeat' split at g1
      all_goals first | (cases g1; done) | (cases g1; omega)
    obtain ⟨U, u1, u2, u9⟩ := code_v (QS_f r1.2.1 v2 (by decide)) (by have := r1.2.2.2.2.2.1; omega) (1000 + v)
    have bU : MFt U k at' := ⟨(u2 177 5 (by decide)).trans g2.1, (u2 177 6 (by decide)).trans g2.2⟩
    refine ⟨k, at', U, g1, ?_, ⟨bU, K.length + 1, by have := r1.2.2.2.2.2.1; omega, u9⟩, fs_tr (fs_sub (by decide) u2) (fs_tr (fs_sub (by decide) v2) r2), kk.1, kk.2⟩
    rw [u1]
    simp only [Option.bind_some]
    rw [ends_b (mf_ne bU kk.1 kk.2)]; rfl
/-! on -/
theorem go_no (h : RE Y tb n e b W K o bs tk) (hk : ¬ kd tb n e b = 41 ∨ ∃ x, F_MD_qBracket (LK' Y tb n e) = some x ∧ ¬ x = 20 ∧ ¬ x = 23 ∧ ¬ x = 24) : F_MD_qGoesOn Y = F_MD_qGoesOn_122 (LK' Y tb n e) := by
  have hb := QP_b h.1
  have key : F_MD_qGoesOn_0 Y = some (.inr (LK' Y tb n e)) := by
    unfold F_MD_qGoesOn_0
    rw [if_pos h.1.1.1, look_m h.1]
    simp only [Option.bind_some]
    by_cases c : kd tb n e b = 41
    · rcases hk with z | ⟨x, x1, x2, x3, x4⟩
      · exact absurd c z
      · rw [if_pos ((ch_41 hb).mpr c), x1]
        simp only [Option.bind_some]
        rw [if_neg x2, if_neg x3, if_neg x4]
    · rw [if_neg (fun z => c ((ch_41 hb).mp z))]
  unfold F_MD_qGoesOn
  have : wl (fun s : MI => F_MD_qGoesOn_0 s) Y = some (LK' Y tb n e) := wl_in key
  rw [this]; rfl
theorem LQ_5 {V : MI} (h : fsL LSt V Y) : V 177 5 = Y 177 5 := h 177 5 (by decide)
/-- what stands on a bracket -/
def opS (S : List Nat) : Prop := ∀ x, x ∈ S → 1 ≤ x ∧ x ≤ 4
theorem opS_br (h : opS S) : ∀ x, x ∈ S → q_br x = false ∧ x < 100 := fun x hx => by
  have := h x hx
  unfold q_br
  simp
  omega
theorem RE_qs {V : MI} {W2 K2 : List Nat} {o2 e2 : Nat} {b2 : Bool} (h : RE Y tb n e b W K o bs tk) (h1 : fsL LSt V Y) (h2 : QS V W2 K2 o2 bs) (hp : QP V tb n e2 b2) (h4 : bs ≤ W2.length) (h5 : W2.length + K2.length ≤ e2) (h6 : wv W2) (h7 : o2 ≤ 6) : RE V tb n e2 b2 W2 K2 o2 bs tk := ⟨hp, h2, (h1 177 50 (by decide)).trans h.2.2.1, h.2.2.2.1, h4, h5, h6, h7⟩
theorem dtb_m {br : Nat} (h : QS Y (W ++ [br] ++ S) K o bs) (h5 : Y 177 5 = 0) (hv : wv (W ++ [br] ++ S)) (hbr : q_br br = true) (hb : bs ≤ W.length) (hS : opS S) (hl : W.length + S.length + K.length < 1690) : ∃ Y', F_MD_qDropsToBracket Y = some Y' ∧ QS Y' (W ++ [br]) (K ++ S.reverse) o bs ∧ fsL LSt Y' Y := by
  obtain ⟨Y', w1, w2, w3⟩ := drops_w (o := o) (bs := bs) (bd := fun s : MI => F_MD_qDropsToBracket_0 s) (fun W => bs < W.length ∧ tp (fun x => q_br x = false) W) (fun Y W K h hv h5 hl hK => by
    unfold F_MD_qDropsToBracket_0
    rw [h.1.1, h.2.2.2]
    rcases List.eq_nil_or_concat W with e0 | ⟨W0, x, e0⟩
    · subst e0
      refine ⟨fun z => by have := z.1; simp at this, fun _ => ?_⟩
      rw [if_pos (show nI ([] : List Nat).length ≤ nI bs from nI_leI (by decide) (by omega) |>.mpr (Nat.zero_le _))]
    · rw [List.concat_eq_append] at e0
      subst e0
      have xv := (wv_a.mp hv).2
      rw [List.length_append] at hl
      obtain ⟨t1, t2⟩ := top_m h (by simp at hl; omega)
      rw [h.1.1] at t1
      by_cases c : bs < (W0 ++ [x]).length
      · rw [if_neg (nI_ge c (by rw [List.length_append]; simp; omega)), t1, gd_n (by simp at hl; omega) (by decide), nI_clamp (by simp at hl; omega), t2, isbr_m (by omega)]
        simp only [Option.bind_some]
        cases hx : q_br x with
        | true => exact ⟨fun z => (by have := tp_a.mp z.2; rw [hx] at this; cases this), fun _ => by rw [if_neg (by decide)]⟩
        | false => exact ⟨fun _ => by rw [if_pos (show bI false = 0 from rfl)], fun z => absurd ⟨c, tp_a.mpr hx⟩ z⟩
      · refine ⟨fun z => absurd z.1 c, fun _ => ?_⟩
        rw [if_pos (nI_le (by omega) (by omega))]) S.length S rfl (W ++ [br]) K Y h hv h5 (fun S' x S'' ex => ⟨by rw [List.length_append, List.length_append, List.length_append]; simp; omega, tp_a.mpr (opS_br hS x (by rw [ex]; exact List.mem_append_right _ (List.mem_cons_self ..))).1⟩) (fun z => by have := tp_a.mp z.2; rw [hbr] at this; cases this) (by rw [List.length_append]; simp; omega)
  refine ⟨Y', ?_, w2, w3⟩
  unfold F_MD_qDropsToBracket
  rw [w1]; rfl
end LC0
