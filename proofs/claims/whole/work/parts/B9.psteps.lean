/-! the reference: a part is wanted -/
def RE (Y : MI) (tb : Nat → Nat) (n e : Nat) (b : Bool) (W K : List Nat) (o bs tk : Nat) : Prop := QP Y tb n e b ∧ QS Y W K o bs ∧ Y 177 50 = nI tk ∧ (tk < 3 ∧ bs ≤ W.length ∧ W.length + K.length ≤ e ∧ wv W ∧ o ≤ 6)
abbrev LQ : List (Nat × Option Nat) := LM ++ LSt
section LB9
variable {I X Y Z : MI} {n e o bs tk : Nat} {b : Bool} {tb : Nat → Nat} {W K S : List Nat} {v0 : Int32}
theorem RE_n (h : RE Y tb n e b W K o bs tk) : n ≤ 1600 ∧ e ≤ n ∧ e ≤ sk tb n e ∧ sk tb n e ≤ n := ⟨h.1.2.2.2.1, h.1.1.2.2, sk_ge e, sk_le h.1.1.2.2⟩
theorem RE_LK (h : RE Y tb n e b W K o bs tk) : RE (LK' Y tb n e) tb n e b W K o bs tk ∧ fsL LQ (LK' Y tb n e) Y := by
  obtain ⟨h1, h2, h3, h4⟩ := h
  obtain ⟨k1, k2, k3⟩ := LK_s h1
  exact ⟨⟨k1, QS_f h2 k3 (by decide), (k3 177 50 (by decide)).trans h3, h4⟩, fs_sub (by decide) k3⟩
/-- a new one opens -/
theorem opens_m (h : RE Y tb n e b W K o bs tk) (x at' : Nat) (hx : x < 100) (hW : W.length < 1690) : (o = 6 ∧ F_MD_qOpens Y (nI x) (nI at') = some (m_up (m_up Y 177 5 (nI 4)) 177 6 (nI at'))) ∨ (o < 6 ∧ ∃ Y1, F_MD_qOpens Y (nI x) (nI at') = some Y1 ∧ QP Y1 tb n e b ∧ QS Y1 (W ++ [x]) K (o + 1) bs ∧ Y1 177 50 = nI tk ∧ fsL LSt Y1 Y ∧ wv (W ++ [x])) := by
  obtain ⟨h1, h2, h3, h4, h5, h6, h7, h8⟩ := h
  unfold F_MD_qOpens
  rw [if_pos h1.1.1, h2.2.2.1]
  by_cases q : o = 6
  · left
    refine ⟨q, ?_⟩
    rw [if_pos (by rw [q]; rfl), show (4 : Int32) = nI 4 from rfl, fail_m h1.1.1]; rfl
  · right
    refine ⟨by omega, ?_⟩
    rw [if_neg (fun z => q ((n_eq (by omega) (by decide) (show (6 : Int32) = nI 6 from rfl)).mp z)), h2.1.1, gd_n (by omega) (by decide), nI_clamp (by omega), nI_s, nI_s]
    obtain ⟨p1, p2⟩ := push_m h2 x (o + 1)
    exact ⟨_, rfl, QP_f h1 p2 (by decide) (by decide +kernel), p1, (p2 177 50 (by decide)).trans h3, p2, wv_a.mpr ⟨h7, hx⟩⟩
theorem pt_st {Y1 : MI} (h : F_MD_qPartTold_2 Y 1 = some (.inl (1, Y1))) : F_MD_qPartTold Y = F_MD_qPartTold Y1 := by
  unfold F_MD_qPartTold
  have : wl (fun s : Int32 × MI => F_MD_qPartTold_2 s.2 s.1) ((1 : Int32), Y) = wl (fun s : Int32 × MI => F_MD_qPartTold_2 s.2 s.1) ((1 : Int32), Y1) := wl_st h
  rw [this]
theorem pt_bad (h : ¬ Y 177 5 = 0) : F_MD_qPartTold Y = some Y := by
  unfold F_MD_qPartTold
  have : wl (fun s : Int32 × MI => F_MD_qPartTold_2 s.2 s.1) ((1 : Int32), Y) = some Y := wl_in (by
    show F_MD_qPartTold_2 Y 1 = _
    unfold F_MD_qPartTold_2
    rw [if_neg (by decide), if_neg h])
  rw [this]
  simp only [Option.bind_some]
  unfold F_MD_qPartTold_186
  rw [if_neg h]
theorem mf_ne {k at' : Nat} (h : MFt Y k at') (h1 : 1 ≤ k) (h2 : k < 100) : ¬ Y 177 5 = 0 := by
  rw [h.1]
  exact fun z => by have := (n_eq (by omega) (by decide) (show (0 : Int32) = nI 0 from rfl)).mp z; omega
/-- a fault, and the codes are not too many -/
def MFr (Y : MI) (k at' : Nat) : Prop := MFt Y k at' ∧ ∃ m, m < 1690 ∧ Y 177 92 = nI m
theorem mr {V : MI} {k at' : Nat} (h : RE Y tb n e b W K o bs tk) (f : fsL LM V Y) (g : MFt V k at') : MFr V k at' := by
  obtain ⟨n16, hn, -, -⟩ := RE_n h
  exact ⟨g, K.length, by have := h.2.2.2.2.2.1; omega, (f 177 92 (by decide)).trans h.2.1.2.1.1⟩
theorem wo_40 (h : kd tb n e b = 40) : wo tb n e b = none := wo_n (by omega)
theorem q_o_n (tk f t : Nat) : q_o tk f t none = none := by unfold q_o q_h; simp
theorem sg40 : sgn 40 := by unfold sgn; decide
theorem sg41 : sgn 41 := by unfold sgn; decide
theorem sg42 : sgn 42 := by unfold sgn; decide
theorem sg43 : sgn 43 := by unfold sgn; decide
theorem sg44 : sgn 44 := by unfold sgn; decide
theorem sg45 : sgn 45 := by unfold sgn; decide
theorem sg47 : sgn 47 := by unfold sgn; decide
theorem sg59 : sgn 59 := by unfold sgn; decide
theorem ch_40 (hb : ∀ j, j < n → tb j < 256) : ch tb n e = 40 ↔ kd tb n e b = 40 := ch_is hb sg40
theorem ch_41 (hb : ∀ j, j < n → tb j < 256) : ch tb n e = 41 ↔ kd tb n e b = 41 := ch_is hb sg41
theorem ch_42 (hb : ∀ j, j < n → tb j < 256) : ch tb n e = 42 ↔ kd tb n e b = 42 := ch_is hb sg42
theorem ch_43 (hb : ∀ j, j < n → tb j < 256) : ch tb n e = 43 ↔ kd tb n e b = 43 := ch_is hb sg43
theorem ch_44 (hb : ∀ j, j < n → tb j < 256) : ch tb n e = 44 ↔ kd tb n e b = 44 := ch_is hb sg44
theorem ch_45 (hb : ∀ j, j < n → tb j < 256) : ch tb n e = 45 ↔ kd tb n e b = 45 := ch_is hb sg45
theorem ch_47 (hb : ∀ j, j < n → tb j < 256) : ch tb n e = 47 ↔ kd tb n e b = 47 := ch_is hb sg47
theorem ch_59 (hb : ∀ j, j < n → tb j < 256) : ch tb n e = 59 ↔ kd tb n e b = 59 := ch_is hb sg59
/-- ( -/
theorem pt_open (h : RE Y tb n e b W K o bs tk) (hk : kd tb n e b = 40) : (o = 6 ∧ ∃ Y1, F_MD_qPartTold Y = some Y1 ∧ MFr Y1 4 (sk tb n e) ∧ fsL LQ Y1 Y) ∨ (o < 6 ∧ ∃ Y1, F_MD_qPartTold Y = F_MD_qPartTold Y1 ∧ RE Y1 tb n (sk tb n e + 1) false (W ++ [20]) K (o + 1) bs tk ∧ fsL LQ Y1 Y) := by
  obtain ⟨r1, r2⟩ := RE_LK h
  obtain ⟨n16, hn, sg, sl⟩ := RE_n h
  obtain ⟨h1, h2, h3, h4, h5, h6, h7, h8⟩ := h
  have hb := QP_b h1
  obtain ⟨q, -⟩ := kd_sign (e := e) (b := b) (show kd tb n e b < 256 by omega)
  have at2 : LK' Y tb n e 177 2 = nI (sk tb n e) := (LK_s h1).2.1
  have stp : F_MD_qPartTold_2 Y 1 = (F_MD_qOpens (LK' Y tb n e) (nI 20) (nI (sk tb n e))).bind fun r13 => some (.inl (1, m_up r13 177 2 (r13 177 2 + 1))) := by
    unfold F_MD_qPartTold_2
    rw [if_neg (by decide), if_pos h1.1.1, look_m h1]
    simp only [Option.bind_some]
    have := qof_m r1.1 r1.2.2.1 h4 (f := 8) (t := 10) (by decide) (by decide)
    rw [LK_LK] at this
    have this : F_MD_qWordOf (LK' Y tb n e) 8 10 = _ := this
    rw [this]
    simp only [Option.bind_some]
    rw [if_pos ((ch_40 hb).mpr hk), at2]; rfl
  rcases opens_m r1 20 (sk tb n e) (by decide) (by omega) with ⟨g1, g2⟩ | ⟨g1, Y1, g2, g3, g4, g5, g6, g7⟩
  · left
    refine ⟨g1, ?_⟩
    rw [g2] at stp
    simp only [Option.bind_some] at stp
    rw [pt_st stp]
    have b2 := fail_t (LK' Y tb n e) 4 (sk tb n e)
    have f2 := fail_f (LK' Y tb n e) 4 (sk tb n e)
    generalize m_up (m_up (LK' Y tb n e) 177 5 (nI 4)) 177 6 (nI (sk tb n e)) = V at *
    have b3 : MFt (m_up V 177 2 (V 177 2 + 1)) 4 (sk tb n e) := ⟨by rw [up_j _ _ _ (by decide)]; exact b2.1, by rw [up_j _ _ _ (by decide)]; exact b2.2⟩
    exact ⟨_, pt_bad (mf_ne b3 (by decide) (by decide)), mr r1 (fs_up (LX := LM) (by decide) (by decide) f2) b3, fs_up (LX := LQ) (by decide) (by decide) (fs_tr (fs_sub (by decide) f2) r2)⟩
  · right
    refine ⟨g1, ?_⟩
    rw [g2] at stp
    simp only [Option.bind_some] at stp
    have a1 : Y1 177 2 + 1 = nI (sk tb n e + 1) := by rw [g6 177 2 (by decide), at2, nI_s]
    rw [a1] at stp
    refine ⟨_, pt_st stp, ⟨QP_s g3 (by omega) (by omega), QS_f g4 (L := LM) (fs_up (LX := LM) (by decide) (by decide) (fs_r Y1)) (by decide), ?_, h4, ?_, ?_, g7, by omega⟩, fs_up (LX := LQ) (by decide) (by decide) (fs_tr (fs_sub (by decide) g6) r2)⟩
    · rw [up_j _ _ _ (by decide)]; exact g5
    · rw [List.length_append]; omega
    · rw [List.length_append]; simp; omega
/-- row, below -/
theorem pt_of (h : RE Y tb n e b W K o bs tk) {k : Nat} (hk : q_o tk 8 10 (wo tb n e b) = some k) : (o = 6 ∧ ∃ Y1, F_MD_qPartTold Y = some Y1 ∧ MFr Y1 4 (sk tb n e) ∧ fsL LQ Y1 Y) ∨ (o < 6 ∧ ∃ Y1, F_MD_qPartTold Y = F_MD_qPartTold Y1 ∧ RE Y1 tb n (tke tb n e) true (W ++ [60 + k - 8]) K (o + 1) bs tk ∧ fsL LQ Y1 Y) := by
  obtain ⟨r1, r2⟩ := RE_LK h
  obtain ⟨n16, hn, sg, sl⟩ := RE_n h
  obtain ⟨h1, h2, h3, h4, h5, h6, h7, h8⟩ := h
  have hb := QP_b h1
  have at2 : LK' Y tb n e 177 2 = nI (sk tb n e) := (LK_s h1).2.1
  have hh : q_h tk (wo tb n e b) = some k ∧ 8 ≤ k ∧ k < 10 := by
    unfold q_o at hk
    cases z : q_h tk (wo tb n e b) with
    | none => rw [z] at hk; cases hk
    | some k2 =>
      rw [z] at hk
      have hk : (if 8 ≤ k2 ∧ k2 < 10 ∧ q_a tk k2 = true then some k2 else none) = some k := hk
      split at hk
      · rename_i c
        cases hk
        exact ⟨rfl, c.1, c.2.1⟩
      · cases hk
  have wi : wo tb n e b = some 5 ∨ wo tb n e b = some 17 := by
    have := hh.1
    unfold q_h at this
    by_cases c1 : wo tb n e b = some 5
    · exact Or.inl c1
    · by_cases c2 : wo tb n e b = some 17
      · exact Or.inr c2
      · exfalso
        repeat' split at this
        all_goals first | (cases this; omega) | cases this | (rename_i z; exact c1 z.2) | contradiction
  have k256 : kd tb n e b = 256 := by
    rcases wi with z | z
    · exact (wo_s.mp z).2.1
    · exact (wo_s.mp z).2.1
  obtain ⟨q, -⟩ := (kd_256 hb).mp k256
  have tg := tke_gt q
  have tl := tke_le (tb := tb) hn
  have stp : F_MD_qPartTold_2 Y 1 = (F_MD_qOpens (LK' Y tb n e) (nI (60 + k - 8)) (nI (sk tb n e))).bind fun r11 => (F_MD_qAsksWord r11 (nI k)).bind fun r12 => some (.inl (1, r12)) := by
    unfold F_MD_qPartTold_2
    rw [if_neg (by decide), if_pos h1.1.1, look_m h1]
    simp only [Option.bind_some]
    have := qof_m r1.1 r1.2.2.1 h4 (f := 8) (t := 10) (by decide) (by decide)
    rw [LK_LK, hk] at this
    have this : F_MD_qWordOf (LK' Y tb n e) 8 10 = some (nI k, LK' Y tb n e) := this
    rw [this]
    simp only [Option.bind_some]
    rw [if_neg (fun z => by have := (ch_is (b := b) hb sg40).mp z; omega), hereL h1 (i := 22) (by decide +kernel) (by rfl)]
    simp only [Option.bind_some, bI_if]
    rw [if_neg (by rcases wi with z | z <;> rw [z] <;> decide), hereL h1 (i := 23) (by decide +kernel) (by rfl)]
    simp only [Option.bind_some, bI_if]
    rw [if_neg (by rcases wi with z | z <;> rw [z] <;> decide), if_neg (show ¬ nI k = -1 from fun z => by have := nI_pos' (n := k) (by omega); rw [z] at this; exact absurd this (by decide)), at2]
    have e60 : (60 : Int32) + nI k - 8 = nI (60 + k - 8) := by
      have : (60 : Int32) + nI k = nI (60 + k) := nI_add 60 k
      rw [this]; exact nI_subN (a := 60 + k) (b := 8) (by omega)
    rw [e60]
  rcases opens_m r1 (60 + k - 8) (sk tb n e) (by omega) (by omega) with ⟨g1, g2⟩ | ⟨g1, Y1, g2, g3, g4, g5, g6, g7⟩
  · left
    refine ⟨g1, ?_⟩
    have b2 := fail_t (LK' Y tb n e) 4 (sk tb n e)
    have f2 := fail_f (LK' Y tb n e) 4 (sk tb n e)
    rw [g2] at stp
    simp only [Option.bind_some] at stp
    generalize m_up (m_up (LK' Y tb n e) 177 5 (nI 4)) 177 6 (nI (sk tb n e)) = V at *
    have ab : F_MD_qAsksWord V (nI k) = some V := by
      have nb := mf_ne b2 (by decide) (by decide)
      unfold F_MD_qAsksWord
      rw [asks_b nb, asks_b nb, asks_b nb, asks_b nb, asks_b nb, asks_b nb, asks_b nb, asks_b nb, asks_b nb, asks_b nb]
      repeat' split
      all_goals rfl
    rw [ab] at stp
    simp only [Option.bind_some] at stp
    rw [pt_st stp]
    exact ⟨V, pt_bad (mf_ne b2 (by decide) (by decide)), mr r1 f2 b2, fs_tr (fs_sub (by decide) f2) r2⟩
  · right
    refine ⟨g1, ?_⟩
    rw [g2] at stp
    simp only [Option.bind_some] at stp
    obtain ⟨Z, z1, z2, z3⟩ := askw_m (tk := tk) g3 hh.1
    rw [z1] at stp
    simp only [Option.bind_some] at stp
    refine ⟨Z, pt_st stp, ⟨z3, QS_f g4 z2 (by decide), (z2 177 50 (by decide)).trans g5, h4, ?_, ?_, g7, by omega⟩, fs_tr (fs_sub (by decide) z2) (fs_tr (fs_sub (by decide) g6) r2)⟩
    · rw [List.length_append]; omega
    · rw [List.length_append]; simp; omega
/-- min, max -/
theorem pt_min (h : RE Y tb n e b W K o bs tk) {mm : Nat} (hm : mm = 22 ∨ mm = 23) (hk : wo tb n e b = some mm) : (kd tb n (tke tb n e) true = 40 ∧ o = 6 ∧ ∃ Y1, F_MD_qPartTold Y = some Y1 ∧ MFr Y1 4 (sk tb n (tke tb n e)) ∧ fsL LQ Y1 Y) ∨ (kd tb n (tke tb n e) true = 40 ∧ o < 6 ∧ ∃ Y1, F_MD_qPartTold Y = F_MD_qPartTold Y1 ∧ RE Y1 tb n (sk tb n (tke tb n e) + 1) false (W ++ [mm - 1]) K (o + 1) bs tk ∧ fsL LQ Y1 Y) ∨ (¬ kd tb n (tke tb n e) true = 40 ∧ ∃ Y1, F_MD_qPartTold Y = some Y1 ∧ MFr Y1 1 (sk tb n (tke tb n e)) ∧ fsL LQ Y1 Y) := by
  obtain ⟨r1, r2⟩ := RE_LK h
  obtain ⟨n16, hn, sg, sl⟩ := RE_n h
  obtain ⟨h1, h2, h3, h4, h5, h6, h7, h8⟩ := h
  have hb := QP_b h1
  have k256 : kd tb n e b = 256 := (wo_s.mp hk).2.1
  obtain ⟨q, -⟩ := (kd_256 hb).mp k256
  have tg := tke_gt q
  have tl := tke_le (tb := tb) hn
  -- the word is taken
  have tw : ∃ V v4, F_MD_qPartTold_2 Y 1 = F_MD_qPartTold_101 V 1 v4 ∧ QP V tb n (tke tb n e) true ∧ fsL LM V (LK' Y tb n e) ∧ ((mm = 22 ∧ v4 = 1) ∨ (mm = 23 ∧ v4 = 0)) := by
    have stp : F_MD_qPartTold_2 Y 1 = F_MD_qPartTold_78 (LK' Y tb n e) 1 := by
      unfold F_MD_qPartTold_2
      rw [if_neg (by decide), if_pos h1.1.1, look_m h1]
      simp only [Option.bind_some]
      have := qof_m r1.1 r1.2.2.1 h4 (f := 8) (t := 10) (by decide) (by decide)
      rw [LK_LK] at this
      have this : F_MD_qWordOf (LK' Y tb n e) 8 10 = _ := this
      rw [this]
      simp only [Option.bind_some]
      rw [if_neg (fun z => by have := (ch_is (b := b) hb sg40).mp z; omega), hereL h1 (i := 22) (by decide +kernel) (by rfl)]
      simp only [Option.bind_some, bI_if]
      rcases hm with z | z <;> subst z
      · rw [if_pos hk]
      · rw [if_neg (by rw [hk]; decide), hereL h1 (i := 23) (by decide +kernel) (by rfl)]
        simp only [Option.bind_some, bI_if]
        rw [if_pos hk]
    rw [stp]
    unfold F_MD_qPartTold_78
    obtain ⟨r, er, hr⟩ := takes_m r1.1 (w := 232) (i := 22) (lw := 3) (by decide +kernel) (by rfl)
    rw [isw_o (by decide)] at hr
    rw [er]
    simp only [Option.bind_some]
    rcases hm with z | z <;> subst z
    · rcases hr with ⟨g1, g2, g3, g4⟩ | ⟨g1, -⟩
      · exact ⟨r.2, r.1, by rw [g2, if_neg (by decide)], g3, g4, Or.inl ⟨rfl, g2⟩⟩
      · rw [decide_eq_true hk] at g1; cases g1
    · rcases hr with ⟨g1, -⟩ | ⟨g1, g2⟩
      · rw [decide_eq_false (by rw [hk]; decide)] at g1; cases g1
      · subst g2
        rw [LK_LK]
        obtain ⟨V, ev, v1, v2⟩ := asks_m r1.1 (w := 233) (i := 23) (lw := 3) (by decide +kernel) (by rfl)
        refine ⟨V, 0, ?_, ?_, v1, Or.inr ⟨rfl, rfl⟩⟩
        · rw [if_pos rfl, ev]; rfl
        · rcases v2 with c | c
          · exact c.2
          · rw [isw_o (by decide), decide_eq_true hk] at c; cases c.1
  obtain ⟨V, v4, es, v1, v2, v3⟩ := tw
  have rV : RE V tb n (tke tb n e) true W K o bs tk := ⟨v1, QS_f r1.2.1 v2 (by decide), (v2 177 50 (by decide)).trans r1.2.2.1, h4, h5, by omega, h7, h8⟩
  obtain ⟨rL, rf⟩ := RE_LK rV
  have fV : fsL LQ (LK' V tb n (tke tb n e)) Y := fs_tr rf (fs_tr (fs_sub (by decide) v2) r2)
  have at2 : LK' V tb n (tke tb n e) 177 2 = nI (sk tb n (tke tb n e)) := (LK_s v1).2.1
  have s2 := sk_le (tb := tb) tl
  have s3 := sk_ge (tb := tb) (n := n) (tke tb n e)
  unfold F_MD_qPartTold_101 at es
  rw [look_m v1] at es
  simp only [Option.bind_some] at es
  by_cases c : kd tb n (tke tb n e) true = 40
  · rw [if_pos ((ch_40 hb).mpr c), at2] at es
    have e118 : F_MD_qPartTold_2 Y 1 = (F_MD_qOpens (LK' V tb n (tke tb n e)) (nI (mm - 1)) (nI (sk tb n (tke tb n e)))).bind fun r4 => (F_MD_asksSign r4 40).bind fun r5 => some (.inl (1, r5)) := by
      rw [es]
      unfold F_MD_qPartTold_118
      rw [if_neg (show ¬ nI (sk tb n (tke tb n e)) = -1 from fun z => by have := nI_pos' (n := sk tb n (tke tb n e)) (by omega); rw [z] at this; exact absurd this (by decide))]
      rcases v3 with ⟨z1, z2⟩ | ⟨z1, z2⟩
      · rw [z2, z1, if_neg (by decide)]; rfl
      · rw [z2, z1, if_pos rfl]; rfl
    obtain ⟨q2, -⟩ := kd_sign (e := tke tb n e) (b := true) (tb := tb) (n := n) (by omega)
    rcases opens_m rL (mm - 1) (sk tb n (tke tb n e)) (by omega) (by omega) with ⟨g1, g2⟩ | ⟨g1, Y1, g2, g3, g4, g5, g6, g7⟩
    · left
      refine ⟨c, g1, ?_⟩
      have b2 := fail_t (LK' V tb n (tke tb n e)) 4 (sk tb n (tke tb n e))
      have f2 := fail_f (LK' V tb n (tke tb n e)) 4 (sk tb n (tke tb n e))
      rw [g2] at e118
      simp only [Option.bind_some] at e118
      generalize m_up (m_up (LK' V tb n (tke tb n e)) 177 5 (nI 4)) 177 6 (nI (sk tb n (tke tb n e))) = U at *
      rw [asign_b (mf_ne b2 (by decide) (by decide))] at e118
      simp only [Option.bind_some] at e118
      rw [pt_st e118]
      exact ⟨U, pt_bad (mf_ne b2 (by decide) (by decide)), mr rL f2 b2, fs_tr (fs_sub (by decide) f2) fV⟩
    · right; left
      refine ⟨c, g1, ?_⟩
      rw [g2] at e118
      simp only [Option.bind_some] at e118
      obtain ⟨U, u1, u2, u3⟩ := asign_m g3 sg40
      have u1 : F_MD_asksSign Y1 40 = some U := u1
      rw [u1] at e118
      simp only [Option.bind_some] at e118
      rcases u3 with u3 | u3
      · refine ⟨U, pt_st e118, ⟨u3.2, QS_f g4 u2 (by decide), (u2 177 50 (by decide)).trans g5, h4, ?_, ?_, g7, by omega⟩, fs_tr (fs_sub (by decide) u2) (fs_tr (fs_sub (by decide) g6) fV)⟩
        · rw [List.length_append]; omega
        · rw [List.length_append]; simp; omega
      · exact absurd c u3.1
  · right; right
    refine ⟨c, ?_⟩
    rw [if_neg (fun z => c ((ch_40 hb).mp z))] at es
    unfold F_MD_qPartTold_118 at es
    rw [if_pos rfl] at es
    obtain ⟨U, u1, u2, u3⟩ := asign_m rL.1 sg40
    have u1 : F_MD_asksSign (LK' V tb n (tke tb n e)) 40 = some U := u1
    rw [u1] at es
    simp only [Option.bind_some] at es
    rcases u3 with u3 | u3
    · exact absurd u3.1 c
    · rw [pt_st es]
      exact ⟨U, pt_bad (mf_ne u3.2 (by decide) (by decide)), mr rL u2 u3.2, fs_tr (fs_sub (by decide) u2) fV⟩
end LB9
