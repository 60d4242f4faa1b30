/-! the reference: a test is read, step by step -/
noncomputable def KT (Y : MI) : Option MI := wl (fun s : Int32 × MI => F_MD_qTest_2 s.2 s.1) ((1 : Int32), Y)
noncomputable def KH (Y : MI) : Option MI := (F_MD_qGoesOnTest Y).bind fun r => if r.1 = 0 then some r.2 else KT r.2
noncomputable def KD (Y : MI) : Option MI := (F_MD_qDropsNots Y).bind KH
section LC6
variable {I X Y Z V : MI} {n e o bs tk : Nat} {b : Bool} {tb : Nat → Nat} {W K S : List Nat}
theorem KT_0 (Y : MI) : wl (fun s : Int32 × MI => F_MD_qTest_2 s.2 s.1) ((0 : Int32), Y) = some Y := wl_in (by
  show F_MD_qTest_2 Y 0 = _
  unfold F_MD_qTest_2
  rw [if_pos rfl])
theorem KT_b (h : ¬ Y 177 5 = 0) : KT Y = some Y := wl_in (by
  show F_MD_qTest_2 Y 1 = _
  unfold F_MD_qTest_2
  rw [if_neg (by decide), if_neg h])
theorem KT_st {Y1 : MI} (h : F_MD_qTest_2 Y 1 = some (.inl (1, Y1))) : KT Y = KT Y1 := wl_st h
theorem dn_5 : pc (F_MD_qDropsNots Y) (fun r => r 177 5 = Y 177 5) := by
  refine pc_m (q_MD_qDropsNots (L := LSt) (LJ := []) (I0 := Y) (J0 := fun _ _ => 0) (by decide) (by decide) (fs_r Y)) ?_
  intro r h
  exact h 177 5 (by decide)
theorem dn_b (h : ¬ Y 177 5 = 0) : F_MD_qDropsNots Y = some Y := by
  unfold F_MD_qDropsNots
  have : wl (fun s : MI => F_MD_qDropsNots_0 s) Y = some Y := wl_in (by unfold F_MD_qDropsNots_0; rw [if_neg h])
  rw [this]; rfl
theorem sg91 : sgn 91 := by unfold sgn; decide
theorem sg93 : sgn 93 := by unfold sgn; decide
theorem sg60 : sgn 60 := by unfold sgn; decide
theorem sg61 : sgn 61 := by unfold sgn; decide
theorem sg62 : sgn 62 := by unfold sgn; decide
theorem ch_91 (hb : ∀ j, j < n → tb j < 256) : ch tb n e = 91 ↔ kd tb n e b = 91 := ch_is hb sg91
theorem ch_93 (hb : ∀ j, j < n → tb j < 256) : ch tb n e = 93 ↔ kd tb n e b = 93 := ch_is hb sg93
theorem ch_60 (hb : ∀ j, j < n → tb j < 256) : ch tb n e = 60 ↔ kd tb n e b = 60 := ch_is hb sg60
theorem ch_61 (hb : ∀ j, j < n → tb j < 256) : ch tb n e = 61 ↔ kd tb n e b = 61 := ch_is hb sg61
theorem ch_62 (hb : ∀ j, j < n → tb j < 256) : ch tb n e = 62 ↔ kd tb n e b = 62 := ch_is hb sg62
/-- a fact is read, if neither [ nor not stands there -/
theorem KT_f (h : RE Y tb n e b W K o bs tk) (h1 : ¬ kd tb n e b = 91) (h2 : ¬ wo tb n e b = some 20) : (∀ Y1, F_MD_qFact (LK' Y tb n e) = some Y1 → Y1 177 5 = 0 → KT Y = KD Y1) ∧ (∀ Y1, F_MD_qFact (LK' Y tb n e) = some Y1 → ¬ Y1 177 5 = 0 → KT Y = some Y1) := by
  have hbb := QP_b h.1
  have st : F_MD_qTest_2 Y 1 = (F_MD_qFact (LK' Y tb n e)).bind fun r7 => (F_MD_qDropsNots r7).bind fun r8 => if (r8 177 5) = (0 : Int32) then ((F_MD_qGoesOnTest r8).bind fun r10 => if r10.1 = (0 : Int32) then (some (.inl ((0 : Int32), r10.2))) else (some (.inl ((1 : Int32), r10.2)))) else (some (.inl ((0 : Int32), r8))) := by
    unfold F_MD_qTest_2
    rw [if_neg (by decide), if_pos h.1.1.1, look_m h.1]
    simp only [Option.bind_some]
    rw [if_neg (fun z => h1 ((ch_91 hbb).mp z)), hereL h.1 (w := 228) (i := 20) (lw := 3) (by decide) rfl]
    simp only [Option.bind_some]
    rw [bI_if, if_neg h2]
  refine ⟨fun Y1 y1 y5 => ?_, fun Y1 y1 y5 => ?_⟩
  · unfold KT
    rw [wl_u]
    show (F_MD_qTest_2 Y 1).bind _ = _
    rw [st, y1]
    unfold KD
    simp only [Option.bind_some]
    cases hc : F_MD_qDropsNots Y1 with
    | none => rfl
    | some r8 =>
      simp only [Option.bind_some]
      rw [if_pos ((dn_5 r8 hc).trans y5)]
      unfold KH
      cases F_MD_qGoesOnTest r8 with
      | none => rfl
      | some r =>
        simp only [Option.bind_some]
        by_cases z : r.1 = 0
        · rw [if_pos z, if_pos z]; exact KT_0 _
        · rw [if_neg z, if_neg z]; rfl
  · unfold KT
    rw [wl_u]
    show (F_MD_qTest_2 Y 1).bind _ = _
    rw [st, y1]
    simp only [Option.bind_some]
    rw [dn_b y5]
    simp only [Option.bind_some]
    rw [if_neg y5]
    exact KT_0 _
/-- [ -/
theorem KT_sq (h : RE Y tb n e b W K o bs tk) (hk : kd tb n e b = 91) : (o = 6 ∧ ∃ Y1, KT Y = some Y1 ∧ MFt Y1 4 (sk tb n e) ∧ fsL LQ Y1 Y) ∨ (o < 6 ∧ ∃ Y1, KT Y = KT Y1 ∧ RE Y1 tb n (sk tb n e + 1) false (W ++ [25]) K (o + 1) bs tk ∧ fsL LQ Y1 Y) := by
  obtain ⟨r1, r2⟩ := RE_LK h
  obtain ⟨n16, hn, sg, sl⟩ := RE_n h
  obtain ⟨h1, h2, h3, h4, h5, h6, h7, h8⟩ := h
  have hb := QP_b h1
  obtain ⟨q, -⟩ := kd_sign (e := e) (b := b) (show kd tb n e b < 256 by omega)
  have at2 : LK' Y tb n e 177 2 = nI (sk tb n e) := (LK_s h1).2.1
  have stp : F_MD_qTest_2 Y 1 = (F_MD_qOpens (LK' Y tb n e) (nI 25) (nI (sk tb n e))).bind fun r13 => some (.inl (1, m_up r13 177 2 (r13 177 2 + 1))) := by
    unfold F_MD_qTest_2
    rw [if_neg (by decide), if_pos h1.1.1, look_m h1]
    simp only [Option.bind_some]
    rw [if_pos ((ch_91 hb).mpr hk), at2]; rfl
  rcases opens_m r1 25 (sk tb n e) (by decide) (by omega) with ⟨g1, g2⟩ | ⟨g1, Y1, g2, g3, g4, g5, g6, g7⟩
  · left
    refine ⟨g1, ?_⟩
    rw [g2] at stp
    simp only [Option.bind_some] at stp
    rw [KT_st stp]
    have b2 := fail_t (LK' Y tb n e) 4 (sk tb n e)
    have f2 := fail_f (LK' Y tb n e) 4 (sk tb n e)
    generalize m_up (m_up (LK' Y tb n e) 177 5 (nI 4)) 177 6 (nI (sk tb n e)) = V at *
    have b3 : MFt (m_up V 177 2 (V 177 2 + 1)) 4 (sk tb n e) := ⟨by rw [up_j _ _ _ (by decide)]; exact b2.1, by rw [up_j _ _ _ (by decide)]; exact b2.2⟩
    exact ⟨_, KT_b (mf_ne b3 (by decide) (by decide)), b3, fs_up (LX := LQ) (by decide) (by decide) (fs_tr (fs_sub (by decide) f2) r2)⟩
  · right
    refine ⟨g1, ?_⟩
    rw [g2] at stp
    simp only [Option.bind_some] at stp
    have a1 : Y1 177 2 + 1 = nI (sk tb n e + 1) := by rw [g6 177 2 (by decide), at2, nI_s]
    rw [a1] at stp
    refine ⟨_, KT_st stp, ⟨QP_s g3 (by omega) (by omega), QS_f g4 (L := LM) (fs_up (LX := LM) (by decide) (by decide) (fs_r Y1)) (by decide), ?_, h4, ?_, ?_, g7, by omega⟩, fs_up (LX := LQ) (by decide) (by decide) (fs_tr (fs_sub (by decide) g6) r2)⟩
    · rw [up_j _ _ _ (by decide)]; exact g5
    · rw [List.length_append]; omega
    · rw [List.length_append]; simp; omega
/-- not -/
theorem KT_not (h : RE Y tb n e b W K o bs tk) (hk : wo tb n e b = some 20) : (o = 6 ∧ ∃ Y1, KT Y = some Y1 ∧ MFt Y1 4 (sk tb n e) ∧ fsL LQ Y1 Y) ∨ (o < 6 ∧ ∃ Y1, KT Y = KT Y1 ∧ RE Y1 tb n (tke tb n e) true (W ++ [12]) K (o + 1) bs tk ∧ fsL LQ Y1 Y) := by
  obtain ⟨r1, r2⟩ := RE_LK h
  obtain ⟨n16, hn, sg, sl⟩ := RE_n h
  obtain ⟨h1, h2, h3, h4, h5, h6, h7, h8⟩ := h
  have hb := QP_b h1
  have k256 := (wo_s.mp hk).2.1
  obtain ⟨q, -⟩ := (kd_256 hb).mp k256
  have tg := tke_gt q
  have at2 : LK' Y tb n e 177 2 = nI (sk tb n e) := (LK_s h1).2.1
  have stp : F_MD_qTest_2 Y 1 = (F_MD_qOpens (LK' Y tb n e) (nI 12) (nI (sk tb n e))).bind fun r12 => (F_MD_asks 228 3 r12).bind fun r13 => some (.inl (1, r13)) := by
    unfold F_MD_qTest_2
    rw [if_neg (by decide), if_pos h1.1.1, look_m h1]
    simp only [Option.bind_some]
    rw [if_neg (fun z => by have := (ch_91 (b := b) hb).mp z; omega), hereL h1 (w := 228) (i := 20) (lw := 3) (by decide) rfl]
    simp only [Option.bind_some]
    rw [bI_if, if_pos hk, at2]; rfl
  rcases opens_m r1 12 (sk tb n e) (by decide) (by omega) with ⟨g1, g2⟩ | ⟨g1, Y1, g2, g3, g4, g5, g6, g7⟩
  · left
    refine ⟨g1, ?_⟩
    have b2 := fail_t (LK' Y tb n e) 4 (sk tb n e)
    have f2 := fail_f (LK' Y tb n e) 4 (sk tb n e)
    have ne := mf_ne b2 (by decide) (by decide)
    rw [g2] at stp
    simp only [Option.bind_some] at stp
    rw [asks_b ne] at stp
    rw [KT_st stp]
    exact ⟨_, KT_b ne, b2, fs_tr (fs_sub (by decide) f2) r2⟩
  · right
    refine ⟨g1, ?_⟩
    rw [g2] at stp
    simp only [Option.bind_some] at stp
    obtain ⟨r, er, er1, er2⟩ := asks_m g3 (w := 228) (i := 20) (lw := 3) (by decide) rfl
    rw [er] at stp
    simp only [Option.bind_some] at stp
    rcases er2 with ⟨-, q2⟩ | ⟨q1, -⟩
    · refine ⟨r, KT_st stp, ⟨q2, QS_f g4 er1 (by decide), (er1 177 50 (by decide)).trans g5, h4, ?_, ?_, g7, by omega⟩, fs_tr (fs_sub (by decide) er1) (fs_tr (fs_sub (by decide) g6) r2)⟩
      · rw [List.length_append]; omega
      · rw [List.length_append]; simp; omega
    · rw [isw_o (by decide), decide_eq_true hk] at q1; cases q1
/-- all -/
theorem KT_all (h : RE Y tb n e b W K o bs tk) (hk : wo tb n e b = some 21) : ∃ Y1, KT Y = KD Y1 ∧ RE Y1 tb n (tke tb n e) true W (K ++ [13]) o bs tk ∧ fsL LQ Y1 Y := by
  obtain ⟨r1, r2⟩ := RE_LK h
  have hb := QP_b h.1
  have k256 := (wo_s.mp hk).2.1
  obtain ⟨q, -⟩ := (kd_256 hb).mp k256
  have tg := tke_gt q
  have sg := sk_ge (tb := tb) (n := n) e
  obtain ⟨r, er, hr⟩ := takes_m r1.1 (w := 231) (i := 21) (lw := 3) (by decide) rfl
  rcases hr with ⟨x1, x2, x3, x4⟩ | ⟨x1, -⟩
  · obtain ⟨Y2, y1, y2, y3⟩ := RE_code r1 x3 x4 (by omega) 13
    have y1 : F_MD_qCode r.2 13 = some Y2 := y1
    refine ⟨Y2, (KT_f h (by omega) (by rw [hk]; decide)).1 Y2 ?_ y2.1.1.1, y2, fs_tr y3 r2⟩
    unfold F_MD_qFact
    rw [er]
    simp only [Option.bind_some]
    rw [x2, if_neg (by decide), y1]; rfl
  · rw [isw_o (by decide), decide_eq_true hk] at x1; cases x1
/-- the nots -/
theorem dn_0 (h : QS Y W K o bs) (hl : W.length < 1700) (hv : wv W) (hW : ¬ tp (fun x => x = 12) W) : F_MD_qDropsNots Y = some Y := by
  unfold F_MD_qDropsNots
  have : wl (fun s : MI => F_MD_qDropsNots_0 s) Y = some Y := wl_in (by
    unfold F_MD_qDropsNots_0
    by_cases z5 : Y 177 5 = 0
    · rw [if_pos z5]
      rcases List.eq_nil_or_concat W with e0 | ⟨W0, x, e0⟩
      · subst e0
        rw [ison_0 h]; rfl
      · rw [List.concat_eq_append] at e0
        subst e0
        rw [List.length_append] at hl
        have i3 : F_MD_qIsOn Y 12 = _ := ison_m h (by simp at hl; omega) (by have := (wv_a.mp hv).2; omega) (v := 12) (by decide)
        rw [i3]
        simp only [Option.bind_some]
        rw [bI_if, if_neg (fun z => hW (tp_a.mpr z))]
    · rw [if_neg z5])
  rw [this]; rfl
theorem dn_1 (h : RE Y tb n e b (W ++ [12]) K (o + 1) bs tk) (hb : bs ≤ W.length) : ∃ Y', KD Y = KD Y' ∧ RE Y' tb n e b W (K ++ [12]) o bs tk ∧ fsL LQ Y' Y := by
  obtain ⟨n16, hn, sg, sl⟩ := RE_n h
  obtain ⟨h1, h2, h3, h4, h5, h6, h7, h8⟩ := h
  rw [List.length_append] at h6
  have h6 : W.length + 1 + K.length ≤ e := h6
  have s2 : QS (m_up Y 177 95 (nI o)) (W ++ [12]) K o bs := by
    obtain ⟨⟨g1, g2⟩, ⟨g3, g4⟩, g5, g6⟩ := h2
    refine ⟨⟨?_, fun i hi => ?_⟩, ⟨?_, fun i hi => ?_⟩, up_e _ _ _ _, ?_⟩
    · rw [up_j _ _ _ (by decide)]; exact g1
    · rw [up_k _ _ _ (by decide)]; exact g2 i hi
    · rw [up_j _ _ _ (by decide)]; exact g3
    · rw [up_k _ _ _ (by decide)]; exact g4 i hi
    · rw [up_j _ _ _ (by decide)]; exact g6
  have f2 : fsL LSt (m_up Y 177 95 (nI o)) Y := fs_up (LX := LSt) (by decide) (by decide) (fs_r Y)
  obtain ⟨Y', d1, d2, d3⟩ := drop_m s2 (by omega) (by omega)
  have f3 : fsL LSt Y' Y := fs_tr d3 f2
  refine ⟨Y', ?_, ⟨QP_f h1 f3 (by decide) (by decide +kernel), d2, (f3 177 50 (by decide)).trans h3, h4, hb, ?_, (wv_a.mp h7).1, by omega⟩, fs_sub (by decide) f3⟩
  · unfold KD F_MD_qDropsNots
    have key : F_MD_qDropsNots_0 Y = some (.inl Y') := by
      unfold F_MD_qDropsNots_0
      have i3 : F_MD_qIsOn Y 12 = _ := ison_m h2 (by omega) (by decide) (v := 12) (by decide)
      rw [if_pos h1.1.1, i3]
      simp only [Option.bind_some]
      rw [bI_if, if_pos trivial, h2.2.2.1]
      have : nI (o + 1) - (1 : Int32) = nI o := nI_subN (a := o + 1) (b := 1) (by omega)
      rw [this, d1]; rfl
    have : wl (fun s : MI => F_MD_qDropsNots_0 s) Y = wl (fun s : MI => F_MD_qDropsNots_0 s) Y' := wl_st key
    rw [this]
  · rw [List.length_append]; simp; omega
theorem KD_H (h : RE Y tb n e b W K o bs tk) (hW : ¬ tp (fun x => x = 12) W) : KD Y = KH Y := by
  obtain ⟨n16, hn, sg, sl⟩ := RE_n h
  unfold KD
  rw [dn_0 h.2.1 (by have := h.2.2.2.2.2.1; omega) h.2.2.2.2.2.2.1 hW]; rfl
/-- is a square open -/
theorem hsq (h : QS Y W K o bs) (hl : W.length < 1700) (hv : wv W) : F_MD_qHasSquare Y = some (bI (decide (25 ∈ W))) := by
  have st : ∀ i, i ≤ W.length → F_MD_qHasSquare_2 Y (nI i) = if i < W.length then (if W.getD i 0 = 25 then some (.inr (.inr 1)) else some (.inl (nI (i + 1)))) else some (.inr (.inl ())) := by
    intro i hi
    unfold F_MD_qHasSquare_2
    rw [h.1.1]
    by_cases c : i < W.length
    · rw [if_neg (nI_ge c (by omega)), if_pos c, gd_n (by omega) (by decide), nI_clamp (by omega), h.1.2 i c, nI_s]
      have xv := hv _ (getD_mem' (l := W) (j := i) c)
      by_cases q : W.getD i 0 = 25
      · rw [if_pos (by rw [q]; rfl), if_pos q]
      · rw [if_neg (fun z => q ((n_eq (by omega) (by decide) (show (25 : Int32) = nI 25 from rfl)).mp z)), if_neg q]
    · rw [if_pos (nI_le (by omega) (by omega)), if_neg c]
  have lp : ∀ d i, W.length - i = d → i ≤ W.length → wl (fun s : Int32 => F_MD_qHasSquare_2 Y s) (nI i) = some (if 25 ∈ W.drop i then Sum.inr 1 else Sum.inl ()) := by
    intro d
    induction d with
    | zero =>
      intro i hd hi
      have : F_MD_qHasSquare_2 Y (nI i) = some (.inr (.inl ())) := by rw [st i hi, if_neg (by omega)]
      rw [wl_in this, List.drop_of_length_le (by omega), if_neg (by simp)]
    | succ d ih =>
      intro i hd hi
      have c : i < W.length := by omega
      have s1 := st i hi
      rw [if_pos c] at s1
      have dr : W.drop i = W.getD i 0 :: W.drop (i + 1) := by
        rw [List.drop_eq_getElem_cons c, List.getD_eq_getElem?_getD, List.getElem?_eq_getElem c]; rfl
      by_cases q : W.getD i 0 = 25
      · rw [if_pos q] at s1
        rw [wl_in s1, dr, q, if_pos (List.mem_cons_self ..)]
      · rw [if_neg q] at s1
        have e1 : wl (fun s : Int32 => F_MD_qHasSquare_2 Y s) (nI i) = _ := wl_st s1
        rw [e1, ih (i + 1) (by omega) (by omega), dr]
        by_cases z : 25 ∈ W.drop (i + 1)
        · rw [if_pos z, if_pos (List.mem_cons_of_mem _ z)]
        · rw [if_neg z, if_neg (fun y => by
            rcases List.mem_cons.mp y with y | y
            · exact q y.symm
            · exact z y)]
  unfold F_MD_qHasSquare
  have l0 : wl (fun s : Int32 => F_MD_qHasSquare_2 Y s) 0 = _ := lp W.length 0 (by omega) (by omega)
  rw [l0, List.drop_zero]
  by_cases z : 25 ∈ W
  · rw [if_pos z, decide_eq_true z]; rfl
  · rw [if_neg z, decide_eq_false z]; rfl
end LC6
