/-! the reference: how a test goes on -/
/-- and, or wait -/
def anS (t : Bool) (S : List Nat) : Prop := ∀ x, x ∈ S → x = 10 ∨ (t = true ∧ x = 11)
section LC7
variable {I X Y Z V : MI} {n e o bs tk : Nat} {b : Bool} {tb : Nat → Nat} {W K S : List Nat}
theorem KH_D {Y1 : MI} (h : F_MD_qGoesOnTest_0 Y = (F_MD_qDropsNots Y1).bind fun r => some (.inl r)) : KH Y = KD Y1 := by
  unfold KD KH F_MD_qGoesOnTest
  rw [wl_u]
  show (((F_MD_qGoesOnTest_0 Y).bind _).bind _).bind _ = _
  rw [h]
  cases F_MD_qDropsNots Y1 with
  | none => rfl
  | some r => rfl
theorem KH_76 (h : F_MD_qGoesOnTest_0 Y = some (.inr Z)) : KH Y = (F_MD_qGoesOnTest_76 Z).bind fun r => if r.1 = 0 then some r.2 else KT r.2 := by
  unfold KH F_MD_qGoesOnTest
  have : wl (fun s : MI => F_MD_qGoesOnTest_0 s) Y = some Z := wl_in h
  rw [this]; rfl
theorem ison_t (h : QS Y W K o bs) (hl : W.length < 1700) (hv : wv W) {v : Nat} (hvv : v < 100) [Decidable (tp (fun x => x = v) W)] : F_MD_qIsOn Y (nI v) = some (bI (decide (tp (fun x => x = v) W))) := by
  rcases List.eq_nil_or_concat W with e0 | ⟨W0, x, e0⟩
  · subst e0
    rw [ison_0 h, decide_eq_false tp_0]; rfl
  · rw [List.concat_eq_append] at e0
    subst e0
    rw [List.length_append] at hl
    rw [ison_m h (by simp at hl; omega) (by have := (wv_a.mp hv).2; omega) (v := v) (by omega)]
    congr 2
    exact decide_eq_decide.mpr (tp_a (P := fun x => x = v)).symm
/-- the drops -/
theorem d33_m (h : QS Y (W ++ [25] ++ S) K o bs) (hv : wv (W ++ [25] ++ S)) (h5 : Y 177 5 = 0) (hS : anS true S) (hl : W.length + S.length + K.length < 1690) : ∃ Y', wl (fun s : MI => F_MD_qGoesOnTest_33 s) Y = some Y' ∧ QS Y' (W ++ [25]) (K ++ S.reverse) o bs ∧ fsL LSt Y' Y := by
  classical
  refine drops_w (o := o) (bs := bs) (fun W => ¬ tp (fun x => x = 25) W) (fun Y W K h hv h5 hl hK => ?_) S.length S rfl (W ++ [25]) K Y h hv h5 (fun S' x S'' ex => ?_) (fun z => z (tp_a.mpr rfl)) (by rw [List.length_append]; simp; omega)
  · unfold F_MD_qGoesOnTest_33
    have i3 : F_MD_qIsOn Y 25 = _ := ison_t h hl hv (v := 25) (by decide)
    rw [i3]
    simp only [Option.bind_some, bI_if]
    by_cases c : tp (fun x => x = 25) W
    · exact ⟨fun z => absurd c z, fun _ => by rw [if_pos c]⟩
    · exact ⟨fun _ => by rw [if_neg c], fun z => absurd c z⟩
  · intro z
    have := tp_a.mp z
    have := hS x (by rw [ex]; exact List.mem_append_right _ (List.mem_cons_self ..))
    omega
theorem d87_m (h : QS Y (W ++ S) K o bs) (hv : wv (W ++ S)) (h5 : Y 177 5 = 0) (hS : anS false S) (hW : ¬ tp (fun x => x = 10) W) (hl : W.length + S.length + K.length < 1690) : ∃ Y', wl (fun s : MI => F_MD_qGoesOnTest_87 s) Y = some Y' ∧ QS Y' W (K ++ S.reverse) o bs ∧ fsL LSt Y' Y := by
  classical
  refine drops_w (o := o) (bs := bs) (fun W => tp (fun x => x = 10) W) (fun Y W K h hv h5 hl hK => ?_) S.length S rfl W K Y h hv h5 (fun S' x S'' ex => ?_) hW (by omega)
  · unfold F_MD_qGoesOnTest_87
    have i3 : F_MD_qIsOn Y 10 = _ := ison_t h hl hv (v := 10) (by decide)
    rw [i3]
    simp only [Option.bind_some, bI_if]
    by_cases c : tp (fun x => x = 10) W
    · exact ⟨fun _ => by rw [if_pos c], fun z => absurd c z⟩
    · exact ⟨fun z => absurd z c, fun _ => by rw [if_neg c]⟩
  · have := hS x (by rw [ex]; exact List.mem_append_right _ (List.mem_cons_self ..))
    refine tp_a.mpr (this.resolve_right (fun z => by cases z.1))
theorem d137_m (h : QS Y (W ++ S) K o bs) (hv : wv (W ++ S)) (h5 : Y 177 5 = 0) (hS : anS true S) (hW : ¬ tp (fun x => x = 10 ∨ x = 11) W) (hl : W.length + S.length + K.length < 1690) : ∃ Y', wl (fun s : MI => F_MD_qGoesOnTest_137 s) Y = some Y' ∧ QS Y' W (K ++ S.reverse) o bs ∧ fsL LSt Y' Y := by
  classical
  refine drops_w (o := o) (bs := bs) (fun W => tp (fun x => x = 10 ∨ x = 11) W) (fun Y W K h hv h5 hl hK => ?_) S.length S rfl W K Y h hv h5 (fun S' x S'' ex => ?_) hW (by omega)
  · unfold F_MD_qGoesOnTest_137
    have i3 : F_MD_qIsOn Y 10 = _ := ison_t h hl hv (v := 10) (by decide)
    have i4 : F_MD_qIsOn Y 11 = _ := ison_t h hl hv (v := 11) (by decide)
    rw [i3, i4]
    simp only [Option.bind_some, bI_if]
    have e1 : tp (fun x => x = 10 ∨ x = 11) W ↔ tp (fun x => x = 10) W ∨ tp (fun x => x = 11) W := by
      constructor
      · rintro ⟨W0, x, e, z | z⟩
        · exact Or.inl ⟨W0, x, e, z⟩
        · exact Or.inr ⟨W0, x, e, z⟩
      · rintro (⟨W0, x, e, z⟩ | ⟨W0, x, e, z⟩)
        · exact ⟨W0, x, e, Or.inl z⟩
        · exact ⟨W0, x, e, Or.inr z⟩
    by_cases c : tp (fun x => x = 10) W
    · exact ⟨fun _ => by rw [if_pos c], fun z => absurd (e1.mpr (Or.inl c)) z⟩
    · by_cases c2 : tp (fun x => x = 11) W
      · exact ⟨fun _ => by rw [if_neg c, if_pos c2], fun z => absurd (e1.mpr (Or.inr c2)) z⟩
      · exact ⟨fun z => absurd (e1.mp z) (fun y => y.elim c c2), fun _ => by rw [if_neg c, if_neg c2]⟩
  · have := hS x (by rw [ex]; exact List.mem_append_right _ (List.mem_cons_self ..))
    exact tp_a.mpr (by omega)
/-- ] -/
theorem KH_sq (h : RE Y tb n e b (W ++ [25] ++ S) K (o + 1) bs tk) (hk : kd tb n e b = 93) (hS : anS true S) (hb : bs ≤ W.length) : ∃ Y1, KH Y = KD Y1 ∧ RE Y1 tb n (sk tb n e + 1) false W (K ++ S.reverse) o bs tk ∧ fsL LQ Y1 Y := by
  obtain ⟨r1, r2⟩ := RE_LK h
  obtain ⟨n16, hn, sg, sl⟩ := RE_n h
  have hbb := QP_b h.1
  have at2 : LK' Y tb n e 177 2 = nI (sk tb n e) := (LK_s h.1).2.1
  have hlk := look_m h.1
  have h50 := h.2.2.1
  obtain ⟨h1, h2, h3, h4, h5, h6, h7, h8⟩ := r1
  obtain ⟨q, -⟩ := kd_sign (e := e) (b := b) (tb := tb) (n := n) (by omega)
  have l6 : W.length + 1 + S.length + K.length ≤ e := by rw [List.length_append, List.length_append] at h6; simp at h6; omega
  have hs := hsq h2 (by rw [List.length_append, List.length_append]; simp; omega) h7
  rw [decide_eq_true (List.mem_append_left _ (List.mem_append_right _ (List.mem_singleton.mpr rfl)))] at hs
  have pU : QP (m_up (LK' Y tb n e) 177 2 (nI (sk tb n e + 1))) tb n (sk tb n e + 1) false := QP_s h1 (by omega) (by omega)
  have fU : fsL LM (m_up (LK' Y tb n e) 177 2 (nI (sk tb n e + 1))) (LK' Y tb n e) := fs_up (LX := LM) (by decide) (by decide) (fs_r _)
  have sU : QS (m_up (LK' Y tb n e) 177 2 (nI (sk tb n e + 1))) (W ++ [25] ++ S) K (o + 1) bs := QS_f h2 fU (by decide)
  obtain ⟨T, t1, t2, t3⟩ := d33_m sU h7 pU.1.1 hS (by omega)
  obtain ⟨p1, p2⟩ := top_m t2 (by omega)
  have t95 : T 177 95 - 1 = nI o := by rw [t2.2.2.1]; exact nI_subN (a := o + 1) (b := 1) (by omega)
  obtain ⟨g1, g2⟩ := pop_m t2 o
  have pT : QP T tb n (sk tb n e + 1) false := QP_f pU t3 (by decide) (by decide +kernel)
  have pG : QP (m_up (m_up T 177 94 (nI W.length)) 177 95 (nI o)) tb n (sk tb n e + 1) false := QP_f pT g2 (by decide) (by decide +kernel)
  have fG : fsL LQ (m_up (m_up T 177 94 (nI W.length)) 177 95 (nI o)) Y := fs_tr (fs_sub (by decide) g2) (fs_tr (fs_sub (by decide) t3) (fs_tr (fs_sub (by decide) fU) r2))
  have e43 : F_MD_qGoesOnTest_0 Y = (F_MD_qDropsNots (m_up (m_up T 177 94 (nI W.length)) 177 95 (nI o))).bind fun r => some (.inl r) := by
    unfold F_MD_qGoesOnTest_0
    rw [if_pos h.1.1.1, hlk]
    simp only [Option.bind_some]
    rw [if_pos ((ch_93 hbb).mpr hk), hs]
    simp only [Option.bind_some]
    rw [if_neg (by decide), at2, nI_s, t1]
    simp only [Option.bind_some]
    rw [p1, t95]
  refine ⟨_, KH_D e43, ⟨pG, g1, (fG 177 50 (by decide)).trans h50, h4, hb, ?_, wv_p (wv_p h7), by omega⟩, fG⟩
  rw [List.length_append, List.length_reverse]; omega
/-- neither ] nor may it be closed -/
theorem KH_n (h : RE Y tb n e b W K o bs tk) (hk : ¬ kd tb n e b = 93 ∨ ¬ 25 ∈ W) : KH Y = (F_MD_qGoesOnTest_76 (LK' Y tb n e)).bind fun r => if r.1 = 0 then some r.2 else KT r.2 := by
  obtain ⟨r1, r2⟩ := RE_LK h
  obtain ⟨n16, hn, sg, sl⟩ := RE_n h
  have hbb := QP_b h.1
  refine KH_76 ?_
  unfold F_MD_qGoesOnTest_0
  rw [if_pos h.1.1.1, look_m h.1]
  simp only [Option.bind_some]
  by_cases c : kd tb n e b = 93
  · rw [if_pos ((ch_93 hbb).mpr c), hsq r1.2.1 (by have := r1.2.2.2.2.2.1; omega) r1.2.2.2.2.2.2.1, decide_eq_false (hk.resolve_left (fun z => z c))]; rfl
  · rw [if_neg (fun z => c ((ch_93 hbb).mp z))]
theorem an_put {U : MI} (h : RE Y tb n e b (W ++ S) K o bs tk) {e2 : Nat} (he : e < e2) (hU : QP U tb n e2 true) (fU : fsL LM U Y) {T : MI} (t2 : QS T W (K ++ S.reverse) o bs) (t3 : fsL LSt T U) (hb : bs ≤ W.length) (x : Nat) (hx : x < 100) : ∃ Y1, gd (T 177 94) 1700 (some ((1 : Int32), m_up (m_up T 245 ((T 177 94).toNatClampNeg) (nI x)) 177 94 (T 177 94 + 1))) = some (1, Y1) ∧ RE Y1 tb n e2 true (W ++ [x]) (K ++ S.reverse) o bs tk ∧ fsL LQ Y1 Y := by
  obtain ⟨n16, hn, sg, sl⟩ := RE_n h
  obtain ⟨h1, h2, h3, h4, h5, h6, h7, h8⟩ := h
  rw [List.length_append] at h6
  obtain ⟨w1, w2⟩ := wait_m t2 x
  refine ⟨m_up (m_up T 245 W.length (nI x)) 177 94 (nI (W.length + 1)), ?_, ⟨QP_f (QP_f hU t3 (by decide) (by decide +kernel)) w2 (by decide) (by decide +kernel), w1, ?_, h4, ?_, ?_, wv_a.mpr ⟨wv_p h7, hx⟩, h8⟩, fs_tr (fs_sub (by decide) w2) (fs_tr (fs_sub (by decide) t3) (fs_sub (by decide) fU))⟩
  · rw [t2.1.1, gd_n (by omega) (by decide), nI_clamp (by omega), nI_s]
  · exact ((w2 177 50 (by decide)).trans ((t3 177 50 (by decide)).trans (fU 177 50 (by decide)))).trans h3
  · rw [List.length_append]; omega
  · rw [List.length_append, List.length_append, List.length_reverse]; simp; omega
/-- and -/
theorem KH_and (h : RE Y tb n e b (W ++ S) K o bs tk) (hk : wo tb n e b = some 19) (hS : anS false S) (hW : ¬ tp (fun x => x = 10) W) (hb : bs ≤ W.length) : ∃ Y1, KH Y = KT Y1 ∧ RE Y1 tb n (tke tb n e) true (W ++ [10]) (K ++ S.reverse) o bs tk ∧ fsL LQ Y1 Y := by
  obtain ⟨r1, r2⟩ := RE_LK h
  obtain ⟨n16, hn, sg, sl⟩ := RE_n h
  have hbb := QP_b h.1
  have k256 := (wo_s.mp hk).2.1
  obtain ⟨q, -⟩ := (kd_256 hbb).mp k256
  have tg := tke_gt q
  have hlen := h.2.2.2.2.2.1
  rw [List.length_append] at hlen
  rw [KH_n h (Or.inl (by omega))]
  obtain ⟨r, er, hr⟩ := takes_m r1.1 (w := 229) (i := 19) (lw := 3) (by decide) rfl
  unfold F_MD_qGoesOnTest_76
  rw [er]
  simp only [Option.bind_some]
  rcases hr with ⟨x1, x2, x3, x4⟩ | ⟨x1, -⟩
  · obtain ⟨T, t1, t2, t3⟩ := d87_m (QS_f r1.2.1 x4 (by decide)) h.2.2.2.2.2.2.1 x3.1.1 hS hW (by omega)
    obtain ⟨Y1, y1, y2, y3⟩ := an_put r1 (by omega) x3 x4 t2 t3 hb 10 (by decide)
    have y1 : gd (T 177 94) 1700 (some ((1 : Int32), m_up (m_up T 245 ((T 177 94).toNatClampNeg) 10) 177 94 (T 177 94 + 1))) = some (1, Y1) := y1
    rw [x2, if_neg (by decide), t1]
    simp only [Option.bind_some]
    rw [y1]
    simp only [Option.bind_some]
    rw [if_neg (by decide)]
    exact ⟨Y1, rfl, y2, fs_tr y3 r2⟩
  · rw [isw_o (by decide), decide_eq_true hk] at x1; cases x1
/-- or -/
theorem KH_or (h : RE Y tb n e b (W ++ S) K o bs tk) (hk : wo tb n e b = some 18) (hS : anS true S) (hW : ¬ tp (fun x => x = 10 ∨ x = 11) W) (hb : bs ≤ W.length) : ∃ Y1, KH Y = KT Y1 ∧ RE Y1 tb n (tke tb n e) true (W ++ [11]) (K ++ S.reverse) o bs tk ∧ fsL LQ Y1 Y := by
  obtain ⟨r1, r2⟩ := RE_LK h
  obtain ⟨n16, hn, sg, sl⟩ := RE_n h
  have hbb := QP_b h.1
  have k256 := (wo_s.mp hk).2.1
  obtain ⟨q, -⟩ := (kd_256 hbb).mp k256
  have tg := tke_gt q
  have hlen := h.2.2.2.2.2.1
  rw [List.length_append] at hlen
  rw [KH_n h (Or.inl (by omega))]
  obtain ⟨r, er, hr⟩ := takes_m r1.1 (w := 229) (i := 19) (lw := 3) (by decide) rfl
  unfold F_MD_qGoesOnTest_76
  rw [er]
  simp only [Option.bind_some]
  rcases hr with ⟨x1, -⟩ | ⟨-, x2⟩
  · rw [isw_o (by decide), hk] at x1; exact absurd x1 (by decide)
  · subst x2
    simp only [LK_LK]
    rw [if_pos trivial]
    obtain ⟨r, er, hr⟩ := takes_m r1.1 (w := 230) (i := 18) (lw := 2) (by decide) rfl
    rw [er]
    simp only [Option.bind_some]
    rcases hr with ⟨x1, x2, x3, x4⟩ | ⟨x1, -⟩
    · obtain ⟨T, t1, t2, t3⟩ := d137_m (QS_f r1.2.1 x4 (by decide)) h.2.2.2.2.2.2.1 x3.1.1 hS hW (by omega)
      obtain ⟨Y1, y1, y2, y3⟩ := an_put r1 (by omega) x3 x4 t2 t3 hb 11 (by decide)
      have y1 : gd (T 177 94) 1700 (some ((1 : Int32), m_up (m_up T 245 ((T 177 94).toNatClampNeg) 11) 177 94 (T 177 94 + 1))) = some (1, Y1) := y1
      rw [x2, if_neg (by decide), t1]
      simp only [Option.bind_some]
      rw [y1]
      simp only [Option.bind_some]
      rw [if_neg (by decide)]
      exact ⟨Y1, rfl, y2, fs_tr y3 r2⟩
    · rw [isw_o (by decide), decide_eq_true hk] at x1; cases x1
/-- neither -/
theorem KH_no (h : RE Y tb n e b W K o bs tk) (hk : ¬ kd tb n e b = 93 ∨ ¬ 25 ∈ W) (h1 : ¬ wo tb n e b = some 19) (h2 : ¬ wo tb n e b = some 18) : (25 ∈ W ∧ ∃ Y1, KH Y = some Y1 ∧ MFt Y1 1 (sk tb n e) ∧ fsL LQ Y1 Y) ∨ (¬ 25 ∈ W ∧ KH Y = some (LK' Y tb n e)) := by
  obtain ⟨r1, r2⟩ := RE_LK h
  obtain ⟨n16, hn, sg, sl⟩ := RE_n h
  have at2 : LK' Y tb n e 177 2 = nI (sk tb n e) := (LK_s h.1).2.1
  have e1 := KH_n h hk
  have t1 : F_MD_takes 229 3 (LK' Y tb n e) = some (0, LK' Y tb n e) := by
    unfold F_MD_takes
    rw [hereL h.1 (w := 229) (i := 19) (lw := 3) (by decide) rfl, decide_eq_false h1]; rfl
  have t2 : F_MD_takes 230 2 (LK' Y tb n e) = some (0, LK' Y tb n e) := by
    unfold F_MD_takes
    rw [hereL h.1 (w := 230) (i := 18) (lw := 2) (by decide) rfl, decide_eq_false h2]; rfl
  have hs := hsq r1.2.1 (by have := r1.2.2.2.2.2.1; omega) r1.2.2.2.2.2.2.1
  unfold F_MD_qGoesOnTest_76 at e1
  rw [t1] at e1
  simp only [Option.bind_some] at e1
  rw [if_pos trivial, t2] at e1
  simp only [Option.bind_some] at e1
  rw [if_pos trivial, if_pos r1.1.1.1, hs] at e1
  simp only [Option.bind_some] at e1
  by_cases c : 25 ∈ W
  · left
    refine ⟨c, _, ?_, fail_t (LK' Y tb n e) 1 (sk tb n e), fs_tr (fs_sub (by decide) (fail_f (LK' Y tb n e) 1 (sk tb n e))) r2⟩
    have ff1 : F_MD_fail (LK' Y tb n e) 1 (nI (sk tb n e)) = _ := fail_m r1.1.1.1 1 (sk tb n e)
    rw [decide_eq_true c, if_neg (by decide), at2, ff1] at e1
    rw [e1]; rfl
  · right
    refine ⟨c, ?_⟩
    rw [decide_eq_false c] at e1
    rw [e1]; rfl
end LC7
