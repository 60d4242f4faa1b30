/-! the reference: a sum goes on, by what stands next -/
def cl (br : Nat) : List Nat := if br = 20 then [] else if br = 23 then [5] else [6]
section LC1
variable {I X Y Z V : MI} {n e o bs tk : Nat} {b : Bool} {tb : Nat → Nat} {W K S : List Nat} {v0 : Int32}
theorem KG_E {Y1 : MI} (h : F_MD_qGoesOn_0 Y = (F_MD_qEndsPart Y1).bind fun r => some (.inl r)) : KG v0 Y = KE v0 Y1 := by
  unfold KG KE F_MD_qGoesOn
  rw [wl_u]
  show (((F_MD_qGoesOn_0 Y).bind _).bind _).bind _ = _
  rw [h]
  cases F_MD_qEndsPart Y1 with
  | none => rfl
  | some r => rfl
theorem KG_P {Y1 : MI} (h : F_MD_qGoesOn Y = some (1, Y1)) : KG v0 Y = KP v0 Y1 := by
  unfold KG
  rw [h]
  simp only [Option.bind_some]
  rw [if_neg (by decide)]
theorem KG_X {Y1 : MI} (h : F_MD_qGoesOn Y = some (0, Y1)) : KG v0 Y = some Y1 := by
  unfold KG
  rw [h]
  simp only [Option.bind_some]
  rw [if_pos trivial]
theorem go_close {br : Nat} (h : RE Y tb n e b (W ++ [br] ++ S) K (o + 1) bs tk) (hk : kd tb n e b = 41) (hbr : br = 20 ∨ br = 23 ∨ br = 24) (hS : opS S) (hb : bs ≤ W.length) : ∃ Y1, KG v0 Y = KE v0 Y1 ∧ RE Y1 tb n (sk tb n e + 1) false W (K ++ S.reverse ++ cl br) o bs tk ∧ fsL LQ Y1 Y := by
  obtain ⟨r1, r2⟩ := RE_LK h
  obtain ⟨n16, hn, sg, sl⟩ := RE_n h
  have hbb := QP_b h.1
  have at2 : LK' Y tb n e 177 2 = nI (sk tb n e) := (LK_s h.1).2.1
  have hlk := look_m h.1
  have h50 := h.2.2.1
  obtain ⟨h1, h2, h3, h4, h5, h6, h7, h8⟩ := r1
  obtain ⟨q, -⟩ := kd_sign (e := e) (b := b) (tb := tb) (n := n) (by omega)
  have hbr2 : q_br br = true := by rcases hbr with z | z | z <;> subst z <;> rfl
  have l6 : W.length + 1 + S.length + K.length ≤ e := by rw [List.length_append, List.length_append] at h6; simp at h6; omega
  have hbra := bra_s h2 (by omega) hb hbr2 (opS_br hS)
  generalize LK' Y tb n e = V at *
  have pU : QP (m_up V 177 2 (nI (sk tb n e + 1))) tb n (sk tb n e + 1) false := QP_s h1 (by omega) (by omega)
  have fU : fsL LM (m_up V 177 2 (nI (sk tb n e + 1))) V := fs_up (LX := LM) (by decide) (by decide) (fs_r V)
  have sU : QS (m_up V 177 2 (nI (sk tb n e + 1))) (W ++ [br] ++ S) K (o + 1) bs := QS_f h2 fU (by decide)
  have e43 : F_MD_qGoesOn_0 Y = F_MD_qGoesOn_43 V := by
    unfold F_MD_qGoesOn_0
    rw [if_pos h.1.1.1, hlk]
    simp only [Option.bind_some]
    rw [if_pos ((ch_41 hbb).mpr hk), hbra]
    simp only [Option.bind_some]
    rcases hbr with z | z | z <;> subst z
    · rw [if_pos (by decide)]
    · rw [if_neg (by decide), if_pos (by decide)]
    · rw [if_neg (by decide), if_neg (by decide), if_pos (by decide)]
  unfold F_MD_qGoesOn_43 at e43
  rw [at2, nI_s] at e43
  generalize m_up V 177 2 (nI (sk tb n e + 1)) = U at *
  obtain ⟨T, t1, t2, t3⟩ := dtb_m sU pU.1.1 h7 hbr2 hb hS (by omega)
  obtain ⟨p1, p2⟩ := top_m t2 (by omega)
  have t95 : T 177 95 - 1 = nI o := by rw [t2.2.2.1]; exact nI_subN (a := o + 1) (b := 1) (by omega)
  rw [t1] at e43
  simp only [Option.bind_some] at e43
  rw [p1, gd_n (by omega) (by decide), gd_n (by omega) (by decide), nI_clamp (by omega), p2, t95] at e43
  obtain ⟨g1, g2⟩ := pop_m t2 o
  have pT : QP T tb n (sk tb n e + 1) false := QP_f pU t3 (by decide) (by decide +kernel)
  have pG : QP (m_up (m_up T 177 94 (nI W.length)) 177 95 (nI o)) tb n (sk tb n e + 1) false := QP_f pT g2 (by decide) (by decide +kernel)
  have fG : fsL LQ (m_up (m_up T 177 94 (nI W.length)) 177 95 (nI o)) Y := fs_tr (fs_sub (by decide) g2) (fs_tr (fs_sub (by decide) t3) (fs_tr (fs_sub (by decide) fU) r2))
  have wW : wv W := wv_p (wv_p h7)
  have l50 : m_up (m_up T 177 94 (nI W.length)) 177 95 (nI o) 177 50 = nI tk := (fG 177 50 (by decide)).trans h50
  generalize m_up (m_up T 177 94 (nI W.length)) 177 95 (nI o) = G at *
  have codeG : ∀ c, ∃ Y1, F_MD_qCode G (nI c) = some Y1 ∧ RE Y1 tb n (sk tb n e + 1) false W (K ++ S.reverse ++ [c]) o bs tk ∧ fsL LQ Y1 Y := by
    intro c
    obtain ⟨Y1, c1, c2, c3⟩ := code_m g1 (by rw [List.length_append, List.length_reverse]; omega) c
    refine ⟨Y1, c1, ⟨QP_f pG c3 (by decide) (by decide +kernel), c2, (c3 177 50 (by decide)).trans l50, h4, hb, ?_, wW, by omega⟩, fs_tr (fs_sub (by decide) c3) fG⟩
    rw [List.length_append, List.length_append, List.length_reverse]; simp; omega
  rcases hbr with z | z | z <;> subst z
  · rw [if_pos (by decide)] at e43
    refine ⟨G, KG_E e43, ⟨pG, by unfold cl; rw [if_pos rfl, List.append_nil]; exact g1, l50, h4, hb, ?_, wW, by omega⟩, fG⟩
    unfold cl
    rw [if_pos rfl, List.append_nil, List.length_append, List.length_reverse]; omega
  · rw [if_neg (by decide), if_pos (by decide)] at e43
    obtain ⟨Y1, y1, y2, y3⟩ := codeG 5
    have y1 : F_MD_qCode G 5 = some Y1 := y1
    rw [y1] at e43
    exact ⟨Y1, KG_E e43, y2, y3⟩
  · rw [if_neg (by decide), if_neg (by decide)] at e43
    obtain ⟨Y1, y1, y2, y3⟩ := codeG 6
    have y1 : F_MD_qCode G 6 = some Y1 := y1
    rw [y1] at e43
    exact ⟨Y1, KG_E e43, y2, y3⟩
/-- drops of operators -/
theorem d34_m (h : QS Y (W ++ S) K o bs) (hv : wv (W ++ S)) (h5 : Y 177 5 = 0) (hS : ∀ x, x ∈ S → x = 3 ∨ x = 4) (hW : ¬ tp (fun x => x = 3 ∨ x = 4) W) (hl : W.length + S.length + K.length < 1690) (y0 : Int32) : ∃ Y', wl (fun s : MI => F_MD_qGoesOn_162 s y0) Y = some Y' ∧ QS Y' W (K ++ S.reverse) o bs ∧ fsL LSt Y' Y := by
  refine drops_w (o := o) (bs := bs) (fun W => tp (fun x => x = 3 ∨ x = 4) W) (fun Y W K h hv h5 hl hK => ?_) S.length S rfl W K Y h hv h5 (fun S' x S'' ex => tp_a.mpr (hS x (by rw [ex]; exact List.mem_append_right _ (List.mem_cons_self ..)))) hW (by omega)
  unfold F_MD_qGoesOn_162
  rcases List.eq_nil_or_concat W with e0 | ⟨W0, x, e0⟩
  · subst e0
    refine ⟨fun z => absurd z tp_0, fun _ => ?_⟩
    rw [ison_0 h, ison_0 h]; rfl
  · rw [List.concat_eq_append] at e0
    subst e0
    have xv := (wv_a.mp hv).2
    rw [List.length_append] at hl
    have i3 : F_MD_qIsOn Y 3 = _ := ison_m h (by simp at hl; omega) (by omega) (v := 3) (by decide)
    have i4 : F_MD_qIsOn Y 4 = _ := ison_m h (by simp at hl; omega) (by omega) (v := 4) (by decide)
    rw [i3, i4]
    simp only [Option.bind_some, bI_if]
    by_cases c1 : x = 3
    · exact ⟨fun _ => by rw [if_pos c1], fun z => absurd (tp_a.mpr (Or.inl c1)) z⟩
    · by_cases c2 : x = 4
      · exact ⟨fun _ => by rw [if_neg c1, if_pos c2], fun z => absurd (tp_a.mpr (Or.inr c2)) z⟩
      · exact ⟨fun z => absurd (tp_a.mp z) (fun y => y.elim c1 c2), fun _ => by rw [if_neg c1, if_neg c2]⟩
theorem d14_m (h : QS Y (W ++ S) K o bs) (hv : wv (W ++ S)) (h5 : Y 177 5 = 0) (hS : opS S) (hW : ¬ tp (fun x => 1 ≤ x ∧ x ≤ 4) W) (hl : W.length + S.length + K.length < 1690) (y0 : Int32) : ∃ Y', wl (fun s : MI => F_MD_qGoesOn_247 s y0) Y = some Y' ∧ QS Y' W (K ++ S.reverse) o bs ∧ fsL LSt Y' Y := by
  refine drops_w (o := o) (bs := bs) (fun W => tp (fun x => 1 ≤ x ∧ x ≤ 4) W) (fun Y W K h hv h5 hl hK => ?_) S.length S rfl W K Y h hv h5 (fun S' x S'' ex => tp_a.mpr (hS x (by rw [ex]; exact List.mem_append_right _ (List.mem_cons_self ..)))) hW (by omega)
  unfold F_MD_qGoesOn_247
  rcases List.eq_nil_or_concat W with e0 | ⟨W0, x, e0⟩
  · subst e0
    refine ⟨fun z => absurd z tp_0, fun _ => ?_⟩
    rw [ison_0 h, ison_0 h, ison_0 h, ison_0 h]; rfl
  · rw [List.concat_eq_append] at e0
    subst e0
    have xv := (wv_a.mp hv).2
    rw [List.length_append] at hl
    have i3 : F_MD_qIsOn Y 3 = _ := ison_m h (by simp at hl; omega) (by omega) (v := 3) (by decide)
    have i4 : F_MD_qIsOn Y 4 = _ := ison_m h (by simp at hl; omega) (by omega) (v := 4) (by decide)
    have i1 : F_MD_qIsOn Y 1 = _ := ison_m h (by simp at hl; omega) (by omega) (v := 1) (by decide)
    have i2 : F_MD_qIsOn Y 2 = _ := ison_m h (by simp at hl; omega) (by omega) (v := 2) (by decide)
    rw [i3, i4, i1, i2]
    simp only [Option.bind_some, bI_if]
    by_cases c1 : x = 3
    · exact ⟨fun _ => by rw [if_pos c1], fun z => absurd (tp_a.mpr (by omega)) z⟩
    · by_cases c2 : x = 4
      · exact ⟨fun _ => by rw [if_neg c1, if_pos c2], fun z => absurd (tp_a.mpr (by omega)) z⟩
      · by_cases c3 : x = 1
        · exact ⟨fun _ => by rw [if_neg c1, if_neg c2, if_pos c3], fun z => absurd (tp_a.mpr (by omega)) z⟩
        · by_cases c4 : x = 2
          · exact ⟨fun _ => by rw [if_neg c1, if_neg c2, if_neg c3, if_pos c4], fun z => absurd (tp_a.mpr (by omega)) z⟩
          · exact ⟨fun z => absurd (tp_a.mp z) (fun y => by omega), fun _ => by rw [if_neg c1, if_neg c2, if_neg c3, if_neg c4]⟩
/-- behind an operator -/
theorem op_put {U : MI} (h : RE Y tb n e b (W ++ S) K o bs tk) (hU : QP U tb n (sk tb n e + 1) false) (fU : fsL LM U Y) {T : MI} (t2 : QS T W (K ++ S.reverse) o bs) (t3 : fsL LSt T U) (hb : bs ≤ W.length) (x : Nat) (hx : x < 100) : ∃ Y1, gd (T 177 94) 1700 (some ((1 : Int32), m_up (m_up T 245 ((T 177 94).toNatClampNeg) (nI x)) 177 94 (T 177 94 + 1))) = some (1, Y1) ∧ RE Y1 tb n (sk tb n e + 1) false (W ++ [x]) (K ++ S.reverse) o bs tk ∧ fsL LQ Y1 Y := by
  obtain ⟨n16, hn, sg, sl⟩ := RE_n h
  obtain ⟨h1, h2, h3, h4, h5, h6, h7, h8⟩ := h
  rw [List.length_append] at h6
  obtain ⟨w1, w2⟩ := wait_m t2 x
  refine ⟨m_up (m_up T 245 W.length (nI x)) 177 94 (nI (W.length + 1)), ?_, ⟨QP_f (QP_f hU t3 (by decide) (by decide +kernel)) w2 (by decide) (by decide +kernel), w1, ?_, h4, ?_, ?_, wv_a.mpr ⟨wv_p h7, hx⟩, h8⟩, fs_tr (fs_sub (by decide) w2) (fs_tr (fs_sub (by decide) t3) (fs_sub (by decide) fU))⟩
  · rw [t2.1.1, gd_n (by omega) (by decide), nI_clamp (by omega), nI_s]
  · exact ((w2 177 50 (by decide)).trans ((t3 177 50 (by decide)).trans (fU 177 50 (by decide)))).trans h3
  · rw [List.length_append]; omega
  · rw [List.length_append, List.length_append, List.length_reverse]; simp; omega
theorem sgn_at (h : RE Y tb n e b W K o bs tk) {U : MI} (fU : fsL LM U Y) (hq : sk tb n e < n) : U 178 (sk tb n e) = nI (tb (sk tb n e)) := by
  rw [fs_k fU (by decide)]; exact (h.1.2.2.2.2.1 _ hq).2
theorem go_mul (h : RE Y tb n e b (W ++ S) K o bs tk) (hk : kd tb n e b = 42 ∨ kd tb n e b = 47) (hS : ∀ x, x ∈ S → x = 3 ∨ x = 4) (hW : ¬ tp (fun x => x = 3 ∨ x = 4) W) (hb : bs ≤ W.length) : ∃ Y1, KG v0 Y = KP v0 Y1 ∧ RE Y1 tb n (sk tb n e + 1) false (W ++ [if kd tb n e b = 42 then 3 else 4]) (K ++ S.reverse) o bs tk ∧ fsL LQ Y1 Y := by
  obtain ⟨n16, hn, sg, sl⟩ := RE_n h
  have hbb := QP_b h.1
  obtain ⟨r1, r2⟩ := RE_LK h
  obtain ⟨q, q1, -⟩ := kd_sign (e := e) (b := b) (tb := tb) (n := n) (by omega)
  have g0 := go_no h (Or.inl (by omega))
  have kl := (LK_s h.1).2.1
  have fV : fsL LM (LK' Y tb n e) Y := (LK_s h.1).2.2
  have hlen := r1.2.2.2.2.2.1
  rw [List.length_append] at hlen
  have fin : ∀ (U : MI) (y : Nat), QP U tb n (sk tb n e + 1) false → fsL LM U Y → y < 100 → ∃ Y1, F_MD_qGoesOn_161 U (nI y) = some (1, Y1) ∧ RE Y1 tb n (sk tb n e + 1) false (W ++ [y]) (K ++ S.reverse) o bs tk ∧ fsL LQ Y1 Y := by
    intro U y hU fU hy
    obtain ⟨T, t1, t2, t3⟩ := d34_m (QS_f h.2.1 fU (by decide)) h.2.2.2.2.2.2.1 hU.1.1 hS hW (by omega) (nI y)
    obtain ⟨Y1, y1, y2, y3⟩ := op_put h hU fU t2 t3 hb y hy
    refine ⟨Y1, ?_, y2, y3⟩
    unfold F_MD_qGoesOn_161
    rw [t1]
    exact y1
  have at1 : ∀ U : MI, U 177 2 = nI (sk tb n e + 1) → U 177 2 - 1 = nI (sk tb n e) := fun U hU => by rw [hU]; exact nI_subN (a := sk tb n e + 1) (b := 1) (by omega)
  unfold F_MD_qGoesOn_122 at g0
  obtain ⟨r, er, hr⟩ := tsign_m r1.1 sg42
  have er : F_MD_takesSign (LK' Y tb n e) 42 = some r := er
  rw [er] at g0
  simp only [Option.bind_some] at g0
  by_cases c : kd tb n e b = 42
  · rcases hr with ⟨x1, x2, x3, x4, x5⟩ | ⟨x1, -⟩
    · have fU : fsL LM r.2 Y := fs_tr x5 fV
      obtain ⟨Y1, y1, y2, y3⟩ := fin r.2 3 x4 fU (by decide)
      have u2 : r.2 177 2 = nI (sk tb n e + 1) := by rw [x3, up_e]
      rw [x2, if_neg (by decide)] at g0
      unfold F_MD_qGoesOn_140 at g0
      rw [at1 _ u2, gd_n (by omega) (by decide), nI_clamp (by omega), sgn_at h fU q, q1, c, if_pos (by decide)] at g0
      have y1 : F_MD_qGoesOn_161 r.2 3 = some (1, Y1) := y1
      rw [y1] at g0
      rw [if_pos c]
      exact ⟨Y1, KG_P g0, y2, y3⟩
    · exact absurd c x1
  · have c47 : kd tb n e b = 47 := hk.resolve_left c
    rcases hr with ⟨x1, -⟩ | ⟨x1, x2⟩
    · exact absurd x1 c
    · subst x2
      simp only [LK_LK] at g0
      rw [if_pos trivial] at g0
      obtain ⟨r, er, hr⟩ := tsign_m r1.1 sg47
      have er : F_MD_takesSign (LK' Y tb n e) 47 = some r := er
      rw [er] at g0
      simp only [Option.bind_some] at g0
      rcases hr with ⟨x1, x2, x3, x4, x5⟩ | ⟨x1, -⟩
      · have fU : fsL LM r.2 Y := fs_tr x5 fV
        obtain ⟨Y1, y1, y2, y3⟩ := fin r.2 4 x4 fU (by decide)
        have u2 : r.2 177 2 = nI (sk tb n e + 1) := by rw [x3, up_e]
        rw [x2, if_neg (by decide)] at g0
        unfold F_MD_qGoesOn_140 at g0
        rw [at1 _ u2, gd_n (by omega) (by decide), nI_clamp (by omega), sgn_at h fU q, q1, c47, if_neg (by decide)] at g0
        have y1 : F_MD_qGoesOn_161 r.2 4 = some (1, Y1) := y1
        rw [y1] at g0
        rw [if_neg c]
        exact ⟨Y1, KG_P g0, y2, y3⟩
      · exact absurd c47 x1
theorem go_add (h : RE Y tb n e b (W ++ S) K o bs tk) (hk : kd tb n e b = 43 ∨ kd tb n e b = 45) (hS : opS S) (hW : ¬ tp (fun x => 1 ≤ x ∧ x ≤ 4) W) (hb : bs ≤ W.length) : ∃ Y1, KG v0 Y = KP v0 Y1 ∧ RE Y1 tb n (sk tb n e + 1) false (W ++ [if kd tb n e b = 43 then 1 else 2]) (K ++ S.reverse) o bs tk ∧ fsL LQ Y1 Y := by
  obtain ⟨n16, hn, sg, sl⟩ := RE_n h
  have hbb := QP_b h.1
  obtain ⟨r1, r2⟩ := RE_LK h
  obtain ⟨q, q1, -⟩ := kd_sign (e := e) (b := b) (tb := tb) (n := n) (by omega)
  have g0 := go_no h (Or.inl (by omega))
  have fV : fsL LM (LK' Y tb n e) Y := (LK_s h.1).2.2
  have hlen := r1.2.2.2.2.2.1
  rw [List.length_append] at hlen
  have fin : ∀ (U : MI) (y : Nat), QP U tb n (sk tb n e + 1) false → fsL LM U Y → y < 100 → ∃ Y1, F_MD_qGoesOn_246 U (nI y) = some (1, Y1) ∧ RE Y1 tb n (sk tb n e + 1) false (W ++ [y]) (K ++ S.reverse) o bs tk ∧ fsL LQ Y1 Y := by
    intro U y hU fU hy
    obtain ⟨T, t1, t2, t3⟩ := d14_m (QS_f h.2.1 fU (by decide)) h.2.2.2.2.2.2.1 hU.1.1 hS hW (by omega) (nI y)
    obtain ⟨Y1, y1, y2, y3⟩ := op_put h hU fU t2 t3 hb y hy
    refine ⟨Y1, ?_, y2, y3⟩
    unfold F_MD_qGoesOn_246
    rw [t1]
    exact y1
  have at1 : ∀ U : MI, U 177 2 = nI (sk tb n e + 1) → U 177 2 - 1 = nI (sk tb n e) := fun U hU => by rw [hU]; exact nI_subN (a := sk tb n e + 1) (b := 1) (by omega)
  have no : ∀ c, sgn c → ¬ kd tb n e b = c → F_MD_takesSign (LK' Y tb n e) (nI c) = some (0, LK' Y tb n e) := fun c hc hn => by
    obtain ⟨r, er, hr⟩ := tsign_m r1.1 hc
    rcases hr with ⟨x1, -⟩ | ⟨-, x2⟩
    · exact absurd x1 hn
    · rw [er, x2, LK_LK]
  have n42 : F_MD_takesSign (LK' Y tb n e) 42 = _ := no 42 sg42 (by omega)
  have n47 : F_MD_takesSign (LK' Y tb n e) 47 = _ := no 47 sg47 (by omega)
  unfold F_MD_qGoesOn_122 at g0
  rw [n42] at g0
  simp only [Option.bind_some] at g0
  rw [if_pos trivial, n47] at g0
  simp only [Option.bind_some] at g0
  rw [if_pos trivial] at g0
  obtain ⟨r, er, hr⟩ := tsign_m r1.1 sg43
  have er : F_MD_takesSign (LK' Y tb n e) 43 = some r := er
  rw [er] at g0
  simp only [Option.bind_some] at g0
  by_cases c : kd tb n e b = 43
  · rcases hr with ⟨x1, x2, x3, x4, x5⟩ | ⟨x1, -⟩
    · have fU : fsL LM r.2 Y := fs_tr x5 fV
      obtain ⟨Y1, y1, y2, y3⟩ := fin r.2 1 x4 fU (by decide)
      have u2 : r.2 177 2 = nI (sk tb n e + 1) := by rw [x3, up_e]
      rw [x2, if_neg (by decide)] at g0
      unfold F_MD_qGoesOn_225 at g0
      rw [at1 _ u2, gd_n (by omega) (by decide), nI_clamp (by omega), sgn_at h fU q, q1, c, if_pos (by decide)] at g0
      have y1 : F_MD_qGoesOn_246 r.2 1 = some (1, Y1) := y1
      rw [y1] at g0
      rw [if_pos c]
      exact ⟨Y1, KG_P g0, y2, y3⟩
    · exact absurd c x1
  · have c45 : kd tb n e b = 45 := hk.resolve_left c
    rcases hr with ⟨x1, -⟩ | ⟨x1, x2⟩
    · exact absurd x1 c
    · subst x2
      simp only [LK_LK] at g0
      rw [if_pos trivial] at g0
      obtain ⟨r, er, hr⟩ := tsign_m r1.1 sg45
      have er : F_MD_takesSign (LK' Y tb n e) 45 = some r := er
      rw [er] at g0
      simp only [Option.bind_some] at g0
      rcases hr with ⟨x1, x2, x3, x4, x5⟩ | ⟨x1, -⟩
      · have fU : fsL LM r.2 Y := fs_tr x5 fV
        obtain ⟨Y1, y1, y2, y3⟩ := fin r.2 2 x4 fU (by decide)
        have u2 : r.2 177 2 = nI (sk tb n e + 1) := by rw [x3, up_e]
        rw [x2, if_neg (by decide)] at g0
        unfold F_MD_qGoesOn_225 at g0
        rw [at1 _ u2, gd_n (by omega) (by decide), nI_clamp (by omega), sgn_at h fU q, q1, c45, if_neg (by decide)] at g0
        have y1 : F_MD_qGoesOn_246 r.2 2 = some (1, Y1) := y1
        rw [y1] at g0
        rw [if_neg c]
        exact ⟨Y1, KG_P g0, y2, y3⟩
      · exact absurd c45 x1
/-- none of the four -/
def nop (k : Nat) : Prop := ¬ k = 42 ∧ ¬ k = 47 ∧ ¬ k = 43 ∧ ¬ k = 45
theorem g122_n (h : RE Y tb n e b W K o bs tk) (hk : nop (kd tb n e b)) : F_MD_qGoesOn_122 (LK' Y tb n e) = (F_MD_qBracket (LK' Y tb n e)).bind fun r9 => if r9 = (21 : Int32) then (F_MD_qGoesOn_326 (LK' Y tb n e)) else ((F_MD_qBracket (LK' Y tb n e)).bind fun r11 => if r11 = (22 : Int32) then (F_MD_qGoesOn_326 (LK' Y tb n e)) else ((F_MD_qBracket (LK' Y tb n e)).bind fun r13 => if r13 = (-1 : Int32) then (some ((0 : Int32), LK' Y tb n e)) else (if (LK' Y tb n e 177 5) = (0 : Int32) then ((F_MD_fail (LK' Y tb n e) (1 : Int32) (LK' Y tb n e 177 2)).bind fun r16 => some ((0 : Int32), r16)) else (some ((0 : Int32), LK' Y tb n e))))) := by
  obtain ⟨r1, r2⟩ := RE_LK h
  have no : ∀ c, sgn c → ¬ kd tb n e b = c → F_MD_takesSign (LK' Y tb n e) (nI c) = some (0, LK' Y tb n e) := fun c hc hn => by
    obtain ⟨r, er, hr⟩ := tsign_m r1.1 hc
    rcases hr with ⟨x1, -⟩ | ⟨-, x2⟩
    · exact absurd x1 hn
    · rw [er, x2, LK_LK]
  have n42 : F_MD_takesSign (LK' Y tb n e) 42 = _ := no 42 sg42 hk.1
  have n47 : F_MD_takesSign (LK' Y tb n e) 47 = _ := no 47 sg47 hk.2.1
  have n43 : F_MD_takesSign (LK' Y tb n e) 43 = _ := no 43 sg43 hk.2.2.1
  have n45 : F_MD_takesSign (LK' Y tb n e) 45 = _ := no 45 sg45 hk.2.2.2
  unfold F_MD_qGoesOn_122
  rw [n42]
  simp only [Option.bind_some]
  rw [if_pos trivial, n47]
  simp only [Option.bind_some]
  rw [if_pos trivial, n43]
  simp only [Option.bind_some]
  rw [if_pos trivial, n45]
  simp only [Option.bind_some]
  rw [if_pos trivial]
/-- the end of a sum that no bracket holds -/
theorem go_end (h : RE Y tb n e b (W ++ S) K o bs tk) (hk : nop (kd tb n e b)) (hS : opS S) (hb : bs = W.length) : KG v0 Y = some (LK' Y tb n e) := by
  obtain ⟨n16, hn, sg, sl⟩ := RE_n h
  obtain ⟨r1, r2⟩ := RE_LK h
  have hlen := r1.2.2.2.2.2.1
  rw [List.length_append] at hlen
  have hbra := bra_0 r1.2.1 (by omega) hb (opS_br hS)
  have g0 := go_no h (Or.inr ⟨-1, hbra, by decide, by decide, by decide⟩)
  rw [g122_n h hk, hbra] at g0
  simp only [Option.bind_some] at g0
  rw [if_neg (by decide), if_neg (by decide), if_pos trivial] at g0
  exact KG_X g0
/-- a bracket that should close, and does not -/
theorem go_fail {br : Nat} (h : RE Y tb n e b (W ++ [br] ++ S) K o bs tk) (hk : nop (kd tb n e b)) (h41 : ¬ kd tb n e b = 41) (hbr : br = 20 ∨ br = 23 ∨ br = 24) (hS : opS S) (hb : bs ≤ W.length) : ∃ Y1, KG v0 Y = some Y1 ∧ MFr Y1 1 (sk tb n e) ∧ fsL LQ Y1 Y := by
  obtain ⟨n16, hn, sg, sl⟩ := RE_n h
  obtain ⟨r1, r2⟩ := RE_LK h
  have at2 : LK' Y tb n e 177 2 = nI (sk tb n e) := (LK_s h.1).2.1
  have hlen := r1.2.2.2.2.2.1
  rw [List.length_append, List.length_append] at hlen
  have hbr2 : q_br br = true := by rcases hbr with z | z | z <;> subst z <;> rfl
  have hbra := bra_s r1.2.1 (by simp at hlen; omega) hb hbr2 (opS_br hS)
  have g0 := go_no h (Or.inl h41)
  rw [g122_n h hk, hbra] at g0
  simp only [Option.bind_some] at g0
  have x1 : ¬ nI br = 21 := by rcases hbr with z | z | z <;> subst z <;> decide
  have x2 : ¬ nI br = 22 := by rcases hbr with z | z | z <;> subst z <;> decide
  have x3 : ¬ nI br = -1 := by rcases hbr with z | z | z <;> subst z <;> decide
  rw [if_neg x1, if_neg x2, if_neg x3, if_pos r1.1.1.1, at2, show (1 : Int32) = nI 1 from rfl, fail_m r1.1.1.1] at g0
  exact ⟨_, KG_X g0, mr r1 (fail_f _ 1 _) (fail_t _ 1 _), fs_tr (fs_sub (by decide) (fail_f _ 1 _)) r2⟩
/-- , -/
theorem go_comma {br : Nat} (h : RE Y tb n e b (W ++ [br] ++ S) K o bs tk) (hk : nop (kd tb n e b)) (hbr : br = 21 ∨ br = 22) (hS : opS S) (hb : bs ≤ W.length) : (kd tb n e b = 44 ∧ ∃ Y1, KG v0 Y = KP v0 Y1 ∧ RE Y1 tb n (sk tb n e + 1) false (W ++ [br + 2]) (K ++ S.reverse) o bs tk ∧ fsL LQ Y1 Y) ∨ (¬ kd tb n e b = 44 ∧ ∃ Y1, KG v0 Y = some Y1 ∧ MFr Y1 1 (sk tb n e) ∧ fsL LQ Y1 Y) := by
  obtain ⟨n16, hn, sg, sl⟩ := RE_n h
  obtain ⟨r1, r2⟩ := RE_LK h
  have hlen := r1.2.2.2.2.2.1
  rw [List.length_append, List.length_append] at hlen
  have hbr2 : q_br br = true := by rcases hbr with z | z <;> subst z <;> rfl
  have hbra := bra_s r1.2.1 (by simp at hlen; omega) hb hbr2 (opS_br hS)
  have g0 := go_no h (Or.inr ⟨nI br, hbra, by rcases hbr with z | z <;> subst z <;> decide, by rcases hbr with z | z <;> subst z <;> decide, by rcases hbr with z | z <;> subst z <;> decide⟩)
  rw [g122_n h hk, hbra] at g0
  simp only [Option.bind_some] at g0
  have e326 : F_MD_qGoesOn Y = F_MD_qGoesOn_326 (LK' Y tb n e) := by
    rcases hbr with z | z <;> subst z
    · rw [if_pos (by decide)] at g0; exact g0
    · rw [if_neg (by decide), if_pos (by decide)] at g0; exact g0
  unfold F_MD_qGoesOn_326 at e326
  obtain ⟨U, u1, u2, u3⟩ := asign_m r1.1 sg44
  have u1 : F_MD_asksSign (LK' Y tb n e) 44 = some U := u1
  rw [u1] at e326
  simp only [Option.bind_some] at e326
  rcases u3 with ⟨c, pU⟩ | ⟨c, bU⟩
  · left
    obtain ⟨q, -⟩ := kd_sign (e := e) (b := b) (tb := tb) (n := n) (by omega)
    refine ⟨c, ?_⟩
    rw [if_pos pU.1.1] at e326
    obtain ⟨T, t1, t2, t3⟩ := dtb_m (QS_f r1.2.1 u2 (by decide)) pU.1.1 r1.2.2.2.2.2.2.1 hbr2 hb hS (by simp at hlen; omega)
    obtain ⟨p1, p2⟩ := top_m t2 (by simp at hlen; omega)
    rw [t1] at e326
    simp only [Option.bind_some, bnd] at e326
    have eb : nI br + (2 : Int32) = nI (br + 2) := nI_add br 2
    rw [p1, gd_n (by simp at hlen; omega) (by decide), gd_n (by simp at hlen; omega) (by decide), nI_clamp (by simp at hlen; omega), p2, eb] at e326
    have fG : fsL LSt (m_up T 245 W.length (nI (br + 2))) T := fs_up (LX := [(245, none)]) (by decide) (by simp [inL]) (fs_r T)
    have qG : QS (m_up T 245 W.length (nI (br + 2))) (W ++ [br + 2]) (K ++ S.reverse) o bs := by
      obtain ⟨⟨g1, g2⟩, ⟨g3, g4⟩, g5, g6⟩ := t2
      refine ⟨⟨?_, fun i hi => ?_⟩, ⟨?_, fun i hi => ?_⟩, ?_, ?_⟩
      · rw [up_k _ _ _ (by decide), g1, List.length_append, List.length_append]; rfl
      · rw [List.length_append] at hi
        have hi : i < W.length + 1 := hi
        rw [getD_app]
        by_cases z : i < W.length
        · rw [if_pos z, up_j _ _ _ (by omega), g2 i (by rw [List.length_append]; simp; omega), getD_app, if_pos z]
        · have z2 : i = W.length := by omega
          subst z2
          rw [if_neg z, if_pos rfl, up_e]
      · rw [up_k _ _ _ (by decide)]; exact g3
      · rw [up_k _ _ _ (by decide)]; exact g4 i hi
      · rw [up_k _ _ _ (by decide)]; exact g5
      · rw [up_k _ _ _ (by decide)]; exact g6
    have fA : fsL LQ (m_up T 245 W.length (nI (br + 2))) Y := fs_tr (fs_sub (by decide) fG) (fs_tr (fs_sub (by decide) t3) (fs_tr (fs_sub (by decide) u2) r2))
    refine ⟨_, KG_P e326, ⟨QP_f (QP_f pU t3 (by decide) (by decide +kernel)) fG (by decide) (by decide +kernel), qG, (fA 177 50 (by decide)).trans h.2.2.1, h.2.2.2.1, ?_, ?_, wv_a.mpr ⟨wv_p (wv_p h.2.2.2.2.2.2.1), by omega⟩, h.2.2.2.2.2.2.2⟩, fA⟩
    · rw [List.length_append]; omega
    · rw [List.length_append, List.length_append, List.length_reverse]; simp at hlen ⊢; omega
  · right
    refine ⟨c, ?_⟩
    rw [if_neg (mf_ne bU (by decide) (by decide))] at e326
    exact ⟨U, KG_X e326, mr r1 u2 bU, fs_tr (fs_sub (by decide) u2) r2⟩
end LC1
