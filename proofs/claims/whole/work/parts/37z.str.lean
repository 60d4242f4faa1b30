/-! String.length and String.charAt of the one constant -/
def yS_len : MethodName := ⟨"java/lang/String", "length", "()I"⟩
def yS_chr : MethodName := ⟨"java/lang/String", "charAt", "(I)C"⟩
def yS_cod : MethodName := ⟨"java/lang/String", "coder", "()B"⟩
def yS_lat : MethodName := ⟨"java/lang/String", "isLatin1", "()Z"⟩
def yS_chk : MethodName := ⟨"java/lang/String", "checkIndex", "(II)V"⟩
def yL_chr : MethodName := ⟨"java/lang/StringLatin1", "charAt", "([BI)C"⟩
def yP_chk : MethodName := ⟨"jdk/internal/util/Preconditions", "checkIndex", "(IILjava/util/function/BiFunction;)I"⟩
def sw_1 : List Cond := [Cond.code yS_len prog_17_method_54_code 1 (some .int), Cond.code yS_chr prog_17_method_56_code 2 (some .char), Cond.code yS_cod prog_17_method_152_code 1 (some .byte), Cond.code yS_lat prog_17_method_154_code 1 (some .boolean), Cond.code yS_chk prog_17_method_155_code 2 none, Cond.code yL_chr prog_18_method_2_code 2 (some .char), Cond.code yP_chk prog_22_method_11_code 3 (some .int)]
def sw_2 : List Cond := [Cond.fieldLink "java/lang/String" 38 "java/lang/String" "COMPACT_STRINGS" "Z", Cond.fieldLink "java/lang/String" 15 "java/lang/String" "coder" "B", Cond.fieldLink "java/lang/String" 9 "java/lang/String" "value" "[B", Cond.fieldLink "java/lang/String" 1053 "jdk/internal/util/Preconditions" "SIOOBE_FORMATTER" "Ljava/util/function/BiFunction;"]
def sw_3 : List Cond := [Cond.methodLink "java/lang/String" 335 yS_cod, Cond.methodLink "java/lang/String" 492 yS_lat, Cond.methodLink "java/lang/String" 495 yL_chr, Cond.methodLink "java/lang/String" 1059 yP_chk, Cond.methodLink "java/lang/StringLatin1" 9 yS_chk, Cond.methodLink "WalkFence$Reader" 133 yS_len, Cond.methodLink "WalkFence$Reader" 137 yS_chr]
def sw_4 : List Cond := [Cond.instanceMethod yS_len, Cond.instanceMethod yS_chr, Cond.instanceMethod yS_cod, Cond.instanceMethod yS_lat, Cond.selects "java/lang/String" yS_len yS_len, Cond.selects "java/lang/String" yS_chr yS_chr, Cond.selects "java/lang/String" yS_cod yS_cod, Cond.selects "java/lang/String" yS_lat yS_lat]
def sw_5 : List Cond := [Cond.static yL_chr, Cond.static yS_chk, Cond.static yP_chk, Cond.initialized "java/lang/String", Cond.initialized "java/lang/StringLatin1", Cond.initialized "jdk/internal/util/Preconditions"]
theorem sw_1k : ∀ w ∈ sw_1, w ∈ tw := in_tw (by decide +kernel)
theorem sw_2k : ∀ w ∈ sw_2, w ∈ tw := in_tw (by decide +kernel)
theorem sw_3k : ∀ w ∈ sw_3, w ∈ tw := in_tw (by decide +kernel)
theorem sw_4k : ∀ w ∈ sw_4, w ∈ tw := in_tw (by decide +kernel)
theorem sw_5k : ∀ w ∈ sw_5, w ∈ tw := in_tw (by decide +kernel)
abbrev s_A (G : MG) : Nat → Prop := fun q => G.2.2.1.size ≤ q
abbrev s_Zq (G : MG) (U : State) (H : Heap) : Prop := va_Zq "jdk/internal/util/Preconditions" "SIOOBE_FORMATTER" "Ljava/util/function/BiFunction;" (s_A G) U H
def s_pre (G : MG) (S : MS) (adK adV : Nat → Nat) (a0 : Array Value) : Array Value → State → Prop := fun a U => a = a0 ∧ m_at G S U.heap ∧ m_K G U ∧ vk_S 1 [147] [m_str] adK adV (s_A G) U G.2.2.1 ∧ s_Zq G U G.2.2.1
def s_met (G : MG) (d : Nat) (y : MethodName) (cc : ByteArray) (maxL : Nat) (ret : Option FieldType) (S : MS) (adK adV : Nat → Nat) (a0 : Array Value) (r : Option MV) : Prop :=
  Met G.2.2.2 y (Cond.code y cc maxL ret :: tw) (m_rm d 0 0) (s_pre G S adK adV a0) (m_Q G (m_is r S)) 0 0 (s_A G)
section GS0
variable {G : MG} {S : MS} {adK adV : Nat → Nat} {a0 : Array Value} {y : MethodName} {cc : ByteArray} {maxL d pc : Nat} {ret : Option FieldType} {r : Option MV} {lv : List (Nat × Value)} {st : List Value} {own : String}
theorem s_blind : FrameBlind (s_pre G S adK adV a0) := fun a U g mk q => by
  have ha : U.vm.Alike (U.calling g mk a).vm := Vm.Alike.refl _
  exact ⟨q.1, q.2.1, m_K.same (s := U) (U := U.calling g mk a) rfl q.2.2.1, vk_S.moved ha q.2.2.2.1, va_Zq.moved ha q.2.2.2.2⟩
/-- where we are -/
def s_C (G : MG) (S : MS) (adK adV : Nat → Nat) (own : String) (cc : ByteArray) (maxL : Nat) (ret : Option FieldType) (p : Program) (s : State) (m : MethodId) (vs : Array Value) (meth : Method) (c : Code) : Prop :=
  (p.tables.exec = Jvm.exec ∧ c.code = cc ∧ c.maxLocals = maxL ∧ s.vm.findClass own = some m.cls ∧ (∀ w ∈ tw, w.before vs s = true)) ∧ (meth.sig.returnType = ret ∧ meth.locks = false) ∧ (m_at G S s.heap ∧ m_K G s) ∧ vk_S 1 [147] [m_str] adK adV (s_A G) s G.2.2.1 ∧ s_Zq G s G.2.2.1
def s_B (G : MG) (S : MS) (adK adV : Nat → Nat) (own : String) (cc : ByteArray) (maxL : Nat) (ret : Option FieldType) (d : Nat) (r : Option MV) (pc : Nat) (lv : List (Nat × Value)) (st : List Value) : Prop :=
  ∀ p e s m vs below meth c H locs A, s_C G S adK adV own cc maxL ret p s m vs meth c → m_at G S H → (∀ q ∈ locs, G.2.2.1.size ≤ q.base) → lv_has A maxL lv → W p G.2.2.2 e (m_rm d 0 0) s m vs below meth c H locs 0 0 (MQ below (m_Q G (m_is r S)) vs s 0 0 (s_A G)) (F0 m pc A st)
theorem s_S {s : State} {H : Heap} {locs : List Loc} (h1 : m_at G S s.heap) (h2 : m_at G S H) (h3 : ∀ q ∈ locs, G.2.2.1.size ≤ q.base) : va_S (s_A G) s.heap H locs := ⟨by rw [h1.1, h2.1]; exact Nat.le_refl _, fun q hq hA => by
  have hA : ¬ G.2.2.1.size ≤ q := hA
  rw [h2.2.1 q (by omega), h1.2.1 q (by omega)], h3⟩
theorem s_kept {H : Heap} (h : m_at G S H) : ∀ a : Nat, a < G.2.2.1.size → ¬ s_A G a → H[a]? = G.2.2.1[a]? := fun a ha _ => h.2.1 a ha
theorem s_of (hy : plainFor y = true) (vs : List Value) (hN : (lg_sl vs).length ≤ maxL) (h : s_B G S adK adV y.cls cc maxL ret d r 0 (lv_args 0 vs) []) : s_met G d y cc maxL ret S adK adV vs.toArray r := by
  refine m_ofWF (cc := cc) (maxL := maxL) (ret := ret) hy rfl ?_
  intro p e s m args' below meth c s₁ B hml hv
  obtain ⟨rfl, hat, hK, hS, hZ⟩ := hv
  have hts : ∀ w ∈ tw, w.before vs.toArray s = true := fun w hw => atoms_spec (ws := Cond.code y cc maxL ret :: tw) B.pre w (List.mem_cons_of_mem _ hw)
  have hown : s.vm.findClass y.cls = some m.cls := findClass_of_methodNamed B.named
  have hl := lv_entry vs (n := maxL) hN
  rw [lg_entry_eq]
  generalize (lg_sl vs ++ List.replicate (maxL - (lg_sl vs).length) Slot.unset).toArray = A at hl ⊢
  exact h p e s m _ below meth c s.heap [] A ⟨⟨B.exec, B.bytes, hml, hown, hts⟩, ⟨B.returns, B.notSynchronized⟩, ⟨hat, hK⟩, hS, hZ⟩ hat (fun q hq => by cases hq) hl
theorem s_ret {ty : FieldType} {v : Int32} (hd : decode cc pc = .ok (.ireturn, 1)) (hr : ret = some ty) (hn : narrow ty (.int v) = .int v) : s_B G S adK adV own cc maxL ret d (some (mI v)) pc lv [.int v] := by
  intro p e s m vs below meth c H locs A hC hat hlo hl
  obtain ⟨⟨hx, hb, hml, hown, hts⟩, ⟨hrt, hlk⟩, ⟨hat0, hK⟩, hS, hZ⟩ := hC
  exact W.zret hx hb (hrt.trans hr) hn (fun t ht hw => ⟨some (mI v), S, rfl, ⟨rfl, rfl⟩, by rw [ht]; exact hat, m_K.warm hw hK, fun w hw => by cases hw; exact m_okI _⟩) hlo hd hlk
theorem s_iret {v : Int32} (hd : decode cc pc = .ok (.ireturn, 1)) (hr : ret = some .int) : s_B G S adK adV own cc maxL ret d (some (mI v)) pc lv [.int v] := by
  intro p e s m vs below meth c H locs A hC hat hlo hl
  obtain ⟨⟨hx, hb, hml, hown, hts⟩, ⟨hrt, hlk⟩, ⟨hat0, hK⟩, hS, hZ⟩ := hC
  exact W.iret hx hb (hrt.trans hr) (fun t ht hw => ⟨some (mI v), S, rfl, ⟨rfl, rfl⟩, by rw [ht]; exact hat, m_K.warm hw hK, fun w hw => by cases hw; exact m_okI _⟩) hlo hd hlk
theorem s_vret (hd : decode cc pc = .ok (.return_, 1)) (hr : ret = none) : s_B G S adK adV own cc maxL ret d none pc lv [] := by
  intro p e s m vs below meth c H locs A hC hat hlo hl
  obtain ⟨⟨hx, hb, hml, hown, hts⟩, ⟨hrt, hlk⟩, ⟨hat0, hK⟩, hS, hZ⟩ := hC
  exact W.vret hx hb (hrt.trans hr) (fun t ht hw => ⟨none, S, rfl, ⟨rfl, rfl⟩, by rw [ht]; exact hat, m_K.warm hw hK, fun w hw => by cases hw⟩) hlo hd hlk
theorem s_compact (hd : decode cc pc = .ok (.getstatic 38, 3)) (ho : own = "java/lang/String") (h : s_B G S adK adV own cc maxL ret d r (pc + 3) lv (.int 1 :: st)) : s_B G S adK adV own cc maxL ret d r pc lv st := by
  intro p e s m vs below meth c H locs A hC hat hlo hl
  obtain ⟨⟨hx, hb, hml, hown, hts⟩, ⟨hrt, hlk⟩, ⟨hat0, hK⟩, hS, hZ⟩ := id hC
  exact va_gets hx hb (hK.2.2.2.1.1.kept (s_kept hat0)) (s_S hat0 hat hlo) (by rw [← ho]; exact hown) (hts _ (tw_c 0 sw_2k rfl)) (fun _ h => h) hd (h p e s m vs below meth c H locs A hC hat hlo hl)
theorem s_form (hd : decode cc pc = .ok (.getstatic 1053, 3)) (ho : own = "java/lang/String") (h : ∀ v : Value, v.category ≠ 2 → s_B G S adK adV own cc maxL ret d r (pc + 3) lv (v :: st)) : s_B G S adK adV own cc maxL ret d r pc lv st := by
  intro p e s m vs below meth c H locs A hC hat hlo hl
  obtain ⟨⟨hx, hb, hml, hown, hts⟩, ⟨hrt, hlk⟩, ⟨hat0, hK⟩, hS, hZ⟩ := id hC
  rcases hZ with hZ | ⟨t, hZ⟩
  · exact va_gets hx hb (hZ.kept (s_kept hat0)) (s_S hat0 hat hlo) (by rw [← ho]; exact hown) (hts _ (tw_c 3 sw_2k rfl)) (fun _ h => h) hd (h .null (show (1 : Nat) ≠ 2 by decide) p e s m vs below meth c H locs A hC hat hlo hl)
  · exact va_gets hx hb (hZ.kept (s_kept hat0)) (s_S hat0 hat hlo) (by rw [← ho]; exact hown) (hts _ (tw_c 3 sw_2k rfl)) (fun _ h => h) hd (h (.ref t) (show (1 : Nat) ≠ 2 by decide) p e s m vs below meth c H locs A hC hat hlo hl)
theorem s_coder (hd : decode cc pc = .ok (.getfield 15, 3)) (ho : own = "java/lang/String") (h : s_B G S adK adV own cc maxL ret d r (pc + 3) lv (.int 0 :: st)) : s_B G S adK adV own cc maxL ret d r pc lv (.ref (adK 0) :: st) := by
  intro p e s m vs below meth c H locs A hC hat hlo hl
  obtain ⟨⟨hx, hb, hml, hown, hts⟩, ⟨hrt, hlk⟩, ⟨hat0, hK⟩, hS, hZ⟩ := id hC
  exact vk_getf hx hb ((hS.1 0 (by decide)).2.1.kept (s_kept hat0)) (s_S hat0 hat hlo) (by rw [← ho]; exact hown) (hts _ (tw_c 1 sw_2k rfl)) (fun _ h => h) hd (h p e s m vs below meth c H locs A hC hat hlo hl)
theorem s_value (hd : decode cc pc = .ok (.getfield 9, 3)) (ho : own = "java/lang/String") (h : s_B G S adK adV own cc maxL ret d r (pc + 3) lv (.ref (adV 0) :: st)) : s_B G S adK adV own cc maxL ret d r pc lv (.ref (adK 0) :: st) := by
  intro p e s m vs below meth c H locs A hC hat hlo hl
  obtain ⟨⟨hx, hb, hml, hown, hts⟩, ⟨hrt, hlk⟩, ⟨hat0, hK⟩, hS, hZ⟩ := id hC
  exact vk_getf hx hb ((hS.1 0 (by decide)).2.2.1.kept (s_kept hat0)) (s_S hat0 hat hlo) (by rw [← ho]; exact hown) (hts _ (tw_c 2 sw_2k rfl)) (fun _ h => h) hd (h p e s m vs below meth c H locs A hC hat hlo hl)
theorem s_alen (hd : decode cc pc = .ok (.arraylength, 1)) (h : s_B G S adK adV own cc maxL ret d r (pc + 1) lv (.int 147 :: st)) : s_B G S adK adV own cc maxL ret d r pc lv (.ref (adV 0) :: st) := by
  intro p e s m vs below meth c H locs A hC hat hlo hl
  obtain ⟨⟨hx, hb, hml, hown, hts⟩, ⟨hrt, hlk⟩, ⟨hat0, hK⟩, hS, hZ⟩ := id hC
  exact va_tlen hx hb ((hS.1 0 (by decide)).2.2.2.kept (s_kept hat0)) (s_S hat0 hat hlo) rfl hd (h p e s m vs below meth c H locs A hC hat hlo hl)
theorem s_bald {x : Int32} (hd : decode cc pc = .ok (.baload, 1)) (hx' : vp_in x 147) (h : s_B G S adK adV own cc maxL ret d r (pc + 1) lv (.int (m_str.getD x.toNatClampNeg 0) :: st)) : s_B G S adK adV own cc maxL ret d r pc lv (.int x :: .ref (adV 0) :: st) := by
  intro p e s m vs below meth c H locs A hC hat hlo hl
  obtain ⟨⟨hx, hb, hml, hown, hts⟩, ⟨hrt, hlk⟩, ⟨hat0, hK⟩, hS, hZ⟩ := id hC
  exact va_tb hx hb ((hS.1 0 (by decide)).2.2.2.kept (s_kept hat0)) (s_S hat0 hat hlo) hx' rfl hd (h p e s m vs below meth c H locs A hC hat hlo hl)
/-- calls -/
theorem s_callV {idx d' : Nat} {y' : MethodName} {cc' : ByteArray} {maxL' : Nat} {ret' : Option FieldType} {as : List Value} {r' : Option MV} (hd : decode cc pc = .ok (.invokevirtual idx, 3)) (hlk0 : Cond.methodLink own idx y' ∈ tw) (hcode : Cond.code y' cc' maxL' ret' ∈ tw) (hiv : Cond.instanceMethod y' ∈ tw ∧ Cond.selects y'.cls y' y' ∈ tw) (hin : Cond.initialized "java/lang/String" ∈ tw) (hyc : y'.cls = "java/lang/String") (hpar : (parseMethodDescriptor y'.desc).map (fun d => d.parameters.length) = some as.length) (hM : s_met G d' y' cc' maxL' ret' S adK adV (.ref (adK 0) :: as).toArray r') (hst : (st.map fun v => v.category).sum ≤ 8) (hR : d' + 1 ≤ d ∧ 8 + (maxL' + 11) + 40 * d' ≤ 40 * d) (h : s_B G S adK adV own cc maxL ret d r (pc + 3) lv ((r'.map (m_val G.2.2.1.size)).toList ++ st)) : s_B G S adK adV own cc maxL ret d r pc lv (as.reverse ++ .ref (adK 0) :: st) := by
  intro p e s m vs below meth c H locs A hC hat hlo hl
  obtain ⟨⟨hx, hb, hml, hown, hts⟩, ⟨hrt, hlk⟩, ⟨hat0, hK⟩, hS, hZ⟩ := id hC
  obtain ⟨cell, g1, g2, g3, -⟩ := (hS.1 0 (by decide)).1.kept (s_kept hat)
  have hgood : GoodIn tw (wsV own idx y'.cls y' (Cond.code y' cc' maxL' ret' :: tw)) := m_good (fun w hw => by
    unfold wsV at hw
    rcases List.mem_append.mp hw with h1 | h1
    · simp only [List.mem_cons, List.not_mem_nil, or_false] at h1
      rcases h1 with rfl | rfl | rfl | rfl
      · exact hlk0
      · exact hiv.1
      · exact hiv.2
      · rw [hyc]; exact hin
    · exact (List.mem_cons.mp h1).elim (fun e => by rw [e]; exact hcode) id)
  have run := W.runV (R := m_rm d 0 0) (H := H) (locs := locs) (cells := 0) (slots := 0) (e := e) (below := below) (meth := meth) (As := as) (rest := st) (b := adK 0) (C := y'.cls) (g := F0 m pc A (as.reverse ++ .ref (adK 0) :: st)) ⟨hx, hb, hml, hown, hts⟩ hM
    (cwV as.length hts hgood rfl rfl rfl ⟨rfl, by rw [hyc]; decide, by rw [hyc]; decide, hpar⟩ hR) ⟨s_blind, ⟨cell, g1, g2, by rw [hyc]; exact g3⟩, fun U hU hW => ⟨rfl, by rw [hU]; exact hat, m_K.warm hW hK, vk_S.moved hW.alike hS, va_Zq.moved hW.alike hZ⟩⟩ rfl rfl hl.1 rfl (by show 2 * 0 + _ ≤ 8; omega) hd ⟨Nat.le_refl _, Nat.le_refl _⟩
  intro T hT X
  obtain ⟨v, st₀, t, T', L, h0, X', hL', e1, hq, stp⟩ := run T hT X
  obtain ⟨r1, S1, hr', ⟨rfl, rfl⟩, hat', hK', hok'⟩ := hq
  have hv : v = r1.map (m_val G.2.2.1.size) := Outcome.returned.inj hr'
  subst hv
  obtain ⟨t2, a1, b1⟩ := h p e s m vs below meth c t.heap (locs ++ L) A hC hat' (fun q hq => (List.mem_append.mp hq).elim (hlo q) (hL' q)) hl T' e1 X'
  exact ⟨t2, stp t2 a1, b1⟩
theorem s_callS {idx d' : Nat} {y' : MethodName} {cc' : ByteArray} {maxL' : Nat} {ret' : Option FieldType} {as : List Value} {r' : Option MV} (hd : decode cc pc = .ok (.invokestatic idx, 3)) (hlk0 : Cond.methodLink own idx y' ∈ tw) (hcode : Cond.code y' cc' maxL' ret' ∈ tw) (hsv : Cond.static y' ∈ tw) (hin : Cond.initialized y'.cls ∈ tw) (hpar : y'.cls ≠ "java/lang/invoke/MethodHandle" ∧ y'.cls ≠ "java/lang/invoke/VarHandle" ∧ (parseMethodDescriptor y'.desc).map (fun d => d.parameters.length) = some as.length) (hM : s_met G d' y' cc' maxL' ret' S adK adV as.toArray r') (hst : (st.map fun v => v.category).sum ≤ 8) (hR : d' + 1 ≤ d ∧ 8 + (maxL' + 11) + 40 * d' ≤ 40 * d) (h : s_B G S adK adV own cc maxL ret d r (pc + 3) lv ((r'.map (m_val G.2.2.1.size)).toList ++ st)) : s_B G S adK adV own cc maxL ret d r pc lv (as.reverse ++ st) := by
  intro p e s m vs below meth c H locs A hC hat hlo hl
  obtain ⟨⟨hx, hb, hml, hown, hts⟩, ⟨hrt, hlk⟩, ⟨hat0, hK⟩, hS, hZ⟩ := id hC
  have run := W.runS (R := m_rm d 0 0) (H := H) (locs := locs) (cells := 0) (slots := 0) (e := e) (below := below) (meth := meth) (As := as) (rest := st) (g := F0 m pc A (as.reverse ++ st)) ⟨hx, hb, hml, hown, hts⟩ hM
    ⟨callB_of as.length hts (m_good (fun w hw => (List.mem_cons.mp hw).elim (fun e => by rw [e]; exact hcode) id)) rfl rfl rfl (hts _ hin) (hts _ hlk0) hpar hR, hts _ hsv⟩ ⟨s_blind, fun U hU hW => ⟨rfl, by rw [hU]; exact hat, m_K.warm hW hK, vk_S.moved hW.alike hS, va_Zq.moved hW.alike hZ⟩⟩ rfl rfl hl.1 rfl (by show 2 * 0 + _ ≤ 8; omega) hd ⟨Nat.le_refl _, Nat.le_refl _⟩
  intro T hT X
  obtain ⟨v, st₀, t, T', L, h0, X', hL', e1, hq, stp⟩ := run T hT X
  obtain ⟨r1, S1, hr', ⟨rfl, rfl⟩, hat', hK', hok'⟩ := hq
  have hv : v = r1.map (m_val G.2.2.1.size) := Outcome.returned.inj hr'
  subst hv
  obtain ⟨t2, a1, b1⟩ := h p e s m vs below meth c t.heap (locs ++ L) A hC hat' (fun q hq => (List.mem_append.mp hq).elim (hlo q) (hL' q)) hl T' e1 X'
  exact ⟨t2, stp t2 a1, b1⟩
/-- rows that touch no heap -/
theorem s_pl {st' : List Value} {pc' : Nat} (hw : ∀ p e s m vs below meth c H locs A, p.tables.exec = Jvm.exec → c.code = cc → lv_has A maxL lv → W p G.2.2.2 e (m_rm d 0 0) s m vs below meth c H locs 0 0 (MQ below (m_Q G (m_is r S)) vs s 0 0 (s_A G)) (F0 m pc' A st') → W p G.2.2.2 e (m_rm d 0 0) s m vs below meth c H locs 0 0 (MQ below (m_Q G (m_is r S)) vs s 0 0 (s_A G)) (F0 m pc A st)) (h : s_B G S adK adV own cc maxL ret d r pc' lv st') : s_B G S adK adV own cc maxL ret d r pc lv st := by
  intro p e s m vs below meth c H locs A hC hat hlo hl
  exact hw p e s m vs below meth c H locs A hC.1.1 hC.1.2.1 hl (h p e s m vs below meth c H locs A hC hat hlo hl)
theorem s_coder_m : s_met G 1 yS_cod prog_17_method_152_code 1 (some .byte) S adK adV [Value.ref (adK 0)].toArray (some (mI 0)) := by
  refine s_of (by decide) [.ref (adK 0)] (by simp [lg_sl, Value.category]) ?_
  refine s_compact (by decide +kernel) rfl ?_
  refine s_pl (pc' := 6) (st' := []) (fun p e s m vs below meth c H locs A hx hb hl k => lv_if_eq hx hb (off := 10) (tgt := 13) (by decide +kernel) (by decide) (fun z => absurd z (by decide)) (fun _ => k)) ?_
  refine s_pl (pc' := 7) (st' := [.ref (adK 0)]) (fun p e s m vs below meth c H locs A hx hb hl k => lv_aload_n hx hb (k := 0) (i := 0) (by decide +kernel) rfl (lv_at hl 0 rfl) k) ?_
  refine s_coder (by decide +kernel) rfl ?_
  refine s_pl (pc' := 14) (st' := [.int 0]) (fun p e s m vs below meth c H locs A hx hb hl k => lv_goto hx hb (off := 4) (tgt := 14) (by decide +kernel) (by decide) k) ?_
  exact s_ret (by decide +kernel) rfl rfl
theorem s_lat_m : s_met G 1 yS_lat prog_17_method_154_code 1 (some .boolean) S adK adV [Value.ref (adK 0)].toArray (some (mI 1)) := by
  refine s_of (by decide) [.ref (adK 0)] (by simp [lg_sl, Value.category]) ?_
  refine s_compact (by decide +kernel) rfl ?_
  refine s_pl (pc' := 6) (st' := []) (fun p e s m vs below meth c H locs A hx hb hl k => lv_if_eq hx hb (off := 14) (tgt := 17) (by decide +kernel) (by decide) (fun z => absurd z (by decide)) (fun _ => k)) ?_
  refine s_pl (pc' := 7) (st' := [.ref (adK 0)]) (fun p e s m vs below meth c H locs A hx hb hl k => lv_aload_n hx hb (k := 0) (i := 0) (by decide +kernel) rfl (lv_at hl 0 rfl) k) ?_
  refine s_coder (by decide +kernel) rfl ?_
  refine s_pl (pc' := 13) (st' := []) (fun p e s m vs below meth c H locs A hx hb hl k => lv_if_ne hx hb (off := 7) (tgt := 17) (by decide +kernel) (by decide) (fun z => absurd rfl z) (fun _ => k)) ?_
  refine s_pl (pc' := 14) (st' := [.int 1]) (fun p e s m vs below meth c H locs A hx hb hl k => lv_iconst hx hb (n := 1) (by decide +kernel) rfl k) ?_
  refine s_pl (pc' := 18) (st' := [.int 1]) (fun p e s m vs below meth c H locs A hx hb hl k => lv_goto hx hb (off := 4) (tgt := 18) (by decide +kernel) (by decide) k) ?_
  exact s_ret (by decide +kernel) rfl rfl
theorem s_len_m : s_met G 2 yS_len prog_17_method_54_code 1 (some .int) S adK adV [Value.ref (adK 0)].toArray (some (mI 147)) := by
  refine s_of (by decide) [.ref (adK 0)] (by simp [lg_sl, Value.category]) ?_
  refine s_pl (pc' := 1) (st' := [.ref (adK 0)]) (fun p e s m vs below meth c H locs A hx hb hl k => lv_aload_n hx hb (k := 0) (i := 0) (by decide +kernel) rfl (lv_at hl 0 rfl) k) ?_
  refine s_value (by decide +kernel) rfl ?_
  refine s_alen (by decide +kernel) ?_
  refine s_pl (pc' := 6) (st' := [.ref (adK 0), .int 147]) (fun p e s m vs below meth c H locs A hx hb hl k => lv_aload_n hx hb (k := 0) (i := 0) (by decide +kernel) rfl (lv_at hl 0 rfl) k) ?_
  refine s_callV (as := []) (idx := 335) (by decide +kernel) (tw_c 0 sw_3k rfl) (tw_c 2 sw_1k rfl) ⟨tw_c 2 sw_4k rfl, tw_c 6 sw_4k rfl⟩ (tw_c 3 sw_5k rfl) rfl (by decide +kernel) s_coder_m (by decide) (by decide) ?_
  refine s_pl (pc' := 10) (st' := [.int 147]) (fun p e s m vs below meth c H locs A hx hb hl k => lv_ishr hx hb (by decide +kernel) k) ?_
  exact s_iret (by decide +kernel) rfl
theorem s_pchk_m {x : Int32} {v : Value} (hv : v.category ≠ 2) (hx : vp_in x 147) : s_met G 0 yP_chk prog_22_method_11_code 3 (some .int) S adK adV [Value.int x, .int 147, v].toArray (some (mI x)) := by
  have h1 : ¬ x < 0 := fun z => hx (Or.inl z)
  have h2 : x < 147 := by
    have : x.toNatClampNeg < 147 := Nat.not_le.mp fun q => hx (Or.inr q)
    obtain ⟨j, hj, rfl⟩ := nI_of h1
    rw [nI_clamp hj] at this
    exact nI_lt (b := 147) this (by decide)
  refine s_of (by decide) [.int x, .int 147, v] (by simp only [lg_sl, List.flatMap_cons, List.flatMap_nil, List.length_append]; rw [if_neg hv]; simp [Value.category]) ?_
  refine s_pl (pc' := 1) (st' := [.int x]) (fun p e s m vs below meth c H locs A hx hb hl k => lv_iload_n hx hb (k := 0) (i := 0) (by decide +kernel) rfl (lv_at hl 0 rfl) k) ?_
  refine s_pl (pc' := 4) (st' := []) (fun p e s m vs below meth c H locs A hx hb hl k => lv_if_lt hx hb (off := 8) (tgt := 9) (by decide +kernel) (by decide) (fun z => absurd z h1) (fun _ => k)) ?_
  refine s_pl (pc' := 5) (st' := [.int x]) (fun p e s m vs below meth c H locs A hx hb hl k => lv_iload_n hx hb (k := 0) (i := 0) (by decide +kernel) rfl (lv_at hl 0 rfl) k) ?_
  refine s_pl (pc' := 6) (st' := [.int 147, .int x]) (fun p e s m vs below meth c H locs A hx hb hl k => lv_iload_n hx hb (k := 1) (i := 1) (by decide +kernel) rfl (lv_at hl 1 rfl) k) ?_
  refine s_pl (pc' := 16) (st' := []) (fun p e s m vs below meth c H locs A hx hb hl k => lv_icmp_lt hx hb (off := 10) (tgt := 16) (by decide +kernel) (by decide) (fun _ => k) (fun z => absurd h2 z)) ?_
  refine s_pl (pc' := 17) (st' := [.int x]) (fun p e s m vs below meth c H locs A hx hb hl k => lv_iload_n hx hb (k := 0) (i := 0) (by decide +kernel) rfl (lv_at hl 0 rfl) k) ?_
  exact s_iret (by decide +kernel) rfl
theorem s_chk_m {x : Int32} (hx : vp_in x 147) : s_met G 1 yS_chk prog_17_method_155_code 2 none S adK adV [Value.int x, .int 147].toArray none := by
  refine s_of (by decide) [.int x, .int 147] (by simp [lg_sl, Value.category]) ?_
  refine s_pl (pc' := 1) (st' := [.int x]) (fun p e s m vs below meth c H locs A hx hb hl k => lv_iload_n hx hb (k := 0) (i := 0) (by decide +kernel) rfl (lv_at hl 0 rfl) k) ?_
  refine s_pl (pc' := 2) (st' := [.int 147, .int x]) (fun p e s m vs below meth c H locs A hx hb hl k => lv_iload_n hx hb (k := 1) (i := 1) (by decide +kernel) rfl (lv_at hl 1 rfl) k) ?_
  refine s_form (by decide +kernel) rfl (fun v hv => ?_)
  refine s_callS (as := [.int x, .int 147, v]) (idx := 1059) (by decide +kernel) (tw_c 3 sw_3k rfl) (tw_c 6 sw_1k rfl) (tw_c 2 sw_5k rfl) (tw_c 5 sw_5k rfl) ⟨by decide +kernel, by decide +kernel, (show _ = some 3 by decide +kernel)⟩ (s_pchk_m hv hx) (by decide) (by decide) ?_
  refine s_pl (pc' := 9) (st' := []) (fun p e s m vs below meth c H locs A hx hb hl k => lv_pop hx hb (pc := 8) (by decide +kernel) rfl k) ?_
  exact s_vret (by decide +kernel) rfl
theorem str_byte : ∀ j, j < 147 → ((m_str.getD j 0 &&& 255).toUInt32 % 65536).toInt32 = m_str.getD j 0 ∧ narrow .char (.int (m_str.getD j 0)) = .int (m_str.getD j 0) := by decide +kernel
theorem s_lchr_m {x : Int32} (hx : vp_in x 147) : s_met G 2 yL_chr prog_18_method_2_code 2 (some .char) S adK adV [Value.ref (adV 0), .int x].toArray (some (mI (m_str.getD x.toNatClampNeg 0))) := by
  have hj : x.toNatClampNeg < 147 := Nat.not_le.mp fun q => hx (Or.inr q)
  refine s_of (by decide) [.ref (adV 0), .int x] (by simp [lg_sl, Value.category]) ?_
  refine s_pl (pc' := 1) (st' := [.int x]) (fun p e s m vs below meth c H locs A hx hb hl k => lv_iload_n hx hb (k := 1) (i := 1) (by decide +kernel) rfl (lv_at hl 1 rfl) k) ?_
  refine s_pl (pc' := 2) (st' := [.ref (adV 0), .int x]) (fun p e s m vs below meth c H locs A hx hb hl k => lv_aload_n hx hb (k := 0) (i := 0) (by decide +kernel) rfl (lv_at hl 0 rfl) k) ?_
  refine s_alen (by decide +kernel) ?_
  refine s_callS (as := [.int x, .int 147]) (idx := 9) (by decide +kernel) (tw_c 4 sw_3k rfl) (tw_c 4 sw_1k rfl) (tw_c 1 sw_5k rfl) (tw_c 3 sw_5k rfl) ⟨by decide +kernel, by decide +kernel, (show _ = some 2 by decide +kernel)⟩ (s_chk_m hx) (by decide) (by decide) ?_
  refine s_pl (pc' := 7) (st' := [.ref (adV 0)]) (fun p e s m vs below meth c H locs A hx hb hl k => lv_aload_n hx hb (k := 0) (i := 0) (by decide +kernel) rfl (lv_at hl 0 rfl) k) ?_
  refine s_pl (pc' := 8) (st' := [.int x, .ref (adV 0)]) (fun p e s m vs below meth c H locs A hx hb hl k => lv_iload_n hx hb (k := 1) (i := 1) (by decide +kernel) rfl (lv_at hl 1 rfl) k) ?_
  refine s_bald (by decide +kernel) hx ?_
  refine s_pl (pc' := 12) (st' := [.int 255, .int (m_str.getD x.toNatClampNeg 0)]) (fun p e s m vs below meth c H locs A hx hb hl k => lv_sipush hx hb (n := 255) (by decide +kernel) (by decide) k) ?_
  refine s_pl (pc' := 13) (st' := [.int (m_str.getD x.toNatClampNeg 0 &&& 255)]) (fun p e s m vs below meth c H locs A hx hb hl k => lv_iand hx hb (by decide +kernel) k) ?_
  refine s_pl (pc' := 14) (st' := [.int (m_str.getD x.toNatClampNeg 0)]) (fun p e s m vs below meth c H locs A hx hb hl k => lv_i2c hx hb (by decide +kernel) (str_byte _ hj).1 k) ?_
  exact s_ret (by decide +kernel) rfl (str_byte _ hj).2
theorem s_chr_m {x : Int32} (hx : vp_in x 147) : s_met G 3 yS_chr prog_17_method_56_code 2 (some .char) S adK adV [Value.ref (adK 0), .int x].toArray (some (mI (m_str.getD x.toNatClampNeg 0))) := by
  have hj : x.toNatClampNeg < 147 := Nat.not_le.mp fun q => hx (Or.inr q)
  refine s_of (by decide) [.ref (adK 0), .int x] (by simp [lg_sl, Value.category]) ?_
  refine s_pl (pc' := 1) (st' := [.ref (adK 0)]) (fun p e s m vs below meth c H locs A hx hb hl k => lv_aload_n hx hb (k := 0) (i := 0) (by decide +kernel) rfl (lv_at hl 0 rfl) k) ?_
  refine s_callV (as := []) (idx := 492) (by decide +kernel) (tw_c 1 sw_3k rfl) (tw_c 3 sw_1k rfl) ⟨tw_c 3 sw_4k rfl, tw_c 7 sw_4k rfl⟩ (tw_c 3 sw_5k rfl) rfl (by decide +kernel) s_lat_m (by decide) (by decide) ?_
  refine s_pl (pc' := 7) (st' := []) (fun p e s m vs below meth c H locs A hx hb hl k => lv_if_eq hx hb (off := 12) (tgt := 16) (by decide +kernel) (by decide) (fun z => absurd z (by decide)) (fun _ => k)) ?_
  refine s_pl (pc' := 8) (st' := [.ref (adK 0)]) (fun p e s m vs below meth c H locs A hx hb hl k => lv_aload_n hx hb (k := 0) (i := 0) (by decide +kernel) rfl (lv_at hl 0 rfl) k) ?_
  refine s_value (by decide +kernel) rfl ?_
  refine s_pl (pc' := 12) (st' := [.int x, .ref (adV 0)]) (fun p e s m vs below meth c H locs A hx hb hl k => lv_iload_n hx hb (k := 1) (i := 1) (by decide +kernel) rfl (lv_at hl 1 rfl) k) ?_
  refine s_callS (as := [.ref (adV 0), .int x]) (idx := 495) (by decide +kernel) (tw_c 2 sw_3k rfl) (tw_c 5 sw_1k rfl) (tw_c 0 sw_5k rfl) (tw_c 4 sw_5k rfl) ⟨by decide +kernel, by decide +kernel, (show _ = some 2 by decide +kernel)⟩ (s_lchr_m hx) (by decide) (by decide) ?_
  exact s_ret (by decide +kernel) rfl (str_byte _ hj).2
end GS0
section GS1
variable {G : MG} {R : Room} {M : MM} {Q : Option MV → MS → Prop} {rc rs pc : Nat} {ls : ML} {st : List MV} {S : MS}
theorem b_sV {idx d' : Nat} {y' : MethodName} {cc' : ByteArray} {maxL' : Nat} {ret' : Option FieldType} {as : List MV} {r' : Option MV} (hz : ∀ U, m_K G U → s_Zq G U G.2.2.1) (hd1 : decode M.2.1 pc = .ok (.ldc 131, 2)) (hM : M.1 = 5)
    (hgo : ∀ (p : Program) (e : Env) (s : State) (m : MethodId) (args : Array Value) (below : List Frame) (meth : Method) (c : Code) (H : Heap) (locs : List Loc) (cells slots : Nat) (A : Array Slot) (q : Nat), p.tables.exec = Jvm.exec → c.code = M.2.1 → m_has G.2.2.1.size A M.2.2.1 ls → W p G.2.2.2 e R s m args below meth c H locs cells slots (MQ below (m_Q G Q) args s R.cells R.slots (fun q => G.2.2.1.size ≤ q)) (F0 m (pc + 2 + as.length) A ((as.map (m_val G.2.2.1.size)).reverse ++ .ref q :: st.map (m_val G.2.2.1.size))) → W p G.2.2.2 e R s m args below meth c H locs cells slots (MQ below (m_Q G Q) args s R.cells R.slots (fun q => G.2.2.1.size ≤ q)) (F0 m (pc + 2) A (.ref q :: st.map (m_val G.2.2.1.size))))
    (hd : decode M.2.1 (pc + 2 + as.length) = .ok (.invokevirtual idx, 3)) (hlk0 : Cond.methodLink "WalkFence$Reader" idx y' ∈ tw) (hcode : Cond.code y' cc' maxL' ret' ∈ tw) (hiv : Cond.instanceMethod y' ∈ tw ∧ Cond.selects y'.cls y' y' ∈ tw) (hyc : y'.cls = "java/lang/String") (hpar : (parseMethodDescriptor y'.desc).map (fun d => d.parameters.length) = some as.length) (hmet : ∀ adK adV, s_met G d' y' cc' maxL' ret' S adK adV (.ref (adK 0) :: as.map (m_val G.2.2.1.size)).toArray r') (hok : ∀ v, r' = some v → m_ok S.1 v) (hst : m_cat st ≤ 6) (hR : d' + 1 ≤ R.frames ∧ 8 + (maxL' + 11) + 40 * d' ≤ R.locals)
    (h : m_B G R M Q rc rs (pc + 2 + as.length + 3) ls (r'.toList ++ st) S) : m_B G R M Q rc rs pc ls st S := by
  intro p e s m args below meth c H locs cells slots A X
  obtain ⟨hC, hat, hlo, hcs, hl, ho1, ho2⟩ := X
  obtain ⟨hx, hb, hml, hown, hts, hr, hlk, hin, hKK⟩ := id hC
  have hown : s.vm.findClass "WalkFence$Reader" = some m.cls := by rw [hM] at hown; exact hown
  obtain ⟨-, -, ⟨adK, adV, hRf, hS⟩, -⟩ := id hKK
  have hZ := hz s hKK
  refine va_ldcS hx hb hown hRf hd1 ?_
  refine hgo p e s m args below meth c H locs cells slots A _ hx hb hl ?_
  obtain ⟨cell, g1, g2, g3, -⟩ := (hS.1 0 (by decide)).1.kept (s_kept hat)
  have hgood : GoodIn tw (wsV "WalkFence$Reader" idx y'.cls y' (Cond.code y' cc' maxL' ret' :: tw)) := m_good (fun w hw => by
    unfold wsV at hw
    rcases List.mem_append.mp hw with h1 | h1
    · simp only [List.mem_cons, List.not_mem_nil, or_false] at h1
      rcases h1 with rfl | rfl | rfl | rfl
      · exact hlk0
      · exact hiv.1
      · exact hiv.2
      · rw [hyc]; exact tw_c 3 sw_5k rfl
    · exact (List.mem_cons.mp h1).elim (fun e => by rw [e]; exact hcode) id)
  have run := W.runV (R := R) (H := H) (locs := locs) (cells := cells) (slots := slots) (e := e) (below := below) (meth := meth) (As := as.map (m_val G.2.2.1.size)) (rest := st.map (m_val G.2.2.1.size)) (b := adK 0) (C := y'.cls) (g := F0 m (pc + 2 + as.length) A ((as.map (m_val G.2.2.1.size)).reverse ++ .ref (adK 0) :: st.map (m_val G.2.2.1.size))) ⟨hx, hb, hml, hown, hts⟩ (hmet adK adV)
    (cwV as.length hts hgood rfl rfl rfl ⟨rfl, by rw [hyc]; decide, by rw [hyc]; decide, hpar⟩ hR) ⟨s_blind, ⟨cell, g1, g2, by rw [hyc]; exact g3⟩, fun U hU hW => ⟨rfl, by rw [hU]; exact hat, m_K.warm hW hKK, vk_S.moved hW.alike hS, va_Zq.moved hW.alike hZ⟩⟩ rfl (by simp) hl.1 rfl (by show 2 * 0 + _ ≤ 8; rw [m_cat_eq]; omega) hd ⟨by omega, by omega⟩
  intro T hT X
  obtain ⟨v, st₀, t, T', L, h0, X', hL', e1, hq, stp⟩ := run T hT X
  obtain ⟨r1, S1, hr', ⟨rfl, rfl⟩, hat', hK', hok'⟩ := hq
  have hv : v = r1.map (m_val G.2.2.1.size) := Outcome.returned.inj hr'
  subst hv
  obtain ⟨t2, a1, b1⟩ := h p e s m args below meth c t.heap (locs ++ L) cells slots A ⟨hC, hat', fun q hq => (List.mem_append.mp hq).elim (hlo q) (hL' q), hcs, hl, ok_app hok ho1, ho2⟩ T' e1 X'
  refine ⟨t2, stp t2 ?_, b1⟩
  rw [← m_rest] at a1
  exact a1
theorem b_slen_x (hz : ∀ U, m_K G U → s_Zq G U G.2.2.1) (hd1 : decode M.2.1 pc = .ok (.ldc 131, 2)) (hd2 : decode M.2.1 (pc + 2) = .ok (.invokevirtual 133, 3)) (hM : M.1 = 5) (hst : m_cat st ≤ 6) (hR : 4 ≤ R.frames ∧ 160 ≤ R.locals) (h : m_B G R M Q rc rs (pc + 5) ls (mI 147 :: st) S) : m_B G R M Q rc rs pc ls st S := by
  refine b_sV (as := []) (idx := 133) (r' := some (mI 147)) hz hd1 hM (fun p e s m args below meth c H locs cells slots A q hx hb hl k => k) hd2 (tw_c 5 sw_3k rfl) (tw_c 0 sw_1k rfl) ⟨tw_c 0 sw_4k rfl, tw_c 4 sw_4k rfl⟩ rfl (by decide +kernel) (fun adK adV => s_len_m) (fun v hv => by cases hv; exact m_okI _) hst ⟨by omega, by omega⟩ h
theorem b_schar_x {x : Int32} (hz : ∀ U, m_K G U → s_Zq G U G.2.2.1) (hd1 : decode M.2.1 pc = .ok (.ldc 131, 2)) (hd2 : decode M.2.1 (pc + 2) = .ok (.iload_n 3, 1)) (hd3 : decode M.2.1 (pc + 3) = .ok (.invokevirtual 137, 3)) (hM : M.1 = 5) (hl : m_get ls 3 = some (mI x)) (hx : vp_in x 147) (hst : m_cat st ≤ 6) (hR : 4 ≤ R.frames ∧ 160 ≤ R.locals) (h : m_B G R M Q rc rs (pc + 6) ls (mI (m_str.getD x.toNatClampNeg 0) :: st) S) : m_B G R M Q rc rs pc ls st S := by
  refine b_sV (as := [mI x]) (idx := 137) (r' := some (mI (m_str.getD x.toNatClampNeg 0))) hz hd1 hM (fun p e s m args below meth c H locs cells slots A q hx hb hls k => lv_iload_n hx hb hd2 rfl (hls.2.2 3 _ hl) k) hd3 (tw_c 6 sw_3k rfl) (tw_c 1 sw_1k rfl) ⟨tw_c 1 sw_4k rfl, tw_c 5 sw_4k rfl⟩ rfl (show _ = some 1 by decide +kernel) (fun adK adV => s_chr_m hx) (fun v hv => by cases hv; exact m_okI _) hst ⟨by omega, by omega⟩ h
end GS1
