/-! THE CLAIM OUT OF ONE WALK OF THE LAW'S BODY. Your part is whole_start (and what it stands on); all else here is the same for every law, but numbers. -/
def R_law : String := "WalkFenceLaw"
def lw_P (b : Addr) (xs : List Int32) (args : Array Value) (s : State) : Prop := args = #[.ref b] ∧ s.IntsAt b xs ∧ xs.length ≤ 3072 ∧ (Jvm.Cond.and given_1 narrow_1).before args s = true
def lw_Q (_ : Array Value) (s : State) (o : Outcome) (t : State) : Prop := o = .returned (some (.int 1)) ∧ Framed s o t [] 600000 7302250
def lw_Z (below : List Frame) (a : Array Value) (s : State) : State → Prop := fun t => ∃ o, t.status = .running ∧ Ended t below o ∧ lw_Q a s o t
/-- the law's own end, with 1 on the stack, nothing written that was there before, its room as the claim has it -/
theorem lw_ret {p : Program} {l : Launch} {e : Env} {s : State} {m : MethodId} {below : List Frame} {meth : Method} {c : Code} {b : Nat} (hx : p.tables.exec = Jvm.exec) (hb : c.code = code) (hr : meth.sig.returnType = ret) (hlocks : meth.locks = false) {pc : Nat} {H : Heap} {ls : Array Slot} (hdg : decode code pc = .ok (.ireturn, 1)) : W p l e room_1 s m #[Value.ref b] below meth c H [] 600000 7302250 (lw_Z below #[Value.ref b] s) (F0 m pc ls [.int 1]) := by
  intro T hT X
  obtain ⟨fs, hret, hrun, hended, hW, hframe⟩ := X.leave (v := some (.int 1)) (hlocks := hlocks) (fun h => by rw [hr] at h; cases h)
  have hmeth' : T.vm.method? m = some meth := X.method'
  refine ⟨T.setFrames fs, ?_, .returned (some (.int 1)), hrun, hended, rfl, ⟨_, rfl⟩, hW, hframe⟩
  jvm_step X.here [X.here.top, hx, hb, hdg, hmeth', hr, ret, narrow_b1]
  (try refine ⟨rfl, ?_⟩); (try refine ⟨rfl, ?_⟩)
  first | (intro acts; rw [hret _ acts rfl rfl rfl]) | rw [hret _ _ rfl rfl rfl]
  exact Steps.refl _
/-- what holds at the law's entry: the machine, the code, the tables' words (any of lw_tbl by 'hts w (by decide +kernel)'), the script of L ints xs at the cell b, what the Statement gives of the start (any of its parts by flat_of_before) -/
def lw_At (p : Program) (s : State) (m : MethodId) (meth : Method) (c : Code) (b L : Nat) (xs : Nat → Int32) : Prop :=
  p.tables.exec = Jvm.exec ∧ c.code = code ∧ meth.sig.returnType = ret ∧ c.maxLocals = 4 ∧ s.vm.findClass R_law = some m.cls ∧ (∀ w ∈ lw_tbl, w.before #[Value.ref b] s = true) ∧ va_X b L xs s s.heap ∧ b < s.heap.size ∧ meth.locks = false ∧ (Jvm.Cond.and given_1 narrow_1).before #[Value.ref b] s = true
section GK7
theorem ow_in : ∀ w ∈ ([Cond.arrayOver (.object RX3), Cond.arrayOver (.object RX4), Cond.stringRef "WalkFence$Reader" 131 m_tx, Cond.laysStatic "java/lang/String" "COMPACT_STRINGS" "Z", Cond.laysStatic "jdk/internal/util/Preconditions" "SIOOBE_FORMATTER" "Ljava/util/function/BiFunction;"] : List Cond), w ∈ tables_1 := by decide +kernel
theorem on_in : ∀ q ∈ m_nest, Cond.methodLinkNest q.1 q.2.1 q.2.2 "WalkFence" ∈ tables_1 := by decide +kernel
theorem oi_in : ∀ c, c < 13 → Cond.instantiable (m_cn c) (m_nf c) ∈ tw := by
  intro c hc
  rcases (by omega : c = 0 ∨ c = 1 ∨ c = 2 ∨ c = 3 ∨ c = 4 ∨ c = 5 ∨ c = 6 ∨ c = 7 ∨ c = 8 ∨ c = 9 ∨ c = 10 ∨ c = 11 ∨ c = 12) with z | z | z | z | z | z | z | z | z | z | z | z | z <;> subst z
  · exact m_inst0.1
  · exact m_inst1.1
  · exact m_inst2.1
  · exact m_inst3.1
  · exact m_inst4.1
  · exact m_inst5.1
  · exact m_inst6.1
  · exact m_inst7.1
  · exact m_inst8.1
  · exact m_inst9.1
  · exact m_inst10.1
  · exact m_inst11.1
  · exact m_inst12.1
abbrev tmS : Term := .string "WalkFence$Reader" 131
abbrev tmV : Term := .field tmS "java/lang/String" "value" "[B"
def vS : List Cond := [Cond.eq (.static "java/lang/String" "COMPACT_STRINGS" "Z") (.int 1), Cond.isRef (.static "jdk/internal/util/Preconditions" "SIOOBE_FORMATTER" "Ljava/util/function/BiFunction;"), Cond.exactly tmS "java/lang/String", Cond.eq (.field tmS "java/lang/String" "coder" "B") (.int 0), Cond.arrayOf tmV .byte, Cond.eq (.length tmV) (.int (Int32.ofNat 147))]
set_option maxRecDepth 1000000 in
theorem k_start {p : Program} {s : State} {m : MethodId} {meth : Method} {c : Code} {b L : Nat} {xs : Nat → Int32} (C0 : lw_At p s m meth c b L xs) (l : Launch) : ∃ G : MG, G.2.2.1 = s.heap ∧ G.2.2.2 = l ∧ m_K G s := by
  obtain ⟨hx, hb, hr, hml, hown, hts, hX, hbl, hlocks, hgv⟩ := C0
  have ht : ∀ w ∈ tw, w.before #[Value.ref b] s = true := fun w hw => hts w (List.mem_filter.mp hw).1
  have hw : ∀ w ∈ tables_1, w.before #[Value.ref b] s = true := fun w hw => hts w (List.mem_append_right _ hw)
  have hs := flat_of_before _ hgv
  have hA : ∀ a : Nat, a < s.heap.size → ¬ (fun q : Nat => s.heap.size ≤ q) a := fun a h => Nat.not_le.mpr h
  have hc0 : ∀ c : Nat, ∃ q : ClassId × (Nat → Nat), c < 13 → u_Kn s (m_cn c) (m_T c) (m_nf c) q.1 q.2 := by
    intro c
    by_cases h : c < 13
    · obtain ⟨cC, iS, hk⟩ := u_known (C := m_cn c) (T := m_T c) (N := m_nf c) (n := m_nf c) ht (m_cls_of h).2.1 (ht _ (oi_in c h))
      exact ⟨(cC, iS), fun _ => hk⟩
    · exact ⟨(0, fun _ => 0), fun z => absurd z h⟩
  obtain ⟨fC, hfC⟩ := Classical.axiomOfChoice hc0
  obtain ⟨c20, k20, p20, a20, b20, d20⟩ := Cond.arrayClass_spec (ht _ m_arr_int)
  obtain ⟨c21, k21, p21, a21, b21, d21⟩ := Cond.arrayClass_spec (ht _ m_arr_long)
  obtain ⟨c22, k22, p22, a22, b22, d22⟩ := Cond.arrayClass_spec (ht _ m_arr_byte)
  obtain ⟨c23, k23, p23, a23, b23, d23⟩ := Cond.arrayClass_spec (ht _ m_arr_char)
  obtain ⟨c24, k24, p24, a24, b24, d24⟩ := Cond.arrayClass_spec (ht _ m_arr_boolean)
  obtain ⟨p25, c25, k25, a25, e25, b25, d25, f25⟩ := Cond.arrayOver_spec (hw _ (ow_in _ (List.mem_of_getElem? (i := 0) rfl)))
  obtain ⟨p26, c26, k26, a26, e26, b26, d26, f26⟩ := Cond.arrayOver_spec (hw _ (ow_in _ (List.mem_of_getElem? (i := 1) rfl)))
  obtain ⟨adK, adV, hS, hev⟩ := vk_Sof (args := #[Value.ref b]) (s := s) (N := 1) (tm := fun _ => tmS) (len := [147]) (byt := [m_str]) (A := fun q : Nat => s.heap.size ≤ q)
    (fun i hi => by have : i = 0 := by omega
                    subst this; decide)
    (fun i hi => hs _ (by decide +kernel)) (fun i hi => hs _ (by decide +kernel)) (fun i hi => hs _ (by decide +kernel))
    (fun i hi => by have : i = 0 := by omega
                    subst this; exact hs _ (by decide +kernel))
    (fun i hi => by
      have : i = 0 := by omega
      subst this
      have hm : ∀ j, j < 147 → Cond.eq (.elem tmV (.int (Int32.ofNat j))) (.int (m_str.getD j 0)) ∈ flatC (Jvm.Cond.and given_1 narrow_1) := by decide +kernel
      exact fun j hj => hs _ (hm j hj))
    (fun i j hi hj hne => absurd (by omega) hne) hA
  refine ⟨((fun c => (fC c).1, fun c => (fC c).2), fun k => if k = 20 then c20 else if k = 21 then c21 else if k = 22 then c22 else if k = 23 then c23 else if k = 24 then c24 else if k = 25 then c25 else c26, s.heap, l), rfl, rfl, ⟨fun c q hq => ?_, fun k q hk => ?_⟩, fun q hq => va_Nw.of rfl (hw _ (on_in q hq)), ⟨adK, adV, vk_R.of (hw _ (ow_in _ (List.mem_of_getElem? (i := 2) rfl))) (hev 0 (by decide)), hS⟩, ⟨va_Zof (hw _ (ow_in _ (List.mem_of_getElem? (i := 3) rfl))) (ht _ (tw_c 3 sw_5k rfl)) (va_eqt (hs _ (by decide +kernel))) hA, va_Zqof (hw _ (ow_in _ (List.mem_of_getElem? (i := 4) rfl))) (ht _ (tw_c 5 sw_5k rfl)) (hs _ (by decide +kernel)) hA⟩, va_AO.of (hw _ (ow_in _ (List.mem_of_getElem? (i := 0) rfl))), va_AO.of (hw _ (ow_in _ (List.mem_of_getElem? (i := 1) rfl)))⟩
  · have h13 : c < 13 := (List.getElem?_eq_some_iff.mp hq).1
    rw [(m_cls_of h13).1] at hq
    cases hq
    exact hfC c h13
  · have h7 : k < 7 := (List.getElem?_eq_some_iff.mp hk).1
    rcases (by omega : k = 0 ∨ k = 1 ∨ k = 2 ∨ k = 3 ∨ k = 4 ∨ k = 5 ∨ k = 6) with z | z | z | z | z | z | z <;> subst z <;> cases hk
    · exact ⟨fun n z => ⟨fun k h => (by cases h), k20, b20, p20, d20⟩, a20⟩
    · exact ⟨fun n z => ⟨fun k h => (by cases h), k21, b21, p21, d21⟩, a21⟩
    · exact ⟨fun n z => ⟨fun k h => (by cases h), k22, b22, p22, d22⟩, a22⟩
    · exact ⟨fun n z => ⟨fun k h => (by cases h), k23, b23, p23, d23⟩, a23⟩
    · exact ⟨fun n z => ⟨fun k h => (by cases h), k24, b24, p24, d24⟩, a24⟩
    · exact ⟨fun n z => ⟨fun k h => (by cases h), k25, b25, p25, d25⟩, k25, p25, b25, d25, a25, f25⟩
    · exact ⟨fun n z => ⟨fun k h => (by cases h), k26, b26, p26, d26⟩, k26, p26, b26, d26, a26, f26⟩
end GK7
