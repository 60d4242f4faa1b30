/-! the judgement over the small machine, and a row for each plain instruction -/
def m_tx : String := "slope by steep iron fence row age stake walks roots tide year left number field cut first below or and not all min max last often total most least "
def m_str : List Int32 := [115, 108, 111, 112, 101, 32, 98, 121, 32, 115, 116, 101, 101, 112, 32, 105, 114, 111, 110, 32, 102, 101, 110, 99, 101, 32, 114, 111, 119, 32, 97, 103, 101, 32, 115, 116, 97, 107, 101, 32, 119, 97, 108, 107, 115, 32, 114, 111, 111, 116, 115, 32, 116, 105, 100, 101, 32, 121, 101, 97, 114, 32, 108, 101, 102, 116, 32, 110, 117, 109, 98, 101, 114, 32, 102, 105, 101, 108, 100, 32, 99, 117, 116, 32, 102, 105, 114, 115, 116, 32, 98, 101, 108, 111, 119, 32, 111, 114, 32, 97, 110, 100, 32, 110, 111, 116, 32, 97, 108, 108, 32, 109, 105, 110, 32, 109, 97, 120, 32, 108, 97, 115, 116, 32, 111, 102, 116, 101, 110, 32, 116, 111, 116, 97, 108, 32, 109, 111, 115, 116, 32, 108, 101, 97, 115, 116, 32]
/-- what the tables say, beside the words: classes, array classes, nest mates, the one String constant, one static -/
def m_K (G : MG) (U : State) : Prop := va_K G.1 vwCl (m_tys G.2.1) U ∧ (∀ q ∈ m_nest, va_Nw (.methodLinkNest q.1 q.2.1 q.2.2 "WalkFence") U) ∧ (∃ adK adV : Nat → Nat, vk_R "WalkFence$Reader" 131 m_tx (adK 0) U ∧ vk_S 1 [147] [m_str] adK adV (fun q => G.2.2.1.size ≤ q) U G.2.2.1) ∧ (va_Z "java/lang/String" "COMPACT_STRINGS" "Z" (.int 1) (fun q => G.2.2.1.size ≤ q) U G.2.2.1 ∧ va_Zq "jdk/internal/util/Preconditions" "SIOOBE_FORMATTER" "Ljava/util/function/BiFunction;" (fun q => G.2.2.1.size ≤ q) U G.2.2.1) ∧ va_AO RX3 U ∧ va_AO RX4 U
theorem m_K.warm {G : MG} {s U : State} (hW : s.WarmedH U.vm) (h : m_K G s) : m_K G U := by
  obtain ⟨h1, h2, ⟨adK, adV, h3, h4⟩, h5, h6, h7⟩ := h
  exact ⟨va_K.moved hW.alike h1, fun q hq => va_Nw.warmM hW (h2 q hq), ⟨adK, adV, vk_R.warm hW h3, vk_S.moved hW.alike h4⟩, ⟨va_Z.moved hW.alike h5.1, va_Zq.moved hW.alike h5.2⟩, va_AO.moved hW.alike h6, va_AO.moved hW.alike h7⟩
theorem m_K.same {G : MG} {s U : State} (hv : U.vm = s.vm) (h : m_K G s) : m_K G U := by
  obtain ⟨h1, h2, ⟨adK, adV, h3, h4⟩, h5, h6, h7⟩ := h
  have ha : s.vm.Alike U.vm := by rw [hv]; exact Vm.Alike.refl _
  exact ⟨va_K.moved ha h1, fun q hq => va_Nw.same rfl hv.symm (h2 q hq), ⟨adK, adV, vk_R.same hv h3, vk_S.moved ha h4⟩, ⟨va_Z.moved ha h5.1, va_Zq.moved ha h5.2⟩, va_AO.moved ha h6, va_AO.moved ha h7⟩
def m_Q (G : MG) (Q : Option MV → MS → Prop) : Array Value → State → Outcome → State → Prop := fun _ _ o t => ∃ (r : Option MV) (S : MS), o = .returned (r.map (m_val G.2.2.1.size)) ∧ Q r S ∧ m_at G S t.heap ∧ m_K G t ∧ ∀ v, r = some v → m_ok S.1 v
def m_Cs (G : MG) (M : MM) (p : Program) (s : State) (m : MethodId) (args : Array Value) (meth : Method) (c : Code) : Prop :=
  p.tables.exec = Jvm.exec ∧ c.code = M.2.1 ∧ c.maxLocals = M.2.2.1 ∧ s.vm.findClass (m_cn M.1) = some m.cls ∧ (∀ w ∈ tw, w.before args s = true) ∧ meth.sig.returnType = M.2.2.2.1 ∧ meth.locks = false ∧ (M.2.2.2.2 = true → meth.name = "<init>") ∧ m_K G s
def m_Cx (G : MG) (R : Room) (M : MM) (rc rs : Nat) (ls : ML) (st : List MV) (S : MS) (p : Program) (s : State) (m : MethodId) (args : Array Value) (meth : Method) (c : Code) (H : Heap) (locs : List Loc) (cells slots : Nat) (A : Array Slot) : Prop :=
  m_Cs G M p s m args meth c ∧ m_at G S H ∧ (∀ q ∈ locs, G.2.2.1.size ≤ q.base) ∧ (cells + rc = R.cells ∧ slots + rs = R.slots) ∧ m_has G.2.2.1.size A M.2.2.1 ls ∧ (∀ v ∈ st, m_ok S.1 v) ∧ ∀ i v, m_get ls i = some v → m_ok S.1 v
def m_B (G : MG) (R : Room) (M : MM) (Q : Option MV → MS → Prop) (rc rs pc : Nat) (ls : ML) (st : List MV) (S : MS) : Prop :=
  ∀ (p : Program) (e : Env) (s : State) (m : MethodId) (args : Array Value) (below : List Frame) (meth : Method) (c : Code) (H : Heap) (locs : List Loc) (cells slots : Nat) (A : Array Slot),
    m_Cx G R M rc rs ls st S p s m args meth c H locs cells slots A → W p G.2.2.2 e R s m args below meth c H locs cells slots (MQ below (m_Q G Q) args s R.cells R.slots (fun q => G.2.2.1.size ≤ q)) (F0 m pc A (st.map (m_val G.2.2.1.size)))
section MB
variable {G : MG} {R : Room} {M : MM} {Q : Option MV → MS → Prop} {rc rs pc : Nat} {ls : ML} {st : List MV} {S : MS}
theorem ok_cons {L : List (Nat × Nat)} {a : MV} {st : List MV} (h : m_ok L a) (ht : ∀ v ∈ st, m_ok L v) : ∀ v ∈ a :: st, m_ok L v := fun v hv => (List.mem_cons.mp hv).elim (fun e => by rw [e]; exact h) (ht v)
theorem ok_tl {L : List (Nat × Nat)} {a : MV} {st : List MV} (h : ∀ v ∈ a :: st, m_ok L v) : ∀ v ∈ st, m_ok L v := fun v hv => h v (List.mem_cons_of_mem _ hv)
theorem ok_hd {L : List (Nat × Nat)} {a : MV} {st : List MV} (h : ∀ v ∈ a :: st, m_ok L v) : m_ok L a := h a List.mem_cons_self
theorem ok_st1 {L : List (Nat × Nat)} {l : ML} {i : Nat} {v : MV} (h : m_ok L v) (hl : ∀ i v, m_get l i = some v → m_ok L v) : ∀ j w, m_get (m_st1 l i v) j = some w → m_ok L w := fun j w hw => by
  rcases m_st1_spec l i v j w hw with ⟨-, h2⟩ | ⟨-, h2, -⟩
  · rw [h2]; exact h
  · exact hl j w h2
theorem ok_st2 {L : List (Nat × Nat)} {l : ML} {i : Nat} {v : MV} (h : m_ok L v) (hl : ∀ i v, m_get l i = some v → m_ok L v) : ∀ j w, m_get (m_st2 l i v) j = some w → m_ok L w := fun j w hw => by
  rcases m_st2_spec l i v j w hw with ⟨-, h2⟩ | ⟨-, -, h2, -⟩
  · rw [h2]; exact h
  · exact hl j w h2

theorem b_iconst {n : Int} {v : Int32} (hd : decode M.2.1 pc = .ok (.iconst n, 1)) (hv : Int32.ofInt n = v) (h : m_B G R M Q rc rs (pc + 1) ls (mI v :: st) S) : m_B G R M Q rc rs pc ls (st) S := by
  intro p e s m args below meth c H locs cells slots A X
  obtain ⟨hC, hat, hlo, hcs, hl, ho1, ho2⟩ := X
  obtain ⟨hx, hb, hml, hown, hts, hr, hlk, hin, hKK⟩ := id hC
  have hK := hKK.1
  exact lv_iconst hx hb hd hv (h p e s m args below meth c H locs cells slots A ⟨hC, hat, hlo, hcs, hl, ok_cons (m_okI _) ho1, ho2⟩)
theorem b_bipush {n : Int} {v : Int32} (hd : decode M.2.1 pc = .ok (.bipush n, 2)) (hv : (Int8.ofInt n).toInt32 = v) (h : m_B G R M Q rc rs (pc + 2) ls (mI v :: st) S) : m_B G R M Q rc rs pc ls (st) S := by
  intro p e s m args below meth c H locs cells slots A X
  obtain ⟨hC, hat, hlo, hcs, hl, ho1, ho2⟩ := X
  obtain ⟨hx, hb, hml, hown, hts, hr, hlk, hin, hKK⟩ := id hC
  have hK := hKK.1
  exact lv_bipush hx hb hd hv (h p e s m args below meth c H locs cells slots A ⟨hC, hat, hlo, hcs, hl, ok_cons (m_okI _) ho1, ho2⟩)
theorem b_sipush {n : Int} {v : Int32} (hd : decode M.2.1 pc = .ok (.sipush n, 3)) (hv : (Int16.ofInt n).toInt32 = v) (h : m_B G R M Q rc rs (pc + 3) ls (mI v :: st) S) : m_B G R M Q rc rs pc ls (st) S := by
  intro p e s m args below meth c H locs cells slots A X
  obtain ⟨hC, hat, hlo, hcs, hl, ho1, ho2⟩ := X
  obtain ⟨hx, hb, hml, hown, hts, hr, hlk, hin, hKK⟩ := id hC
  have hK := hKK.1
  exact lv_sipush hx hb hd hv (h p e s m args below meth c H locs cells slots A ⟨hC, hat, hlo, hcs, hl, ok_cons (m_okI _) ho1, ho2⟩)
theorem b_lconst {n : Fin 2} {v : Int64} (hd : decode M.2.1 pc = .ok (.lconst n, 1)) (hv : Int64.ofNat n = v) (h : m_B G R M Q rc rs (pc + 1) ls (mJ v :: st) S) : m_B G R M Q rc rs pc ls (st) S := by
  intro p e s m args below meth c H locs cells slots A X
  obtain ⟨hC, hat, hlo, hcs, hl, ho1, ho2⟩ := X
  obtain ⟨hx, hb, hml, hown, hts, hr, hlk, hin, hKK⟩ := id hC
  have hK := hKK.1
  exact lv_lconst hx hb hd hv (h p e s m args below meth c H locs cells slots A ⟨hC, hat, hlo, hcs, hl, ok_cons (m_okJ _) ho1, ho2⟩)
theorem b_null  (hd : decode M.2.1 pc = .ok (.aconst_null, 1))  (h : m_B G R M Q rc rs (pc + 1) ls (mN :: st) S) : m_B G R M Q rc rs pc ls (st) S := by
  intro p e s m args below meth c H locs cells slots A X
  obtain ⟨hC, hat, hlo, hcs, hl, ho1, ho2⟩ := X
  obtain ⟨hx, hb, hml, hown, hts, hr, hlk, hin, hKK⟩ := id hC
  have hK := hKK.1
  exact lv_null hx hb hd (h p e s m args below meth c H locs cells slots A ⟨hC, hat, hlo, hcs, hl, ok_cons m_okN ho1, ho2⟩)
theorem b_ldc {k : Nat} {v : Int32} (hd : decode M.2.1 pc = .ok (.ldc k, 2)) (hv : (M.1, k, v) ∈ m_cI) (h : m_B G R M Q rc rs (pc + 2) ls (mI v :: st) S) : m_B G R M Q rc rs pc ls (st) S := by
  intro p e s m args below meth c H locs cells slots A X
  obtain ⟨hC, hat, hlo, hcs, hl, ho1, ho2⟩ := X
  obtain ⟨hx, hb, hml, hown, hts, hr, hlk, hin, hKK⟩ := id hC
  have hK := hKK.1
  exact lv_ldc hx hb hown (hts _ (m_cI_tw _ (List.mem_map_of_mem (f := fun q => Cond.constant (m_cn q.1) q.2.1 q.2.2) hv))) hd (h p e s m args below meth c H locs cells slots A ⟨hC, hat, hlo, hcs, hl, ok_cons (m_okI _) ho1, ho2⟩)
theorem b_ldcw {k : Nat} {v : Int32} (hd : decode M.2.1 pc = .ok (.ldc_w k, 3)) (hv : (M.1, k, v) ∈ m_cI) (h : m_B G R M Q rc rs (pc + 3) ls (mI v :: st) S) : m_B G R M Q rc rs pc ls (st) S := by
  intro p e s m args below meth c H locs cells slots A X
  obtain ⟨hC, hat, hlo, hcs, hl, ho1, ho2⟩ := X
  obtain ⟨hx, hb, hml, hown, hts, hr, hlk, hin, hKK⟩ := id hC
  have hK := hKK.1
  exact lv_ldcw hx hb hown (hts _ (m_cI_tw _ (List.mem_map_of_mem (f := fun q => Cond.constant (m_cn q.1) q.2.1 q.2.2) hv))) hd (h p e s m args below meth c H locs cells slots A ⟨hC, hat, hlo, hcs, hl, ok_cons (m_okI _) ho1, ho2⟩)
theorem b_ldc2 {k : Nat} {v : Int64} (hd : decode M.2.1 pc = .ok (.ldc2_w k, 3)) (hv : (M.1, k, v) ∈ m_cJ) (h : m_B G R M Q rc rs (pc + 3) ls (mJ v :: st) S) : m_B G R M Q rc rs pc ls (st) S := by
  intro p e s m args below meth c H locs cells slots A X
  obtain ⟨hC, hat, hlo, hcs, hl, ho1, ho2⟩ := X
  obtain ⟨hx, hb, hml, hown, hts, hr, hlk, hin, hKK⟩ := id hC
  have hK := hKK.1
  exact lv_ldc2 hx hb hown (hts _ (m_cJ_tw _ (List.mem_map_of_mem (f := fun q => Cond.constantLong (m_cn q.1) q.2.1 q.2.2) hv))) hd (h p e s m args below meth c H locs cells slots A ⟨hC, hat, hlo, hcs, hl, ok_cons (m_okJ _) ho1, ho2⟩)
theorem b_iload_n {k : Fin 4} {x : Int32} (hd : decode M.2.1 pc = .ok (.iload_n k, 1)) (hg : m_get ls k = some (mI x)) (h : m_B G R M Q rc rs (pc + 1) ls (mI x :: st) S) : m_B G R M Q rc rs pc ls (st) S := by
  intro p e s m args below meth c H locs cells slots A X
  obtain ⟨hC, hat, hlo, hcs, hl, ho1, ho2⟩ := X
  obtain ⟨hx, hb, hml, hown, hts, hr, hlk, hin, hKK⟩ := id hC
  have hK := hKK.1
  exact lv_iload_n hx hb hd rfl (hl.2.2 _ _ hg) (h p e s m args below meth c H locs cells slots A ⟨hC, hat, hlo, hcs, hl, ok_cons (m_okI _) ho1, ho2⟩)
theorem b_iload {k : Nat} {x : Int32} (hd : decode M.2.1 pc = .ok (.iload k, 2)) (hg : m_get ls k = some (mI x)) (h : m_B G R M Q rc rs (pc + 2) ls (mI x :: st) S) : m_B G R M Q rc rs pc ls (st) S := by
  intro p e s m args below meth c H locs cells slots A X
  obtain ⟨hC, hat, hlo, hcs, hl, ho1, ho2⟩ := X
  obtain ⟨hx, hb, hml, hown, hts, hr, hlk, hin, hKK⟩ := id hC
  have hK := hKK.1
  exact lv_iload hx hb hd (hl.2.2 _ _ hg) (h p e s m args below meth c H locs cells slots A ⟨hC, hat, hlo, hcs, hl, ok_cons (m_okI _) ho1, ho2⟩)
theorem b_lload_n {k : Fin 4} {x : Int64} (hd : decode M.2.1 pc = .ok (.lload_n k, 1)) (hg : m_get ls k = some (mJ x)) (h : m_B G R M Q rc rs (pc + 1) ls (mJ x :: st) S) : m_B G R M Q rc rs pc ls (st) S := by
  intro p e s m args below meth c H locs cells slots A X
  obtain ⟨hC, hat, hlo, hcs, hl, ho1, ho2⟩ := X
  obtain ⟨hx, hb, hml, hown, hts, hr, hlk, hin, hKK⟩ := id hC
  have hK := hKK.1
  exact lv_lload_n hx hb hd rfl (hl.2.2 _ _ hg) (h p e s m args below meth c H locs cells slots A ⟨hC, hat, hlo, hcs, hl, ok_cons (m_okJ _) ho1, ho2⟩)
theorem b_lload {k : Nat} {x : Int64} (hd : decode M.2.1 pc = .ok (.lload k, 2)) (hg : m_get ls k = some (mJ x)) (h : m_B G R M Q rc rs (pc + 2) ls (mJ x :: st) S) : m_B G R M Q rc rs pc ls (st) S := by
  intro p e s m args below meth c H locs cells slots A X
  obtain ⟨hC, hat, hlo, hcs, hl, ho1, ho2⟩ := X
  obtain ⟨hx, hb, hml, hown, hts, hr, hlk, hin, hKK⟩ := id hC
  have hK := hKK.1
  exact lv_lload hx hb hd (hl.2.2 _ _ hg) (h p e s m args below meth c H locs cells slots A ⟨hC, hat, hlo, hcs, hl, ok_cons (m_okJ _) ho1, ho2⟩)
theorem b_aload_n {k : Fin 4} {r : Option MRef} (hd : decode M.2.1 pc = .ok (.aload_n k, 1)) (hg : m_get ls k = some (.inr r)) (h : m_B G R M Q rc rs (pc + 1) ls (.inr r :: st) S) : m_B G R M Q rc rs pc ls st S := by
  intro p e s m args below meth c H locs cells slots A X
  obtain ⟨hC, hat, hlo, hcs, hl, ho1, ho2⟩ := X
  obtain ⟨hx, hb, hml, hown, hts, hr, hlk, hin, hKK⟩ := id hC
  have hK := hKK.1
  have hh := h p e s m args below meth c H locs cells slots A ⟨hC, hat, hlo, hcs, hl, ok_cons (ho2 _ _ hg) ho1, ho2⟩
  have hg2 := hl.2.2 _ _ hg
  cases r with
  | none => exact lv_aload_nN hx hb hd rfl hg2 hh
  | some r => exact lv_aload_n hx hb hd rfl hg2 hh
theorem b_aload {k : Nat} {r : Option MRef} (hd : decode M.2.1 pc = .ok (.aload k, 2)) (hg : m_get ls k = some (.inr r)) (h : m_B G R M Q rc rs (pc + 2) ls (.inr r :: st) S) : m_B G R M Q rc rs pc ls st S := by
  intro p e s m args below meth c H locs cells slots A X
  obtain ⟨hC, hat, hlo, hcs, hl, ho1, ho2⟩ := X
  obtain ⟨hx, hb, hml, hown, hts, hr, hlk, hin, hKK⟩ := id hC
  have hK := hKK.1
  have hh := h p e s m args below meth c H locs cells slots A ⟨hC, hat, hlo, hcs, hl, ok_cons (ho2 _ _ hg) ho1, ho2⟩
  have hg2 := hl.2.2 _ _ hg
  cases r with
  | none => exact lv_aloadN hx hb hd hg2 hh
  | some r => exact lv_aload hx hb hd hg2 hh
theorem b_istore_n {k : Fin 4} {x : Int32} (hd : decode M.2.1 pc = .ok (.istore_n k, 1)) (hn : (k : Nat) < M.2.2.1) (h : m_B G R M Q rc rs (pc + 1) (m_st1 ls k (mI x)) st S) : m_B G R M Q rc rs pc ls (mI x :: st) S := by
  intro p e s m args below meth c H locs cells slots A X
  obtain ⟨hC, hat, hlo, hcs, hl, ho1, ho2⟩ := X
  obtain ⟨hx, hb, hml, hown, hts, hr, hlk, hin, hKK⟩ := id hC
  have hK := hKK.1
  exact lv_istore_n hx hb hd rfl (m_has_lv hl) hn rfl (fun A2 hA2 => h p e s m args below meth c H locs cells slots A2 ⟨hC, hat, hlo, hcs, m_has_st1 hl hA2, ok_tl ho1, ok_st1 (ok_hd ho1) ho2⟩)
theorem b_istore {k : Nat} {x : Int32} (hd : decode M.2.1 pc = .ok (.istore k, 2)) (hn : (k : Nat) < M.2.2.1) (h : m_B G R M Q rc rs (pc + 2) (m_st1 ls k (mI x)) st S) : m_B G R M Q rc rs pc ls (mI x :: st) S := by
  intro p e s m args below meth c H locs cells slots A X
  obtain ⟨hC, hat, hlo, hcs, hl, ho1, ho2⟩ := X
  obtain ⟨hx, hb, hml, hown, hts, hr, hlk, hin, hKK⟩ := id hC
  have hK := hKK.1
  exact lv_istore hx hb hd (m_has_lv hl) hn rfl (fun A2 hA2 => h p e s m args below meth c H locs cells slots A2 ⟨hC, hat, hlo, hcs, m_has_st1 hl hA2, ok_tl ho1, ok_st1 (ok_hd ho1) ho2⟩)
theorem b_lstore_n {k : Fin 4} {x : Int64} (hd : decode M.2.1 pc = .ok (.lstore_n k, 1)) (hn : (k : Nat) + 1 < M.2.2.1) (h : m_B G R M Q rc rs (pc + 1) (m_st2 ls k (mJ x)) st S) : m_B G R M Q rc rs pc ls (mJ x :: st) S := by
  intro p e s m args below meth c H locs cells slots A X
  obtain ⟨hC, hat, hlo, hcs, hl, ho1, ho2⟩ := X
  obtain ⟨hx, hb, hml, hown, hts, hr, hlk, hin, hKK⟩ := id hC
  have hK := hKK.1
  exact lv_lstore_n hx hb hd rfl (m_has_lv hl) hn rfl (fun A2 hA2 => h p e s m args below meth c H locs cells slots A2 ⟨hC, hat, hlo, hcs, m_has_st2 hl hA2, ok_tl ho1, ok_st2 (ok_hd ho1) ho2⟩)
theorem b_lstore {k : Nat} {x : Int64} (hd : decode M.2.1 pc = .ok (.lstore k, 2)) (hn : (k : Nat) + 1 < M.2.2.1) (h : m_B G R M Q rc rs (pc + 2) (m_st2 ls k (mJ x)) st S) : m_B G R M Q rc rs pc ls (mJ x :: st) S := by
  intro p e s m args below meth c H locs cells slots A X
  obtain ⟨hC, hat, hlo, hcs, hl, ho1, ho2⟩ := X
  obtain ⟨hx, hb, hml, hown, hts, hr, hlk, hin, hKK⟩ := id hC
  have hK := hKK.1
  exact lv_lstore hx hb hd (m_has_lv hl) hn rfl (fun A2 hA2 => h p e s m args below meth c H locs cells slots A2 ⟨hC, hat, hlo, hcs, m_has_st2 hl hA2, ok_tl ho1, ok_st2 (ok_hd ho1) ho2⟩)
theorem b_astore_n {k : Fin 4} {r : Option MRef} (hd : decode M.2.1 pc = .ok (.astore_n k, 1)) (hn : (k : Nat) < M.2.2.1) (h : m_B G R M Q rc rs (pc + 1) (m_st1 ls k (.inr r)) st S) : m_B G R M Q rc rs pc ls (.inr r :: st) S := by
  intro p e s m args below meth c H locs cells slots A X
  obtain ⟨hC, hat, hlo, hcs, hl, ho1, ho2⟩ := X
  obtain ⟨hx, hb, hml, hown, hts, hr, hlk, hin, hKK⟩ := id hC
  have hK := hKK.1
  cases r with
  | none => exact lv_astore_nN hx hb hd rfl (m_has_lv hl) hn rfl (fun A2 hA2 => h p e s m args below meth c H locs cells slots A2 ⟨hC, hat, hlo, hcs, m_has_st1 hl hA2, ok_tl ho1, ok_st1 (ok_hd ho1) ho2⟩)
  | some r => exact lv_astore_n hx hb hd rfl (m_has_lv hl) hn rfl (fun A2 hA2 => h p e s m args below meth c H locs cells slots A2 ⟨hC, hat, hlo, hcs, m_has_st1 hl hA2, ok_tl ho1, ok_st1 (ok_hd ho1) ho2⟩)
theorem b_astore {k : Nat} {r : Option MRef} (hd : decode M.2.1 pc = .ok (.astore k, 2)) (hn : (k : Nat) < M.2.2.1) (h : m_B G R M Q rc rs (pc + 2) (m_st1 ls k (.inr r)) st S) : m_B G R M Q rc rs pc ls (.inr r :: st) S := by
  intro p e s m args below meth c H locs cells slots A X
  obtain ⟨hC, hat, hlo, hcs, hl, ho1, ho2⟩ := X
  obtain ⟨hx, hb, hml, hown, hts, hr, hlk, hin, hKK⟩ := id hC
  have hK := hKK.1
  cases r with
  | none => exact lv_astoreN hx hb hd (m_has_lv hl) hn rfl (fun A2 hA2 => h p e s m args below meth c H locs cells slots A2 ⟨hC, hat, hlo, hcs, m_has_st1 hl hA2, ok_tl ho1, ok_st1 (ok_hd ho1) ho2⟩)
  | some r => exact lv_astore hx hb hd (m_has_lv hl) hn rfl (fun A2 hA2 => h p e s m args below meth c H locs cells slots A2 ⟨hC, hat, hlo, hcs, m_has_st1 hl hA2, ok_tl ho1, ok_st1 (ok_hd ho1) ho2⟩)
theorem b_iinc {k : Nat} {n : Int} {x v : Int32} (hd : decode M.2.1 pc = .ok (.iinc k n, 3)) (hn : k < M.2.2.1) (hv : Int32.ofInt n = v) (hg : m_get ls k = some (mI x)) (h : m_B G R M Q rc rs (pc + 3) (m_st1 ls k (mI (x + v))) st S) : m_B G R M Q rc rs pc ls st S := by
  intro p e s m args below meth c H locs cells slots A X
  obtain ⟨hC, hat, hlo, hcs, hl, ho1, ho2⟩ := X
  obtain ⟨hx, hb, hml, hown, hts, hr, hlk, hin, hKK⟩ := id hC
  have hK := hKK.1
  obtain ⟨j, hj⟩ := List.getElem?_of_mem (m_lv_mem G.2.2.1.size ls 0 k _ hg)
  rw [Nat.zero_add] at hj
  exact lv_iinc (v := x + v) hx hb hd (m_has_lv hl) hj (by rw [hv]) hn rfl (fun A2 hA2 => h p e s m args below meth c H locs cells slots A2 ⟨hC, hat, hlo, hcs, m_has_st1 hl hA2, ho1, ok_st1 (m_okI _) ho2⟩)
theorem b_iadd {x y : Int32} (hd : decode M.2.1 pc = .ok (.iadd, 1))  (h : m_B G R M Q rc rs (pc + 1) ls (mI (x + y) :: st) S) : m_B G R M Q rc rs pc ls (mI y :: mI x :: st) S := by
  intro p e s m args below meth c H locs cells slots A X
  obtain ⟨hC, hat, hlo, hcs, hl, ho1, ho2⟩ := X
  obtain ⟨hx, hb, hml, hown, hts, hr, hlk, hin, hKK⟩ := id hC
  have hK := hKK.1
  exact lv_iadd hx hb hd (h p e s m args below meth c H locs cells slots A ⟨hC, hat, hlo, hcs, hl, ok_cons (m_okI _) (ok_tl (ok_tl ho1)), ho2⟩)
theorem b_isub {x y : Int32} (hd : decode M.2.1 pc = .ok (.isub, 1))  (h : m_B G R M Q rc rs (pc + 1) ls (mI (x - y) :: st) S) : m_B G R M Q rc rs pc ls (mI y :: mI x :: st) S := by
  intro p e s m args below meth c H locs cells slots A X
  obtain ⟨hC, hat, hlo, hcs, hl, ho1, ho2⟩ := X
  obtain ⟨hx, hb, hml, hown, hts, hr, hlk, hin, hKK⟩ := id hC
  have hK := hKK.1
  exact lv_isub hx hb hd (h p e s m args below meth c H locs cells slots A ⟨hC, hat, hlo, hcs, hl, ok_cons (m_okI _) (ok_tl (ok_tl ho1)), ho2⟩)
theorem b_imul {x y : Int32} (hd : decode M.2.1 pc = .ok (.imul, 1))  (h : m_B G R M Q rc rs (pc + 1) ls (mI (x * y) :: st) S) : m_B G R M Q rc rs pc ls (mI y :: mI x :: st) S := by
  intro p e s m args below meth c H locs cells slots A X
  obtain ⟨hC, hat, hlo, hcs, hl, ho1, ho2⟩ := X
  obtain ⟨hx, hb, hml, hown, hts, hr, hlk, hin, hKK⟩ := id hC
  have hK := hKK.1
  exact lv_imul hx hb hd (h p e s m args below meth c H locs cells slots A ⟨hC, hat, hlo, hcs, hl, ok_cons (m_okI _) (ok_tl (ok_tl ho1)), ho2⟩)
theorem b_iand {x y : Int32} (hd : decode M.2.1 pc = .ok (.iand, 1))  (h : m_B G R M Q rc rs (pc + 1) ls (mI (x &&& y) :: st) S) : m_B G R M Q rc rs pc ls (mI y :: mI x :: st) S := by
  intro p e s m args below meth c H locs cells slots A X
  obtain ⟨hC, hat, hlo, hcs, hl, ho1, ho2⟩ := X
  obtain ⟨hx, hb, hml, hown, hts, hr, hlk, hin, hKK⟩ := id hC
  have hK := hKK.1
  exact lv_iand hx hb hd (h p e s m args below meth c H locs cells slots A ⟨hC, hat, hlo, hcs, hl, ok_cons (m_okI _) (ok_tl (ok_tl ho1)), ho2⟩)
theorem b_ior {x y : Int32} (hd : decode M.2.1 pc = .ok (.ior, 1))  (h : m_B G R M Q rc rs (pc + 1) ls (mI (x ||| y) :: st) S) : m_B G R M Q rc rs pc ls (mI y :: mI x :: st) S := by
  intro p e s m args below meth c H locs cells slots A X
  obtain ⟨hC, hat, hlo, hcs, hl, ho1, ho2⟩ := X
  obtain ⟨hx, hb, hml, hown, hts, hr, hlk, hin, hKK⟩ := id hC
  have hK := hKK.1
  exact lv_ior hx hb hd (h p e s m args below meth c H locs cells slots A ⟨hC, hat, hlo, hcs, hl, ok_cons (m_okI _) (ok_tl (ok_tl ho1)), ho2⟩)
theorem b_ixor {x y : Int32} (hd : decode M.2.1 pc = .ok (.ixor, 1))  (h : m_B G R M Q rc rs (pc + 1) ls (mI (x ^^^ y) :: st) S) : m_B G R M Q rc rs pc ls (mI y :: mI x :: st) S := by
  intro p e s m args below meth c H locs cells slots A X
  obtain ⟨hC, hat, hlo, hcs, hl, ho1, ho2⟩ := X
  obtain ⟨hx, hb, hml, hown, hts, hr, hlk, hin, hKK⟩ := id hC
  have hK := hKK.1
  exact lv_ixor hx hb hd (h p e s m args below meth c H locs cells slots A ⟨hC, hat, hlo, hcs, hl, ok_cons (m_okI _) (ok_tl (ok_tl ho1)), ho2⟩)
theorem b_ishl {x y : Int32} (hd : decode M.2.1 pc = .ok (.ishl, 1))  (h : m_B G R M Q rc rs (pc + 1) ls (mI (x <<< (y &&& 31)) :: st) S) : m_B G R M Q rc rs pc ls (mI y :: mI x :: st) S := by
  intro p e s m args below meth c H locs cells slots A X
  obtain ⟨hC, hat, hlo, hcs, hl, ho1, ho2⟩ := X
  obtain ⟨hx, hb, hml, hown, hts, hr, hlk, hin, hKK⟩ := id hC
  have hK := hKK.1
  exact lv_ishl hx hb hd (h p e s m args below meth c H locs cells slots A ⟨hC, hat, hlo, hcs, hl, ok_cons (m_okI _) (ok_tl (ok_tl ho1)), ho2⟩)
theorem b_ishr {x y : Int32} (hd : decode M.2.1 pc = .ok (.ishr, 1))  (h : m_B G R M Q rc rs (pc + 1) ls (mI (x >>> (y &&& 31)) :: st) S) : m_B G R M Q rc rs pc ls (mI y :: mI x :: st) S := by
  intro p e s m args below meth c H locs cells slots A X
  obtain ⟨hC, hat, hlo, hcs, hl, ho1, ho2⟩ := X
  obtain ⟨hx, hb, hml, hown, hts, hr, hlk, hin, hKK⟩ := id hC
  have hK := hKK.1
  exact lv_ishr hx hb hd (h p e s m args below meth c H locs cells slots A ⟨hC, hat, hlo, hcs, hl, ok_cons (m_okI _) (ok_tl (ok_tl ho1)), ho2⟩)
theorem b_iushr {x y : Int32} (hd : decode M.2.1 pc = .ok (.iushr, 1))  (h : m_B G R M Q rc rs (pc + 1) ls (mI ((x.toUInt32 >>> (y.toUInt32 &&& Int32.toUInt32 31)).toInt32) :: st) S) : m_B G R M Q rc rs pc ls (mI y :: mI x :: st) S := by
  intro p e s m args below meth c H locs cells slots A X
  obtain ⟨hC, hat, hlo, hcs, hl, ho1, ho2⟩ := X
  obtain ⟨hx, hb, hml, hown, hts, hr, hlk, hin, hKK⟩ := id hC
  have hK := hKK.1
  exact lv_iushr hx hb hd rfl (h p e s m args below meth c H locs cells slots A ⟨hC, hat, hlo, hcs, hl, ok_cons (m_okI _) (ok_tl (ok_tl ho1)), ho2⟩)
theorem b_idiv {x y : Int32} (hd : decode M.2.1 pc = .ok (.idiv, 1)) (hne : ¬ y = 0) (h : m_B G R M Q rc rs (pc + 1) ls (mI (x / y) :: st) S) : m_B G R M Q rc rs pc ls (mI y :: mI x :: st) S := by
  intro p e s m args below meth c H locs cells slots A X
  obtain ⟨hC, hat, hlo, hcs, hl, ho1, ho2⟩ := X
  obtain ⟨hx, hb, hml, hown, hts, hr, hlk, hin, hKK⟩ := id hC
  have hK := hKK.1
  exact lv_idiv hx hb hd hne (h p e s m args below meth c H locs cells slots A ⟨hC, hat, hlo, hcs, hl, ok_cons (m_okI _) (ok_tl (ok_tl ho1)), ho2⟩)
theorem b_irem {x y : Int32} (hd : decode M.2.1 pc = .ok (.irem, 1)) (hne : ¬ y = 0) (h : m_B G R M Q rc rs (pc + 1) ls (mI (x - x / y * y) :: st) S) : m_B G R M Q rc rs pc ls (mI y :: mI x :: st) S := by
  intro p e s m args below meth c H locs cells slots A X
  obtain ⟨hC, hat, hlo, hcs, hl, ho1, ho2⟩ := X
  obtain ⟨hx, hb, hml, hown, hts, hr, hlk, hin, hKK⟩ := id hC
  have hK := hKK.1
  exact lv_irem hx hb hd hne (h p e s m args below meth c H locs cells slots A ⟨hC, hat, hlo, hcs, hl, ok_cons (m_okI _) (ok_tl (ok_tl ho1)), ho2⟩)
theorem b_ladd {x y : Int64} (hd : decode M.2.1 pc = .ok (.ladd, 1))  (h : m_B G R M Q rc rs (pc + 1) ls (mJ (x + y) :: st) S) : m_B G R M Q rc rs pc ls (mJ y :: mJ x :: st) S := by
  intro p e s m args below meth c H locs cells slots A X
  obtain ⟨hC, hat, hlo, hcs, hl, ho1, ho2⟩ := X
  obtain ⟨hx, hb, hml, hown, hts, hr, hlk, hin, hKK⟩ := id hC
  have hK := hKK.1
  exact lv_ladd hx hb hd (h p e s m args below meth c H locs cells slots A ⟨hC, hat, hlo, hcs, hl, ok_cons (m_okJ _) (ok_tl (ok_tl ho1)), ho2⟩)
theorem b_lsub {x y : Int64} (hd : decode M.2.1 pc = .ok (.lsub, 1))  (h : m_B G R M Q rc rs (pc + 1) ls (mJ (x - y) :: st) S) : m_B G R M Q rc rs pc ls (mJ y :: mJ x :: st) S := by
  intro p e s m args below meth c H locs cells slots A X
  obtain ⟨hC, hat, hlo, hcs, hl, ho1, ho2⟩ := X
  obtain ⟨hx, hb, hml, hown, hts, hr, hlk, hin, hKK⟩ := id hC
  have hK := hKK.1
  exact lv_lsub hx hb hd (h p e s m args below meth c H locs cells slots A ⟨hC, hat, hlo, hcs, hl, ok_cons (m_okJ _) (ok_tl (ok_tl ho1)), ho2⟩)
theorem b_lmul {x y : Int64} (hd : decode M.2.1 pc = .ok (.lmul, 1))  (h : m_B G R M Q rc rs (pc + 1) ls (mJ (x * y) :: st) S) : m_B G R M Q rc rs pc ls (mJ y :: mJ x :: st) S := by
  intro p e s m args below meth c H locs cells slots A X
  obtain ⟨hC, hat, hlo, hcs, hl, ho1, ho2⟩ := X
  obtain ⟨hx, hb, hml, hown, hts, hr, hlk, hin, hKK⟩ := id hC
  have hK := hKK.1
  exact lv_lmul hx hb hd (h p e s m args below meth c H locs cells slots A ⟨hC, hat, hlo, hcs, hl, ok_cons (m_okJ _) (ok_tl (ok_tl ho1)), ho2⟩)
theorem b_ldiv {x y : Int64} (hd : decode M.2.1 pc = .ok (.ldiv, 1)) (hne : ¬ y = 0) (h : m_B G R M Q rc rs (pc + 1) ls (mJ (x / y) :: st) S) : m_B G R M Q rc rs pc ls (mJ y :: mJ x :: st) S := by
  intro p e s m args below meth c H locs cells slots A X
  obtain ⟨hC, hat, hlo, hcs, hl, ho1, ho2⟩ := X
  obtain ⟨hx, hb, hml, hown, hts, hr, hlk, hin, hKK⟩ := id hC
  have hK := hKK.1
  exact lv_ldiv hx hb hd hne (h p e s m args below meth c H locs cells slots A ⟨hC, hat, hlo, hcs, hl, ok_cons (m_okJ _) (ok_tl (ok_tl ho1)), ho2⟩)
theorem b_lrem {x y : Int64} (hd : decode M.2.1 pc = .ok (.lrem, 1)) (hne : ¬ y = 0) (h : m_B G R M Q rc rs (pc + 1) ls (mJ (x - x / y * y) :: st) S) : m_B G R M Q rc rs pc ls (mJ y :: mJ x :: st) S := by
  intro p e s m args below meth c H locs cells slots A X
  obtain ⟨hC, hat, hlo, hcs, hl, ho1, ho2⟩ := X
  obtain ⟨hx, hb, hml, hown, hts, hr, hlk, hin, hKK⟩ := id hC
  have hK := hKK.1
  exact lv_lrem hx hb hd hne (h p e s m args below meth c H locs cells slots A ⟨hC, hat, hlo, hcs, hl, ok_cons (m_okJ _) (ok_tl (ok_tl ho1)), ho2⟩)
theorem b_lcmp {x y : Int64} (hd : decode M.2.1 pc = .ok (.lcmp, 1))  (h : m_B G R M Q rc rs (pc + 1) ls (mI (lg_cmp x y) :: st) S) : m_B G R M Q rc rs pc ls (mJ y :: mJ x :: st) S := by
  intro p e s m args below meth c H locs cells slots A X
  obtain ⟨hC, hat, hlo, hcs, hl, ho1, ho2⟩ := X
  obtain ⟨hx, hb, hml, hown, hts, hr, hlk, hin, hKK⟩ := id hC
  have hK := hKK.1
  exact W.lcmp hx hb hd (h p e s m args below meth c H locs cells slots A ⟨hC, hat, hlo, hcs, hl, ok_cons (m_okI _) (ok_tl (ok_tl ho1)), ho2⟩)
theorem b_i2l {x : Int32} (hd : decode M.2.1 pc = .ok (.i2l, 1))  (h : m_B G R M Q rc rs (pc + 1) ls (mJ x.toInt64 :: st) S) : m_B G R M Q rc rs pc ls (mI x :: st) S := by
  intro p e s m args below meth c H locs cells slots A X
  obtain ⟨hC, hat, hlo, hcs, hl, ho1, ho2⟩ := X
  obtain ⟨hx, hb, hml, hown, hts, hr, hlk, hin, hKK⟩ := id hC
  have hK := hKK.1
  exact lv_i2l hx hb hd rfl (h p e s m args below meth c H locs cells slots A ⟨hC, hat, hlo, hcs, hl, ok_cons (m_okJ _) (ok_tl ho1), ho2⟩)
theorem b_i2b {x : Int32} (hd : decode M.2.1 pc = .ok (.i2b, 1))  (h : m_B G R M Q rc rs (pc + 1) ls (mI x.toInt8.toInt32 :: st) S) : m_B G R M Q rc rs pc ls (mI x :: st) S := by
  intro p e s m args below meth c H locs cells slots A X
  obtain ⟨hC, hat, hlo, hcs, hl, ho1, ho2⟩ := X
  obtain ⟨hx, hb, hml, hown, hts, hr, hlk, hin, hKK⟩ := id hC
  have hK := hKK.1
  exact lv_i2b hx hb hd rfl (h p e s m args below meth c H locs cells slots A ⟨hC, hat, hlo, hcs, hl, ok_cons (m_okI _) (ok_tl ho1), ho2⟩)
theorem b_i2c {x : Int32} (hd : decode M.2.1 pc = .ok (.i2c, 1))  (h : m_B G R M Q rc rs (pc + 1) ls (mI (x.toUInt32 % 65536).toInt32 :: st) S) : m_B G R M Q rc rs pc ls (mI x :: st) S := by
  intro p e s m args below meth c H locs cells slots A X
  obtain ⟨hC, hat, hlo, hcs, hl, ho1, ho2⟩ := X
  obtain ⟨hx, hb, hml, hown, hts, hr, hlk, hin, hKK⟩ := id hC
  have hK := hKK.1
  exact lv_i2c hx hb hd rfl (h p e s m args below meth c H locs cells slots A ⟨hC, hat, hlo, hcs, hl, ok_cons (m_okI _) (ok_tl ho1), ho2⟩)
theorem b_l2i {x : Int64} (hd : decode M.2.1 pc = .ok (.l2i, 1))  (h : m_B G R M Q rc rs (pc + 1) ls (mI x.toInt32 :: st) S) : m_B G R M Q rc rs pc ls (mJ x :: st) S := by
  intro p e s m args below meth c H locs cells slots A X
  obtain ⟨hC, hat, hlo, hcs, hl, ho1, ho2⟩ := X
  obtain ⟨hx, hb, hml, hown, hts, hr, hlk, hin, hKK⟩ := id hC
  have hK := hKK.1
  exact lv_l2i hx hb hd rfl (h p e s m args below meth c H locs cells slots A ⟨hC, hat, hlo, hcs, hl, ok_cons (m_okI _) (ok_tl ho1), ho2⟩)
theorem b_dup {v : MV} (hd : decode M.2.1 pc = .ok (.dup, 1)) (hv : m_isJ (some v) = false) (h : m_B G R M Q rc rs (pc + 1) ls (v :: v :: st) S) : m_B G R M Q rc rs pc ls (v :: st) S := by
  intro p e s m args below meth c H locs cells slots A X
  obtain ⟨hC, hat, hlo, hcs, hl, ho1, ho2⟩ := X
  obtain ⟨hx, hb, hml, hown, hts, hr, hlk, hin, hKK⟩ := id hC
  have hK := hKK.1
  exact lv_dup hx hb hd (by rw [m_val_cat, hv]; rfl) (h p e s m args below meth c H locs cells slots A ⟨hC, hat, hlo, hcs, hl, ok_cons (ok_hd ho1) ho1, ho2⟩)
theorem b_pop {v : MV} (hd : decode M.2.1 pc = .ok (.pop, 1)) (hv : m_isJ (some v) = false) (h : m_B G R M Q rc rs (pc + 1) ls (st) S) : m_B G R M Q rc rs pc ls (v :: st) S := by
  intro p e s m args below meth c H locs cells slots A X
  obtain ⟨hC, hat, hlo, hcs, hl, ho1, ho2⟩ := X
  obtain ⟨hx, hb, hml, hown, hts, hr, hlk, hin, hKK⟩ := id hC
  have hK := hKK.1
  exact lv_pop hx hb hd (by rw [m_val_cat, hv]; rfl) (h p e s m args below meth c H locs cells slots A ⟨hC, hat, hlo, hcs, hl, ok_tl ho1, ho2⟩)
theorem b_dup2J {x : Int64} (hd : decode M.2.1 pc = .ok (.dup2, 1))  (h : m_B G R M Q rc rs (pc + 1) ls (mJ x :: mJ x :: st) S) : m_B G R M Q rc rs pc ls (mJ x :: st) S := by
  intro p e s m args below meth c H locs cells slots A X
  obtain ⟨hC, hat, hlo, hcs, hl, ho1, ho2⟩ := X
  obtain ⟨hx, hb, hml, hown, hts, hr, hlk, hin, hKK⟩ := id hC
  have hK := hKK.1
  exact lv_dup2_2 hx hb hd rfl (h p e s m args below meth c H locs cells slots A ⟨hC, hat, hlo, hcs, hl, ok_cons (m_okJ _) ho1, ho2⟩)
theorem b_dup2 {u v : MV} (hd : decode M.2.1 pc = .ok (.dup2, 1)) (hu : m_isJ (some u) = false) (hv : m_isJ (some v) = false) (h : m_B G R M Q rc rs (pc + 1) ls (u :: v :: u :: v :: st) S) : m_B G R M Q rc rs pc ls (u :: v :: st) S := by
  intro p e s m args below meth c H locs cells slots A X
  obtain ⟨hC, hat, hlo, hcs, hl, ho1, ho2⟩ := X
  obtain ⟨hx, hb, hml, hown, hts, hr, hlk, hin, hKK⟩ := id hC
  have hK := hKK.1
  exact lv_dup2_11 hx hb hd (by rw [m_val_cat, hu]; rfl) (by rw [m_val_cat, hv]; rfl) (h p e s m args below meth c H locs cells slots A ⟨hC, hat, hlo, hcs, hl, ok_cons (ok_hd ho1) (ok_cons (ok_hd (ok_tl ho1)) ho1), ho2⟩)
theorem b_goto {off : Int} {tgt : Nat} (hd : decode M.2.1 pc = .ok (.goto off, 3)) (ht : (pc : Int) + off = (tgt : Int)) (h : m_B G R M Q rc rs tgt ls st S) : m_B G R M Q rc rs pc ls st S := by
  intro p e s m args below meth c H locs cells slots A X
  obtain ⟨hC, hat, hlo, hcs, hl, ho1, ho2⟩ := X
  obtain ⟨hx, hb, hml, hown, hts, hr, hlk, hin, hKK⟩ := id hC
  have hK := hKK.1
  exact lv_goto hx hb hd ht (h p e s m args below meth c H locs cells slots A ⟨hC, hat, hlo, hcs, hl, ho1, ho2⟩)
theorem b_if_eq {x : Int32} {off : Int} {tgt : Nat} (hd : decode M.2.1 pc = .ok (.ifCond .eq off, 3)) (ht : (pc : Int) + off = (tgt : Int)) (kt : x = 0 → m_B G R M Q rc rs tgt ls st S) (kf : ¬ x = 0 → m_B G R M Q rc rs (pc + 3) ls st S) : m_B G R M Q rc rs pc ls (mI x :: st) S := by
  intro p e s m args below meth c H locs cells slots A X
  obtain ⟨hC, hat, hlo, hcs, hl, ho1, ho2⟩ := X
  obtain ⟨hx, hb, hml, hown, hts, hr, hlk, hin, hKK⟩ := id hC
  have hK := hKK.1
  exact lv_if_eq hx hb hd ht (fun q => kt q p e s m args below meth c H locs cells slots A ⟨hC, hat, hlo, hcs, hl, ok_tl ho1, ho2⟩) (fun q => kf q p e s m args below meth c H locs cells slots A ⟨hC, hat, hlo, hcs, hl, ok_tl ho1, ho2⟩)
theorem b_icmp_eq {x y : Int32} {off : Int} {tgt : Nat} (hd : decode M.2.1 pc = .ok (.if_icmp .eq off, 3)) (ht : (pc : Int) + off = (tgt : Int)) (kt : x = y → m_B G R M Q rc rs tgt ls st S) (kf : ¬ x = y → m_B G R M Q rc rs (pc + 3) ls st S) : m_B G R M Q rc rs pc ls (mI y :: mI x :: st) S := by
  intro p e s m args below meth c H locs cells slots A X
  obtain ⟨hC, hat, hlo, hcs, hl, ho1, ho2⟩ := X
  obtain ⟨hx, hb, hml, hown, hts, hr, hlk, hin, hKK⟩ := id hC
  have hK := hKK.1
  exact lv_icmp_eq hx hb hd ht (fun q => kt q p e s m args below meth c H locs cells slots A ⟨hC, hat, hlo, hcs, hl, ok_tl (ok_tl ho1), ho2⟩) (fun q => kf q p e s m args below meth c H locs cells slots A ⟨hC, hat, hlo, hcs, hl, ok_tl (ok_tl ho1), ho2⟩)
theorem b_if_ne {x : Int32} {off : Int} {tgt : Nat} (hd : decode M.2.1 pc = .ok (.ifCond .ne off, 3)) (ht : (pc : Int) + off = (tgt : Int)) (kt : ¬ x = 0 → m_B G R M Q rc rs tgt ls st S) (kf : x = 0 → m_B G R M Q rc rs (pc + 3) ls st S) : m_B G R M Q rc rs pc ls (mI x :: st) S := by
  intro p e s m args below meth c H locs cells slots A X
  obtain ⟨hC, hat, hlo, hcs, hl, ho1, ho2⟩ := X
  obtain ⟨hx, hb, hml, hown, hts, hr, hlk, hin, hKK⟩ := id hC
  have hK := hKK.1
  exact lv_if_ne hx hb hd ht (fun q => kt q p e s m args below meth c H locs cells slots A ⟨hC, hat, hlo, hcs, hl, ok_tl ho1, ho2⟩) (fun q => kf q p e s m args below meth c H locs cells slots A ⟨hC, hat, hlo, hcs, hl, ok_tl ho1, ho2⟩)
theorem b_icmp_ne {x y : Int32} {off : Int} {tgt : Nat} (hd : decode M.2.1 pc = .ok (.if_icmp .ne off, 3)) (ht : (pc : Int) + off = (tgt : Int)) (kt : ¬ x = y → m_B G R M Q rc rs tgt ls st S) (kf : x = y → m_B G R M Q rc rs (pc + 3) ls st S) : m_B G R M Q rc rs pc ls (mI y :: mI x :: st) S := by
  intro p e s m args below meth c H locs cells slots A X
  obtain ⟨hC, hat, hlo, hcs, hl, ho1, ho2⟩ := X
  obtain ⟨hx, hb, hml, hown, hts, hr, hlk, hin, hKK⟩ := id hC
  have hK := hKK.1
  exact lv_icmp_ne hx hb hd ht (fun q => kt q p e s m args below meth c H locs cells slots A ⟨hC, hat, hlo, hcs, hl, ok_tl (ok_tl ho1), ho2⟩) (fun q => kf q p e s m args below meth c H locs cells slots A ⟨hC, hat, hlo, hcs, hl, ok_tl (ok_tl ho1), ho2⟩)
theorem b_if_lt {x : Int32} {off : Int} {tgt : Nat} (hd : decode M.2.1 pc = .ok (.ifCond .lt off, 3)) (ht : (pc : Int) + off = (tgt : Int)) (kt : x < 0 → m_B G R M Q rc rs tgt ls st S) (kf : ¬ x < 0 → m_B G R M Q rc rs (pc + 3) ls st S) : m_B G R M Q rc rs pc ls (mI x :: st) S := by
  intro p e s m args below meth c H locs cells slots A X
  obtain ⟨hC, hat, hlo, hcs, hl, ho1, ho2⟩ := X
  obtain ⟨hx, hb, hml, hown, hts, hr, hlk, hin, hKK⟩ := id hC
  have hK := hKK.1
  exact lv_if_lt hx hb hd ht (fun q => kt q p e s m args below meth c H locs cells slots A ⟨hC, hat, hlo, hcs, hl, ok_tl ho1, ho2⟩) (fun q => kf q p e s m args below meth c H locs cells slots A ⟨hC, hat, hlo, hcs, hl, ok_tl ho1, ho2⟩)
theorem b_icmp_lt {x y : Int32} {off : Int} {tgt : Nat} (hd : decode M.2.1 pc = .ok (.if_icmp .lt off, 3)) (ht : (pc : Int) + off = (tgt : Int)) (kt : x < y → m_B G R M Q rc rs tgt ls st S) (kf : ¬ x < y → m_B G R M Q rc rs (pc + 3) ls st S) : m_B G R M Q rc rs pc ls (mI y :: mI x :: st) S := by
  intro p e s m args below meth c H locs cells slots A X
  obtain ⟨hC, hat, hlo, hcs, hl, ho1, ho2⟩ := X
  obtain ⟨hx, hb, hml, hown, hts, hr, hlk, hin, hKK⟩ := id hC
  have hK := hKK.1
  exact lv_icmp_lt hx hb hd ht (fun q => kt q p e s m args below meth c H locs cells slots A ⟨hC, hat, hlo, hcs, hl, ok_tl (ok_tl ho1), ho2⟩) (fun q => kf q p e s m args below meth c H locs cells slots A ⟨hC, hat, hlo, hcs, hl, ok_tl (ok_tl ho1), ho2⟩)
theorem b_if_ge {x : Int32} {off : Int} {tgt : Nat} (hd : decode M.2.1 pc = .ok (.ifCond .ge off, 3)) (ht : (pc : Int) + off = (tgt : Int)) (kt : 0 ≤ x → m_B G R M Q rc rs tgt ls st S) (kf : ¬ 0 ≤ x → m_B G R M Q rc rs (pc + 3) ls st S) : m_B G R M Q rc rs pc ls (mI x :: st) S := by
  intro p e s m args below meth c H locs cells slots A X
  obtain ⟨hC, hat, hlo, hcs, hl, ho1, ho2⟩ := X
  obtain ⟨hx, hb, hml, hown, hts, hr, hlk, hin, hKK⟩ := id hC
  have hK := hKK.1
  exact lv_if_ge hx hb hd ht (fun q => kt q p e s m args below meth c H locs cells slots A ⟨hC, hat, hlo, hcs, hl, ok_tl ho1, ho2⟩) (fun q => kf q p e s m args below meth c H locs cells slots A ⟨hC, hat, hlo, hcs, hl, ok_tl ho1, ho2⟩)
theorem b_icmp_ge {x y : Int32} {off : Int} {tgt : Nat} (hd : decode M.2.1 pc = .ok (.if_icmp .ge off, 3)) (ht : (pc : Int) + off = (tgt : Int)) (kt : y ≤ x → m_B G R M Q rc rs tgt ls st S) (kf : ¬ y ≤ x → m_B G R M Q rc rs (pc + 3) ls st S) : m_B G R M Q rc rs pc ls (mI y :: mI x :: st) S := by
  intro p e s m args below meth c H locs cells slots A X
  obtain ⟨hC, hat, hlo, hcs, hl, ho1, ho2⟩ := X
  obtain ⟨hx, hb, hml, hown, hts, hr, hlk, hin, hKK⟩ := id hC
  have hK := hKK.1
  exact lv_icmp_ge hx hb hd ht (fun q => kt q p e s m args below meth c H locs cells slots A ⟨hC, hat, hlo, hcs, hl, ok_tl (ok_tl ho1), ho2⟩) (fun q => kf q p e s m args below meth c H locs cells slots A ⟨hC, hat, hlo, hcs, hl, ok_tl (ok_tl ho1), ho2⟩)
theorem b_if_gt {x : Int32} {off : Int} {tgt : Nat} (hd : decode M.2.1 pc = .ok (.ifCond .gt off, 3)) (ht : (pc : Int) + off = (tgt : Int)) (kt : 0 < x → m_B G R M Q rc rs tgt ls st S) (kf : ¬ 0 < x → m_B G R M Q rc rs (pc + 3) ls st S) : m_B G R M Q rc rs pc ls (mI x :: st) S := by
  intro p e s m args below meth c H locs cells slots A X
  obtain ⟨hC, hat, hlo, hcs, hl, ho1, ho2⟩ := X
  obtain ⟨hx, hb, hml, hown, hts, hr, hlk, hin, hKK⟩ := id hC
  have hK := hKK.1
  exact lv_if_gt hx hb hd ht (fun q => kt q p e s m args below meth c H locs cells slots A ⟨hC, hat, hlo, hcs, hl, ok_tl ho1, ho2⟩) (fun q => kf q p e s m args below meth c H locs cells slots A ⟨hC, hat, hlo, hcs, hl, ok_tl ho1, ho2⟩)
theorem b_icmp_gt {x y : Int32} {off : Int} {tgt : Nat} (hd : decode M.2.1 pc = .ok (.if_icmp .gt off, 3)) (ht : (pc : Int) + off = (tgt : Int)) (kt : y < x → m_B G R M Q rc rs tgt ls st S) (kf : ¬ y < x → m_B G R M Q rc rs (pc + 3) ls st S) : m_B G R M Q rc rs pc ls (mI y :: mI x :: st) S := by
  intro p e s m args below meth c H locs cells slots A X
  obtain ⟨hC, hat, hlo, hcs, hl, ho1, ho2⟩ := X
  obtain ⟨hx, hb, hml, hown, hts, hr, hlk, hin, hKK⟩ := id hC
  have hK := hKK.1
  exact lv_icmp_gt hx hb hd ht (fun q => kt q p e s m args below meth c H locs cells slots A ⟨hC, hat, hlo, hcs, hl, ok_tl (ok_tl ho1), ho2⟩) (fun q => kf q p e s m args below meth c H locs cells slots A ⟨hC, hat, hlo, hcs, hl, ok_tl (ok_tl ho1), ho2⟩)
theorem b_if_le {x : Int32} {off : Int} {tgt : Nat} (hd : decode M.2.1 pc = .ok (.ifCond .le off, 3)) (ht : (pc : Int) + off = (tgt : Int)) (kt : x ≤ 0 → m_B G R M Q rc rs tgt ls st S) (kf : ¬ x ≤ 0 → m_B G R M Q rc rs (pc + 3) ls st S) : m_B G R M Q rc rs pc ls (mI x :: st) S := by
  intro p e s m args below meth c H locs cells slots A X
  obtain ⟨hC, hat, hlo, hcs, hl, ho1, ho2⟩ := X
  obtain ⟨hx, hb, hml, hown, hts, hr, hlk, hin, hKK⟩ := id hC
  have hK := hKK.1
  exact lv_if_le hx hb hd ht (fun q => kt q p e s m args below meth c H locs cells slots A ⟨hC, hat, hlo, hcs, hl, ok_tl ho1, ho2⟩) (fun q => kf q p e s m args below meth c H locs cells slots A ⟨hC, hat, hlo, hcs, hl, ok_tl ho1, ho2⟩)
theorem b_icmp_le {x y : Int32} {off : Int} {tgt : Nat} (hd : decode M.2.1 pc = .ok (.if_icmp .le off, 3)) (ht : (pc : Int) + off = (tgt : Int)) (kt : x ≤ y → m_B G R M Q rc rs tgt ls st S) (kf : ¬ x ≤ y → m_B G R M Q rc rs (pc + 3) ls st S) : m_B G R M Q rc rs pc ls (mI y :: mI x :: st) S := by
  intro p e s m args below meth c H locs cells slots A X
  obtain ⟨hC, hat, hlo, hcs, hl, ho1, ho2⟩ := X
  obtain ⟨hx, hb, hml, hown, hts, hr, hlk, hin, hKK⟩ := id hC
  have hK := hKK.1
  exact lv_icmp_le hx hb hd ht (fun q => kt q p e s m args below meth c H locs cells slots A ⟨hC, hat, hlo, hcs, hl, ok_tl (ok_tl ho1), ho2⟩) (fun q => kf q p e s m args below meth c H locs cells slots A ⟨hC, hat, hlo, hcs, hl, ok_tl (ok_tl ho1), ho2⟩)
theorem b_ifnull_N {r : MRef} {off : Int} {tgt : Nat} (hd : decode M.2.1 pc = .ok (.ifnull off, 3)) (ht : (pc : Int) + off = (tgt : Int)) (h : m_B G R M Q rc rs (tgt) ls st S) : m_B G R M Q rc rs pc ls (mN :: st) S := by
  intro p e s m args below meth c H locs cells slots A X
  obtain ⟨hC, hat, hlo, hcs, hl, ho1, ho2⟩ := X
  obtain ⟨hx, hb, hml, hown, hts, hr, hlk, hin, hKK⟩ := id hC
  have hK := hKK.1
  exact lv_ifnullN hx hb hd ht (h p e s m args below meth c H locs cells slots A ⟨hC, hat, hlo, hcs, hl, ok_tl ho1, ho2⟩)
theorem b_ifnull_R {r : MRef} {off : Int} {tgt : Nat} (hd : decode M.2.1 pc = .ok (.ifnull off, 3)) (ht : (pc : Int) + off = (tgt : Int)) (h : m_B G R M Q rc rs (pc + 3) ls st S) : m_B G R M Q rc rs pc ls (mR r :: st) S := by
  intro p e s m args below meth c H locs cells slots A X
  obtain ⟨hC, hat, hlo, hcs, hl, ho1, ho2⟩ := X
  obtain ⟨hx, hb, hml, hown, hts, hr, hlk, hin, hKK⟩ := id hC
  have hK := hKK.1
  exact lv_ifnull hx hb hd (h p e s m args below meth c H locs cells slots A ⟨hC, hat, hlo, hcs, hl, ok_tl ho1, ho2⟩)
theorem b_ifnonnull_N {r : MRef} {off : Int} {tgt : Nat} (hd : decode M.2.1 pc = .ok (.ifnonnull off, 3)) (ht : (pc : Int) + off = (tgt : Int)) (h : m_B G R M Q rc rs (pc + 3) ls st S) : m_B G R M Q rc rs pc ls (mN :: st) S := by
  intro p e s m args below meth c H locs cells slots A X
  obtain ⟨hC, hat, hlo, hcs, hl, ho1, ho2⟩ := X
  obtain ⟨hx, hb, hml, hown, hts, hr, hlk, hin, hKK⟩ := id hC
  have hK := hKK.1
  exact lv_ifnonnullN hx hb hd (h p e s m args below meth c H locs cells slots A ⟨hC, hat, hlo, hcs, hl, ok_tl ho1, ho2⟩)
theorem b_ifnonnull_R {r : MRef} {off : Int} {tgt : Nat} (hd : decode M.2.1 pc = .ok (.ifnonnull off, 3)) (ht : (pc : Int) + off = (tgt : Int)) (h : m_B G R M Q rc rs (tgt) ls st S) : m_B G R M Q rc rs pc ls (mR r :: st) S := by
  intro p e s m args below meth c H locs cells slots A X
  obtain ⟨hC, hat, hlo, hcs, hl, ho1, ho2⟩ := X
  obtain ⟨hx, hb, hml, hown, hts, hr, hlk, hin, hKK⟩ := id hC
  have hK := hKK.1
  exact lv_ifnonnull hx hb hd ht (h p e s m args below meth c H locs cells slots A ⟨hC, hat, hlo, hcs, hl, ok_tl ho1, ho2⟩)
end MB
