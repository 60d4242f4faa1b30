/-! returns, switches, contracts, calls -/
section MR9
variable {G : MG} {R : Room} {M : MM} {Q : Option MV → MS → Prop} {rc rs pc : Nat} {ls : ML} {st : List MV} {S : MS}
theorem b_iret {v : Int32} (hd : decode M.2.1 pc = .ok (.ireturn, 1)) (hM : M.2.2.2.1 = some .int) (h : Q (some (mI v)) S) : m_B G R M Q rc rs pc ls [mI v] S := by
  intro p e s m args below meth c0 H locs cells slots A X
  obtain ⟨hC, hat, hlo, hcs, hl, ho1, ho2⟩ := X
  obtain ⟨hx, hb, hml, hown, hts, hr, hlk, hin, hKK⟩ := id hC
  have hK := hKK.1
  refine W.widen (k := R.cells) (n := R.slots) (by omega) (by omega) ?_
  exact W.iret hx hb (hr.trans hM) (fun t ht hw => ⟨some (mI v), S, rfl, h, by rw [ht]; exact hat, m_K.warm hw hKK, fun w hw => by cases hw; exact ok_hd ho1⟩) hlo hd hlk
theorem b_zret {v : Int32} (hd : decode M.2.1 pc = .ok (.ireturn, 1)) (hM : M.2.2.2.1 = some .boolean) (hz : v = 0 ∨ v = 1) (h : Q (some (mI v)) S) : m_B G R M Q rc rs pc ls [mI v] S := by
  intro p e s m args below meth c0 H locs cells slots A X
  obtain ⟨hC, hat, hlo, hcs, hl, ho1, ho2⟩ := X
  obtain ⟨hx, hb, hml, hown, hts, hr, hlk, hin, hKK⟩ := id hC
  have hK := hKK.1
  refine W.widen (k := R.cells) (n := R.slots) (by omega) (by omega) ?_
  exact W.zret hx hb (hr.trans hM) (by rcases hz with rfl | rfl <;> rfl) (fun t ht hw => ⟨some (mI v), S, rfl, h, by rw [ht]; exact hat, m_K.warm hw hKK, fun w hw => by cases hw; exact ok_hd ho1⟩) hlo hd hlk
theorem b_lret {v : Int64} (hd : decode M.2.1 pc = .ok (.lreturn, 1)) (hM : M.2.2.2.1 = some .long) (h : Q (some (mJ v)) S) : m_B G R M Q rc rs pc ls [mJ v] S := by
  intro p e s m args below meth c0 H locs cells slots A X
  obtain ⟨hC, hat, hlo, hcs, hl, ho1, ho2⟩ := X
  obtain ⟨hx, hb, hml, hown, hts, hr, hlk, hin, hKK⟩ := id hC
  have hK := hKK.1
  refine W.widen (k := R.cells) (n := R.slots) (by omega) (by omega) ?_
  exact W.lret hx hb (hr.trans hM) (fun t ht hw => ⟨some (mJ v), S, rfl, h, by rw [ht]; exact hat, m_K.warm hw hKK, fun w hw => by cases hw; exact ok_hd ho1⟩) hlo hd hlk
theorem b_vret  (hd : decode M.2.1 pc = .ok (.return_, 1)) (hM : M.2.2.2.1 = none) (h : Q (none) S) : m_B G R M Q rc rs pc ls [] S := by
  intro p e s m args below meth c0 H locs cells slots A X
  obtain ⟨hC, hat, hlo, hcs, hl, ho1, ho2⟩ := X
  obtain ⟨hx, hb, hml, hown, hts, hr, hlk, hin, hKK⟩ := id hC
  have hK := hKK.1
  refine W.widen (k := R.cells) (n := R.slots) (by omega) (by omega) ?_
  exact W.vret hx hb (hr.trans hM) (fun t ht hw => ⟨none, S, rfl, h, by rw [ht]; exact hat, m_K.warm hw hKK, fun w hw => by cases hw⟩) hlo hd hlk
theorem b_aret {r : MRef} {n : String} (hd : decode M.2.1 pc = .ok (.areturn, 1)) (hM : M.2.2.2.1 = some (.object n)) (h : Q (some (mR r)) S) : m_B G R M Q rc rs pc ls [mR r] S := by
  intro p e s m args below meth c0 H locs cells slots A X
  obtain ⟨hC, hat, hlo, hcs, hl, ho1, ho2⟩ := X
  obtain ⟨hx, hb, hml, hown, hts, hr, hlk, hin, hKK⟩ := id hC
  have hK := hKK.1
  refine W.widen (k := R.cells) (n := R.slots) (by omega) (by omega) ?_
  exact W.aret hx hb (hr.trans hM) (Or.inl ⟨n, rfl⟩) (Or.inr ⟨_, rfl⟩) (fun t ht hw => ⟨some (mR r), S, rfl, h, by rw [ht]; exact hat, m_K.warm hw hKK, fun w hw => by cases hw; exact ok_hd ho1⟩) hlo hd hlk
theorem b_tsw {dflt lo hi : Int} {offs : Array Int} {len : Nat} {x : Int32} {tgt : Nat → Nat} {td : Nat} (hd : decode M.2.1 pc = .ok (.tableswitch dflt lo hi offs, len)) (hoff : ∀ k, k < offs.size → (pc : Int) + offs.getD k 0 = (tgt k : Int)) (hsz : hi - lo + 1 = offs.size) (htd : (pc : Int) + dflt = (td : Int))
    (hin : ∀ k : Nat, k < offs.size → x.toInt = lo + k → m_B G R M Q rc rs (tgt k) ls st S) (hout : x.toInt < lo ∨ hi < x.toInt → m_B G R M Q rc rs td ls st S) : m_B G R M Q rc rs pc ls (mI x :: st) S := by
  intro p e s m args below meth c0 H locs cells slots A X
  obtain ⟨hC, hat, hlo, hcs, hl, ho1, ho2⟩ := X
  obtain ⟨hx, hb, hml, hown, hts, hr, hlk, hin0, hKK⟩ := id hC
  have hK := hKK.1
  by_cases h1 : x.toInt < lo
  · exact lv_tableOut hx hb hd (Or.inl h1) htd (hout (Or.inl h1) p e s m args below meth c0 H locs cells slots A ⟨hC, hat, hlo, hcs, hl, ok_tl ho1, ho2⟩)
  · by_cases h2 : hi < x.toInt
    · exact lv_tableOut hx hb hd (Or.inr h2) htd (hout (Or.inr h2) p e s m args below meth c0 H locs cells slots A ⟨hC, hat, hlo, hcs, hl, ok_tl ho1, ho2⟩)
    · have hk : (x.toInt - lo).toNat < offs.size := by omega
      have hg : offs[(x.toInt - lo).toNat]? = some (offs.getD (x.toInt - lo).toNat 0) := by simp [Array.getD, hk]
      exact lv_tableIn hx hb hd h1 h2 hg (hoff _ hk) (hin _ hk (by omega) p e s m args below meth c0 H locs cells slots A ⟨hC, hat, hlo, hcs, hl, ok_tl ho1, ho2⟩)
theorem b_lsw {dflt : Int} {ps : Array (Int × Int)} {len : Nat} {x : Int32} {off : Int} {tgt : Nat} (hd : decode M.2.1 pc = .ok (.lookupswitch dflt ps, len)) (hp : (ps.toList.zip (ps.toList.drop 1)).all (fun (a, next) => a.1 < next.1) = true) (ho : Op.lookupswitch.offset ps.toList dflt x.toInt = off) (ht : (pc : Int) + off = (tgt : Int)) (h : m_B G R M Q rc rs tgt ls st S) : m_B G R M Q rc rs pc ls (mI x :: st) S := by
  intro p e s m args below meth c0 H locs cells slots A X
  obtain ⟨hC, hat, hlo, hcs, hl, ho1, ho2⟩ := X
  obtain ⟨hx, hb, hml, hown, hts, hr, hlk, hin, hKK⟩ := id hC
  have hK := hKK.1
  exact lv_lookup hx hb hd hp ho ht (h p e s m args below meth c0 H locs cells slots A ⟨hC, hat, hlo, hcs, hl, ok_tl ho1, ho2⟩)
/-- what a method needs: its arguments, the state; and what it gives -/
def m_pre (G : MG) (args : List MV) (S : MS) : Array Value → State → Prop := fun a U => a = (args.map (m_val G.2.2.1.size)).toArray ∧ m_at G S U.heap ∧ m_K G U ∧ ∀ v ∈ args, m_ok S.1 v
abbrev m_rm (d mc ms : Nat) : Room := { frames := d, cells := mc, slots := ms, locals := 40 * d }
def m_met (G : MG) (d mc ms : Nat) (y : MethodName) (M : MM) (args : List MV) (S : MS) (Q : Option MV → MS → Prop) : Prop :=
  Met G.2.2.2 y (Cond.code y M.2.1 M.2.2.1 M.2.2.2.1 :: tw) (m_rm d mc ms) (m_pre G args S) (m_Q G Q) mc ms (fun q => G.2.2.1.size ≤ q)
theorem m_pre_blind {args : List MV} : FrameBlind (m_pre G args S) := fun a U g mk q => ⟨q.1, q.2.1, m_K.same (s := U) (U := U.calling g mk a) rfl q.2.2.1, q.2.2.2⟩
/-- the locals at a method's entry -/
def m_arg : List MV → ML
  | [] => []
  | .inl (.inr x) :: l => some (mJ x) :: none :: m_arg l
  | v :: l => some v :: m_arg l
def m_en (nL : Nat) (args : List MV) : ML := m_arg args ++ List.replicate (nL - (m_arg args).length) none
theorem m_get_app {l : ML} {n i : Nat} {v : MV} (h : m_get (l ++ List.replicate n none) i = some v) : m_get l i = some v := by
  induction l generalizing i with
  | nil =>
    exfalso
    simp only [List.nil_append] at h
    induction n generalizing i with
    | zero => simp [m_get] at h
    | succ n ih =>
      simp only [List.replicate_succ] at h
      cases i with
      | zero => simp [m_get] at h
      | succ i => simp only [m_get] at h; exact ih h
  | cons a l ih =>
    cases i with
    | zero => simpa [m_get] using h
    | succ i => simp only [List.cons_append, m_get] at h ⊢; exact ih h
theorem m_arg_mem (b : Nat) : ∀ (l : List MV) (n i : Nat) (v : MV), m_get (m_arg l) i = some v → (n + i, m_val b v) ∈ lv_args n (l.map (m_val b)) ∧ v ∈ l := by
  intro l
  induction l with
  | nil => intro n i v h; simp [m_arg, m_get] at h
  | cons a l ih =>
    intro n i v h
    rcases a with (x | x) | r
    · simp only [m_arg] at h
      cases i with
      | zero => simp only [m_get] at h; cases h; exact ⟨List.mem_cons_self, List.mem_cons_self⟩
      | succ i =>
        simp only [m_get] at h
        obtain ⟨h1, h2⟩ := ih (n + 1) i v h
        refine ⟨List.mem_cons_of_mem _ ?_, List.mem_cons_of_mem _ h2⟩
        rw [if_neg (by simp [m_val, Value.category])]
        rw [show n + (i + 1) = n + 1 + i by omega]
        exact h1
    · simp only [m_arg] at h
      match i with
      | 0 => simp only [m_get] at h; cases h; exact ⟨List.mem_cons_self, List.mem_cons_self⟩
      | 1 => simp [m_get] at h
      | i + 2 =>
        simp only [m_get] at h
        obtain ⟨h1, h2⟩ := ih (n + 2) i v h
        refine ⟨List.mem_cons_of_mem _ ?_, List.mem_cons_of_mem _ h2⟩
        rw [if_pos (by simp [m_val, Value.category])]
        rw [show n + (i + 2) = n + 2 + i by omega]
        exact h1
    · simp only [m_arg] at h
      cases i with
      | zero => simp only [m_get] at h; cases h; exact ⟨List.mem_cons_self, List.mem_cons_self⟩
      | succ i =>
        simp only [m_get] at h
        obtain ⟨h1, h2⟩ := ih (n + 1) i v h
        refine ⟨List.mem_cons_of_mem _ ?_, List.mem_cons_of_mem _ h2⟩
        rw [if_neg (by cases r <;> simp [m_val, m_ad, va_rf, Value.category])]
        rw [show n + (i + 1) = n + 1 + i by omega]
        exact h1
theorem m_arg_len (b : Nat) : ∀ (l : List MV), (lg_sl (l.map (m_val b))).length = (m_arg l).length := by
  intro l
  induction l with
  | nil => rfl
  | cons a l ih =>
    have ih2 : (List.flatMap (fun v : Value => if v.category = 2 then [Slot.val v, Slot.second] else [Slot.val v]) (List.map (m_val b) l)).length = (m_arg l).length := ih
    rcases a with (x | x) | (_ | r) <;> simp only [lg_sl, List.map_cons, List.flatMap_cons, List.length_append, m_arg, List.length_cons, ih2] <;> simp [m_val, m_ad, va_rf, Value.category] <;> omega
theorem m_ofWF {l : Launch} {y : MethodName} {ws ws' : List Cond} {rm : Room} {Pc : Array Value → State → Prop} {Qc : Array Value → State → Outcome → State → Prop} {mc ms : Nat} {free : Addr → Prop} {cc : ByteArray} {maxL : Nat} {ret : Option FieldType}
    (hy : plainFor y = true) (hw : ws = Cond.code y cc maxL ret :: ws')
    (body : ∀ p e s m args below meth c s₁, BodyLoose p l y (headSpec ws rm) cc maxL ret e s m args below meth c s₁ → c.maxLocals = maxL → Pc args s →
      W p l e (headSpec ws rm).room s m args below meth c s.heap [] 0 0 (MQ below Qc args s mc ms free) (entryFrame m args maxL)) : Met l y ws rm Pc Qc mc ms free := by
  refine MetFree.of_bodySF (code := cc) (maxLocals := maxL) (ret := ret) hy ?_ ?_
  · intro args s m h hn
    obtain ⟨meth, c, h1, h2, h3, h4, h5, h6, -, -⟩ := Cond.code_spec hn (atoms_spec (ws := ws) h _ (by rw [hw]; exact List.mem_cons_self))
    exact ⟨meth, c, h1, h2, h3, h4, h5, h6⟩
  · intro p e s m args below meth c s₁ B hml hP _
    have hh0 : s₁.heap = s.heap := by rw [B.state]; rfl
    obtain ⟨t, a1, o, b1, b2, b3⟩ := body p e s m args below meth c s₁ B hml hP s₁ hh0 (Stand.of_body B)
    exact ⟨t, o, a1, b1, b2, ⟨b3.1, b3.2⟩⟩
theorem m_met_of {d mc ms : Nat} {y : MethodName} {args : List MV} (hy : plainFor y = true) (hcl : y.cls = m_cn M.1) (hini : M.2.2.2.2 = true → y.name = "<init>") (hN : (m_arg args).length ≤ M.2.2.1)
    (h : m_B G (m_rm d mc ms) M Q mc ms 0 (m_en M.2.2.1 args) [] S) : m_met G d mc ms y M args S Q := by
  refine m_ofWF (cc := M.2.1) (maxL := M.2.2.1) (ret := M.2.2.2.1) hy rfl ?_
  intro p e s m args' below meth c s₁ B hml hv
  obtain ⟨rfl, hat, hK, hok⟩ := hv
  have hts : ∀ w ∈ tw, w.before (args.map (m_val G.2.2.1.size)).toArray s = true := fun w hw => atoms_spec (ws := Cond.code y M.2.1 M.2.2.1 M.2.2.2.1 :: tw) B.pre w (List.mem_cons_of_mem _ hw)
  have hown : s.vm.findClass (m_cn M.1) = some m.cls := by rw [← hcl]; exact findClass_of_methodNamed B.named
  have hnm : M.2.2.2.2 = true → meth.name = "<init>" := fun q => (name_of_methodNamed B.named B.method).1.trans (hini q)
  have hl := lv_entry (args.map (m_val G.2.2.1.size)) (n := M.2.2.1) (by rw [m_arg_len]; exact hN)
  rw [lg_entry_eq]
  generalize (lg_sl (args.map (m_val G.2.2.1.size)) ++ List.replicate (M.2.2.1 - (lg_sl (args.map (m_val G.2.2.1.size))).length) Slot.unset).toArray = A at hl ⊢
  have hm : m_has G.2.2.1.size A M.2.2.1 (m_en M.2.2.1 args) := ⟨hl.1, hl.2.1, fun i v hv => by
    have := (m_arg_mem G.2.2.1.size args 0 i v (m_get_app hv)).1
    rw [Nat.zero_add] at this
    exact hl.2.2 _ this⟩
  exact h p e s m _ below meth c s.heap [] 0 0 A ⟨⟨B.exec, B.bytes, hml, hown, hts, B.returns, B.notSynchronized, hnm, hK⟩, hat, fun q hq => (by cases hq), ⟨Nat.zero_add _, Nat.zero_add _⟩, hm, fun v hv => (by cases hv), fun i v hv => hok v (m_arg_mem G.2.2.1.size args 0 i v (m_get_app hv)).2⟩
theorem m_good {l : List Cond} (h : ∀ w ∈ l, w ∈ tw) : GoodIn tw l := fun w hw => ⟨h w hw, tw_good w (h w hw)⟩
theorem m_cwords {y : MethodName} {M' : MM} {n : Nat} (h : m_nm y M' n) : ∀ w ∈ Cond.code y M'.2.1 M'.2.2.1 M'.2.2.2.1 :: tw, w ∈ tw := fun w hw => (List.mem_cons.mp hw).elim (fun e => by rw [e]; exact h.1) id
def m_cat (st : List MV) : Nat := (st.map fun v => if m_isJ (some v) then 2 else 1).sum
theorem m_cat_eq (b : Nat) (st : List MV) : ((st.map (m_val b)).map fun v => v.category).sum = m_cat st := by
  unfold m_cat
  rw [List.map_map]
  congr 1
  apply List.map_congr_left
  intro v _
  exact m_val_cat b v
theorem m_rest {b : Nat} (r : Option MV) (st : List MV) : (r.map (m_val b)).toList ++ st.map (m_val b) = (r.toList ++ st).map (m_val b) := by cases r <;> rfl
theorem ok_app {L : List (Nat × Nat)} {r : Option MV} {st : List MV} (h1 : ∀ v, r = some v → m_ok L v) (h2 : ∀ v ∈ st, m_ok L v) : ∀ v ∈ r.toList ++ st, m_ok L v := fun v hv => by
  rcases List.mem_append.mp hv with h | h
  · cases r with
    | none => cases h
    | some w => exact h1 v (by rw [List.mem_singleton.mp h])
  · exact h2 v h
theorem b_callV {c n k : Nat} {idx d' mc' ms' rc' rs' : Nat} {y : MethodName} {M' : MM} {as : List MV} {Q' : Option MV → MS → Prop} (hd : decode M.2.1 pc = .ok (.invokevirtual idx, 3)) (hlk0 : Cond.methodLink (m_cn M.1) idx y ∈ tw) (hnm : m_nm y M' as.length) (hc : M'.1 = c) (hc13 : c < 13) (hiv : Cond.instanceMethod y ∈ tw ∧ Cond.selects y.cls y y ∈ tw) (hM : m_met G d' mc' ms' y M' (mR (c, n, k) :: as) S Q') (hst : m_cat st ≤ 8) (hR : d' + 1 ≤ R.frames ∧ 8 + (M'.2.2.1 + 11) + 40 * d' ≤ R.locals) (hrc : rc = rc' + mc') (hrs : rs = rs' + ms') (hLk : ∀ r S', Q' r S' → ∀ v, m_ok S.1 v → m_ok S'.1 v) (h : ∀ r S', Q' r S' → m_B G R M Q rc' rs' (pc + 3) ls (r.toList ++ st) S') : m_B G R M Q rc rs pc ls (as.reverse ++ mR (c, n, k) :: st) S := by
  intro p e s m args below meth c0 H locs cells slots A X
  obtain ⟨hC, hat, hlo, hcs, hl, ho1, ho2⟩ := X
  obtain ⟨hx, hb, hml, hown, hts, hr, hlk, hin, hKK⟩ := id hC
  have hK := hKK.1
  have hk : S.1[k]? = some (c, n) := ho1 (mR (c, n, k)) (List.mem_append_right _ List.mem_cons_self) _ rfl
  have hcls := m_cls_of hc13
  have hcell := hat.cell hk
  rw [m_ent_o hc13] at hcell
  obtain ⟨r', hr', cell, g1, g2, g3, -⟩ := hcell
  have hCy : y.cls = m_cn c := hnm.2.2.1.trans (by rw [hc])
  have hgood : GoodIn tw (wsV (m_cn M.1) idx y.cls y (Cond.code y M'.2.1 M'.2.2.1 M'.2.2.2.1 :: tw)) := m_good (fun w hw => by
    unfold wsV at hw
    rcases List.mem_append.mp hw with h1 | h1
    · simp only [List.mem_cons, List.not_mem_nil, or_false] at h1
      rcases h1 with rfl | rfl | rfl | rfl
      · exact hlk0
      · exact hiv.1
      · exact hiv.2
      · exact hnm.2.1
    · exact m_cwords hnm w h1)
  have run := W.runV (R := R) (H := H) (locs := locs) (cells := cells) (slots := slots) (e := e) (below := below) (meth := meth) (As := as.map (m_val G.2.2.1.size)) (rest := st.map (m_val G.2.2.1.size)) (b := G.2.2.1.size + k) (C := y.cls) (g := F0 m pc A ((as.reverse ++ mR (c, n, k) :: st).map (m_val G.2.2.1.size))) ⟨hx, hb, hml, hown, hts⟩ hM
    (cwV as.length hts hgood rfl rfl rfl ⟨rfl, hnm.2.2.2⟩ hR) ⟨m_pre_blind, ⟨cell, g1, by rw [g3]; rfl, by rw [g2, hCy]; exact (hK.1 c _ hcls.1).2.1⟩, fun U hU hW => ⟨rfl, by rw [hU]; exact hat, m_K.warm hW hKK, fun v hv => ho1 v (by
      rcases List.mem_cons.mp hv with h1 | h1
      · rw [h1]; exact List.mem_append_right _ List.mem_cons_self
      · exact List.mem_append_left _ (List.mem_reverse.mpr h1))⟩⟩ rfl (by simp) hl.1 (by simp [m_val, m_ad, va_rf]) (by show 2 * 0 + _ ≤ 8; rw [m_cat_eq]; omega) hd ⟨by omega, by omega⟩
  intro T hT X
  obtain ⟨v, st₀, t, T', L, h0, X', hL', e1, hq, stp⟩ := run T hT X
  obtain ⟨r, S', hr', hQ', hat', hK', hok'⟩ := hq
  have hv : v = r.map (m_val G.2.2.1.size) := Outcome.returned.inj hr'
  subst hv
  obtain ⟨t2, a1, b1⟩ := h r S' hQ' p e s m args below meth c0 t.heap (locs ++ L) (cells + mc') (slots + ms') A ⟨hC, hat', fun q hq => (List.mem_append.mp hq).elim (hlo q) (hL' q), ⟨by omega, by omega⟩, hl, ok_app hok' (fun v hv => hLk r S' hQ' v (ho1 v (List.mem_append_right _ (List.mem_cons_of_mem _ hv)))), fun i v hv => hLk r S' hQ' v (ho2 i v hv)⟩ T' e1 X'
  refine ⟨t2, stp t2 ?_, b1⟩
  rw [← m_rest] at a1
  exact a1
theorem b_callS {idx d' mc' ms' rc' rs' : Nat} {y : MethodName} {M' : MM} {as : List MV} {Q' : Option MV → MS → Prop} (hd : decode M.2.1 pc = .ok (.invokestatic idx, 3)) (hlk0 : Cond.methodLink (m_cn M.1) idx y ∈ tw) (hnm : m_nm y M' as.length) (hsv : Cond.static y ∈ tw) (hM : m_met G d' mc' ms' y M' (as) S Q') (hst : m_cat st ≤ 8) (hR : d' + 1 ≤ R.frames ∧ 8 + (M'.2.2.1 + 11) + 40 * d' ≤ R.locals) (hrc : rc = rc' + mc') (hrs : rs = rs' + ms') (hLk : ∀ r S', Q' r S' → ∀ v, m_ok S.1 v → m_ok S'.1 v) (h : ∀ r S', Q' r S' → m_B G R M Q rc' rs' (pc + 3) ls (r.toList ++ st) S') : m_B G R M Q rc rs pc ls (as.reverse ++ st) S := by
  intro p e s m args below meth c0 H locs cells slots A X
  obtain ⟨hC, hat, hlo, hcs, hl, ho1, ho2⟩ := X
  obtain ⟨hx, hb, hml, hown, hts, hr, hlk, hin, hKK⟩ := id hC
  have hK := hKK.1
  have run := W.runS (R := R) (H := H) (locs := locs) (cells := cells) (slots := slots) (e := e) (below := below) (meth := meth) (As := as.map (m_val G.2.2.1.size)) (rest := st.map (m_val G.2.2.1.size)) (g := F0 m pc A ((as.reverse ++ st).map (m_val G.2.2.1.size))) ⟨hx, hb, hml, hown, hts⟩ hM
    ⟨callB_of as.length hts (m_good (m_cwords hnm)) rfl rfl rfl (hts _ hnm.2.1) (hts _ hlk0) hnm.2.2.2 hR, hts _ hsv⟩ ⟨m_pre_blind, fun U hU hW => ⟨rfl, by rw [hU]; exact hat, m_K.warm hW hKK, fun v hv => ho1 v (List.mem_append_left _ (List.mem_reverse.mpr hv))⟩⟩ rfl (by simp) hl.1 (by simp) (by show 2 * 0 + _ ≤ 8; rw [m_cat_eq]; omega) hd ⟨by omega, by omega⟩
  intro T hT X
  obtain ⟨v, st₀, t, T', L, h0, X', hL', e1, hq, stp⟩ := run T hT X
  obtain ⟨r, S', hr', hQ', hat', hK', hok'⟩ := hq
  have hv : v = r.map (m_val G.2.2.1.size) := Outcome.returned.inj hr'
  subst hv
  obtain ⟨t2, a1, b1⟩ := h r S' hQ' p e s m args below meth c0 t.heap (locs ++ L) (cells + mc') (slots + ms') A ⟨hC, hat', fun q hq => (List.mem_append.mp hq).elim (hlo q) (hL' q), ⟨by omega, by omega⟩, hl, ok_app hok' (fun v hv => hLk r S' hQ' v (ho1 v (List.mem_append_right _ hv))), fun i v hv => hLk r S' hQ' v (ho2 i v hv)⟩ T' e1 X'
  refine ⟨t2, stp t2 ?_, b1⟩
  rw [← m_rest] at a1
  exact a1
theorem b_callI {c n k : Nat} {idx d' mc' ms' rc' rs' : Nat} {y : MethodName} {M' : MM} {as : List MV} {Q' : Option MV → MS → Prop} (hd : decode M.2.1 pc = .ok (.invokespecial idx, 3)) (hlk0 : Cond.methodLink (m_cn M.1) idx y ∈ tw) (hnm : m_nm y M' as.length) (hret : M'.2.2.2.1 = none) (hyi : y.name = "<init>") (hiv : Cond.instanceMethod y ∈ tw) (hM : m_met G d' mc' ms' y M' (mR (c, n, k) :: as) S Q') (hst : m_cat st ≤ 8) (hR : d' + 1 ≤ R.frames ∧ 8 + (M'.2.2.1 + 11) + 40 * d' ≤ R.locals) (hrc : rc = rc' + mc') (hrs : rs = rs' + ms') (hLk : ∀ r S', Q' r S' → ∀ v, m_ok S.1 v → m_ok S'.1 v) (h : ∀ r S', Q' r S' → m_B G R M Q rc' rs' (pc + 3) ls (r.toList ++ st) S') : m_B G R M Q rc rs pc ls (as.reverse ++ mR (c, n, k) :: st) S := by
  intro p e s m args below meth c0 H locs cells slots A X
  obtain ⟨hC, hat, hlo, hcs, hl, ho1, ho2⟩ := X
  obtain ⟨hx, hb, hml, hown, hts, hr, hlk, hin, hKK⟩ := id hC
  have hK := hKK.1
  have hg := m_cwords hnm
  obtain ⟨y1, y2, y3, y4, y5, y6⟩ := hnm
  rw [hret] at y1 hg
  have hM' : Met G.2.2.2 y (Cond.code y M'.2.1 M'.2.2.1 none :: tw) (m_rm d' mc' ms') (m_pre G (mR (c, n, k) :: as) S) (m_Q G Q') mc' ms' (fun q => G.2.2.1.size ≤ q) := by
    have hM2 := hM
    unfold m_met at hM2
    rw [hret] at hM2
    exact hM2
  have run := W.runI (R := R) (H := H) (locs := locs) (cells := cells) (slots := slots) (e := e) (below := below) (meth := meth) (As := as.map (m_val G.2.2.1.size)) (rest := st.map (m_val G.2.2.1.size)) (b := G.2.2.1.size + k) (g := F0 m pc A ((as.reverse ++ mR (c, n, k) :: st).map (m_val G.2.2.1.size))) ⟨hx, hb, hml, hown, hts⟩ hM'
    (cwI as.length hts (m_good hg) rfl rfl rfl (hts _ y2) (hts _ hlk0) (hts _ hiv) hyi ⟨y4, y5, y6⟩ hR) ⟨m_pre_blind, fun U hU hW => ⟨rfl, by rw [hU]; exact hat, m_K.warm hW hKK, fun v hv => ho1 v (by
      rcases List.mem_cons.mp hv with h1 | h1
      · rw [h1]; exact List.mem_append_right _ List.mem_cons_self
      · exact List.mem_append_left _ (List.mem_reverse.mpr h1))⟩⟩ rfl (by simp) hl.1 (by simp [m_val, m_ad, va_rf]) (by show 2 * 0 + _ ≤ 8; rw [m_cat_eq]; omega) hd ⟨by omega, by omega⟩
  intro T hT X
  obtain ⟨v, st₀, t, T', L, h0, X', hL', e1, hq, stp⟩ := run T hT X
  obtain ⟨r, S', hr', hQ', hat', hK', hok'⟩ := hq
  have hv : v = r.map (m_val G.2.2.1.size) := Outcome.returned.inj hr'
  subst hv
  obtain ⟨t2, a1, b1⟩ := h r S' hQ' p e s m args below meth c0 t.heap (locs ++ L) (cells + mc') (slots + ms') A ⟨hC, hat', fun q hq => (List.mem_append.mp hq).elim (hlo q) (hL' q), ⟨by omega, by omega⟩, hl, ok_app hok' (fun v hv => hLk r S' hQ' v (ho1 v (List.mem_append_right _ (List.mem_cons_of_mem _ hv)))), fun i v hv => hLk r S' hQ' v (ho2 i v hv)⟩ T' e1 X'
  refine ⟨t2, stp t2 ?_, b1⟩
  rw [← m_rest] at a1
  exact a1
theorem b_callIN {c n k : Nat} {idx d' mc' ms' rc' rs' : Nat} {y : MethodName} {M' : MM} {as : List MV} {Q' : Option MV → MS → Prop} (hd : decode M.2.1 pc = .ok (.invokespecial idx, 3)) (hlk0 : (m_cn M.1, idx, y) ∈ m_nest) (hnm : m_nm y M' as.length) (hret : M'.2.2.2.1 = none) (hyi : y.name = "<init>") (hiv : Cond.instanceMethod y ∈ tw) (hM : m_met G d' mc' ms' y M' (mR (c, n, k) :: as) S Q') (hst : m_cat st ≤ 8) (hR : d' + 1 ≤ R.frames ∧ 8 + (M'.2.2.1 + 11) + 40 * d' ≤ R.locals) (hrc : rc = rc' + mc') (hrs : rs = rs' + ms') (hLk : ∀ r S', Q' r S' → ∀ v, m_ok S.1 v → m_ok S'.1 v) (h : ∀ r S', Q' r S' → m_B G R M Q rc' rs' (pc + 3) ls (r.toList ++ st) S') : m_B G R M Q rc rs pc ls (as.reverse ++ mR (c, n, k) :: st) S := by
  intro p e s m args below meth c0 H locs cells slots A X
  obtain ⟨hC, hat, hlo, hcs, hl, ho1, ho2⟩ := X
  obtain ⟨hx, hb, hml, hown, hts, hr, hlk, hin, hKK⟩ := id hC
  have hK := hKK.1
  have hg := m_cwords hnm
  obtain ⟨y1, y2, y3, y4, y5, y6⟩ := hnm
  rw [hret] at y1 hg
  have hM' : Met G.2.2.2 y (Cond.code y M'.2.1 M'.2.2.1 none :: tw) (m_rm d' mc' ms') (m_pre G (mR (c, n, k) :: as) S) (m_Q G Q') mc' ms' (fun q => G.2.2.1.size ≤ q) := by
    have hM2 := hM
    unfold m_met at hM2
    rw [hret] at hM2
    exact hM2
  have run := va_runIN (R := R) (H := H) (locs := locs) (cells := cells) (slots := slots) (e := e) (below := below) (meth := meth) (As := as.map (m_val G.2.2.1.size)) (rest := st.map (m_val G.2.2.1.size)) (b := G.2.2.1.size + k) (host := "WalkFence") (g := F0 m pc A ((as.reverse ++ mR (c, n, k) :: st).map (m_val G.2.2.1.size))) ⟨hx, hb, hml, hown, hts⟩ hM'
    ⟨va_cnB as.length hts (m_good hg) rfl rfl rfl (hKK.2.1 _ hlk0) (hts _ y2) ⟨y4, y5, y6⟩ hR, hyi, hts _ hiv⟩ ⟨m_pre_blind, fun U hU hW => ⟨rfl, by rw [hU]; exact hat, m_K.warm hW hKK, fun v hv => ho1 v (by
      rcases List.mem_cons.mp hv with h1 | h1
      · rw [h1]; exact List.mem_append_right _ List.mem_cons_self
      · exact List.mem_append_left _ (List.mem_reverse.mpr h1))⟩⟩ rfl (by simp) hl.1 (by simp [m_val, m_ad, va_rf]) (by show 2 * 0 + _ ≤ 8; rw [m_cat_eq]; omega) hd ⟨by omega, by omega⟩
  intro T hT X
  obtain ⟨v, st₀, t, T', L, h0, X', hL', e1, e2', hq, stp⟩ := run T hT X
  obtain ⟨r, S', hr', hQ', hat', hK', hok'⟩ := hq
  have hv : v = r.map (m_val G.2.2.1.size) := Outcome.returned.inj hr'
  subst hv
  obtain ⟨t2, a1, b1⟩ := h r S' hQ' p e s m args below meth c0 t.heap (locs ++ L) (cells + mc') (slots + ms') A ⟨hC, hat', fun q hq => (List.mem_append.mp hq).elim (hlo q) (hL' q), ⟨by omega, by omega⟩, hl, ok_app hok' (fun v hv => hLk r S' hQ' v (ho1 v (List.mem_append_right _ (List.mem_cons_of_mem _ hv)))), fun i v hv => hLk r S' hQ' v (ho2 i v hv)⟩ T' e1 X'
  refine ⟨t2, stp t2 ?_, b1⟩
  rw [← m_rest] at a1
  exact a1
end MR9
