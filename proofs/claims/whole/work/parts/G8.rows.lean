/-! the law's own rows -/
def lC (G : MG) (p : Program) (s : State) (m : MethodId) (meth : Method) (c : Code) (b N : Nat) (xs : Nat → Int32) : Prop := lw_At p s m meth c b N xs ∧ G.2.2.1 = s.heap ∧ m_K G s ∧ N ≤ 3072
def m_L (G : MG) (p : Program) (e : Env) (s : State) (m : MethodId) (below : List Frame) (meth : Method) (c : Code) (b cells slots pc : Nat) (lv : List (Nat × Value)) (st : List Value) (S : MS) : Prop :=
  ∀ (H : Heap) (locs : List Loc) (A : Array Slot), m_at G S H → (∀ q ∈ locs, G.2.2.1.size ≤ q.base) → lv_has A 4 lv → W p G.2.2.2 e room_1 s m #[Value.ref b] below meth c H locs cells slots (lw_Z below #[Value.ref b] s) (F0 m pc A st)
abbrev lvv (G : MG) (b a : Nat) : List (Nat × Value) := [(3, .int (nI a)), (2, .ref (G.2.2.1.size + 177)), (1, .ref (G.2.2.1.size + 0)), (0, .ref b)]
section GL8
variable {G : MG} {p : Program} {e : Env} {s : State} {m : MethodId} {below : List Frame} {meth : Method} {c : Code} {b N cells slots pc a : Nat} {xs : Nat → Int32} {lv : List (Nat × Value)} {st : List Value} {S : MS}
theorem l_ts (hC : lC G p s m meth c b N xs) : ∀ w ∈ tw, w.before #[Value.ref b] s = true := fun w hw => hC.1.2.2.2.2.2.1 w (List.mem_filter.mp hw).1
theorem l_S {H : Heap} {locs : List Loc} (hC : lC G p s m meth c b N xs) (hat : m_at G S H) (hlo : ∀ q ∈ locs, G.2.2.1.size ≤ q.base) : va_S (fun q => s.heap.size ≤ q) s.heap H locs := by
  have e := hC.2.1
  refine ⟨by rw [hat.1, e]; omega, fun q hq hA => ?_, fun q hq => by rw [← e]; exact hlo q hq⟩
  have := hat.2.1 q (by rw [e]; exact hq)
  rw [this, e]
theorem l_aload {k : Fin 4} {i j x : Nat} (hC : lC G p s m meth c b N xs) (hd : decode code pc = .ok (.aload_n k, 1)) (hi : (k : Nat) = i) (hj : lv[j]? = some (i, .ref x)) (h : m_L G p e s m below meth c b cells slots (pc + 1) lv (.ref x :: st) S) : m_L G p e s m below meth c b cells slots pc lv st S := by
  intro H locs A hat hlo hl
  exact lv_aload_n hC.1.1 hC.1.2.1 hd hi (lv_at hl j hj) (h H locs A hat hlo hl)
theorem l_iconst {n : Int} {v : Int32} (hC : lC G p s m meth c b N xs) (hd : decode code pc = .ok (.iconst n, 1)) (hv : Int32.ofInt n = v) (h : m_L G p e s m below meth c b cells slots (pc + 1) lv (.int v :: st) S) : m_L G p e s m below meth c b cells slots pc lv st S := by
  intro H locs A hat hlo hl
  exact lv_iconst hC.1.1 hC.1.2.1 hd hv (h H locs A hat hlo hl)
/-- one of the call's numbers -/
theorem l_arg {j : Nat} (hC : lC G p s m meth c b N xs) (hj : a + j < N) (hd0 : decode code pc = .ok (.aload_n 0, 1)) (hd1 : decode code (pc + 1) = .ok (.iload_n 3, 1)) (hd2 : decode code (pc + 2) = .ok (.iconst (j : Int), 1)) (hd3 : decode code (pc + 3) = .ok (.iadd, 1)) (hd4 : decode code (pc + 4) = .ok (.iaload, 1)) (h : m_L G p e s m below meth c b cells slots (pc + 5) (lvv G b a) (.int (xs (a + j)) :: st) S) : m_L G p e s m below meth c b cells slots pc (lvv G b a) st S := by
  intro H locs A hat hlo hl
  have hx := hC.1.1
  have hb := hC.1.2.1
  have hN := hC.2.2.2
  refine lv_aload_n hx hb hd0 (i := 0) rfl (lv_at hl 3 rfl) ?_
  refine lv_iload_n hx hb hd1 (i := 3) rfl (lv_at hl 0 rfl) ?_
  refine lv_iconst (v := nI j) hx hb hd2 (by show xI (j : Int) = _; exact xI_n j) ?_
  refine lv_iadd hx hb hd3 ?_
  rw [nI_add]
  have hv : vp_in (nI (a + j)) N := in_n (n := N) (by omega) (nI_pos (by omega)) (nI_ge hj (by omega))
  refine va_sld hx hb hC.1.2.2.2.2.2.2.1 hC.1.2.2.2.2.2.2.2.1 (A := fun q => s.heap.size ≤ q) (Nat.not_le.mpr hC.1.2.2.2.2.2.2.2.1) (l_S hC hat hlo) hv hd4 ?_
  rw [nI_clamp (by omega)]
  exact h H locs A hat hlo hl
theorem l_callV {idx d' cN k : Nat} {y' : MethodName} {M' : MM} {as : List MV} {r : MV} {S' : MS} (hC : lC G p s m meth c b N xs) (hcs : cells ≤ 600000 ∧ slots ≤ 7302250) (hd : decode code pc = .ok (.invokevirtual idx, 3)) (hlk0 : Cond.methodLink (m_cn 13) idx y' ∈ tw) (hnm : m_nm y' M' as.length) (hc : M'.1 = cN) (hc13 : cN < 13) (hiv : Cond.instanceMethod y' ∈ tw ∧ Cond.selects y'.cls y' y' ∈ tw) (hk : S.1[k]? = some (cN, 0)) (has : ∀ v ∈ as, m_ok S.1 v) (hM : m_met G d' 0 0 y' M' (mR (cN, 0, k) :: as) S (m_is (some r) S')) (hst : (st.map fun v => v.category).sum ≤ 8) (hR : d' + 1 ≤ 2048 ∧ 8 + (M'.2.2.1 + 11) + 40 * d' ≤ 84000) (h : m_L G p e s m below meth c b cells slots (pc + 3) lv (m_val G.2.2.1.size r :: st) S') : m_L G p e s m below meth c b cells slots pc lv ((as.map (m_val G.2.2.1.size)).reverse ++ .ref (G.2.2.1.size + k) :: st) S := by
  intro H locs A hat hlo hl
  have hx := hC.1.1
  have hb := hC.1.2.1
  have hml := hC.1.2.2.2.1
  have hown : s.vm.findClass (m_cn 13) = some m.cls := hC.1.2.2.2.2.1
  have hts := l_ts hC
  have hKK := hC.2.2.1
  have hK := hKK.1
  have hcls := m_cls_of hc13
  have hcell := hat.cell hk
  rw [m_ent_o hc13] at hcell
  obtain ⟨r', hr', cell, g1, g2, g3, -⟩ := hcell
  have hCy : y'.cls = m_cn cN := hnm.2.2.1.trans (by rw [hc])
  have hgood : GoodIn tw (wsV (m_cn 13) idx y'.cls y' (Cond.code y' M'.2.1 M'.2.2.1 M'.2.2.2.1 :: tw)) := m_good (fun w hw => by
    unfold wsV at hw
    rcases List.mem_append.mp hw with h1 | h1
    · simp only [List.mem_cons, List.not_mem_nil, or_false] at h1
      rcases h1 with rfl | rfl | rfl | rfl
      · exact hlk0
      · exact hiv.1
      · exact hiv.2
      · exact hnm.2.1
    · exact m_cwords hnm w h1)
  have run := W.runV (R := room_1) (H := H) (locs := locs) (cells := cells) (slots := slots) (e := e) (below := below) (meth := meth) (As := as.map (m_val G.2.2.1.size)) (rest := st) (b := G.2.2.1.size + k) (C := y'.cls) (g := F0 m pc A ((as.map (m_val G.2.2.1.size)).reverse ++ .ref (G.2.2.1.size + k) :: st)) ⟨hx, hb, hml, hown, hts⟩ hM
    (cwV as.length hts hgood rfl rfl rfl ⟨rfl, hnm.2.2.2⟩ hR) ⟨m_pre_blind, ⟨cell, g1, by rw [g3]; rfl, by rw [g2, hCy]; exact (hK.1 cN _ hcls.1).2.1⟩, fun U hU hW => ⟨rfl, by rw [hU]; exact hat, m_K.warm hW hKK, fun v hv => by
      rcases List.mem_cons.mp hv with h1 | h1
      · rw [h1]; exact fun q hq => by cases hq; exact hk
      · exact has v h1⟩⟩ rfl (by simp) hl.1 rfl (by show 2 * 0 + _ ≤ 8; omega) hd ⟨hcs.1, hcs.2⟩
  intro T hT X
  obtain ⟨v, st₀, t, T', L, h0, X', hL', e1, hq, stp⟩ := run T hT X
  obtain ⟨r1, S1, hr', ⟨rfl, rfl⟩, hat', hK', hok'⟩ := hq
  have hv : v = some (m_val G.2.2.1.size r) := Outcome.returned.inj hr'
  subst hv
  obtain ⟨t2, a1, b1⟩ := h t.heap (locs ++ L) A hat' (fun q hq => (List.mem_append.mp hq).elim (hlo q) (hL' q)) hl T' e1 X'
  exact ⟨t2, stp t2 a1, b1⟩
theorem l_callI {idx d' mc' ms' cN k : Nat} {y' : MethodName} {M' : MM} {S' : MS} (hC : lC G p s m meth c b N xs) (hcs : cells + mc' ≤ 600000 ∧ slots + ms' ≤ 7302250) (hd : decode code pc = .ok (.invokespecial idx, 3)) (hlk0 : Cond.methodLink (m_cn 13) idx y' ∈ tw) (hnm : m_nm y' M' 0) (hret : M'.2.2.2.1 = none) (hyi : y'.name = "<init>") (hiv : Cond.instanceMethod y' ∈ tw) (hk : S.1[k]? = some (cN, 0)) (hM : m_met G d' mc' ms' y' M' [mR (cN, 0, k)] S (m_is none S')) (hst : (st.map fun v => v.category).sum ≤ 8) (hR : d' + 1 ≤ 2048 ∧ 8 + (M'.2.2.1 + 11) + 40 * d' ≤ 84000) (h : m_L G p e s m below meth c b (cells + mc') (slots + ms') (pc + 3) lv st S') : m_L G p e s m below meth c b cells slots pc lv (.ref (G.2.2.1.size + k) :: st) S := by
  intro H locs A hat hlo hl
  have hx := hC.1.1
  have hb := hC.1.2.1
  have hml := hC.1.2.2.2.1
  have hown : s.vm.findClass (m_cn 13) = some m.cls := hC.1.2.2.2.2.1
  have hts := l_ts hC
  have hKK := hC.2.2.1
  have hg := m_cwords hnm
  obtain ⟨y1, y2, y3, y4, y5, y6⟩ := hnm
  rw [hret] at y1 hg
  have hM' : Met G.2.2.2 y' (Cond.code y' M'.2.1 M'.2.2.1 none :: tw) (m_rm d' mc' ms') (m_pre G [mR (cN, 0, k)] S) (m_Q G (m_is none S')) mc' ms' (fun q => G.2.2.1.size ≤ q) := by
    have hM2 := hM
    unfold m_met at hM2
    rw [hret] at hM2
    exact hM2
  have run := W.runI (R := room_1) (H := H) (locs := locs) (cells := cells) (slots := slots) (e := e) (below := below) (meth := meth) (As := []) (rest := st) (b := G.2.2.1.size + k) (g := F0 m pc A (.ref (G.2.2.1.size + k) :: st)) ⟨hx, hb, hml, hown, hts⟩ hM'
    (cwI 0 hts (m_good hg) rfl rfl rfl (hts _ y2) (hts _ hlk0) (hts _ hiv) hyi ⟨y4, y5, y6⟩ hR) ⟨m_pre_blind, fun U hU hW => ⟨rfl, by rw [hU]; exact hat, m_K.warm hW hKK, fun v hv => by
      rw [List.mem_singleton.mp hv]; exact fun q hq => by cases hq; exact hk⟩⟩ rfl rfl hl.1 rfl (by show 2 * 0 + _ ≤ 8; omega) hd ⟨hcs.1, hcs.2⟩
  intro T hT X
  obtain ⟨v, st₀, t, T', L, h0, X', hL', e1, hq, stp⟩ := run T hT X
  obtain ⟨r1, S1, hr', ⟨rfl, rfl⟩, hat', hK', hok'⟩ := hq
  have hv : v = none := Outcome.returned.inj hr'
  subst hv
  obtain ⟨t2, a1, b1⟩ := h t.heap (locs ++ L) A hat' (fun q hq => (List.mem_append.mp hq).elim (hlo q) (hL' q)) hl T' e1 X'
  exact ⟨t2, stp t2 a1, b1⟩
theorem l_new {idx cN n : Nat} {L : List (Nat × Nat)} {I : MI} {J : MJ} {R : MRR} (hC : lC G p s m meth c b N xs) (hcs : cells + 1 ≤ 600000 ∧ slots + m_nf cN ≤ 7302250) (hd : decode code pc = .ok (.new idx, 3)) (hcl : Cond.classLink (m_cn 13) idx (m_cn cN) ∈ tw) (hi : Cond.instantiable (m_cn cN) (m_nf cN) ∈ tw ∧ Cond.initialized (m_cn cN) ∈ tw) (hc : cN < 13) (hL : L.length = n)
    (h : m_L G p e s m below meth c b (cells + 1) (slots + m_nf cN) (pc + 3) lv (.ref (G.2.2.1.size + n) :: st) (L ++ [(cN, 0)], m_zap I n 0, m_zap J n 0, m_zap R n none)) : m_L G p e s m below meth c b cells slots pc lv st (L, I, J, R) := by
  subst hL
  intro H locs A hat hlo hl
  have hx := hC.1.1
  have hb := hC.1.2.1
  have hown : s.vm.findClass (m_cn 13) = some m.cls := hC.1.2.2.2.2.1
  have hts := l_ts hC
  have hcls := m_cls_of hc
  have hKn := hC.2.2.1.1.1 cN _ hcls.1
  refine W.newcK hx hb hown (hts _ hcl) (hts _ hi.1) (hts _ hi.2) rfl hd hcs.1 hcs.2 hKn.2.1 rfl fun H1 kC hkC e1 z1 o1 => ?_
  have hsz : H.size = G.2.2.1.size + L.length := hat.1
  have hh := h H1 locs A (m_at_new (S := (L, I, J, R)) hat (by
    rw [m_ent_o hc]
    rw [hsz] at e1
    exact ⟨_, hcls.1, (u_born (m_ty cN) hts hcls.2.1 hKn hkC e1 hcls.2.2.1).to (fun j hj => by
      have hj : j < m_nf cN := hj
      rw [m_fs_V hj]
      exact m_def hc hj rfl)⟩) z1 o1) hlo hl
  rw [show (Value.ref H.size :: (F0 m pc A st).stack) = (.ref (G.2.2.1.size + L.length) :: st) by rw [hsz]]
  exact hh
theorem l_tsw {dflt lo hi : Int} {offs : Array Int} {len : Nat} {x : Int32} {tgt : Nat → Nat} {td : Nat} (hC : lC G p s m meth c b N xs) (hd : decode code pc = .ok (.tableswitch dflt lo hi offs, len)) (hoff : ∀ k, k < offs.size → (pc : Int) + offs.getD k 0 = (tgt k : Int)) (hsz : hi - lo + 1 = offs.size) (htd : (pc : Int) + dflt = (td : Int))
    (hin : ∀ k : Nat, k < offs.size → x.toInt = lo + k → m_L G p e s m below meth c b cells slots (tgt k) lv st S) (hout : m_L G p e s m below meth c b cells slots td lv st S) : m_L G p e s m below meth c b cells slots pc lv (.int x :: st) S := by
  intro H locs A hat hlo hl
  have hx := hC.1.1
  have hb := hC.1.2.1
  by_cases h1 : x.toInt < lo
  · exact lv_tableOut hx hb hd (Or.inl h1) htd (hout H locs A hat hlo hl)
  · by_cases h2 : hi < x.toInt
    · exact lv_tableOut hx hb hd (Or.inr h2) htd (hout H locs A hat hlo hl)
    · have hk : (x.toInt - lo).toNat < offs.size := by omega
      have hg : offs[(x.toInt - lo).toNat]? = some (offs.getD (x.toInt - lo).toNat 0) := by simp [Array.getD, hk]
      exact lv_tableIn hx hb hd h1 h2 hg (hoff _ hk) (hin _ hk (by omega) H locs A hat hlo hl)
/-- both answers are the same -/
theorem l_eq {off : Int} {tgt : Nat} {x : Int32} (hC : lC G p s m meth c b N xs) (hd : decode code pc = .ok (.if_icmp .eq off, 3)) (ht : (pc : Int) + off = (tgt : Int)) (h : m_L G p e s m below meth c b cells slots tgt lv st S) : m_L G p e s m below meth c b cells slots pc lv (.int x :: .int x :: st) S := by
  intro H locs A hat hlo hl
  exact lv_icmp_eq hC.1.1 hC.1.2.1 hd ht (fun _ => h H locs A hat hlo hl) (fun z => absurd rfl z)
theorem l_eqJ {off : Int} {tgt : Nat} {x : Int64} (hC : lC G p s m meth c b N xs) (hd0 : decode code pc = .ok (.lcmp, 1)) (hd : decode code (pc + 1) = .ok (.ifCond .eq off, 3)) (ht : ((pc + 1 : Nat) : Int) + off = (tgt : Int)) (h : m_L G p e s m below meth c b cells slots tgt lv st S) : m_L G p e s m below meth c b cells slots pc lv (.long x :: .long x :: st) S := by
  intro H locs A hat hlo hl
  refine W.lcmp hC.1.1 hC.1.2.1 hd0 ?_
  exact lv_if_eq hC.1.1 hC.1.2.1 hd ht (fun _ => h H locs A hat hlo hl) (fun z => absurd ((lg_cmp_eq x x).mpr rfl) z)
end GL8
