/-! things made: objects, arrays -/
section MN11
variable {G : MG} {R : Room} {M : MM} {Q : Option MV → MS → Prop} {rc rs pc : Nat} {ls : ML} {st : List MV} {S : MS}
def m_zap {α : Type} (f : Nat → Nat → α) (k : Nat) (v : α) : Nat → Nat → α := fun k' j' => if k' = k then v else f k' j'
/-- a cell more, all its places at their default -/
def m_new (S : MS) (q : Nat × Nat) : MS := (S.1 ++ [q], m_zap S.2.1 S.1.length 0, m_zap S.2.2.1 S.1.length 0, m_zap S.2.2.2 S.1.length none)
theorem m_zap_ne {α : Type} {f : Nat → Nat → α} {k i : Nat} {v : α} (h : i ≠ k) : m_zap f k v i = f i := by
  funext j'
  simp [m_zap, h]
theorem m_ent_new {dA : Nat → ClassId} {b : Nat} {S : MS} {i : Nat} {q : Nat × Nat} (q' : Nat × Nat) (h : i ≠ S.1.length) : m_ent dA b (m_new S q) i q' = m_ent dA b S i q' := by
  simp only [m_ent, m_new, m_fv, m_zap_ne h]
theorem ok_new {S : MS} {q : Nat × Nat} {v : MV} (h : m_ok S.1 v) : m_ok (m_new S q).1 v := fun r hr => by
  have h1 := h r hr
  show (S.1 ++ [q])[r.2.2]? = _
  rw [List.getElem?_append_left (List.getElem?_eq_some_iff.mp h1).1]
  exact h1
theorem rok_new {S : MS} {q : Nat × Nat} (h : ∀ k j, m_rok S.1 (S.2.2.2 k j)) : ∀ k j, m_rok (m_new S q).1 ((m_new S q).2.2.2 k j) := by
  intro k j r hr
  have hr2 : (if k = S.1.length then none else S.2.2.2 k j) = some r := hr
  split at hr2
  · cases hr2
  · have h1 := h k j r hr2
    show (S.1 ++ [q])[r.2.2]? = _
    rw [List.getElem?_append_left (List.getElem?_eq_some_iff.mp h1).1]
    exact h1
theorem m_at_new {G : MG} {S : MS} {H H1 : Heap} {q : Nat × Nat} (h : m_at G S H) (hn : va_at G.1 vwCl (G.2.2.1.size + S.1.length, m_ent G.2.1 G.2.2.1.size (m_new S q) S.1.length q) H1) (hz : H1.size = H.size + 1) (hq : ∀ a, a < H.size → H1[a]? = H[a]?) : m_at G (m_new S q) H1 := by
  refine ⟨by rw [hz, h.1]; show _ = _ + (S.1 ++ [q]).length; simp; omega, fun a ha => by rw [hq a (by have := h.1; omega)]; exact h.2.1 a ha, fun i x hx => ?_, rok_new h.2.2.2⟩
  obtain ⟨q', h1, rfl⟩ := m_ws_inv hx
  have h1 : (S.1 ++ [q])[i]? = some q' := h1
  by_cases hi : i < S.1.length
  · rw [List.getElem?_append_left hi] at h1
    rw [m_ent_new q' (by omega)]
    exact (h.cell h1).kept (hq _ (by have := h.1; show G.2.2.1.size + i < _; omega))
  · have h2 := (List.getElem?_eq_some_iff.mp h1).1
    simp only [List.length_append, List.length_cons, List.length_nil] at h2
    have hi2 : i = S.1.length := by omega
    subst hi2
    have : q = q' := by simpa using h1
    subst this
    exact hn
theorem m_tys_small : ∀ c, c < 13 → ∀ j, j < m_nf c → m_tc (m_ty c j) ≤ 3 := by decide +kernel
theorem m_def {b c j k : Nat} {S : MS} {q : Nat × Nat} (hc : c < 13) (hj : j < m_nf c) (hk : k = S.1.length) : defaultValue (m_ty c j) = m_val b (m_fv (m_new S q) k c j) := by
  have h := m_tys_small c hc j hj
  have e1 : (m_new S q).2.1 k j = 0 := by simp [m_new, m_zap, hk]
  have e2 : (m_new S q).2.2.1 k j = 0 := by simp [m_new, m_zap, hk]
  have e3 : (m_new S q).2.2.2 k j = none := by simp [m_new, m_zap, hk]
  unfold m_fv
  rw [e1, e2, e3]
  cases ht : m_ty c j <;> rw [ht] at h <;> first | rfl | (simp [m_tc] at h; done)
theorem b_new {idx c rc' rs' : Nat} (hd : decode M.2.1 pc = .ok (.new idx, 3)) (hcl : Cond.classLink (m_cn M.1) idx (m_cn c) ∈ tw) (hi : Cond.instantiable (m_cn c) (m_nf c) ∈ tw ∧ Cond.initialized (m_cn c) ∈ tw) (hc : c < 13) (hrc : rc = rc' + 1) (hrs : rs = rs' + m_nf c)
    (h : m_B G R M Q rc' rs' (pc + 3) ls (mR (c, 0, S.1.length) :: st) (m_new S (c, 0))) : m_B G R M Q rc rs pc ls st S := by
  intro p e s m args below meth c0 H locs cells slots A X
  obtain ⟨hC, hat, hlo, hcs, hl, ho1, ho2⟩ := X
  obtain ⟨hx, hb, hml, hown, hts, hr, hlk, hin, hKK⟩ := id hC
  have hK := hKK.1
  have hcls := m_cls_of hc
  have hKn := hK.1 c _ hcls.1
  refine W.newcK hx hb hown (hts _ hcl) (hts _ hi.1) (hts _ hi.2) rfl hd (by omega) (by omega) hKn.2.1 rfl fun H1 kC hkC e1 z1 o1 => ?_
  have hsz : H.size = G.2.2.1.size + S.1.length := hat.1
  have hh := h p e s m args below meth c0 H1 locs (cells + 1) (slots + m_nf c) A ⟨hC, m_at_new hat (by
    rw [m_ent_o hc]
    rw [hsz] at e1
    exact ⟨_, hcls.1, (u_born (m_ty c) hts hcls.2.1 hKn hkC e1 hcls.2.2.1).to (fun j hj => by
      have hj : j < m_nf c := hj
      rw [m_fs_V hj]
      exact m_def hc hj rfl)⟩) z1 o1, hlo, ⟨by omega, by omega⟩, hl, ok_cons (fun r hr => by cases hr; show (S.1 ++ [(c, 0)])[S.1.length]? = _; simp) (fun v hv => ok_new (ho1 v hv)), fun i v hv => ok_new (ho2 i v hv)⟩
  rw [show (Value.ref H.size :: (F0 m pc A (List.map (m_val G.2.2.1.size) st)).stack) = (mR (c, 0, S.1.length) :: st).map (m_val G.2.2.1.size) by rw [hsz]; rfl]
  exact hh
def m_akind (t : ArrayType) : Nat := match t with
  | .int => 20
  | .long => 21
  | .byte => 22
  | .char => 23
  | .boolean => 24
  | _ => 0
theorem b_newa {t : ArrayType} {n : Int32} {N rc' rs' : Nat} (hd : decode M.2.1 pc = .ok (.newarray t, 2)) (hw : Cond.arrayClass (newarray.typeOf t) ∈ tw) (hk : 20 ≤ m_akind t) (hn : ¬ n < 0) (hN : n.toNatClampNeg = N) (hbytes : N * componentBytes (newarray.typeOf t) ≤ 536870912) (hrc : rc = rc' + 1) (hrs : rs = rs' + N)
    (h : m_B G R M Q rc' rs' (pc + 2) ls (mR (m_akind t, N, S.1.length) :: st) (m_new S (m_akind t, N))) : m_B G R M Q rc rs pc ls (mI n :: st) S := by
  intro p e s m args below meth c0 H locs cells slots A X
  obtain ⟨hC, hat, hlo, hcs, hl, ho1, ho2⟩ := X
  obtain ⟨hx, hb, hml, hown, hts, hr, hlk, hin, hKK⟩ := id hC
  have hK := hKK.1
  have hsz : H.size = G.2.2.1.size + S.1.length := hat.1
  refine va_newaK hx hb (hts _ hw) rfl hd rfl hn hN hbytes (by omega) (by omega) hsz fun H1 cA e1 z1 o1 hAr hNm => ?_
  have hent : va_at G.1 vwCl (G.2.2.1.size + S.1.length, m_ent G.2.1 G.2.2.1.size (m_new S (m_akind t, N)) S.1.length (m_akind t, N)) H1 := by
    cases t with
    | int =>
      have hA : cA = G.2.1 20 := Option.some.inj (hNm.symm.trans (hK.2 0 _ rfl).2)
      subst hA
      show H1[_]? = some (vp_cell (G.2.1 20) (N, .inl (m_zap S.2.1 S.1.length 0 S.1.length)))
      rw [e1, vp_cell_i]
      congr 2; funext j; simp [m_zap]; rfl
    | long =>
      have hA : cA = G.2.1 21 := Option.some.inj (hNm.symm.trans (hK.2 1 _ rfl).2)
      subst hA
      show H1[_]? = some (vp_cell (G.2.1 21) (N, .inr (.inl (m_zap S.2.2.1 S.1.length 0 S.1.length))))
      rw [e1, vp_cell_l]
      congr 2; funext j; simp [m_zap]; rfl
    | byte =>
      have hA : cA = G.2.1 22 := Option.some.inj (hNm.symm.trans (hK.2 2 _ rfl).2)
      subst hA
      show H1[_]? = some (vp_cell (G.2.1 22) (N, .inl (m_zap S.2.1 S.1.length 0 S.1.length)))
      rw [e1, vp_cell_i]
      congr 2; funext j; simp [m_zap]; rfl
    | char =>
      have hA : cA = G.2.1 23 := Option.some.inj (hNm.symm.trans (hK.2 3 _ rfl).2)
      subst hA
      show H1[_]? = some (vp_cell (G.2.1 23) (N, .inl (m_zap S.2.1 S.1.length 0 S.1.length)))
      rw [e1, vp_cell_i]
      congr 2; funext j; simp [m_zap]; rfl
    | boolean =>
      have hA : cA = G.2.1 24 := Option.some.inj (hNm.symm.trans (hK.2 4 _ rfl).2)
      subst hA
      show H1[_]? = some (vp_cell (G.2.1 24) (N, .inl (m_zap S.2.1 S.1.length 0 S.1.length)))
      rw [e1, vp_cell_i]
      congr 2; funext j; simp [m_zap]; rfl
    | _ => exact absurd hk (by decide)
  exact h p e s m args below meth c0 H1 locs (cells + 1) (slots + N) A ⟨hC, m_at_new hat hent (by rw [z1, hsz]) (fun a ha => o1 a (by rw [← hsz]; exact ha)), hlo, ⟨by omega, by omega⟩, hl, ok_cons (fun r hr => by cases hr; show (S.1 ++ [_])[S.1.length]? = _; simp) (fun v hv => ok_new (ok_tl ho1 v hv)), fun i v hv => ok_new (ho2 i v hv)⟩
theorem b_anew {idx kd c : Nat} {n : Int32} {N rc' rs' : Nat} (hd : decode M.2.1 pc = .ok (.anewarray idx, 3)) (hcl : Cond.classLink (m_cn M.1) idx (m_cn c) ∈ tw) (hkd : (kd = 25 ∧ c = 3) ∨ (kd = 26 ∧ c = 4)) (hn : ¬ n < 0) (hN : n.toNatClampNeg = N) (hbytes : N * 4 ≤ 536870912) (hrc : rc = rc' + 1) (hrs : rs = rs' + N)
    (h : m_B G R M Q rc' rs' (pc + 3) ls (mR (kd, N, S.1.length) :: st) (m_new S (kd, N))) : m_B G R M Q rc rs pc ls (mI n :: st) S := by
  intro p e s m args below meth c0 H locs cells slots A X
  obtain ⟨hC, hat, hlo, hcs, hl, ho1, ho2⟩ := X
  obtain ⟨hx, hb, hml, hown, hts, hr, hlk, hin, hKK⟩ := id hC
  have hK := hKK.1
  have hsz : H.size = G.2.2.1.size + S.1.length := hat.1
  have hover : va_AO (m_cn c) s := by
    rcases hkd with ⟨-, rfl⟩ | ⟨-, rfl⟩
    · exact hKK.2.2.2.2.1
    · exact hKK.2.2.2.2.2
  subst hN
  refine W.anew hx hb hown (hts _ hcl) (va_AO.use hover) rfl hd rfl hn hbytes (by omega) (by omega) fun cA kA comp f1 f2 f3 f4 => ?_
  generalize hH1 : H.push ({ cls := cA, slots := Array.replicate n.toNatClampNeg .null, vm := .none } : Cell) = H1
  have z1 : H1.size = H.size + 1 := by rw [← hH1, Array.size_push]
  have e1 : H1[H.size]? = some (arrV cA n.toNatClampNeg (fun _ => .null)) := by rw [← hH1, Array.getElem?_push_size, ← arrV_new]
  have o1 : ∀ q : Nat, q < H.size → H1[q]? = H[q]? := fun q hq => by rw [← hH1, Array.getElem?_push, if_neg (Nat.ne_of_lt hq)]
  rw [hsz] at e1
  have hent : va_at G.1 vwCl (G.2.2.1.size + S.1.length, m_ent G.2.1 G.2.2.1.size (m_new S (kd, n.toNatClampNeg)) S.1.length (kd, n.toNatClampNeg)) H1 := by
    rcases hkd with ⟨rfl, rfl⟩ | ⟨rfl, rfl⟩
    · obtain ⟨kA', comp', k1, k2', k3, k4⟩ := (hK.2 5 _ rfl).2
      have hA : cA = G.2.1 25 := Option.some.inj (f1.symm.trans k4)
      subst hA
      show H1[_]? = some (vp_cell (G.2.1 25) (n.toNatClampNeg, .inr (.inr (.inr (.inr fun j => m_ad G.2.2.1.size (m_zap S.2.2.2 S.1.length none S.1.length j))))))
      rw [e1, vp_cell_q]
      congr 2; funext j; simp [m_zap, m_ad, va_rf]
    · obtain ⟨kA', comp', k1, k2', k3, k4⟩ := (hK.2 6 _ rfl).2
      have hA : cA = G.2.1 26 := Option.some.inj (f1.symm.trans k4)
      subst hA
      show H1[_]? = some (vp_cell (G.2.1 26) (n.toNatClampNeg, .inr (.inr (.inr (.inr fun j => m_ad G.2.2.1.size (m_zap S.2.2.2 S.1.length none S.1.length j))))))
      rw [e1, vp_cell_q]
      congr 2; funext j; simp [m_zap, m_ad, va_rf]
  have hh := h p e s m args below meth c0 H1 locs (cells + 1) (slots + n.toNatClampNeg) A ⟨hC, m_at_new hat hent z1 o1, hlo, ⟨by omega, by omega⟩, hl, ok_cons (fun r hr => by cases hr; show (S.1 ++ [_])[S.1.length]? = _; simp) (fun v hv => ok_new (ok_tl ho1 v hv)), fun i v hv => ok_new (ho2 i v hv)⟩
  rw [show (Value.ref H.size :: List.map (m_val G.2.2.1.size) st) = (mR (kd, n.toNatClampNeg, S.1.length) :: st).map (m_val G.2.2.1.size) by rw [hsz]; rfl]
  exact hh
theorem m_oi : Cond.instanceMethod objectInit ∈ tw ∧ Cond.code objectInit ⟨#[0xb1]⟩ 1 none ∈ tw := ⟨in_tw (ws := [Cond.instanceMethod objectInit]) (by decide +kernel) _ List.mem_cons_self, in_tw (ws := [Cond.code objectInit ⟨#[0xb1]⟩ 1 none]) (by decide +kernel) _ List.mem_cons_self⟩
theorem b_obj {idx : Nat} {r : MRef} (hd : decode M.2.1 pc = .ok (.invokespecial idx, 3)) (hlk0 : Cond.methodLink (m_cn M.1) idx objectInit ∈ tw) (hst : m_cat st + 12 ≤ R.locals) (hf : 1 ≤ R.frames) (h : m_B G R M Q rc rs (pc + 3) ls st S) : m_B G R M Q rc rs pc ls (mR r :: st) S := by
  intro p e s m args below meth c0 H locs cells slots A X
  obtain ⟨hC, hat, hlo, hcs, hl, ho1, ho2⟩ := X
  obtain ⟨hx, hb, hml, hown, hts, hr, hlk, hin, hKK⟩ := id hC
  exact W.objInit hx hb hown (hts _ hlk0) (hts _ m_oi.1) (hts _ m_oi.2) rfl (hl.1.trans hml.symm) rfl hd hf (by show 2 * 0 + _ + 12 ≤ _; rw [m_cat_eq]; omega) (h p e s m args below meth c0 H locs cells slots A ⟨hC, hat, hlo, hcs, hl, ok_tl ho1, ho2⟩)
end MN11
