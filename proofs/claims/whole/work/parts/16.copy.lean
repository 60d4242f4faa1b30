/-! System.arraycopy of ints -/
section MC16
variable {G : MG} {R : Room} {M : MM} {Q : Option MV → MS → Prop} {rc rs pc : Nat} {ls : ML} {st : List MV} {S : MS}
def m_cpI (I : Nat → Nat → Int32) (k0 k1 sp dp n : Nat) : Nat → Nat → Int32 := fun k => if k = k1 then va_cpy (I k0) (I k1) sp dp n else I k
def m_cpy (S : MS) (k0 k1 sp dp n : Nat) : MS := (S.1, m_cpI S.2.1 k0 k1 sp dp n, S.2.2.1, S.2.2.2)
theorem m_acw : Cond.native arraycopyName ∈ tw ∧ Cond.static arraycopyName ∈ tw ∧ Cond.initialized "java/lang/System" ∈ tw := ⟨in_tw (ws := [Cond.native arraycopyName]) (by decide +kernel) _ List.mem_cons_self, in_tw (ws := [Cond.static arraycopyName]) (by decide +kernel) _ List.mem_cons_self, in_tw (ws := [Cond.initialized "java/lang/System"]) (by decide +kernel) _ List.mem_cons_self⟩
theorem m_ent_cp {dA : Nat → ClassId} {b : Nat} {S : MS} {k0 k1 sp dp n i : Nat} (q : Nat × Nat) (h : i ≠ k1) : m_ent dA b (m_cpy S k0 k1 sp dp n) i q = m_ent dA b S i q := by
  have e : m_cpI S.2.1 k0 k1 sp dp n i = S.2.1 i := by simp [m_cpI, h]
  simp only [m_ent, m_cpy, m_fv, e]
theorem b_copy {idx n0 n1 k0 k1 : Nat} {sp dp n : Int32} (hd : decode M.2.1 pc = .ok (.invokestatic idx, 3)) (hlk0 : Cond.methodLink (m_cn M.1) idx arraycopyName ∈ tw) (h1 : ¬ sp < 0) (h2 : ¬ dp < 0) (h3 : ¬ n < 0) (h4 : sp.toNatClampNeg + n.toNatClampNeg ≤ n0) (h5 : dp.toNatClampNeg + n.toNatClampNeg ≤ n1)
    (hf : 1 ≤ R.frames) (hst : m_cat st + (nativeFrameWords "java/lang/System" "arraycopy" 5 + 11) ≤ R.locals)
    (h : m_B G R M Q rc rs (pc + 3) ls st (m_cpy S k0 k1 sp.toNatClampNeg dp.toNatClampNeg n.toNatClampNeg)) : m_B G R M Q rc rs pc ls (mI n :: mI dp :: mR (20, n1, k1) :: mI sp :: mR (20, n0, k0) :: st) S := by
  intro p e s m args below meth c0' H locs cells slots A X
  obtain ⟨hC, hat, hlo, hcs, hl, ho1, ho2⟩ := X
  obtain ⟨hx, hb, hml, hown, hts, hr, hlk, hin, hKK⟩ := id hC
  have hK := hKK.1
  have hk1 : S.1[k1]? = some (20, n1) := ok_hd (ok_tl (ok_tl ho1)) _ rfl
  have hk0 : S.1[k0]? = some (20, n0) := ok_hd (ok_tl (ok_tl (ok_tl (ok_tl ho1)))) _ rfl
  have hc0 : H[G.2.2.1.size + k0]? = some (vp_cell (G.2.1 20) (n0, .inl (S.2.1 k0))) := hat.cell hk0
  have hc1 : H[G.2.2.1.size + k1]? = some (vp_cell (G.2.1 20) (n1, .inl (S.2.1 k1))) := hat.cell hk1
  have nn : ∀ z : Int32, ¬ z < 0 → z.toInt = (z.toNatClampNeg : Int) := by
    intro z hz
    have hz0 : (0 : Int) ≤ z.toInt := by
      have := Int32.not_lt.mp hz
      simpa using Int32.le_iff_toInt_le.mp this
    show z.toInt = ((z.toInt.toNat : Nat) : Int)
    omega
  intro T hT X
  obtain ⟨-, q0, hq0, cm0, hqq0⟩ := (hK.2 0 _ rfl).1 n0 (fun j => .int (S.2.1 k0 j))
  obtain ⟨-, q1, hq1, cm1, hqq1⟩ := (hK.2 0 _ rfl).1 n1 (fun j => .int (S.2.1 k1 j))
  obtain ⟨vm', X', step⟩ := X.arraycopy hx hown (hts _ hlk0) (hts _ m_acw.1) (hts _ m_acw.2.1) (hts _ m_acw.2.2) (src := G.2.2.1.size + k0) (dst := G.2.2.1.size + k1) (cs := vp_cell (G.2.1 20) (n0, .inl (S.2.1 k0))) (cd := vp_cell (G.2.1 20) (n1, .inl (S.2.1 k1))) (srcPos := sp) (destPos := dp) (n := n) (by rw [hT]; exact hc0) (by rw [hT]; exact hc1)
    (fun _ h => by cases h) (fun _ h => by cases h) (fun h => by cases h) (fun h => by cases h) hq0 hq1 hqq0 hqq1 (by simp [refKind]) h1 h2 h3
    (by rw [nn sp h1, nn n h3]; show ¬ _ > ((arrV (G.2.1 20) n0 (fun j => .int (S.2.1 k0 j))).slots.size : Int); rw [arrV_size]; omega)
    (by rw [nn dp h2, nn n h3]; show ¬ _ > ((arrV (G.2.1 20) n1 (fun j => .int (S.2.1 k1 j))).slots.size : Int); rw [arrV_size]; omega)
    (fun vm₁ _ i hi => by
      have e : (vp_cell (G.2.1 20) (n0, .inl (S.2.1 k0))).slots.getD (sp.toNatClampNeg + i) .null = .int (S.2.1 k0 (sp.toNatClampNeg + i)) := by
        show (arrV (G.2.1 20) n0 (fun j => .int (S.2.1 k0 j))).slots.getD _ _ = _
        rw [Array.getD_eq_getD_getElem?, arrV_read _ _ (by omega)]
        rfl
      refine ⟨?_, ?_⟩
      · rw [e]
        rfl
      · rw [e]
        exact trivial)
    (g := F0 m pc A ((mI n :: mI dp :: mR (20, n1, k1) :: mI sp :: mR (20, n0, k0) :: st).map (m_val G.2.2.1.size))) rfl (by rw [hml]; exact hl.1) (rest := st.map (m_val G.2.2.1.size)) rfl (by rw [hb]; exact hd) hf (by show 2 * 0 + _ + _ ≤ _; rw [m_cat_eq]; omega)
  have e1 : copied (vp_cell (G.2.1 20) (n0, .inl (S.2.1 k0))) (vp_cell (G.2.1 20) (n1, .inl (S.2.1 k1))) sp dp n = vp_cell (G.2.1 20) (n1, .inl (va_cpy (S.2.1 k0) (S.2.1 k1) sp.toNatClampNeg dp.toNatClampNeg n.toNatClampNeg)) := va_copied (fun z => .int z) (G.2.1 20) (G.2.1 20) (S.2.1 k0) (S.2.1 k1) h4
  rw [e1] at X' step
  have hlt : G.2.2.1.size + k1 < H.size := (Array.getElem?_eq_some_iff.mp hc1).1
  have hheap : ((T.setVm vm').setCell (G.2.2.1.size + k1) (vp_cell (G.2.1 20) (n1, .inl (va_cpy (S.2.1 k0) (S.2.1 k1) sp.toNatClampNeg dp.toNatClampNeg n.toNatClampNeg)))).heap = H.setIfInBounds (G.2.2.1.size + k1) (vp_cell (G.2.1 20) (n1, .inl (va_cpy (S.2.1 k0) (S.2.1 k1) sp.toNatClampNeg dp.toNatClampNeg n.toNatClampNeg))) := by rw [← hT]; rfl
  obtain ⟨t, a1, b1⟩ := h p e s m args below meth c0' _ _ cells slots A ⟨hC, m_at_set hat hk1 rfl (fun j q' hj => m_ent_cp q' hj) hat.2.2.2 (by
      show (H.setIfInBounds (G.2.2.1.size + k1) _)[G.2.2.1.size + k1]? = some (vp_cell (G.2.1 20) (n1, .inl (m_cpI S.2.1 k0 k1 sp.toNatClampNeg dp.toNatClampNeg n.toNatClampNeg k1)))
      rw [show m_cpI S.2.1 k0 k1 sp.toNatClampNeg dp.toNatClampNeg n.toNatClampNeg k1 = va_cpy (S.2.1 k0) (S.2.1 k1) sp.toNatClampNeg dp.toNatClampNeg n.toNatClampNeg by simp [m_cpI]]
      simp [Array.getElem?_setIfInBounds, hlt]) (by simp) (fun q hq => by simp [Array.getElem?_setIfInBounds, Ne.symm hq]), fun q hq => by
      rcases List.mem_append.mp hq with h | h
      · exact hlo q h
      · obtain ⟨z, -, hz⟩ := List.mem_map.mp h
        rw [← hz]
        exact Nat.le_add_right _ _, hcs, hl, ok_tl (ok_tl (ok_tl (ok_tl (ok_tl ho1)))), ho2⟩ _ hheap X'
  exact ⟨t, step t a1, b1⟩
end MC16
