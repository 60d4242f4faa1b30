/-! rows of the instructions that read and write the heap -/
section MM7
variable {G : MG} {R : Room} {M : MM} {Q : Option MV → MS → Prop} {rc rs pc : Nat} {ls : ML} {st : List MV} {S : MS}
theorem m_ent_o {dA : Nat → ClassId} {b : Nat} {S : MS} {k c n : Nat} (h : c < 13) : m_ent dA b S k (c, n) = .inr (c, (List.range (m_nf c)).map fun j => m_val b (m_fv S k c j)) := if_pos h
theorem m_fs_get {b c j : Nat} {S : MS} {k : Nat} (h : j < m_nf c) : ((List.range (m_nf c)).map fun j => m_val b (m_fv S k c j))[j]? = some (m_val b (m_fv S k c j)) := by simp [h]
theorem m_fs_V {b c j : Nat} {S : MS} {k : Nat} (h : j < m_nf c) : vp_V ((List.range (m_nf c)).map fun j => m_val b (m_fv S k c j)) j = m_val b (m_fv S k c j) := by simp [vp_V, h]
theorem m_fv_ok {S : MS} {k c j : Nat} (h : ∀ k j, m_rok S.1 (S.2.2.2 k j)) : m_ok S.1 (m_fv S k c j) := by
  unfold m_fv
  split
  · exact m_okJ _
  · exact m_okR (h k j)
  · exact m_okI _
theorem b_getf {idx c n k j : Nat} (hd : decode M.2.1 pc = .ok (.getfield idx, 3)) (hf : (M.1, idx, c, j) ∈ m_flds) (h : m_B G R M Q rc rs (pc + 3) ls (m_fv S k c j :: st) S) : m_B G R M Q rc rs pc ls (mR (c, n, k) :: st) S := by
  intro p e s m args below meth c0 H locs cells slots A X
  obtain ⟨hC, hat, hlo, hcs, hl, ho1, ho2⟩ := X
  obtain ⟨hx, hb, hml, hown, hts, hr, hlk, hin, hKK⟩ := id hC
  have hK := hKK.1
  have hq := m_flds_ok _ hf
  have hc := m_cls_of hq.1
  have hk : S.1[k]? = some (c, n) := ok_hd ho1 _ rfl
  exact va_get hx hb hts hc.2.1 hown hK hat.2.2.1 k ((m_ws_get hk).trans (by rw [m_ent_o hq.1])) hc.1 j hq.2 (hts _ (m_flds_tw _ (List.mem_map_of_mem (f := m_fw) hf))) (fun _ h => h) (m_fs_get hq.2) hd (h p e s m args below meth c0 H locs cells slots A ⟨hC, hat, hlo, hcs, hl, ok_cons (m_fv_ok hat.2.2.2) (ok_tl ho1), ho2⟩)
theorem lo_app {b : Nat} {locs : List Loc} {x : Loc} (h : ∀ q ∈ locs, b ≤ q.base) (hx : b ≤ x.base) : ∀ q ∈ locs ++ [x], b ≤ q.base := fun q hq => by
  rcases List.mem_append.mp hq with h1 | h1
  · exact h q h1
  · rw [List.mem_singleton.mp h1]; exact hx
theorem b_putf {idx c n k j : Nat} {v : MV} {S' : MS} (hd : decode M.2.1 pc = .ok (.putfield idx, 3)) (hf : (M.1, idx, c, j) ∈ m_flds) (hfin : (m_T c j).2.2.2 = true → M.2.2.2.2 = true ∧ M.1 = c)
    (hn : narrow (m_ty c j) (m_val G.2.2.1.size v) = m_val G.2.2.1.size v) (hfit : fits (m_ty c j) (m_val G.2.2.1.size v) = true) (hL : S'.1 = S.1) (hent : ∀ i q', i ≠ k → m_ent G.2.1 G.2.2.1.size S' i q' = m_ent G.2.1 G.2.2.1.size S i q')
    (hrok : (∀ k j, m_rok S.1 (S.2.2.2 k j)) → m_ok S.1 v → ∀ k j, m_rok S'.1 (S'.2.2.2 k j)) (hv : ∀ j', j' < m_nf c → m_fv S' k c j' = if j' = j then v else m_fv S k c j')
    (h : m_B G R M Q rc rs (pc + 3) ls st S') : m_B G R M Q rc rs pc ls (v :: mR (c, n, k) :: st) S := by
  intro p e s m args below meth c0 H locs cells slots A X
  obtain ⟨hC, hat, hlo, hcs, hl, ho1, ho2⟩ := X
  obtain ⟨hx, hb, hml, hown, hts, hr, hlk, hin, hKK⟩ := id hC
  have hK := hKK.1
  have hq := m_flds_ok _ hf
  have hc := m_cls_of hq.1
  have hk : S.1[k]? = some (c, n) := ok_hd (ok_tl ho1) _ rfl
  have hj : j < m_nf c := hq.2
  have hcell := hat.cell hk
  rw [m_ent_o hq.1] at hcell
  have hap := va_apart (own := m_cn M.1) hts hc.2.1 (m_ty c) hc.2.2.1 hc.2.2.2.1 hK hc.1
  obtain ⟨r, h1, cell, q1, q2, q3, q4⟩ := hcell
  have hr' : r = (m_cn c, m_T c, m_nf c) := Option.some.inj (h1.symm.trans hc.1)
  subst hr'
  obtain ⟨hS, hfc, kC, hkC, hkind⟩ := hK.1 c _ hc.1
  obtain ⟨cf, kf, fi, f, hi, hsl⟩ := hS j hj
  have hlay := hts _ (hc.2.1 _ (u_in_lay hj))
  unfold u_lay at hlay
  have hst := (u_facts hfc hkC (u_lays hts hc.2.1 hj) hi).1
  have hlink : (Cond.fieldLink (m_cn M.1) idx (m_T c j).1 (m_T c j).2.1 (m_T c j).2.2.1).before args s = true := hts _ (m_flds_tw _ (List.mem_map_of_mem (f := m_fw) hf))
  have fin : ∀ H' : Heap, H'[G.2.2.1.size + k]? = some (cell.setSlot f.slot (m_val G.2.2.1.size v)) → H'.size = H.size → (∀ q, q ≠ G.2.2.1.size + k → H'[q]? = H[q]?) → W p G.2.2.2 e R s m args below meth c0 H' (locs ++ [⟨G.2.2.1.size + k, f.slot⟩]) cells slots (MQ below (m_Q G Q) args s R.cells R.slots (fun q => G.2.2.1.size ≤ q)) (F0 m (pc + 3) A (st.map (m_val G.2.2.1.size))) := by
    intro H' e1 e2 e3
    refine h p e s m args below meth c0 H' _ cells slots A ⟨hC, ?_, lo_app hlo (Nat.le_add_right _ _), hcs, hl, fun w hw => by rw [hL]; exact ok_tl (ok_tl ho1) w hw, fun i w hw => by rw [hL]; exact ho2 i w hw⟩
    refine m_at_set hat hk hL hent (hrok hat.2.2.2 (ok_hd ho1)) ?_ e2 e3
    rw [m_ent_o hq.1]
    rw [hsl] at e1
    refine ⟨_, hc.1, t_OB.to (V := updV (vp_V _) j (m_val G.2.2.1.size v)) ⟨_, e1, q2, q3, t_set q4 hap hj _⟩ (fun j' hj' => ?_)⟩
    have hj2 : j' < m_nf c := hj'
    rw [m_fs_V hj2, hv j' hj2]
    unfold updV
    by_cases hjj : j' = j
    · simp [hjj]
    · simp only [hjj, if_false]
      exact m_fs_V hj2
  by_cases hfl : (m_T c j).2.2.2 = true
  · obtain ⟨g1, g2⟩ := hfin hfl
    rw [if_pos hfl] at hlay
    have hcf : m.cls = cf := by
      obtain ⟨_, _, c', _, _, _, -, -, hf', -, -, -, hown2, -⟩ := Cond.laysFinal_spec hlay
      have e1 : c' = cf := by have := hi.symm.trans hf'; simp at this; exact this.1.symm
      rw [hc.2.2.2.2 j hj, ← g2] at hown2
      rw [← e1]; exact Option.some.inj (hown.symm.trans hown2)
    have h6 := u_fits hfc hkC hkind (Or.inr hlay) hi (hc.2.2.1 j hj) hn hfit
    exact W.putFinK hx hb hown hlink hi hst hcf (hin g1) (by rw [q2]; exact h6) q1 q3 (by rw [hsl]; exact k2_hasslot (q4 j hj)) rfl rfl hd fin
  · rw [if_neg hfl] at hlay
    have h6 := u_store hfc hkC hkind hlay hi (hc.2.2.1 j hj) hn hfit
    exact W.putK hx hb (f := f) ⟨hown, hlink, ⟨_, _, _, hi⟩, hst⟩ (by rw [q2]; exact h6) q1 q3 (by rw [hsl]; exact k2_hasslot (q4 j hj)) rfl rfl hd fin
theorem m_tc_0 {t : FieldType} (h : m_tc t = 0) : t = .int := by cases t <;> simp [m_tc] at h ⊢
theorem m_tc_1 {t : FieldType} (h : m_tc t = 1) : t = .boolean := by cases t <;> simp [m_tc] at h ⊢
theorem m_tc_2 {t : FieldType} (h : m_tc t = 2) : t = .long := by cases t <;> simp [m_tc] at h ⊢
theorem m_tc_3 {t : FieldType} (h : m_tc t = 3) : (∃ n, t = .object n) ∨ ∃ a, t = .array a := by cases t <;> simp [m_tc] at h ⊢
theorem b_putI {idx c n k j : Nat} {v : Int32} (hd : decode M.2.1 pc = .ok (.putfield idx, 3)) (hf : (M.1, idx, c, j) ∈ m_flds) (hfin : (m_T c j).2.2.2 = true → M.2.2.2.2 = true ∧ M.1 = c) (ht : m_tc (m_ty c j) = 0) (h : m_B G R M Q rc rs (pc + 3) ls st (m_setI S k j v)) : m_B G R M Q rc rs pc ls (mI v :: mR (c, n, k) :: st) S := by
  refine b_putf (S' := m_setI S k j v) hd hf hfin (by rw [m_tc_0 ht]; rfl) (by rw [m_tc_0 ht]; rfl) rfl (fun i q' hi => m_ent_I q' hi) (fun q _ => q) (fun j' hj' => ?_) h
  unfold m_fv
  by_cases hj : j' = j
  · subst hj
    simp only [ht, m_setI, m_up_at, if_true]
  · simp only [m_setI, m_up_at, hj, if_false]
theorem b_putZ {idx c n k j : Nat} {v : Int32} (hd : decode M.2.1 pc = .ok (.putfield idx, 3)) (hf : (M.1, idx, c, j) ∈ m_flds) (hfin : (m_T c j).2.2.2 = true → M.2.2.2.2 = true ∧ M.1 = c) (ht : m_tc (m_ty c j) = 1) (hz : v = 0 ∨ v = 1) (h : m_B G R M Q rc rs (pc + 3) ls st (m_setI S k j v)) : m_B G R M Q rc rs pc ls (mI v :: mR (c, n, k) :: st) S := by
  refine b_putf (S' := m_setI S k j v) hd hf hfin (by rw [m_tc_1 ht]; rcases hz with rfl | rfl <;> rfl) (by rw [m_tc_1 ht]; rcases hz with rfl | rfl <;> rfl) rfl (fun i q' hi => m_ent_I q' hi) (fun q _ => q) (fun j' hj' => ?_) h
  unfold m_fv
  by_cases hj : j' = j
  · subst hj
    simp only [ht, m_setI, m_up_at, if_true]
  · simp only [m_setI, m_up_at, hj, if_false]
theorem b_putJ {idx c n k j : Nat} {v : Int64} (hd : decode M.2.1 pc = .ok (.putfield idx, 3)) (hf : (M.1, idx, c, j) ∈ m_flds) (hfin : (m_T c j).2.2.2 = true → M.2.2.2.2 = true ∧ M.1 = c) (ht : m_tc (m_ty c j) = 2) (h : m_B G R M Q rc rs (pc + 3) ls st (m_setJ S k j v)) : m_B G R M Q rc rs pc ls (mJ v :: mR (c, n, k) :: st) S := by
  refine b_putf (S' := m_setJ S k j v) hd hf hfin (by rw [m_tc_2 ht]; rfl) (by rw [m_tc_2 ht]; rfl) rfl (fun i q' hi => m_ent_J q' hi) (fun q _ => q) (fun j' hj' => ?_) h
  unfold m_fv
  by_cases hj : j' = j
  · subst hj
    simp only [ht, m_setJ, m_up_at, if_true]
  · simp only [m_setJ, m_up_at, hj, if_false]
theorem b_putR {idx c n k j : Nat} {v : Option MRef} (hd : decode M.2.1 pc = .ok (.putfield idx, 3)) (hf : (M.1, idx, c, j) ∈ m_flds) (hfin : (m_T c j).2.2.2 = true → M.2.2.2.2 = true ∧ M.1 = c) (ht : m_tc (m_ty c j) = 3) (h : m_B G R M Q rc rs (pc + 3) ls st (m_setR S k j v)) : m_B G R M Q rc rs pc ls (.inr v :: mR (c, n, k) :: st) S := by
  refine b_putf (S' := m_setR S k j v) hd hf hfin (by rcases m_tc_3 ht with ⟨x, hx⟩ | ⟨x, hx⟩ <;> rw [hx] <;> cases v <;> rfl) (by rcases m_tc_3 ht with ⟨x, hx⟩ | ⟨x, hx⟩ <;> rw [hx] <;> cases v <;> rfl) rfl (fun i q' hi => m_ent_R q' hi) (fun q hv => m_rok_R q (m_rokO hv)) (fun j' hj' => ?_) h
  unfold m_fv
  by_cases hj : j' = j
  · subst hj
    simp only [ht, m_setR, m_up_at, if_true]
  · simp only [m_setR, m_up_at, hj, if_false]

theorem b_iald {n k : Nat} {i : Int32} (hd : decode M.2.1 pc = .ok (.iaload, 1)) (hi : vp_in i n) (h : m_B G R M Q rc rs (pc + 1) ls (mI (S.2.1 k i.toNatClampNeg) :: st) S) : m_B G R M Q rc rs pc ls (mI i :: mR (20, n, k) :: st) S := by
  intro p e s m args below meth c0 H locs cells slots A X
  obtain ⟨hC, hat, hlo, hcs, hl, ho1, ho2⟩ := X
  obtain ⟨hx, hb, hml, hown, hts, hr, hlk, hin, hKK⟩ := id hC
  have hK := hKK.1
  have hk : S.1[k]? = some (20, n) := ok_hd (ok_tl ho1) _ rfl
  exact va_iald hx hb hK hat.2.2.1 k 0 (m_ws_get hk) rfl hi hd (h p e s m args below meth c0 H locs cells slots A ⟨hC, hat, hlo, hcs, hl, ok_cons (m_okI _) (ok_tl (ok_tl ho1)), ho2⟩)
theorem b_bald {n k : Nat} {i : Int32} (hd : decode M.2.1 pc = .ok (.baload, 1)) (hi : vp_in i n) (h : m_B G R M Q rc rs (pc + 1) ls (mI (S.2.1 k i.toNatClampNeg) :: st) S) : m_B G R M Q rc rs pc ls (mI i :: mR (22, n, k) :: st) S := by
  intro p e s m args below meth c0 H locs cells slots A X
  obtain ⟨hC, hat, hlo, hcs, hl, ho1, ho2⟩ := X
  obtain ⟨hx, hb, hml, hown, hts, hr, hlk, hin, hKK⟩ := id hC
  have hK := hKK.1
  have hk : S.1[k]? = some (22, n) := ok_hd (ok_tl ho1) _ rfl
  exact va_bald hx hb hK hat.2.2.1 k 2 (m_ws_get hk) rfl hi hd (h p e s m args below meth c0 H locs cells slots A ⟨hC, hat, hlo, hcs, hl, ok_cons (m_okI _) (ok_tl (ok_tl ho1)), ho2⟩)
theorem b_cald {n k : Nat} {i : Int32} (hd : decode M.2.1 pc = .ok (.caload, 1)) (hi : vp_in i n) (h : m_B G R M Q rc rs (pc + 1) ls (mI (S.2.1 k i.toNatClampNeg) :: st) S) : m_B G R M Q rc rs pc ls (mI i :: mR (23, n, k) :: st) S := by
  intro p e s m args below meth c0 H locs cells slots A X
  obtain ⟨hC, hat, hlo, hcs, hl, ho1, ho2⟩ := X
  obtain ⟨hx, hb, hml, hown, hts, hr, hlk, hin, hKK⟩ := id hC
  have hK := hKK.1
  have hk : S.1[k]? = some (23, n) := ok_hd (ok_tl ho1) _ rfl
  exact va_cald hx hb hK hat.2.2.1 k 3 (m_ws_get hk) rfl hi hd (h p e s m args below meth c0 H locs cells slots A ⟨hC, hat, hlo, hcs, hl, ok_cons (m_okI _) (ok_tl (ok_tl ho1)), ho2⟩)
theorem b_zald {n k : Nat} {i : Int32} (hd : decode M.2.1 pc = .ok (.baload, 1)) (hi : vp_in i n) (h : m_B G R M Q rc rs (pc + 1) ls (mI (S.2.1 k i.toNatClampNeg) :: st) S) : m_B G R M Q rc rs pc ls (mI i :: mR (24, n, k) :: st) S := by
  intro p e s m args below meth c0 H locs cells slots A X
  obtain ⟨hC, hat, hlo, hcs, hl, ho1, ho2⟩ := X
  obtain ⟨hx, hb, hml, hown, hts, hr, hlk, hin, hKK⟩ := id hC
  have hK := hKK.1
  have hk : S.1[k]? = some (24, n) := ok_hd (ok_tl ho1) _ rfl
  exact va_zald hx hb hK hat.2.2.1 k 4 (m_ws_get hk) rfl hi hd (h p e s m args below meth c0 H locs cells slots A ⟨hC, hat, hlo, hcs, hl, ok_cons (m_okI _) (ok_tl (ok_tl ho1)), ho2⟩)
theorem b_lald {n k : Nat} {i : Int32} (hd : decode M.2.1 pc = .ok (.laload, 1)) (hi : vp_in i n) (h : m_B G R M Q rc rs (pc + 1) ls (mJ (S.2.2.1 k i.toNatClampNeg) :: st) S) : m_B G R M Q rc rs pc ls (mI i :: mR (21, n, k) :: st) S := by
  intro p e s m args below meth c0 H locs cells slots A X
  obtain ⟨hC, hat, hlo, hcs, hl, ho1, ho2⟩ := X
  obtain ⟨hx, hb, hml, hown, hts, hr, hlk, hin, hKK⟩ := id hC
  have hK := hKK.1
  have hk : S.1[k]? = some (21, n) := ok_hd (ok_tl ho1) _ rfl
  exact va_lald hx hb hK hat.2.2.1 k 1 (m_ws_get hk) rfl hi hd (h p e s m args below meth c0 H locs cells slots A ⟨hC, hat, hlo, hcs, hl, ok_cons (m_okJ _) (ok_tl (ok_tl ho1)), ho2⟩)
theorem b_aald25 {n k : Nat} {i : Int32} (hd : decode M.2.1 pc = .ok (.aaload, 1)) (hi : vp_in i n) (h : m_B G R M Q rc rs (pc + 1) ls (.inr (S.2.2.2 k i.toNatClampNeg) :: st) S) : m_B G R M Q rc rs pc ls (mI i :: mR (25, n, k) :: st) S := by
  intro p e s m args below meth c0 H locs cells slots A X
  obtain ⟨hC, hat, hlo, hcs, hl, ho1, ho2⟩ := X
  obtain ⟨hx, hb, hml, hown, hts, hr, hlk, hin, hKK⟩ := id hC
  have hK := hKK.1
  have hk : S.1[k]? = some (25, n) := ok_hd (ok_tl ho1) _ rfl
  exact va_aldq hx hb hK hat.2.2.1 k 5 (m_ws_get hk) rfl hi hd (h p e s m args below meth c0 H locs cells slots A ⟨hC, hat, hlo, hcs, hl, ok_cons (m_okR (hat.2.2.2 _ _)) (ok_tl (ok_tl ho1)), ho2⟩)
theorem b_aald26 {n k : Nat} {i : Int32} (hd : decode M.2.1 pc = .ok (.aaload, 1)) (hi : vp_in i n) (h : m_B G R M Q rc rs (pc + 1) ls (.inr (S.2.2.2 k i.toNatClampNeg) :: st) S) : m_B G R M Q rc rs pc ls (mI i :: mR (26, n, k) :: st) S := by
  intro p e s m args below meth c0 H locs cells slots A X
  obtain ⟨hC, hat, hlo, hcs, hl, ho1, ho2⟩ := X
  obtain ⟨hx, hb, hml, hown, hts, hr, hlk, hin, hKK⟩ := id hC
  have hK := hKK.1
  have hk : S.1[k]? = some (26, n) := ok_hd (ok_tl ho1) _ rfl
  exact va_aldq hx hb hK hat.2.2.1 k 6 (m_ws_get hk) rfl hi hd (h p e s m args below meth c0 H locs cells slots A ⟨hC, hat, hlo, hcs, hl, ok_cons (m_okR (hat.2.2.2 _ _)) (ok_tl (ok_tl ho1)), ho2⟩)
theorem b_iast {n k : Nat} {i v : Int32} (hd : decode M.2.1 pc = .ok (.iastore, 1)) (hi : vp_in i n) (h : m_B G R M Q rc rs (pc + 1) ls st (m_setI S k i.toNatClampNeg v)) : m_B G R M Q rc rs pc ls (mI v :: mI i :: mR (20, n, k) :: st) S := by
  intro p e s m args below meth c0 H locs cells slots A X
  obtain ⟨hC, hat, hlo, hcs, hl, ho1, ho2⟩ := X
  obtain ⟨hx, hb, hml, hown, hts, hr, hlk, hin, hKK⟩ := id hC
  have hK := hKK.1
  have hk : S.1[k]? = some (20, n) := ok_hd (ok_tl (ok_tl ho1)) _ rfl
  have hcell : H[G.2.2.1.size + k]? = some (vp_cell (G.2.1 20) (n, .inl (S.2.1 k))) := hat.cell hk
  refine W.iast hx hb hcell ((hK.2 0 _ rfl).1 n (fun j => .int (S.2.1 k j))) (fun q => by cases q) (by show ¬ (i < 0 ∨ (arrV _ _ _).slots.size ≤ _); rw [arrV_size]; exact hi) rfl rfl hd fun H1 e1 z oq => ?_
  refine h p e s m args below meth c0 H1 _ cells slots A ⟨hC, m_at_set hat hk rfl (fun j q' hj => m_ent_I q' hj) hat.2.2.2 ?_ z oq, lo_app hlo (Nat.le_add_right _ _), hcs, hl, ok_tl (ok_tl (ok_tl ho1)), ho2⟩
  show H1[G.2.2.1.size + k]? = some (vp_cell (G.2.1 20) (n, .inl (m_up S.2.1 k i.toNatClampNeg v k)))
  rw [e1, vp_cell_i, vp_cell_i, arrV_store]
  congr 2
  funext q
  by_cases hq : q = i.toNatClampNeg
  · subst hq
    simp [updV, m_up_at, vp_nar]
    try rfl
  · simp [updV, m_up_at, hq]
theorem b_bast {n k : Nat} {i v : Int32} (hd : decode M.2.1 pc = .ok (.bastore, 1)) (hi : vp_in i n) (h : m_B G R M Q rc rs (pc + 1) ls st (m_setI S k i.toNatClampNeg (vp_nar .byte v))) : m_B G R M Q rc rs pc ls (mI v :: mI i :: mR (22, n, k) :: st) S := by
  intro p e s m args below meth c0 H locs cells slots A X
  obtain ⟨hC, hat, hlo, hcs, hl, ho1, ho2⟩ := X
  obtain ⟨hx, hb, hml, hown, hts, hr, hlk, hin, hKK⟩ := id hC
  have hK := hKK.1
  have hk : S.1[k]? = some (22, n) := ok_hd (ok_tl (ok_tl ho1)) _ rfl
  have hcell : H[G.2.2.1.size + k]? = some (vp_cell (G.2.1 22) (n, .inl (S.2.1 k))) := hat.cell hk
  refine W.bast hx hb hcell ((hK.2 2 _ rfl).1 n (fun j => .int (S.2.1 k j))) (fun q => by cases q) (by show ¬ (i < 0 ∨ (arrV _ _ _).slots.size ≤ _); rw [arrV_size]; exact hi) rfl rfl hd fun H1 e1 z oq => ?_
  refine h p e s m args below meth c0 H1 _ cells slots A ⟨hC, m_at_set hat hk rfl (fun j q' hj => m_ent_I q' hj) hat.2.2.2 ?_ z oq, lo_app hlo (Nat.le_add_right _ _), hcs, hl, ok_tl (ok_tl (ok_tl ho1)), ho2⟩
  show H1[G.2.2.1.size + k]? = some (vp_cell (G.2.1 22) (n, .inl (m_up S.2.1 k i.toNatClampNeg (vp_nar .byte v) k)))
  rw [e1, vp_cell_i, vp_cell_i, arrV_store]
  congr 2
  funext q
  by_cases hq : q = i.toNatClampNeg
  · subst hq
    simp [updV, m_up_at, vp_nar]
    try rfl
  · simp [updV, m_up_at, hq]
theorem b_cast {n k : Nat} {i v : Int32} (hd : decode M.2.1 pc = .ok (.castore, 1)) (hi : vp_in i n) (h : m_B G R M Q rc rs (pc + 1) ls st (m_setI S k i.toNatClampNeg (vp_nar .char v))) : m_B G R M Q rc rs pc ls (mI v :: mI i :: mR (23, n, k) :: st) S := by
  intro p e s m args below meth c0 H locs cells slots A X
  obtain ⟨hC, hat, hlo, hcs, hl, ho1, ho2⟩ := X
  obtain ⟨hx, hb, hml, hown, hts, hr, hlk, hin, hKK⟩ := id hC
  have hK := hKK.1
  have hk : S.1[k]? = some (23, n) := ok_hd (ok_tl (ok_tl ho1)) _ rfl
  have hcell : H[G.2.2.1.size + k]? = some (vp_cell (G.2.1 23) (n, .inl (S.2.1 k))) := hat.cell hk
  refine W.cast hx hb hcell ((hK.2 3 _ rfl).1 n (fun j => .int (S.2.1 k j))) (fun q => by cases q) (by show ¬ (i < 0 ∨ (arrV _ _ _).slots.size ≤ _); rw [arrV_size]; exact hi) rfl rfl hd fun H1 e1 z oq => ?_
  refine h p e s m args below meth c0 H1 _ cells slots A ⟨hC, m_at_set hat hk rfl (fun j q' hj => m_ent_I q' hj) hat.2.2.2 ?_ z oq, lo_app hlo (Nat.le_add_right _ _), hcs, hl, ok_tl (ok_tl (ok_tl ho1)), ho2⟩
  show H1[G.2.2.1.size + k]? = some (vp_cell (G.2.1 23) (n, .inl (m_up S.2.1 k i.toNatClampNeg (vp_nar .char v) k)))
  rw [e1, vp_cell_i, vp_cell_i, arrV_store]
  congr 2
  funext q
  by_cases hq : q = i.toNatClampNeg
  · subst hq
    simp [updV, m_up_at, vp_nar]
    try rfl
  · simp [updV, m_up_at, hq]
theorem b_zast {n k : Nat} {i v : Int32} (hd : decode M.2.1 pc = .ok (.bastore, 1)) (hi : vp_in i n) (h : m_B G R M Q rc rs (pc + 1) ls st (m_setI S k i.toNatClampNeg (vp_nar .boolean v))) : m_B G R M Q rc rs pc ls (mI v :: mI i :: mR (24, n, k) :: st) S := by
  intro p e s m args below meth c0 H locs cells slots A X
  obtain ⟨hC, hat, hlo, hcs, hl, ho1, ho2⟩ := X
  obtain ⟨hx, hb, hml, hown, hts, hr, hlk, hin, hKK⟩ := id hC
  have hK := hKK.1
  have hk : S.1[k]? = some (24, n) := ok_hd (ok_tl (ok_tl ho1)) _ rfl
  have hcell : H[G.2.2.1.size + k]? = some (vp_cell (G.2.1 24) (n, .inl (S.2.1 k))) := hat.cell hk
  refine W.zast hx hb hcell ((hK.2 4 _ rfl).1 n (fun j => .int (S.2.1 k j))) (fun q => by cases q) (by show ¬ (i < 0 ∨ (arrV _ _ _).slots.size ≤ _); rw [arrV_size]; exact hi) rfl rfl hd fun H1 e1 z oq => ?_
  refine h p e s m args below meth c0 H1 _ cells slots A ⟨hC, m_at_set hat hk rfl (fun j q' hj => m_ent_I q' hj) hat.2.2.2 ?_ z oq, lo_app hlo (Nat.le_add_right _ _), hcs, hl, ok_tl (ok_tl (ok_tl ho1)), ho2⟩
  show H1[G.2.2.1.size + k]? = some (vp_cell (G.2.1 24) (n, .inl (m_up S.2.1 k i.toNatClampNeg (vp_nar .boolean v) k)))
  rw [e1, vp_cell_i, vp_cell_i, arrV_store]
  congr 2
  funext q
  by_cases hq : q = i.toNatClampNeg
  · subst hq
    simp [updV, m_up_at, vp_nar]
    try rfl
  · simp [updV, m_up_at, hq]
theorem b_last {n k : Nat} {i : Int32} {v : Int64} (hd : decode M.2.1 pc = .ok (.lastore, 1)) (hi : vp_in i n) (h : m_B G R M Q rc rs (pc + 1) ls st (m_setJ S k i.toNatClampNeg v)) : m_B G R M Q rc rs pc ls (mJ v :: mI i :: mR (21, n, k) :: st) S := by
  intro p e s m args below meth c0 H locs cells slots A X
  obtain ⟨hC, hat, hlo, hcs, hl, ho1, ho2⟩ := X
  obtain ⟨hx, hb, hml, hown, hts, hr, hlk, hin, hKK⟩ := id hC
  have hK := hKK.1
  have hk : S.1[k]? = some (21, n) := ok_hd (ok_tl (ok_tl ho1)) _ rfl
  have hcell : H[G.2.2.1.size + k]? = some (vp_cell (G.2.1 21) (n, .inr (.inl (S.2.2.1 k)))) := hat.cell hk
  refine W.last hx hb hcell ((hK.2 1 _ rfl).1 n (fun j => .long (S.2.2.1 k j))) (fun q => by cases q) (by show ¬ (i < 0 ∨ (arrV _ _ _).slots.size ≤ _); rw [arrV_size]; exact hi) rfl rfl hd fun H1 e1 z oq => ?_
  refine h p e s m args below meth c0 H1 _ cells slots A ⟨hC, m_at_set hat hk rfl (fun j q' hj => m_ent_J q' hj) hat.2.2.2 ?_ z oq, lo_app hlo (Nat.le_add_right _ _), hcs, hl, ok_tl (ok_tl (ok_tl ho1)), ho2⟩
  show H1[G.2.2.1.size + k]? = some (vp_cell (G.2.1 21) (n, .inr (.inl (m_up S.2.2.1 k i.toNatClampNeg v k))))
  rw [e1, vp_cell_l, vp_cell_l, arrV_store]
  congr 2
  funext q
  by_cases hq : q = i.toNatClampNeg
  · subst hq
    simp [updV, m_up_at]
  · simp [updV, m_up_at, hq]
theorem b_aast25 {n k n2 k2 : Nat} {i : Int32} (hd : decode M.2.1 pc = .ok (.aastore, 1)) (hi : vp_in i n) (h : m_B G R M Q rc rs (pc + 1) ls st (m_setR S k i.toNatClampNeg (some (3, n2, k2)))) : m_B G R M Q rc rs pc ls (mR (3, n2, k2) :: mI i :: mR (25, n, k) :: st) S := by
  intro p e s m args below meth c0 H locs cells slots A X
  obtain ⟨hC, hat, hlo, hcs, hl, ho1, ho2⟩ := X
  obtain ⟨hx, hb, hml, hown, hts, hr, hlk, hin, hKK⟩ := id hC
  have hK := hKK.1
  have hk : S.1[k]? = some (25, n) := ok_hd (ok_tl (ok_tl ho1)) _ rfl
  have hk2 : S.1[k2]? = some (3, n2) := ok_hd ho1 _ rfl
  have hlt : i.toNatClampNeg < n := Nat.not_le.mp fun q => hi (Or.inr q)
  have h0 : ¬ i < 0 := fun q => hi (Or.inl q)
  have hcell : H[G.2.2.1.size + k]? = some (vp_cell (G.2.1 25) (n, .inr (.inr (.inr (.inr fun j => m_ad G.2.2.1.size (S.2.2.2 k j)))))) := hat.cell hk
  obtain ⟨r', hr', cellV, g1, g2, g3, -⟩ := hat.cell hk2
  have hcls := (hK.1 3 (RX3, TX3, 5) rfl).2
  obtain ⟨kA, comp, k1, k2', k3, -⟩ := (hK.2 5 _ rfl).2
  have hcomp : comp = G.1.1 3 := Option.some.inj (k3.symm.trans hcls.1)
  subst hcomp
  obtain ⟨kC, hkC, -⟩ := hcls.2
  refine W.aast hx hb hcell (fun q h => by cases h) (fun h => by cases h) k1 k2' rfl hkC ⟨h0, by show _ < (arrV _ _ _).slots.size; rw [arrV_size]; exact hlt⟩ g1 (fun q h => by rw [g3] at h; cases h) (by rw [g2]; exact hkC) (by rw [g2]; exact va_assign hcls) rfl rfl hd fun H1 e1 z oq => ?_
  refine h p e s m args below meth c0 H1 _ cells slots A ⟨hC, m_at_set hat hk rfl (fun j q' hj => m_ent_R q' hj) (m_rok_R hat.2.2.2 (m_rokO (ok_hd ho1))) ?_ z oq, lo_app hlo (Nat.le_add_right _ _), hcs, hl, ok_tl (ok_tl (ok_tl ho1)), ho2⟩
  show H1[G.2.2.1.size + k]? = some (vp_cell (G.2.1 25) (n, .inr (.inr (.inr (.inr fun j => m_ad G.2.2.1.size (m_up S.2.2.2 k i.toNatClampNeg (some (3, n2, k2)) k j))))))
  rw [e1, vp_cell_q, vp_cell_q, arrV_store]
  congr 2
  funext q
  by_cases hq : q = i.toNatClampNeg
  · subst hq
    simp [updV, m_up_at, m_ad, va_rf]
  · simp [updV, m_up_at, hq]
theorem b_aast26 {n k n2 k2 : Nat} {i : Int32} (hd : decode M.2.1 pc = .ok (.aastore, 1)) (hi : vp_in i n) (h : m_B G R M Q rc rs (pc + 1) ls st (m_setR S k i.toNatClampNeg (some (4, n2, k2)))) : m_B G R M Q rc rs pc ls (mR (4, n2, k2) :: mI i :: mR (26, n, k) :: st) S := by
  intro p e s m args below meth c0 H locs cells slots A X
  obtain ⟨hC, hat, hlo, hcs, hl, ho1, ho2⟩ := X
  obtain ⟨hx, hb, hml, hown, hts, hr, hlk, hin, hKK⟩ := id hC
  have hK := hKK.1
  have hk : S.1[k]? = some (26, n) := ok_hd (ok_tl (ok_tl ho1)) _ rfl
  have hk2 : S.1[k2]? = some (4, n2) := ok_hd ho1 _ rfl
  have hlt : i.toNatClampNeg < n := Nat.not_le.mp fun q => hi (Or.inr q)
  have h0 : ¬ i < 0 := fun q => hi (Or.inl q)
  have hcell : H[G.2.2.1.size + k]? = some (vp_cell (G.2.1 26) (n, .inr (.inr (.inr (.inr fun j => m_ad G.2.2.1.size (S.2.2.2 k j)))))) := hat.cell hk
  obtain ⟨r', hr', cellV, g1, g2, g3, -⟩ := hat.cell hk2
  have hcls := (hK.1 4 (RX4, TX4, 3) rfl).2
  obtain ⟨kA, comp, k1, k2', k3, -⟩ := (hK.2 6 _ rfl).2
  have hcomp : comp = G.1.1 4 := Option.some.inj (k3.symm.trans hcls.1)
  subst hcomp
  obtain ⟨kC, hkC, -⟩ := hcls.2
  refine W.aast hx hb hcell (fun q h => by cases h) (fun h => by cases h) k1 k2' rfl hkC ⟨h0, by show _ < (arrV _ _ _).slots.size; rw [arrV_size]; exact hlt⟩ g1 (fun q h => by rw [g3] at h; cases h) (by rw [g2]; exact hkC) (by rw [g2]; exact va_assign hcls) rfl rfl hd fun H1 e1 z oq => ?_
  refine h p e s m args below meth c0 H1 _ cells slots A ⟨hC, m_at_set hat hk rfl (fun j q' hj => m_ent_R q' hj) (m_rok_R hat.2.2.2 (m_rokO (ok_hd ho1))) ?_ z oq, lo_app hlo (Nat.le_add_right _ _), hcs, hl, ok_tl (ok_tl (ok_tl ho1)), ho2⟩
  show H1[G.2.2.1.size + k]? = some (vp_cell (G.2.1 26) (n, .inr (.inr (.inr (.inr fun j => m_ad G.2.2.1.size (m_up S.2.2.2 k i.toNatClampNeg (some (4, n2, k2)) k j))))))
  rw [e1, vp_cell_q, vp_cell_q, arrV_store]
  congr 2
  funext q
  by_cases hq : q = i.toNatClampNeg
  · subst hq
    simp [updV, m_up_at, m_ad, va_rf]
  · simp [updV, m_up_at, hq]
theorem b_alen {c n k : Nat} (hd : decode M.2.1 pc = .ok (.arraylength, 1)) (hc : 20 ≤ c ∧ c < 27) (h : m_B G R M Q rc rs (pc + 1) ls (mI (Int32.ofNat n) :: st) S) : m_B G R M Q rc rs pc ls (mR (c, n, k) :: st) S := by
  intro p e s m args below meth c0 H locs cells slots A X
  obtain ⟨hC, hat, hlo, hcs, hl, ho1, ho2⟩ := X
  obtain ⟨hx, hb, hml, hown, hts, hr, hlk, hin, hKK⟩ := id hC
  have hK := hKK.1
  have hk : S.1[k]? = some (c, n) := ok_hd ho1 _ rfl
  have hh := h p e s m args below meth c0 H locs cells slots A ⟨hC, hat, hlo, hcs, hl, ok_cons (m_okI _) (ok_tl ho1), ho2⟩
  rcases (show c = 20 ∨ c = 21 ∨ c = 22 ∨ c = 23 ∨ c = 24 ∨ c = 25 ∨ c = 26 by omega) with rfl | rfl | rfl | rfl | rfl | rfl | rfl
  · exact va_alen hx hb hK hat.2.2.1 k 0 (m_ws_get hk) rfl rfl hd hh
  · exact va_alen hx hb hK hat.2.2.1 k 1 (m_ws_get hk) rfl rfl hd hh
  · exact va_alen hx hb hK hat.2.2.1 k 2 (m_ws_get hk) rfl rfl hd hh
  · exact va_alen hx hb hK hat.2.2.1 k 3 (m_ws_get hk) rfl rfl hd hh
  · exact va_alen hx hb hK hat.2.2.1 k 4 (m_ws_get hk) rfl rfl hd hh
  · exact va_alen hx hb hK hat.2.2.1 k 5 (m_ws_get hk) rfl rfl hd hh
  · exact va_alen hx hb hK hat.2.2.1 k 6 (m_ws_get hk) rfl rfl hd hh
end MM7
