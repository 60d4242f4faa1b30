/-! the law's cases -/
section GC
variable {G : MG} {p : Program} {e : Env} {s : State} {m : MethodId} {below : List Frame} {meth : Method} {c : Code} {b N cells slots a : Nat} {xs : Nat → Int32} {S : MS}
theorem case_16 (hC : lC G p s m meth c b N xs) (hcs : cells ≤ 600000 ∧ slots ≤ 7302250) (ha : a + 6 ≤ N) (h : wInv L_0 S) (hgo : ∀ S2, wInv L_0 S2 → m_L G p e s m below meth c b cells slots 1100 (lvv G b a) [] S2) : m_L G p e s m below meth c b cells slots 728 (lvv G b a) [] S := by
  obtain ⟨r, S1, S2, h1, h2, h3, h4⟩ := w_irons (G := G) h (xs (a + 1)) (xs (a + 2)) (xs (a + 3))
  have e0 := wInv_L h
  refine l_aload (k := 1) (j := 2) hC (by decide +kernel) (i := 1) rfl rfl ?_
  refine l_arg (j := 1) hC (by omega) (by decide +kernel) (by decide +kernel) (by decide +kernel) (by decide +kernel) (by decide +kernel) ?_
  refine l_arg (j := 2) hC (by omega) (by decide +kernel) (by decide +kernel) (by decide +kernel) (by decide +kernel) (by decide +kernel) ?_
  refine l_arg (j := 3) hC (by omega) (by decide +kernel) (by decide +kernel) (by decide +kernel) (by decide +kernel) (by decide +kernel) ?_
  refine l_callV (as := [mI (xs (a + 1)), mI (xs (a + 2)), mI (xs (a + 3))]) (cN := 11) (k := 0) (st := []) hC hcs (by decide +kernel) k_13_83 n_WF_irons rfl (by decide) v_WF_irons (by rw [e0]; exact L0_at.1) (ok_is rfl) h1 (Nat.le_of_ble_eq_true rfl) (by decide) ?_
  refine l_aload (k := 2) (j := 1) hC (by decide +kernel) (i := 2) rfl rfl ?_
  refine l_arg (j := 1) hC (by omega) (by decide +kernel) (by decide +kernel) (by decide +kernel) (by decide +kernel) (by decide +kernel) ?_
  refine l_arg (j := 2) hC (by omega) (by decide +kernel) (by decide +kernel) (by decide +kernel) (by decide +kernel) (by decide +kernel) ?_
  refine l_arg (j := 3) hC (by omega) (by decide +kernel) (by decide +kernel) (by decide +kernel) (by decide +kernel) (by decide +kernel) ?_
  refine l_callV (as := [mI (xs (a + 1)), mI (xs (a + 2)), mI (xs (a + 3))]) (cN := 12) (k := 177) (st := [m_val G.2.2.1.size (mI r)]) hC hcs (by decide +kernel) k_13_86 n_MD_irons rfl (by decide) v_MD_irons (by rw [h3]; exact L0_at.2) (ok_is rfl) h2 (Nat.le_of_ble_eq_true rfl) (by decide) ?_
  exact l_eq (off := 334) (tgt := 1100) hC (by decide +kernel) (by decide) (hgo S2 h4)
theorem case_17 (hC : lC G p s m meth c b N xs) (hcs : cells ≤ 600000 ∧ slots ≤ 7302250) (ha : a + 6 ≤ N) (h : wInv L_0 S) (hgo : ∀ S2, wInv L_0 S2 → m_L G p e s m below meth c b cells slots 1100 (lvv G b a) [] S2) : m_L G p e s m below meth c b cells slots 771 (lvv G b a) [] S := by
  obtain ⟨r, S1, S2, h1, h2, h3, h4⟩ := w_rest (G := G) h (xs (a + 1))
  have e0 := wInv_L h
  refine l_aload (k := 1) (j := 2) hC (by decide +kernel) (i := 1) rfl rfl ?_
  refine l_arg (j := 1) hC (by omega) (by decide +kernel) (by decide +kernel) (by decide +kernel) (by decide +kernel) (by decide +kernel) ?_
  refine l_callV (as := [mI (xs (a + 1))]) (cN := 11) (k := 0) (st := []) hC hcs (by decide +kernel) k_13_87 n_WF_rest rfl (by decide) v_WF_rest (by rw [e0]; exact L0_at.1) (ok_is rfl) h1 (Nat.le_of_ble_eq_true rfl) (by decide) ?_
  refine l_aload (k := 2) (j := 1) hC (by decide +kernel) (i := 2) rfl rfl ?_
  refine l_arg (j := 1) hC (by omega) (by decide +kernel) (by decide +kernel) (by decide +kernel) (by decide +kernel) (by decide +kernel) ?_
  refine l_callV (as := [mI (xs (a + 1))]) (cN := 12) (k := 177) (st := [m_val G.2.2.1.size (mI r)]) hC hcs (by decide +kernel) k_13_90 n_MD_rest rfl (by decide) v_MD_rest (by rw [h3]; exact L0_at.2) (ok_is rfl) h2 (Nat.le_of_ble_eq_true rfl) (by decide) ?_
  exact l_eq (off := 311) (tgt := 1100) hC (by decide +kernel) (by decide) (hgo S2 h4)
theorem case_18 (hC : lC G p s m meth c b N xs) (hcs : cells ≤ 600000 ∧ slots ≤ 7302250) (ha : a + 6 ≤ N) (h : wInv L_0 S) (hgo : ∀ S2, wInv L_0 S2 → m_L G p e s m below meth c b cells slots 1100 (lvv G b a) [] S2) : m_L G p e s m below meth c b cells slots 794 (lvv G b a) [] S := by
  obtain ⟨r, S1, S2, h1, h2, h3, h4⟩ := w_see (G := G) h
  have e0 := wInv_L h
  refine l_aload (k := 1) (j := 2) hC (by decide +kernel) (i := 1) rfl rfl ?_
  refine l_callV (as := []) (cN := 11) (k := 0) (st := []) hC hcs (by decide +kernel) k_13_91 n_WF_see rfl (by decide) v_WF_see (by rw [e0]; exact L0_at.1) (ok_is rfl) h1 (Nat.le_of_ble_eq_true rfl) (by decide) ?_
  refine l_aload (k := 2) (j := 1) hC (by decide +kernel) (i := 2) rfl rfl ?_
  refine l_callV (as := []) (cN := 12) (k := 177) (st := [m_val G.2.2.1.size (mI r)]) hC hcs (by decide +kernel) k_13_94 n_MD_see rfl (by decide) v_MD_see (by rw [h3]; exact L0_at.2) (ok_is rfl) h2 (Nat.le_of_ble_eq_true rfl) (by decide) ?_
  exact l_eq (off := 298) (tgt := 1100) hC (by decide +kernel) (by decide) (hgo S2 h4)
theorem case_19 (hC : lC G p s m meth c b N xs) (hcs : cells ≤ 600000 ∧ slots ≤ 7302250) (ha : a + 6 ≤ N) (h : wInv L_0 S) (hgo : ∀ S2, wInv L_0 S2 → m_L G p e s m below meth c b cells slots 1100 (lvv G b a) [] S2) : m_L G p e s m below meth c b cells slots 807 (lvv G b a) [] S := by
  obtain ⟨r, S1, S2, h1, h2, h3, h4⟩ := w_fits (G := G) h (xs (a + 1))
  have e0 := wInv_L h
  refine l_aload (k := 1) (j := 2) hC (by decide +kernel) (i := 1) rfl rfl ?_
  refine l_arg (j := 1) hC (by omega) (by decide +kernel) (by decide +kernel) (by decide +kernel) (by decide +kernel) (by decide +kernel) ?_
  refine l_callV (as := [mI (xs (a + 1))]) (cN := 11) (k := 0) (st := []) hC hcs (by decide +kernel) k_13_95 n_WF_fits rfl (by decide) v_WF_fits (by rw [e0]; exact L0_at.1) (ok_is rfl) h1 (Nat.le_of_ble_eq_true rfl) (by decide) ?_
  refine l_aload (k := 2) (j := 1) hC (by decide +kernel) (i := 2) rfl rfl ?_
  refine l_arg (j := 1) hC (by omega) (by decide +kernel) (by decide +kernel) (by decide +kernel) (by decide +kernel) (by decide +kernel) ?_
  refine l_callV (as := [mI (xs (a + 1))]) (cN := 12) (k := 177) (st := [m_val G.2.2.1.size (mI r)]) hC hcs (by decide +kernel) k_13_98 n_MD_fits rfl (by decide) v_MD_fits (by rw [h3]; exact L0_at.2) (ok_is rfl) h2 (Nat.le_of_ble_eq_true rfl) (by decide) ?_
  exact l_eq (off := 275) (tgt := 1100) hC (by decide +kernel) (by decide) (hgo S2 h4)
theorem case_20 (hC : lC G p s m meth c b N xs) (hcs : cells ≤ 600000 ∧ slots ≤ 7302250) (ha : a + 6 ≤ N) (h : wInv L_0 S) (hgo : ∀ S2, wInv L_0 S2 → m_L G p e s m below meth c b cells slots 1100 (lvv G b a) [] S2) : m_L G p e s m below meth c b cells slots 830 (lvv G b a) [] S := by
  obtain ⟨r, S1, S2, h1, h2, h3, h4⟩ := w_tells (G := G) h (xs (a + 1))
  have e0 := wInv_L h
  refine l_aload (k := 1) (j := 2) hC (by decide +kernel) (i := 1) rfl rfl ?_
  refine l_arg (j := 1) hC (by omega) (by decide +kernel) (by decide +kernel) (by decide +kernel) (by decide +kernel) (by decide +kernel) ?_
  refine l_callV (as := [mI (xs (a + 1))]) (cN := 11) (k := 0) (st := []) hC hcs (by decide +kernel) k_13_99 n_WF_tells rfl (by decide) v_WF_tells (by rw [e0]; exact L0_at.1) (ok_is rfl) h1 (Nat.le_of_ble_eq_true rfl) (by decide) ?_
  refine l_aload (k := 2) (j := 1) hC (by decide +kernel) (i := 2) rfl rfl ?_
  refine l_arg (j := 1) hC (by omega) (by decide +kernel) (by decide +kernel) (by decide +kernel) (by decide +kernel) (by decide +kernel) ?_
  refine l_callV (as := [mI (xs (a + 1))]) (cN := 12) (k := 177) (st := [m_val G.2.2.1.size (mI r)]) hC hcs (by decide +kernel) k_13_102 n_MD_tells rfl (by decide) v_MD_tells (by rw [h3]; exact L0_at.2) (ok_is rfl) h2 (Nat.le_of_ble_eq_true rfl) (by decide) ?_
  exact l_eq (off := 252) (tgt := 1100) hC (by decide +kernel) (by decide) (hgo S2 h4)
theorem case_21 (hC : lC G p s m meth c b N xs) (hcs : cells ≤ 600000 ∧ slots ≤ 7302250) (ha : a + 6 ≤ N) (h : wInv L_0 S) (hgo : ∀ S2, wInv L_0 S2 → m_L G p e s m below meth c b cells slots 1100 (lvv G b a) [] S2) : m_L G p e s m below meth c b cells slots 853 (lvv G b a) [] S := by
  obtain ⟨r, S1, S2, h1, h2, h3, h4⟩ := w_set (G := G) h (xs (a + 1))
  have e0 := wInv_L h
  refine l_aload (k := 1) (j := 2) hC (by decide +kernel) (i := 1) rfl rfl ?_
  refine l_arg (j := 1) hC (by omega) (by decide +kernel) (by decide +kernel) (by decide +kernel) (by decide +kernel) (by decide +kernel) ?_
  refine l_callV (as := [mI (xs (a + 1))]) (cN := 11) (k := 0) (st := []) hC hcs (by decide +kernel) k_13_103 n_WF_set rfl (by decide) v_WF_set (by rw [e0]; exact L0_at.1) (ok_is rfl) h1 (Nat.le_of_ble_eq_true rfl) (by decide) ?_
  refine l_aload (k := 2) (j := 1) hC (by decide +kernel) (i := 2) rfl rfl ?_
  refine l_arg (j := 1) hC (by omega) (by decide +kernel) (by decide +kernel) (by decide +kernel) (by decide +kernel) (by decide +kernel) ?_
  refine l_callV (as := [mI (xs (a + 1))]) (cN := 12) (k := 177) (st := [m_val G.2.2.1.size (mI r)]) hC hcs (by decide +kernel) k_13_106 n_MD_set rfl (by decide) v_MD_set (by rw [h3]; exact L0_at.2) (ok_is rfl) h2 (Nat.le_of_ble_eq_true rfl) (by decide) ?_
  exact l_eq (off := 229) (tgt := 1100) hC (by decide +kernel) (by decide) (hgo S2 h4)
theorem case_22 (hC : lC G p s m meth c b N xs) (hcs : cells ≤ 600000 ∧ slots ≤ 7302250) (ha : a + 6 ≤ N) (h : wInv L_0 S) (hgo : ∀ S2, wInv L_0 S2 → m_L G p e s m below meth c b cells slots 1100 (lvv G b a) [] S2) : m_L G p e s m below meth c b cells slots 876 (lvv G b a) [] S := by
  obtain ⟨r, S1, S2, h1, h2, h3, h4⟩ := w_cut (G := G) h (xs (a + 1))
  have e0 := wInv_L h
  refine l_aload (k := 1) (j := 2) hC (by decide +kernel) (i := 1) rfl rfl ?_
  refine l_arg (j := 1) hC (by omega) (by decide +kernel) (by decide +kernel) (by decide +kernel) (by decide +kernel) (by decide +kernel) ?_
  refine l_callV (as := [mI (xs (a + 1))]) (cN := 11) (k := 0) (st := []) hC hcs (by decide +kernel) k_13_107 n_WF_cut rfl (by decide) v_WF_cut (by rw [e0]; exact L0_at.1) (ok_is rfl) h1 (Nat.le_of_ble_eq_true rfl) (by decide) ?_
  refine l_aload (k := 2) (j := 1) hC (by decide +kernel) (i := 2) rfl rfl ?_
  refine l_arg (j := 1) hC (by omega) (by decide +kernel) (by decide +kernel) (by decide +kernel) (by decide +kernel) (by decide +kernel) ?_
  refine l_callV (as := [mI (xs (a + 1))]) (cN := 12) (k := 177) (st := [m_val G.2.2.1.size (mI r)]) hC hcs (by decide +kernel) k_13_110 n_MD_cut rfl (by decide) v_MD_cut (by rw [h3]; exact L0_at.2) (ok_is rfl) h2 (Nat.le_of_ble_eq_true rfl) (by decide) ?_
  exact l_eq (off := 206) (tgt := 1100) hC (by decide +kernel) (by decide) (hgo S2 h4)
theorem case_23 (hC : lC G p s m meth c b N xs) (hcs : cells ≤ 600000 ∧ slots ≤ 7302250) (ha : a + 6 ≤ N) (h : wInv L_0 S) (hgo : ∀ S2, wInv L_0 S2 → m_L G p e s m below meth c b cells slots 1100 (lvv G b a) [] S2) : m_L G p e s m below meth c b cells slots 899 (lvv G b a) [] S := by
  obtain ⟨r, S1, S2, h1, h2, h3, h4⟩ := w_iron (G := G) h (xs (a + 1)) (xs (a + 2))
  have e0 := wInv_L h
  refine l_aload (k := 1) (j := 2) hC (by decide +kernel) (i := 1) rfl rfl ?_
  refine l_arg (j := 1) hC (by omega) (by decide +kernel) (by decide +kernel) (by decide +kernel) (by decide +kernel) (by decide +kernel) ?_
  refine l_arg (j := 2) hC (by omega) (by decide +kernel) (by decide +kernel) (by decide +kernel) (by decide +kernel) (by decide +kernel) ?_
  refine l_callV (as := [mI (xs (a + 1)), mI (xs (a + 2))]) (cN := 11) (k := 0) (st := []) hC hcs (by decide +kernel) k_13_111 n_WF_iron rfl (by decide) v_WF_iron (by rw [e0]; exact L0_at.1) (ok_is rfl) h1 (Nat.le_of_ble_eq_true rfl) (by decide) ?_
  refine l_aload (k := 2) (j := 1) hC (by decide +kernel) (i := 2) rfl rfl ?_
  refine l_arg (j := 1) hC (by omega) (by decide +kernel) (by decide +kernel) (by decide +kernel) (by decide +kernel) (by decide +kernel) ?_
  refine l_arg (j := 2) hC (by omega) (by decide +kernel) (by decide +kernel) (by decide +kernel) (by decide +kernel) (by decide +kernel) ?_
  refine l_callV (as := [mI (xs (a + 1)), mI (xs (a + 2))]) (cN := 12) (k := 177) (st := [m_val G.2.2.1.size (mI r)]) hC hcs (by decide +kernel) k_13_114 n_MD_iron rfl (by decide) v_MD_iron (by rw [h3]; exact L0_at.2) (ok_is rfl) h2 (Nat.le_of_ble_eq_true rfl) (by decide) ?_
  exact l_eq (off := 173) (tgt := 1100) hC (by decide +kernel) (by decide) (hgo S2 h4)
end GC
