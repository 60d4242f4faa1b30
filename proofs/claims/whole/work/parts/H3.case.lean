/-! the law's cases -/
section GC
variable {G : MG} {p : Program} {e : Env} {s : State} {m : MethodId} {below : List Frame} {meth : Method} {c : Code} {b N cells slots a : Nat} {xs : Nat → Int32} {S : MS}
theorem case_24 (hC : lC G p s m meth c b N xs) (hcs : cells ≤ 600000 ∧ slots ≤ 7302250) (ha : a + 6 ≤ N) (h : wInv L_0 S) (hgo : ∀ S2, wInv L_0 S2 → m_L G p e s m below meth c b cells slots 1100 (lvv G b a) [] S2) : m_L G p e s m below meth c b cells slots 932 (lvv G b a) [] S := by
  obtain ⟨r, S1, S2, h1, h2, h3, h4⟩ := w_years (G := G) h (xs (a + 1))
  have e0 := wInv_L h
  refine l_aload (k := 1) (j := 2) hC (by decide +kernel) (i := 1) rfl rfl ?_
  refine l_arg (j := 1) hC (by omega) (by decide +kernel) (by decide +kernel) (by decide +kernel) (by decide +kernel) (by decide +kernel) ?_
  refine l_callV (as := [mI (xs (a + 1))]) (cN := 11) (k := 0) (st := []) hC hcs (by decide +kernel) k_13_115 n_WF_years rfl (by decide) v_WF_years (by rw [e0]; exact L0_at.1) (ok_is rfl) h1 (Nat.le_of_ble_eq_true rfl) (by decide) ?_
  refine l_aload (k := 2) (j := 1) hC (by decide +kernel) (i := 2) rfl rfl ?_
  refine l_arg (j := 1) hC (by omega) (by decide +kernel) (by decide +kernel) (by decide +kernel) (by decide +kernel) (by decide +kernel) ?_
  refine l_callV (as := [mI (xs (a + 1))]) (cN := 12) (k := 177) (st := [m_val G.2.2.1.size (mI r)]) hC hcs (by decide +kernel) k_13_118 n_MD_years rfl (by decide) v_MD_years (by rw [h3]; exact L0_at.2) (ok_is rfl) h2 (Nat.le_of_ble_eq_true rfl) (by decide) ?_
  exact l_eq (off := 150) (tgt := 1100) hC (by decide +kernel) (by decide) (hgo S2 h4)
theorem case_25 (hC : lC G p s m meth c b N xs) (hcs : cells ≤ 600000 ∧ slots ≤ 7302250) (ha : a + 6 ≤ N) (h : wInv L_0 S) (hgo : ∀ S2, wInv L_0 S2 → m_L G p e s m below meth c b cells slots 1100 (lvv G b a) [] S2) : m_L G p e s m below meth c b cells slots 955 (lvv G b a) [] S := by
  obtain ⟨r, S1, S2, h1, h2, h3, h4⟩ := w_chance (G := G) h (xs (a + 1))
  have e0 := wInv_L h
  refine l_aload (k := 1) (j := 2) hC (by decide +kernel) (i := 1) rfl rfl ?_
  refine l_arg (j := 1) hC (by omega) (by decide +kernel) (by decide +kernel) (by decide +kernel) (by decide +kernel) (by decide +kernel) ?_
  refine l_callV (as := [mI (xs (a + 1))]) (cN := 11) (k := 0) (st := []) hC hcs (by decide +kernel) k_13_119 n_WF_chance rfl (by decide) v_WF_chance (by rw [e0]; exact L0_at.1) (ok_is rfl) h1 (Nat.le_of_ble_eq_true rfl) (by decide) ?_
  refine l_aload (k := 2) (j := 1) hC (by decide +kernel) (i := 2) rfl rfl ?_
  refine l_arg (j := 1) hC (by omega) (by decide +kernel) (by decide +kernel) (by decide +kernel) (by decide +kernel) (by decide +kernel) ?_
  refine l_callV (as := [mI (xs (a + 1))]) (cN := 12) (k := 177) (st := [m_val G.2.2.1.size (mI r)]) hC hcs (by decide +kernel) k_13_122 n_MD_chance rfl (by decide) v_MD_chance (by rw [h3]; exact L0_at.2) (ok_is rfl) h2 (Nat.le_of_ble_eq_true rfl) (by decide) ?_
  exact l_eq (off := 127) (tgt := 1100) hC (by decide +kernel) (by decide) (hgo S2 h4)
theorem case_26 (hC : lC G p s m meth c b N xs) (hcs : cells ≤ 600000 ∧ slots ≤ 7302250) (ha : a + 6 ≤ N) (h : wInv L_0 S) (hgo : ∀ S2, wInv L_0 S2 → m_L G p e s m below meth c b cells slots 1100 (lvv G b a) [] S2) : m_L G p e s m below meth c b cells slots 978 (lvv G b a) [] S := by
  obtain ⟨r, S1, S2, h1, h2, h3, h4⟩ := w_undo (G := G) h
  have e0 := wInv_L h
  refine l_aload (k := 1) (j := 2) hC (by decide +kernel) (i := 1) rfl rfl ?_
  refine l_callV (as := []) (cN := 11) (k := 0) (st := []) hC hcs (by decide +kernel) k_13_123 n_WF_undo rfl (by decide) v_WF_undo (by rw [e0]; exact L0_at.1) (ok_is rfl) h1 (Nat.le_of_ble_eq_true rfl) (by decide) ?_
  refine l_aload (k := 2) (j := 1) hC (by decide +kernel) (i := 2) rfl rfl ?_
  refine l_callV (as := []) (cN := 12) (k := 177) (st := [m_val G.2.2.1.size (mI r)]) hC hcs (by decide +kernel) k_13_127 n_MD_undo rfl (by decide) v_MD_undo (by rw [h3]; exact L0_at.2) (ok_is rfl) h2 (Nat.le_of_ble_eq_true rfl) (by decide) ?_
  exact l_eq (off := 114) (tgt := 1100) hC (by decide +kernel) (by decide) (hgo S2 h4)
theorem case_27 (hC : lC G p s m meth c b N xs) (hcs : cells ≤ 600000 ∧ slots ≤ 7302250) (ha : a + 6 ≤ N) (h : wInv L_0 S) (hgo : ∀ S2, wInv L_0 S2 → m_L G p e s m below meth c b cells slots 1100 (lvv G b a) [] S2) : m_L G p e s m below meth c b cells slots 991 (lvv G b a) [] S := by
  obtain ⟨r, S1, S2, h1, h2, h3, h4⟩ := w_seed (G := G) h (xs (a + 1))
  have e0 := wInv_L h
  refine l_aload (k := 1) (j := 2) hC (by decide +kernel) (i := 1) rfl rfl ?_
  refine l_arg (j := 1) hC (by omega) (by decide +kernel) (by decide +kernel) (by decide +kernel) (by decide +kernel) (by decide +kernel) ?_
  refine l_callV (as := [mI (xs (a + 1))]) (cN := 11) (k := 0) (st := []) hC hcs (by decide +kernel) k_13_128 n_WF_seed rfl (by decide) v_WF_seed (by rw [e0]; exact L0_at.1) (ok_is rfl) h1 (Nat.le_of_ble_eq_true rfl) (by decide) ?_
  refine l_aload (k := 2) (j := 1) hC (by decide +kernel) (i := 2) rfl rfl ?_
  refine l_arg (j := 1) hC (by omega) (by decide +kernel) (by decide +kernel) (by decide +kernel) (by decide +kernel) (by decide +kernel) ?_
  refine l_callV (as := [mI (xs (a + 1))]) (cN := 12) (k := 177) (st := [m_val G.2.2.1.size (mI r)]) hC hcs (by decide +kernel) k_13_131 n_MD_seed rfl (by decide) v_MD_seed (by rw [h3]; exact L0_at.2) (ok_is rfl) h2 (Nat.le_of_ble_eq_true rfl) (by decide) ?_
  exact l_eq (off := 91) (tgt := 1100) hC (by decide +kernel) (by decide) (hgo S2 h4)
theorem case_28 (hC : lC G p s m meth c b N xs) (hcs : cells ≤ 600000 ∧ slots ≤ 7302250) (ha : a + 6 ≤ N) (h : wInv L_0 S) (hgo : ∀ S2, wInv L_0 S2 → m_L G p e s m below meth c b cells slots 1100 (lvv G b a) [] S2) : m_L G p e s m below meth c b cells slots 1014 (lvv G b a) [] S := by
  obtain ⟨r, S1, S2, h1, h2, h3, h4⟩ := w_ask (G := G) h
  have e0 := wInv_L h
  refine l_aload (k := 1) (j := 2) hC (by decide +kernel) (i := 1) rfl rfl ?_
  refine l_callV (as := []) (cN := 11) (k := 0) (st := []) hC hcs (by decide +kernel) k_13_132 n_WF_ask rfl (by decide) v_WF_ask (by rw [e0]; exact L0_at.1) (ok_is rfl) h1 (Nat.le_of_ble_eq_true rfl) (by decide) ?_
  refine l_aload (k := 2) (j := 1) hC (by decide +kernel) (i := 2) rfl rfl ?_
  refine l_callV (as := []) (cN := 12) (k := 177) (st := [m_val G.2.2.1.size (mJ r)]) hC hcs (by decide +kernel) k_13_136 n_MD_ask rfl (by decide) v_MD_ask (by rw [h3]; exact L0_at.2) (ok_is rfl) h2 (Nat.le_of_ble_eq_true rfl) (by decide) ?_
  exact l_eqJ (off := 77) (tgt := 1100) hC (by decide +kernel) (by decide +kernel) (by decide) (hgo S2 h4)
theorem case_29 (hC : lC G p s m meth c b N xs) (hcs : cells ≤ 600000 ∧ slots ≤ 7302250) (ha : a + 6 ≤ N) (h : wInv L_0 S) (hgo : ∀ S2, wInv L_0 S2 → m_L G p e s m below meth c b cells slots 1100 (lvv G b a) [] S2) : m_L G p e s m below meth c b cells slots 1028 (lvv G b a) [] S := by
  obtain ⟨r, S1, S2, h1, h2, h3, h4⟩ := w_image (G := G) h
  have e0 := wInv_L h
  refine l_aload (k := 1) (j := 2) hC (by decide +kernel) (i := 1) rfl rfl ?_
  refine l_callV (as := []) (cN := 11) (k := 0) (st := []) hC hcs (by decide +kernel) k_13_137 n_WF_image rfl (by decide) v_WF_image (by rw [e0]; exact L0_at.1) (ok_is rfl) h1 (Nat.le_of_ble_eq_true rfl) (by decide) ?_
  refine l_aload (k := 2) (j := 1) hC (by decide +kernel) (i := 2) rfl rfl ?_
  refine l_callV (as := []) (cN := 12) (k := 177) (st := [m_val G.2.2.1.size (mI r)]) hC hcs (by decide +kernel) k_13_140 n_MD_image rfl (by decide) v_MD_image (by rw [h3]; exact L0_at.2) (ok_is rfl) h2 (Nat.le_of_ble_eq_true rfl) (by decide) ?_
  exact l_eq (off := 64) (tgt := 1100) hC (by decide +kernel) (by decide) (hgo S2 h4)
theorem case_30 (hC : lC G p s m meth c b N xs) (hcs : cells ≤ 600000 ∧ slots ≤ 7302250) (ha : a + 6 ≤ N) (h : wInv L_0 S) (hgo : ∀ S2, wInv L_0 S2 → m_L G p e s m below meth c b cells slots 1100 (lvv G b a) [] S2) : m_L G p e s m below meth c b cells slots 1041 (lvv G b a) [] S := by
  obtain ⟨r, S1, S2, h1, h2, h3, h4⟩ := w_octet (G := G) h (xs (a + 1))
  have e0 := wInv_L h
  refine l_aload (k := 1) (j := 2) hC (by decide +kernel) (i := 1) rfl rfl ?_
  refine l_arg (j := 1) hC (by omega) (by decide +kernel) (by decide +kernel) (by decide +kernel) (by decide +kernel) (by decide +kernel) ?_
  refine l_callV (as := [mI (xs (a + 1))]) (cN := 11) (k := 0) (st := []) hC hcs (by decide +kernel) k_13_141 n_WF_octet rfl (by decide) v_WF_octet (by rw [e0]; exact L0_at.1) (ok_is rfl) h1 (Nat.le_of_ble_eq_true rfl) (by decide) ?_
  refine l_aload (k := 2) (j := 1) hC (by decide +kernel) (i := 2) rfl rfl ?_
  refine l_arg (j := 1) hC (by omega) (by decide +kernel) (by decide +kernel) (by decide +kernel) (by decide +kernel) (by decide +kernel) ?_
  refine l_callV (as := [mI (xs (a + 1))]) (cN := 12) (k := 177) (st := [m_val G.2.2.1.size (mI r)]) hC hcs (by decide +kernel) k_13_144 n_MD_octet rfl (by decide) v_MD_octet (by rw [h3]; exact L0_at.2) (ok_is rfl) h2 (Nat.le_of_ble_eq_true rfl) (by decide) ?_
  exact l_eq (off := 41) (tgt := 1100) hC (by decide +kernel) (by decide) (hgo S2 h4)
theorem case_31 (hC : lC G p s m meth c b N xs) (hcs : cells ≤ 600000 ∧ slots ≤ 7302250) (ha : a + 6 ≤ N) (h : wInv L_0 S) (hgo : ∀ S2, wInv L_0 S2 → m_L G p e s m below meth c b cells slots 1100 (lvv G b a) [] S2) : m_L G p e s m below meth c b cells slots 1064 (lvv G b a) [] S := by
  obtain ⟨r, S1, S2, h1, h2, h3, h4⟩ := w_on (G := G) h
  have e0 := wInv_L h
  refine l_aload (k := 1) (j := 2) hC (by decide +kernel) (i := 1) rfl rfl ?_
  refine l_callV (as := []) (cN := 11) (k := 0) (st := []) hC hcs (by decide +kernel) k_13_145 n_WF_on rfl (by decide) v_WF_on (by rw [e0]; exact L0_at.1) (ok_is rfl) h1 (Nat.le_of_ble_eq_true rfl) (by decide) ?_
  refine l_aload (k := 2) (j := 1) hC (by decide +kernel) (i := 2) rfl rfl ?_
  refine l_callV (as := []) (cN := 12) (k := 177) (st := [m_val G.2.2.1.size (mI r)]) hC hcs (by decide +kernel) k_13_148 n_MD_on rfl (by decide) v_MD_on (by rw [h3]; exact L0_at.2) (ok_is rfl) h2 (Nat.le_of_ble_eq_true rfl) (by decide) ?_
  exact l_eq (off := 28) (tgt := 1100) hC (by decide +kernel) (by decide) (hgo S2 h4)
theorem case_32 (hC : lC G p s m meth c b N xs) (hcs : cells ≤ 600000 ∧ slots ≤ 7302250) (ha : a + 6 ≤ N) (h : wInv L_0 S) (hgo : ∀ S2, wInv L_0 S2 → m_L G p e s m below meth c b cells slots 1100 (lvv G b a) [] S2) : m_L G p e s m below meth c b cells slots 1077 (lvv G b a) [] S := by
  obtain ⟨r, S1, S2, h1, h2, h3, h4⟩ := w_status (G := G) h (xs (a + 1))
  have e0 := wInv_L h
  refine l_aload (k := 1) (j := 2) hC (by decide +kernel) (i := 1) rfl rfl ?_
  refine l_arg (j := 1) hC (by omega) (by decide +kernel) (by decide +kernel) (by decide +kernel) (by decide +kernel) (by decide +kernel) ?_
  refine l_callV (as := [mI (xs (a + 1))]) (cN := 11) (k := 0) (st := []) hC hcs (by decide +kernel) k_13_149 n_WF_status rfl (by decide) v_WF_status (by rw [e0]; exact L0_at.1) (ok_is rfl) h1 (Nat.le_of_ble_eq_true rfl) (by decide) ?_
  refine l_aload (k := 2) (j := 1) hC (by decide +kernel) (i := 2) rfl rfl ?_
  refine l_arg (j := 1) hC (by omega) (by decide +kernel) (by decide +kernel) (by decide +kernel) (by decide +kernel) (by decide +kernel) ?_
  refine l_callV (as := [mI (xs (a + 1))]) (cN := 12) (k := 177) (st := [m_val G.2.2.1.size (mI r)]) hC hcs (by decide +kernel) k_13_152 n_MD_status rfl (by decide) v_MD_status (by rw [h3]; exact L0_at.2) (ok_is rfl) h2 (Nat.le_of_ble_eq_true rfl) (by decide) ?_
  exact l_eq (off := 5) (tgt := 1100) hC (by decide +kernel) (by decide) (hgo S2 h4)
end GC
