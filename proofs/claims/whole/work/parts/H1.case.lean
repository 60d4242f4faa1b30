/-! the law's cases -/
section GC
variable {G : MG} {p : Program} {e : Env} {s : State} {m : MethodId} {below : List Frame} {meth : Method} {c : Code} {b N cells slots a : Nat} {xs : Nat → Int32} {S : MS}
theorem case_8 (hC : lC G p s m meth c b N xs) (hcs : cells ≤ 600000 ∧ slots ≤ 7302250) (ha : a + 6 ≤ N) (h : wInv L_0 S) (hgo : ∀ S2, wInv L_0 S2 → m_L G p e s m below meth c b cells slots 1100 (lvv G b a) [] S2) : m_L G p e s m below meth c b cells slots 434 (lvv G b a) [] S := by
  obtain ⟨r, S1, S2, h1, h2, h3, h4⟩ := w_stake (G := G) h (xs (a + 1)) (xs (a + 2))
  have e0 := wInv_L h
  refine l_aload (k := 1) (j := 2) hC (by decide +kernel) (i := 1) rfl rfl ?_
  refine l_arg (j := 1) hC (by omega) (by decide +kernel) (by decide +kernel) (by decide +kernel) (by decide +kernel) (by decide +kernel) ?_
  refine l_arg (j := 2) hC (by omega) (by decide +kernel) (by decide +kernel) (by decide +kernel) (by decide +kernel) (by decide +kernel) ?_
  refine l_callV (as := [mI (xs (a + 1)), mI (xs (a + 2))]) (cN := 11) (k := 0) (st := []) hC hcs (by decide +kernel) k_13_51 n_WF_stake rfl (by decide) v_WF_stake (by rw [e0]; exact L0_at.1) (ok_is rfl) h1 (Nat.le_of_ble_eq_true rfl) (by decide) ?_
  refine l_aload (k := 2) (j := 1) hC (by decide +kernel) (i := 2) rfl rfl ?_
  refine l_arg (j := 1) hC (by omega) (by decide +kernel) (by decide +kernel) (by decide +kernel) (by decide +kernel) (by decide +kernel) ?_
  refine l_arg (j := 2) hC (by omega) (by decide +kernel) (by decide +kernel) (by decide +kernel) (by decide +kernel) (by decide +kernel) ?_
  refine l_callV (as := [mI (xs (a + 1)), mI (xs (a + 2))]) (cN := 12) (k := 177) (st := [m_val G.2.2.1.size (mI r)]) hC hcs (by decide +kernel) k_13_54 n_MD_stake rfl (by decide) v_MD_stake (by rw [h3]; exact L0_at.2) (ok_is rfl) h2 (Nat.le_of_ble_eq_true rfl) (by decide) ?_
  exact l_eq (off := 638) (tgt := 1100) hC (by decide +kernel) (by decide) (hgo S2 h4)
theorem case_9 (hC : lC G p s m meth c b N xs) (hcs : cells ≤ 600000 ∧ slots ≤ 7302250) (ha : a + 6 ≤ N) (h : wInv L_0 S) (hgo : ∀ S2, wInv L_0 S2 → m_L G p e s m below meth c b cells slots 1100 (lvv G b a) [] S2) : m_L G p e s m below meth c b cells slots 467 (lvv G b a) [] S := by
  obtain ⟨r, S1, S2, h1, h2, h3, h4⟩ := w_walks (G := G) h (xs (a + 1)) (xs (a + 2))
  have e0 := wInv_L h
  refine l_aload (k := 1) (j := 2) hC (by decide +kernel) (i := 1) rfl rfl ?_
  refine l_arg (j := 1) hC (by omega) (by decide +kernel) (by decide +kernel) (by decide +kernel) (by decide +kernel) (by decide +kernel) ?_
  refine l_arg (j := 2) hC (by omega) (by decide +kernel) (by decide +kernel) (by decide +kernel) (by decide +kernel) (by decide +kernel) ?_
  refine l_callV (as := [mI (xs (a + 1)), mI (xs (a + 2))]) (cN := 11) (k := 0) (st := []) hC hcs (by decide +kernel) k_13_55 n_WF_walks rfl (by decide) v_WF_walks (by rw [e0]; exact L0_at.1) (ok_is rfl) h1 (Nat.le_of_ble_eq_true rfl) (by decide) ?_
  refine l_aload (k := 2) (j := 1) hC (by decide +kernel) (i := 2) rfl rfl ?_
  refine l_arg (j := 1) hC (by omega) (by decide +kernel) (by decide +kernel) (by decide +kernel) (by decide +kernel) (by decide +kernel) ?_
  refine l_arg (j := 2) hC (by omega) (by decide +kernel) (by decide +kernel) (by decide +kernel) (by decide +kernel) (by decide +kernel) ?_
  refine l_callV (as := [mI (xs (a + 1)), mI (xs (a + 2))]) (cN := 12) (k := 177) (st := [m_val G.2.2.1.size (mI r)]) hC hcs (by decide +kernel) k_13_58 n_MD_walks rfl (by decide) v_MD_walks (by rw [h3]; exact L0_at.2) (ok_is rfl) h2 (Nat.le_of_ble_eq_true rfl) (by decide) ?_
  exact l_eq (off := 605) (tgt := 1100) hC (by decide +kernel) (by decide) (hgo S2 h4)
theorem case_10 (hC : lC G p s m meth c b N xs) (hcs : cells ≤ 600000 ∧ slots ≤ 7302250) (ha : a + 6 ≤ N) (h : wInv L_0 S) (hgo : ∀ S2, wInv L_0 S2 → m_L G p e s m below meth c b cells slots 1100 (lvv G b a) [] S2) : m_L G p e s m below meth c b cells slots 500 (lvv G b a) [] S := by
  obtain ⟨r, S1, S2, h1, h2, h3, h4⟩ := w_kept (G := G) h (xs (a + 1)) (xs (a + 2))
  have e0 := wInv_L h
  refine l_aload (k := 1) (j := 2) hC (by decide +kernel) (i := 1) rfl rfl ?_
  refine l_arg (j := 1) hC (by omega) (by decide +kernel) (by decide +kernel) (by decide +kernel) (by decide +kernel) (by decide +kernel) ?_
  refine l_arg (j := 2) hC (by omega) (by decide +kernel) (by decide +kernel) (by decide +kernel) (by decide +kernel) (by decide +kernel) ?_
  refine l_callV (as := [mI (xs (a + 1)), mI (xs (a + 2))]) (cN := 11) (k := 0) (st := []) hC hcs (by decide +kernel) k_13_59 n_WF_kept rfl (by decide) v_WF_kept (by rw [e0]; exact L0_at.1) (ok_is rfl) h1 (Nat.le_of_ble_eq_true rfl) (by decide) ?_
  refine l_aload (k := 2) (j := 1) hC (by decide +kernel) (i := 2) rfl rfl ?_
  refine l_arg (j := 1) hC (by omega) (by decide +kernel) (by decide +kernel) (by decide +kernel) (by decide +kernel) (by decide +kernel) ?_
  refine l_arg (j := 2) hC (by omega) (by decide +kernel) (by decide +kernel) (by decide +kernel) (by decide +kernel) (by decide +kernel) ?_
  refine l_callV (as := [mI (xs (a + 1)), mI (xs (a + 2))]) (cN := 12) (k := 177) (st := [m_val G.2.2.1.size (mI r)]) hC hcs (by decide +kernel) k_13_62 n_MD_kept rfl (by decide) v_MD_kept (by rw [h3]; exact L0_at.2) (ok_is rfl) h2 (Nat.le_of_ble_eq_true rfl) (by decide) ?_
  exact l_eq (off := 572) (tgt := 1100) hC (by decide +kernel) (by decide) (hgo S2 h4)
theorem case_11 (hC : lC G p s m meth c b N xs) (hcs : cells ≤ 600000 ∧ slots ≤ 7302250) (ha : a + 6 ≤ N) (h : wInv L_0 S) (hgo : ∀ S2, wInv L_0 S2 → m_L G p e s m below meth c b cells slots 1100 (lvv G b a) [] S2) : m_L G p e s m below meth c b cells slots 533 (lvv G b a) [] S := by
  obtain ⟨r, S1, S2, h1, h2, h3, h4⟩ := w_later (G := G) h (xs (a + 1)) (xs (a + 2)) (xs (a + 3))
  have e0 := wInv_L h
  refine l_aload (k := 1) (j := 2) hC (by decide +kernel) (i := 1) rfl rfl ?_
  refine l_arg (j := 1) hC (by omega) (by decide +kernel) (by decide +kernel) (by decide +kernel) (by decide +kernel) (by decide +kernel) ?_
  refine l_arg (j := 2) hC (by omega) (by decide +kernel) (by decide +kernel) (by decide +kernel) (by decide +kernel) (by decide +kernel) ?_
  refine l_arg (j := 3) hC (by omega) (by decide +kernel) (by decide +kernel) (by decide +kernel) (by decide +kernel) (by decide +kernel) ?_
  refine l_callV (as := [mI (xs (a + 1)), mI (xs (a + 2)), mI (xs (a + 3))]) (cN := 11) (k := 0) (st := []) hC hcs (by decide +kernel) k_13_63 n_WF_later rfl (by decide) v_WF_later (by rw [e0]; exact L0_at.1) (ok_is rfl) h1 (Nat.le_of_ble_eq_true rfl) (by decide) ?_
  refine l_aload (k := 2) (j := 1) hC (by decide +kernel) (i := 2) rfl rfl ?_
  refine l_arg (j := 1) hC (by omega) (by decide +kernel) (by decide +kernel) (by decide +kernel) (by decide +kernel) (by decide +kernel) ?_
  refine l_arg (j := 2) hC (by omega) (by decide +kernel) (by decide +kernel) (by decide +kernel) (by decide +kernel) (by decide +kernel) ?_
  refine l_arg (j := 3) hC (by omega) (by decide +kernel) (by decide +kernel) (by decide +kernel) (by decide +kernel) (by decide +kernel) ?_
  refine l_callV (as := [mI (xs (a + 1)), mI (xs (a + 2)), mI (xs (a + 3))]) (cN := 12) (k := 177) (st := [m_val G.2.2.1.size (mI r)]) hC hcs (by decide +kernel) k_13_66 n_MD_later rfl (by decide) v_MD_later (by rw [h3]; exact L0_at.2) (ok_is rfl) h2 (Nat.le_of_ble_eq_true rfl) (by decide) ?_
  exact l_eq (off := 529) (tgt := 1100) hC (by decide +kernel) (by decide) (hgo S2 h4)
theorem case_12 (hC : lC G p s m meth c b N xs) (hcs : cells ≤ 600000 ∧ slots ≤ 7302250) (ha : a + 6 ≤ N) (h : wInv L_0 S) (hgo : ∀ S2, wInv L_0 S2 → m_L G p e s m below meth c b cells slots 1100 (lvv G b a) [] S2) : m_L G p e s m below meth c b cells slots 576 (lvv G b a) [] S := by
  obtain ⟨r, S1, S2, h1, h2, h3, h4⟩ := w_whose (G := G) h (xs (a + 1)) (xs (a + 2)) (xs (a + 3))
  have e0 := wInv_L h
  refine l_aload (k := 1) (j := 2) hC (by decide +kernel) (i := 1) rfl rfl ?_
  refine l_arg (j := 1) hC (by omega) (by decide +kernel) (by decide +kernel) (by decide +kernel) (by decide +kernel) (by decide +kernel) ?_
  refine l_arg (j := 2) hC (by omega) (by decide +kernel) (by decide +kernel) (by decide +kernel) (by decide +kernel) (by decide +kernel) ?_
  refine l_arg (j := 3) hC (by omega) (by decide +kernel) (by decide +kernel) (by decide +kernel) (by decide +kernel) (by decide +kernel) ?_
  refine l_callV (as := [mI (xs (a + 1)), mI (xs (a + 2)), mI (xs (a + 3))]) (cN := 11) (k := 0) (st := []) hC hcs (by decide +kernel) k_13_67 n_WF_whose rfl (by decide) v_WF_whose (by rw [e0]; exact L0_at.1) (ok_is rfl) h1 (Nat.le_of_ble_eq_true rfl) (by decide) ?_
  refine l_aload (k := 2) (j := 1) hC (by decide +kernel) (i := 2) rfl rfl ?_
  refine l_arg (j := 1) hC (by omega) (by decide +kernel) (by decide +kernel) (by decide +kernel) (by decide +kernel) (by decide +kernel) ?_
  refine l_arg (j := 2) hC (by omega) (by decide +kernel) (by decide +kernel) (by decide +kernel) (by decide +kernel) (by decide +kernel) ?_
  refine l_arg (j := 3) hC (by omega) (by decide +kernel) (by decide +kernel) (by decide +kernel) (by decide +kernel) (by decide +kernel) ?_
  refine l_callV (as := [mI (xs (a + 1)), mI (xs (a + 2)), mI (xs (a + 3))]) (cN := 12) (k := 177) (st := [m_val G.2.2.1.size (mI r)]) hC hcs (by decide +kernel) k_13_70 n_MD_whose rfl (by decide) v_MD_whose (by rw [h3]; exact L0_at.2) (ok_is rfl) h2 (Nat.le_of_ble_eq_true rfl) (by decide) ?_
  exact l_eq (off := 486) (tgt := 1100) hC (by decide +kernel) (by decide) (hgo S2 h4)
theorem case_13 (hC : lC G p s m meth c b N xs) (hcs : cells ≤ 600000 ∧ slots ≤ 7302250) (ha : a + 6 ≤ N) (h : wInv L_0 S) (hgo : ∀ S2, wInv L_0 S2 → m_L G p e s m below meth c b cells slots 1100 (lvv G b a) [] S2) : m_L G p e s m below meth c b cells slots 619 (lvv G b a) [] S := by
  obtain ⟨r, S1, S2, h1, h2, h3, h4⟩ := w_meets (G := G) h (xs (a + 1)) (xs (a + 2))
  have e0 := wInv_L h
  refine l_aload (k := 1) (j := 2) hC (by decide +kernel) (i := 1) rfl rfl ?_
  refine l_arg (j := 1) hC (by omega) (by decide +kernel) (by decide +kernel) (by decide +kernel) (by decide +kernel) (by decide +kernel) ?_
  refine l_arg (j := 2) hC (by omega) (by decide +kernel) (by decide +kernel) (by decide +kernel) (by decide +kernel) (by decide +kernel) ?_
  refine l_callV (as := [mI (xs (a + 1)), mI (xs (a + 2))]) (cN := 11) (k := 0) (st := []) hC hcs (by decide +kernel) k_13_71 n_WF_meets rfl (by decide) v_WF_meets (by rw [e0]; exact L0_at.1) (ok_is rfl) h1 (Nat.le_of_ble_eq_true rfl) (by decide) ?_
  refine l_aload (k := 2) (j := 1) hC (by decide +kernel) (i := 2) rfl rfl ?_
  refine l_arg (j := 1) hC (by omega) (by decide +kernel) (by decide +kernel) (by decide +kernel) (by decide +kernel) (by decide +kernel) ?_
  refine l_arg (j := 2) hC (by omega) (by decide +kernel) (by decide +kernel) (by decide +kernel) (by decide +kernel) (by decide +kernel) ?_
  refine l_callV (as := [mI (xs (a + 1)), mI (xs (a + 2))]) (cN := 12) (k := 177) (st := [m_val G.2.2.1.size (mI r)]) hC hcs (by decide +kernel) k_13_74 n_MD_meets rfl (by decide) v_MD_meets (by rw [h3]; exact L0_at.2) (ok_is rfl) h2 (Nat.le_of_ble_eq_true rfl) (by decide) ?_
  exact l_eq (off := 453) (tgt := 1100) hC (by decide +kernel) (by decide) (hgo S2 h4)
theorem case_14 (hC : lC G p s m meth c b N xs) (hcs : cells ≤ 600000 ∧ slots ≤ 7302250) (ha : a + 6 ≤ N) (h : wInv L_0 S) (hgo : ∀ S2, wInv L_0 S2 → m_L G p e s m below meth c b cells slots 1100 (lvv G b a) [] S2) : m_L G p e s m below meth c b cells slots 652 (lvv G b a) [] S := by
  obtain ⟨r, S1, S2, h1, h2, h3, h4⟩ := w_below (G := G) h (xs (a + 1)) (xs (a + 2))
  have e0 := wInv_L h
  refine l_aload (k := 1) (j := 2) hC (by decide +kernel) (i := 1) rfl rfl ?_
  refine l_arg (j := 1) hC (by omega) (by decide +kernel) (by decide +kernel) (by decide +kernel) (by decide +kernel) (by decide +kernel) ?_
  refine l_arg (j := 2) hC (by omega) (by decide +kernel) (by decide +kernel) (by decide +kernel) (by decide +kernel) (by decide +kernel) ?_
  refine l_callV (as := [mI (xs (a + 1)), mI (xs (a + 2))]) (cN := 11) (k := 0) (st := []) hC hcs (by decide +kernel) k_13_75 n_WF_below rfl (by decide) v_WF_below (by rw [e0]; exact L0_at.1) (ok_is rfl) h1 (Nat.le_of_ble_eq_true rfl) (by decide) ?_
  refine l_aload (k := 2) (j := 1) hC (by decide +kernel) (i := 2) rfl rfl ?_
  refine l_arg (j := 1) hC (by omega) (by decide +kernel) (by decide +kernel) (by decide +kernel) (by decide +kernel) (by decide +kernel) ?_
  refine l_arg (j := 2) hC (by omega) (by decide +kernel) (by decide +kernel) (by decide +kernel) (by decide +kernel) (by decide +kernel) ?_
  refine l_callV (as := [mI (xs (a + 1)), mI (xs (a + 2))]) (cN := 12) (k := 177) (st := [m_val G.2.2.1.size (mI r)]) hC hcs (by decide +kernel) k_13_78 n_MD_below rfl (by decide) v_MD_below (by rw [h3]; exact L0_at.2) (ok_is rfl) h2 (Nat.le_of_ble_eq_true rfl) (by decide) ?_
  exact l_eq (off := 420) (tgt := 1100) hC (by decide +kernel) (by decide) (hgo S2 h4)
theorem case_15 (hC : lC G p s m meth c b N xs) (hcs : cells ≤ 600000 ∧ slots ≤ 7302250) (ha : a + 6 ≤ N) (h : wInv L_0 S) (hgo : ∀ S2, wInv L_0 S2 → m_L G p e s m below meth c b cells slots 1100 (lvv G b a) [] S2) : m_L G p e s m below meth c b cells slots 685 (lvv G b a) [] S := by
  obtain ⟨r, S1, S2, h1, h2, h3, h4⟩ := w_sets (G := G) h (xs (a + 1)) (xs (a + 2)) (xs (a + 3))
  have e0 := wInv_L h
  refine l_aload (k := 1) (j := 2) hC (by decide +kernel) (i := 1) rfl rfl ?_
  refine l_arg (j := 1) hC (by omega) (by decide +kernel) (by decide +kernel) (by decide +kernel) (by decide +kernel) (by decide +kernel) ?_
  refine l_arg (j := 2) hC (by omega) (by decide +kernel) (by decide +kernel) (by decide +kernel) (by decide +kernel) (by decide +kernel) ?_
  refine l_arg (j := 3) hC (by omega) (by decide +kernel) (by decide +kernel) (by decide +kernel) (by decide +kernel) (by decide +kernel) ?_
  refine l_callV (as := [mI (xs (a + 1)), mI (xs (a + 2)), mI (xs (a + 3))]) (cN := 11) (k := 0) (st := []) hC hcs (by decide +kernel) k_13_79 n_WF_sets rfl (by decide) v_WF_sets (by rw [e0]; exact L0_at.1) (ok_is rfl) h1 (Nat.le_of_ble_eq_true rfl) (by decide) ?_
  refine l_aload (k := 2) (j := 1) hC (by decide +kernel) (i := 2) rfl rfl ?_
  refine l_arg (j := 1) hC (by omega) (by decide +kernel) (by decide +kernel) (by decide +kernel) (by decide +kernel) (by decide +kernel) ?_
  refine l_arg (j := 2) hC (by omega) (by decide +kernel) (by decide +kernel) (by decide +kernel) (by decide +kernel) (by decide +kernel) ?_
  refine l_arg (j := 3) hC (by omega) (by decide +kernel) (by decide +kernel) (by decide +kernel) (by decide +kernel) (by decide +kernel) ?_
  refine l_callV (as := [mI (xs (a + 1)), mI (xs (a + 2)), mI (xs (a + 3))]) (cN := 12) (k := 177) (st := [m_val G.2.2.1.size (mI r)]) hC hcs (by decide +kernel) k_13_82 n_MD_sets rfl (by decide) v_MD_sets (by rw [h3]; exact L0_at.2) (ok_is rfl) h2 (Nat.le_of_ble_eq_true rfl) (by decide) ?_
  exact l_eq (off := 377) (tgt := 1100) hC (by decide +kernel) (by decide) (hgo S2 h4)
end GC
