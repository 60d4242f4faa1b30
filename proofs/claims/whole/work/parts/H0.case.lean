/-! the law's cases -/
theorem wInv_L {L : List (Nat × Nat)} {S : MS} (h : wInv L S) : S.1 = L := by
  obtain ⟨sl, sd, I, J, R, rfl, -⟩ := h
  rfl
def m_isN (v : MV) : Bool := match v with
  | .inl _ => true
  | .inr _ => false
theorem ok_is {L : List (Nat × Nat)} {as : List MV} (h : as.all m_isN = true) : ∀ v ∈ as, m_ok L v := fun v hv q hq => by
  have := List.all_eq_true.mp h v hv
  rw [hq] at this
  cases this
section GC
variable {G : MG} {p : Program} {e : Env} {s : State} {m : MethodId} {below : List Frame} {meth : Method} {c : Code} {b N cells slots a : Nat} {xs : Nat → Int32} {S : MS}
theorem case_0 (hC : lC G p s m meth c b N xs) (hcs : cells ≤ 600000 ∧ slots ≤ 7302250) (ha : a + 6 ≤ N) (h : wInv L_0 S) (hgo : ∀ S2, wInv L_0 S2 → m_L G p e s m below meth c b cells slots 1100 (lvv G b a) [] S2) : m_L G p e s m below meth c b cells slots 180 (lvv G b a) [] S := by
  obtain ⟨r, S1, S2, h1, h2, h3, h4⟩ := w_feed (G := G) h (xs (a + 1)) (xs (a + 2)) (xs (a + 3)) (xs (a + 4)) (xs (a + 5))
  have e0 := wInv_L h
  refine l_aload (k := 1) (j := 2) hC (by decide +kernel) (i := 1) rfl rfl ?_
  refine l_arg (j := 1) hC (by omega) (by decide +kernel) (by decide +kernel) (by decide +kernel) (by decide +kernel) (by decide +kernel) ?_
  refine l_arg (j := 2) hC (by omega) (by decide +kernel) (by decide +kernel) (by decide +kernel) (by decide +kernel) (by decide +kernel) ?_
  refine l_arg (j := 3) hC (by omega) (by decide +kernel) (by decide +kernel) (by decide +kernel) (by decide +kernel) (by decide +kernel) ?_
  refine l_arg (j := 4) hC (by omega) (by decide +kernel) (by decide +kernel) (by decide +kernel) (by decide +kernel) (by decide +kernel) ?_
  refine l_arg (j := 5) hC (by omega) (by decide +kernel) (by decide +kernel) (by decide +kernel) (by decide +kernel) (by decide +kernel) ?_
  refine l_callV (as := [mI (xs (a + 1)), mI (xs (a + 2)), mI (xs (a + 3)), mI (xs (a + 4)), mI (xs (a + 5))]) (cN := 11) (k := 0) (st := []) hC hcs (by decide +kernel) k_13_13 n_WF_feed rfl (by decide) v_WF_feed (by rw [e0]; exact L0_at.1) (ok_is rfl) h1 (Nat.le_of_ble_eq_true rfl) (by decide) ?_
  refine l_aload (k := 2) (j := 1) hC (by decide +kernel) (i := 2) rfl rfl ?_
  refine l_arg (j := 1) hC (by omega) (by decide +kernel) (by decide +kernel) (by decide +kernel) (by decide +kernel) (by decide +kernel) ?_
  refine l_arg (j := 2) hC (by omega) (by decide +kernel) (by decide +kernel) (by decide +kernel) (by decide +kernel) (by decide +kernel) ?_
  refine l_arg (j := 3) hC (by omega) (by decide +kernel) (by decide +kernel) (by decide +kernel) (by decide +kernel) (by decide +kernel) ?_
  refine l_arg (j := 4) hC (by omega) (by decide +kernel) (by decide +kernel) (by decide +kernel) (by decide +kernel) (by decide +kernel) ?_
  refine l_arg (j := 5) hC (by omega) (by decide +kernel) (by decide +kernel) (by decide +kernel) (by decide +kernel) (by decide +kernel) ?_
  refine l_callV (as := [mI (xs (a + 1)), mI (xs (a + 2)), mI (xs (a + 3)), mI (xs (a + 4)), mI (xs (a + 5))]) (cN := 12) (k := 177) (st := [m_val G.2.2.1.size (mI r)]) hC hcs (by decide +kernel) k_13_17 n_MD_feed rfl (by decide) v_MD_feed (by rw [h3]; exact L0_at.2) (ok_is rfl) h2 (Nat.le_of_ble_eq_true rfl) (by decide) ?_
  exact l_eq (off := 862) (tgt := 1100) hC (by decide +kernel) (by decide) (hgo S2 h4)
theorem case_1 (hC : lC G p s m meth c b N xs) (hcs : cells ≤ 600000 ∧ slots ≤ 7302250) (ha : a + 6 ≤ N) (h : wInv L_0 S) (hgo : ∀ S2, wInv L_0 S2 → m_L G p e s m below meth c b cells slots 1100 (lvv G b a) [] S2) : m_L G p e s m below meth c b cells slots 243 (lvv G b a) [] S := by
  obtain ⟨r, S1, S2, h1, h2, h3, h4⟩ := w_end (G := G) h (xs (a + 1))
  have e0 := wInv_L h
  refine l_aload (k := 1) (j := 2) hC (by decide +kernel) (i := 1) rfl rfl ?_
  refine l_arg (j := 1) hC (by omega) (by decide +kernel) (by decide +kernel) (by decide +kernel) (by decide +kernel) (by decide +kernel) ?_
  refine l_callV (as := [mI (xs (a + 1))]) (cN := 11) (k := 0) (st := []) hC hcs (by decide +kernel) k_13_18 n_WF_end rfl (by decide) v_WF_end (by rw [e0]; exact L0_at.1) (ok_is rfl) h1 (Nat.le_of_ble_eq_true rfl) (by decide) ?_
  refine l_aload (k := 2) (j := 1) hC (by decide +kernel) (i := 2) rfl rfl ?_
  refine l_arg (j := 1) hC (by omega) (by decide +kernel) (by decide +kernel) (by decide +kernel) (by decide +kernel) (by decide +kernel) ?_
  refine l_callV (as := [mI (xs (a + 1))]) (cN := 12) (k := 177) (st := [m_val G.2.2.1.size (mI r)]) hC hcs (by decide +kernel) k_13_22 n_MD_end rfl (by decide) v_MD_end (by rw [h3]; exact L0_at.2) (ok_is rfl) h2 (Nat.le_of_ble_eq_true rfl) (by decide) ?_
  exact l_eq (off := 839) (tgt := 1100) hC (by decide +kernel) (by decide) (hgo S2 h4)
theorem case_2 (hC : lC G p s m meth c b N xs) (hcs : cells ≤ 600000 ∧ slots ≤ 7302250) (ha : a + 6 ≤ N) (h : wInv L_0 S) (hgo : ∀ S2, wInv L_0 S2 → m_L G p e s m below meth c b cells slots 1100 (lvv G b a) [] S2) : m_L G p e s m below meth c b cells slots 266 (lvv G b a) [] S := by
  obtain ⟨r, S1, S2, h1, h2, h3, h4⟩ := w_slope (G := G) h
  have e0 := wInv_L h
  refine l_aload (k := 1) (j := 2) hC (by decide +kernel) (i := 1) rfl rfl ?_
  refine l_callV (as := []) (cN := 11) (k := 0) (st := []) hC hcs (by decide +kernel) k_13_23 n_WF_slope rfl (by decide) v_WF_slope (by rw [e0]; exact L0_at.1) (ok_is rfl) h1 (Nat.le_of_ble_eq_true rfl) (by decide) ?_
  refine l_aload (k := 2) (j := 1) hC (by decide +kernel) (i := 2) rfl rfl ?_
  refine l_callV (as := []) (cN := 12) (k := 177) (st := [m_val G.2.2.1.size (mI r)]) hC hcs (by decide +kernel) k_13_27 n_MD_slope rfl (by decide) v_MD_slope (by rw [h3]; exact L0_at.2) (ok_is rfl) h2 (Nat.le_of_ble_eq_true rfl) (by decide) ?_
  exact l_eq (off := 826) (tgt := 1100) hC (by decide +kernel) (by decide) (hgo S2 h4)
theorem case_3 (hC : lC G p s m meth c b N xs) (hcs : cells ≤ 600000 ∧ slots ≤ 7302250) (ha : a + 6 ≤ N) (h : wInv L_0 S) (hgo : ∀ S2, wInv L_0 S2 → m_L G p e s m below meth c b cells slots 1100 (lvv G b a) [] S2) : m_L G p e s m below meth c b cells slots 279 (lvv G b a) [] S := by
  obtain ⟨r, S1, S2, h1, h2, h3, h4⟩ := w_fault (G := G) h (xs (a + 1))
  have e0 := wInv_L h
  refine l_aload (k := 1) (j := 2) hC (by decide +kernel) (i := 1) rfl rfl ?_
  refine l_arg (j := 1) hC (by omega) (by decide +kernel) (by decide +kernel) (by decide +kernel) (by decide +kernel) (by decide +kernel) ?_
  refine l_callV (as := [mI (xs (a + 1))]) (cN := 11) (k := 0) (st := []) hC hcs (by decide +kernel) k_13_28 n_WF_fault rfl (by decide) v_WF_fault (by rw [e0]; exact L0_at.1) (ok_is rfl) h1 (Nat.le_of_ble_eq_true rfl) (by decide) ?_
  refine l_aload (k := 2) (j := 1) hC (by decide +kernel) (i := 2) rfl rfl ?_
  refine l_arg (j := 1) hC (by omega) (by decide +kernel) (by decide +kernel) (by decide +kernel) (by decide +kernel) (by decide +kernel) ?_
  refine l_callV (as := [mI (xs (a + 1))]) (cN := 12) (k := 177) (st := [m_val G.2.2.1.size (mI r)]) hC hcs (by decide +kernel) k_13_32 n_MD_fault rfl (by decide) v_MD_fault (by rw [h3]; exact L0_at.2) (ok_is rfl) h2 (Nat.le_of_ble_eq_true rfl) (by decide) ?_
  exact l_eq (off := 803) (tgt := 1100) hC (by decide +kernel) (by decide) (hgo S2 h4)
theorem case_4 (hC : lC G p s m meth c b N xs) (hcs : cells ≤ 600000 ∧ slots ≤ 7302250) (ha : a + 6 ≤ N) (h : wInv L_0 S) (hgo : ∀ S2, wInv L_0 S2 → m_L G p e s m below meth c b cells slots 1100 (lvv G b a) [] S2) : m_L G p e s m below meth c b cells slots 302 (lvv G b a) [] S := by
  obtain ⟨r, S1, S2, h1, h2, h3, h4⟩ := w_has (G := G) h (xs (a + 1))
  have e0 := wInv_L h
  refine l_aload (k := 1) (j := 2) hC (by decide +kernel) (i := 1) rfl rfl ?_
  refine l_arg (j := 1) hC (by omega) (by decide +kernel) (by decide +kernel) (by decide +kernel) (by decide +kernel) (by decide +kernel) ?_
  refine l_callV (as := [mI (xs (a + 1))]) (cN := 11) (k := 0) (st := []) hC hcs (by decide +kernel) k_13_33 n_WF_has rfl (by decide) v_WF_has (by rw [e0]; exact L0_at.1) (ok_is rfl) h1 (Nat.le_of_ble_eq_true rfl) (by decide) ?_
  refine l_aload (k := 2) (j := 1) hC (by decide +kernel) (i := 2) rfl rfl ?_
  refine l_arg (j := 1) hC (by omega) (by decide +kernel) (by decide +kernel) (by decide +kernel) (by decide +kernel) (by decide +kernel) ?_
  refine l_callV (as := [mI (xs (a + 1))]) (cN := 12) (k := 177) (st := [m_val G.2.2.1.size (mI r)]) hC hcs (by decide +kernel) k_13_36 n_MD_has rfl (by decide) v_MD_has (by rw [h3]; exact L0_at.2) (ok_is rfl) h2 (Nat.le_of_ble_eq_true rfl) (by decide) ?_
  exact l_eq (off := 780) (tgt := 1100) hC (by decide +kernel) (by decide) (hgo S2 h4)
theorem case_5 (hC : lC G p s m meth c b N xs) (hcs : cells ≤ 600000 ∧ slots ≤ 7302250) (ha : a + 6 ≤ N) (h : wInv L_0 S) (hgo : ∀ S2, wInv L_0 S2 → m_L G p e s m below meth c b cells slots 1100 (lvv G b a) [] S2) : m_L G p e s m below meth c b cells slots 325 (lvv G b a) [] S := by
  obtain ⟨r, S1, S2, h1, h2, h3, h4⟩ := w_letter (G := G) h (xs (a + 1)) (xs (a + 2))
  have e0 := wInv_L h
  refine l_aload (k := 1) (j := 2) hC (by decide +kernel) (i := 1) rfl rfl ?_
  refine l_arg (j := 1) hC (by omega) (by decide +kernel) (by decide +kernel) (by decide +kernel) (by decide +kernel) (by decide +kernel) ?_
  refine l_arg (j := 2) hC (by omega) (by decide +kernel) (by decide +kernel) (by decide +kernel) (by decide +kernel) (by decide +kernel) ?_
  refine l_callV (as := [mI (xs (a + 1)), mI (xs (a + 2))]) (cN := 11) (k := 0) (st := []) hC hcs (by decide +kernel) k_13_37 n_WF_letter rfl (by decide) v_WF_letter (by rw [e0]; exact L0_at.1) (ok_is rfl) h1 (Nat.le_of_ble_eq_true rfl) (by decide) ?_
  refine l_aload (k := 2) (j := 1) hC (by decide +kernel) (i := 2) rfl rfl ?_
  refine l_arg (j := 1) hC (by omega) (by decide +kernel) (by decide +kernel) (by decide +kernel) (by decide +kernel) (by decide +kernel) ?_
  refine l_arg (j := 2) hC (by omega) (by decide +kernel) (by decide +kernel) (by decide +kernel) (by decide +kernel) (by decide +kernel) ?_
  refine l_callV (as := [mI (xs (a + 1)), mI (xs (a + 2))]) (cN := 12) (k := 177) (st := [m_val G.2.2.1.size (mI r)]) hC hcs (by decide +kernel) k_13_41 n_MD_letter rfl (by decide) v_MD_letter (by rw [h3]; exact L0_at.2) (ok_is rfl) h2 (Nat.le_of_ble_eq_true rfl) (by decide) ?_
  exact l_eq (off := 747) (tgt := 1100) hC (by decide +kernel) (by decide) (hgo S2 h4)
theorem case_6 (hC : lC G p s m meth c b N xs) (hcs : cells ≤ 600000 ∧ slots ≤ 7302250) (ha : a + 6 ≤ N) (h : wInv L_0 S) (hgo : ∀ S2, wInv L_0 S2 → m_L G p e s m below meth c b cells slots 1100 (lvv G b a) [] S2) : m_L G p e s m below meth c b cells slots 358 (lvv G b a) [] S := by
  obtain ⟨r, S1, S2, h1, h2, h3, h4⟩ := w_place (G := G) h (xs (a + 1)) (xs (a + 2)) (xs (a + 3))
  have e0 := wInv_L h
  refine l_aload (k := 1) (j := 2) hC (by decide +kernel) (i := 1) rfl rfl ?_
  refine l_arg (j := 1) hC (by omega) (by decide +kernel) (by decide +kernel) (by decide +kernel) (by decide +kernel) (by decide +kernel) ?_
  refine l_arg (j := 2) hC (by omega) (by decide +kernel) (by decide +kernel) (by decide +kernel) (by decide +kernel) (by decide +kernel) ?_
  refine l_arg (j := 3) hC (by omega) (by decide +kernel) (by decide +kernel) (by decide +kernel) (by decide +kernel) (by decide +kernel) ?_
  refine l_callV (as := [mI (xs (a + 1)), mI (xs (a + 2)), mI (xs (a + 3))]) (cN := 11) (k := 0) (st := []) hC hcs (by decide +kernel) k_13_42 n_WF_place rfl (by decide) v_WF_place (by rw [e0]; exact L0_at.1) (ok_is rfl) h1 (Nat.le_of_ble_eq_true rfl) (by decide) ?_
  refine l_aload (k := 2) (j := 1) hC (by decide +kernel) (i := 2) rfl rfl ?_
  refine l_arg (j := 1) hC (by omega) (by decide +kernel) (by decide +kernel) (by decide +kernel) (by decide +kernel) (by decide +kernel) ?_
  refine l_arg (j := 2) hC (by omega) (by decide +kernel) (by decide +kernel) (by decide +kernel) (by decide +kernel) (by decide +kernel) ?_
  refine l_arg (j := 3) hC (by omega) (by decide +kernel) (by decide +kernel) (by decide +kernel) (by decide +kernel) (by decide +kernel) ?_
  refine l_callV (as := [mI (xs (a + 1)), mI (xs (a + 2)), mI (xs (a + 3))]) (cN := 12) (k := 177) (st := [m_val G.2.2.1.size (mI r)]) hC hcs (by decide +kernel) k_13_46 n_MD_place rfl (by decide) v_MD_place (by rw [h3]; exact L0_at.2) (ok_is rfl) h2 (Nat.le_of_ble_eq_true rfl) (by decide) ?_
  exact l_eq (off := 704) (tgt := 1100) hC (by decide +kernel) (by decide) (hgo S2 h4)
theorem case_7 (hC : lC G p s m meth c b N xs) (hcs : cells ≤ 600000 ∧ slots ≤ 7302250) (ha : a + 6 ≤ N) (h : wInv L_0 S) (hgo : ∀ S2, wInv L_0 S2 → m_L G p e s m below meth c b cells slots 1100 (lvv G b a) [] S2) : m_L G p e s m below meth c b cells slots 401 (lvv G b a) [] S := by
  obtain ⟨r, S1, S2, h1, h2, h3, h4⟩ := w_fence (G := G) h (xs (a + 1)) (xs (a + 2))
  have e0 := wInv_L h
  refine l_aload (k := 1) (j := 2) hC (by decide +kernel) (i := 1) rfl rfl ?_
  refine l_arg (j := 1) hC (by omega) (by decide +kernel) (by decide +kernel) (by decide +kernel) (by decide +kernel) (by decide +kernel) ?_
  refine l_arg (j := 2) hC (by omega) (by decide +kernel) (by decide +kernel) (by decide +kernel) (by decide +kernel) (by decide +kernel) ?_
  refine l_callV (as := [mI (xs (a + 1)), mI (xs (a + 2))]) (cN := 11) (k := 0) (st := []) hC hcs (by decide +kernel) k_13_47 n_WF_fence rfl (by decide) v_WF_fence (by rw [e0]; exact L0_at.1) (ok_is rfl) h1 (Nat.le_of_ble_eq_true rfl) (by decide) ?_
  refine l_aload (k := 2) (j := 1) hC (by decide +kernel) (i := 2) rfl rfl ?_
  refine l_arg (j := 1) hC (by omega) (by decide +kernel) (by decide +kernel) (by decide +kernel) (by decide +kernel) (by decide +kernel) ?_
  refine l_arg (j := 2) hC (by omega) (by decide +kernel) (by decide +kernel) (by decide +kernel) (by decide +kernel) (by decide +kernel) ?_
  refine l_callV (as := [mI (xs (a + 1)), mI (xs (a + 2))]) (cN := 12) (k := 177) (st := [m_val G.2.2.1.size (mI r)]) hC hcs (by decide +kernel) k_13_50 n_MD_fence rfl (by decide) v_MD_fence (by rw [h3]; exact L0_at.2) (ok_is rfl) h2 (Nat.le_of_ble_eq_true rfl) (by decide) ?_
  exact l_eq (off := 671) (tgt := 1100) hC (by decide +kernel) (by decide) (hgo S2 h4)
end GC
