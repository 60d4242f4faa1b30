/-! the law's loop, and the whole of it -/
section GL9
variable {G : MG} {p : Program} {e : Env} {s : State} {m : MethodId} {below : List Frame} {meth : Method} {c : Code} {b N cells slots pc a : Nat} {xs : Nat → Int32} {lv : List (Nat × Value)} {st : List Value} {S : MS}
theorem l_end (hC : lC G p s m meth c b N xs) (hcs : cells ≤ 600000 ∧ slots ≤ 7302250) : m_L G p e s m below meth c b cells slots 1106 lv [] S := by
  intro H locs A hat hlo hl
  refine lv_iconst (n := 1) (v := 1) hC.1.1 hC.1.2.1 (by decide +kernel) (by decide) ?_
  refine W.widen (k := 600000) (n := 7302250) hcs.1 hcs.2 ?_
  refine va_forget (fun q hq => by rw [← hC.2.1]; exact hlo q hq) ?_
  exact lw_ret hC.1.1 hC.1.2.1 hC.1.2.2.1 hC.1.2.2.2.2.2.2.2.2.1 (by decide +kernel)
theorem l_dup {x : Nat} (hC : lC G p s m meth c b N xs) (hd : decode code pc = .ok (.dup, 1)) (h : m_L G p e s m below meth c b cells slots (pc + 1) lv (.ref x :: .ref x :: st) S) : m_L G p e s m below meth c b cells slots pc lv (.ref x :: st) S := by
  intro H locs A hat hlo hl
  exact lv_dup hC.1.1 hC.1.2.1 hd rfl (h H locs A hat hlo hl)
theorem l_ast {x i : Nat} {k : Fin 4} {lv' : List (Nat × Value)} (hC : lC G p s m meth c b N xs) (hd : decode code pc = .ok (.astore_n k, 1)) (hi : (k : Nat) = i) (hi4 : i < 4) (hl' : (i, Value.ref x) :: lv.filter (fun q => !(q.1 == i) && !(q.1 + 1 == i && q.2.category == 2)) = lv') (h : m_L G p e s m below meth c b cells slots (pc + 1) lv' st S) : m_L G p e s m below meth c b cells slots pc lv (.ref x :: st) S := by
  intro H locs A hat hlo hl
  exact lv_astore_n hC.1.1 hC.1.2.1 hd hi hl hi4 hl' (fun ls' h' => h H locs ls' hat hlo h')
theorem l_ist {i : Nat} {x : Int32} {k : Fin 4} {lv' : List (Nat × Value)} (hC : lC G p s m meth c b N xs) (hd : decode code pc = .ok (.istore_n k, 1)) (hi : (k : Nat) = i) (hi4 : i < 4) (hl' : (i, Value.int x) :: lv.filter (fun q => !(q.1 == i) && !(q.1 + 1 == i && q.2.category == 2)) = lv') (h : m_L G p e s m below meth c b cells slots (pc + 1) lv' st S) : m_L G p e s m below meth c b cells slots pc lv (.int x :: st) S := by
  intro H locs A hat hlo hl
  exact lv_istore_n hC.1.1 hC.1.2.1 hd hi hl hi4 hl' (fun ls' h' => h H locs ls' hat hlo h')
theorem gt6 {N a : Nat} (hN : N ≤ 3072) (ha : a ≤ 3072) (z : ¬ Int32.ofNat N - 6 < nI a) : a + 6 ≤ N := by
  have e6 : (6 : Int32) = xI 6 := by decide
  have e : Int32.ofNat N - 6 = xI ((N : Int) - 6) := by
    show nI N - 6 = _
    rw [e6, ← xI_n, xI_sub]
  rw [e, Int32.lt_iff_toInt_lt, xI_t (by omega) (by omega), nI_toInt (by omega)] at z
  omega
def offsL : Array Int := #[147, 210, 233, 246, 269, 292, 325, 368, 401, 434, 467, 500, 543, 586, 619, 652, 695, 738, 761, 774, 797, 820, 843, 866, 899, 922, 945, 958, 981, 995, 1008, 1031, 1044]
theorem sw_d : decode code 33 = .ok (.tableswitch 1067 0 32 offsL, 147) := by decide +kernel
theorem sw_o : ∀ k, k < offsL.size → ((33 : Nat) : Int) + offsL.getD k 0 = ((fun k => (33 + offsL.getD k 0).toNat) k : Int) := by decide +kernel
theorem l_loop (hC : lC G p s m meth c b N xs) (hcs : cells ≤ 600000 ∧ slots ≤ 7302250) : ∀ d a, N ≤ a + d → a ≤ 3072 → ∀ S, wInv L_0 S → m_L G p e s m below meth c b cells slots 18 (lvv G b a) [] S := by
  have hx := hC.1.1
  have hb := hC.1.2.1
  have hN := hC.2.2.2
  have hXX := hC.1.2.2.2.2.2.2.1
  have hbl := hC.1.2.2.2.2.2.2.2.1
  have hbA : ¬ (fun q : Nat => s.heap.size ≤ q) b := Nat.not_le.mpr hbl
  intro d
  induction d with
  | zero =>
    intro a hd ha S hI H locs A hat hlo hl
    refine lv_iload_n hx hb (k := 3) (i := 3) (by decide +kernel) rfl (lv_at hl 0 rfl) ?_
    refine lv_aload_n hx hb (k := 0) (i := 0) (by decide +kernel) rfl (lv_at hl 3 rfl) ?_
    refine va_slen hx hb hXX hbl hbA (l_S hC hat hlo) (by decide +kernel) ?_
    refine lv_bipush (n := 6) (v := 6) hx hb (by decide +kernel) (by decide) ?_
    refine lv_isub hx hb (by decide +kernel) ?_
    exact lv_icmp_gt (off := 1082) (tgt := 1106) hx hb (by decide +kernel) (by decide) (fun _ => l_end hC hcs H locs A hat hlo hl) (fun z => absurd (gt6 hN ha z) (by omega))
  | succ d ih =>
    intro a hd ha S hI H locs A hat hlo hl
    refine lv_iload_n hx hb (k := 3) (i := 3) (by decide +kernel) rfl (lv_at hl 0 rfl) ?_
    refine lv_aload_n hx hb (k := 0) (i := 0) (by decide +kernel) rfl (lv_at hl 3 rfl) ?_
    refine va_slen hx hb hXX hbl hbA (l_S hC hat hlo) (by decide +kernel) ?_
    refine lv_bipush (n := 6) (v := 6) hx hb (by decide +kernel) (by decide) ?_
    refine lv_isub hx hb (by decide +kernel) ?_
    refine lv_icmp_gt (off := 1082) (tgt := 1106) hx hb (by decide +kernel) (by decide) (fun _ => l_end hC hcs H locs A hat hlo hl) (fun z => ?_)
    have ha6 : a + 6 ≤ N := gt6 hN ha z
    have hv : vp_in (nI a) N := in_n (n := N) (by omega) (nI_pos (by omega)) (nI_ge (by omega) (by omega))
    refine lv_aload_n hx hb (k := 0) (i := 0) (by decide +kernel) rfl (lv_at hl 3 rfl) ?_
    refine lv_iload_n hx hb (k := 3) (i := 3) (by decide +kernel) rfl (lv_at hl 0 rfl) ?_
    refine va_sld hx hb hXX hbl hbA (l_S hC hat hlo) hv (by decide +kernel) ?_
    refine lv_bipush (n := 63) (v := 63) hx hb (by decide +kernel) (by decide) ?_
    refine lv_iand hx hb (by decide +kernel) ?_
    have go : ∀ S2, wInv L_0 S2 → m_L G p e s m below meth c b cells slots 1100 (lvv G b a) [] S2 := by
      intro S2 h2 H locs A hat hlo hl
      refine lv_iinc (i := 3) (n := 6) (k := 0) (x := nI a) (v := nI (a + 6)) (lv' := lvv G b (a + 6)) hx hb (by decide +kernel) hl rfl (nI_add a 6) (by decide) rfl (fun ls' hl' => ?_)
      exact lv_goto hx hb (off := -1085) (tgt := 18) (by decide +kernel) (by decide) (ih (a + 6) (by omega) (by omega) S2 h2 H locs ls' hat hlo hl')
    refine l_tsw (tgt := fun k => (33 + offsL.getD k 0).toNat) (td := 1100) hC sw_d sw_o (by decide) (by decide) (fun k hk hxk => ?_) (go S hI) H locs A hat hlo hl
    have hk : k < 33 := hk
    rcases (by omega : k = 0 ∨ k = 1 ∨ k = 2 ∨ k = 3 ∨ k = 4 ∨ k = 5 ∨ k = 6 ∨ k = 7 ∨ k = 8 ∨ k = 9 ∨ k = 10 ∨ k = 11 ∨ k = 12 ∨ k = 13 ∨ k = 14 ∨ k = 15 ∨ k = 16 ∨ k = 17 ∨ k = 18 ∨ k = 19 ∨ k = 20 ∨ k = 21 ∨ k = 22 ∨ k = 23 ∨ k = 24 ∨ k = 25 ∨ k = 26 ∨ k = 27 ∨ k = 28 ∨ k = 29 ∨ k = 30 ∨ k = 31 ∨ k = 32) with q | q | q | q | q | q | q | q | q | q | q | q | q | q | q | q | q | q | q | q | q | q | q | q | q | q | q | q | q | q | q | q | q <;> subst q
    · exact case_0 hC hcs ha6 hI go
    · exact case_1 hC hcs ha6 hI go
    · exact case_2 hC hcs ha6 hI go
    · exact case_3 hC hcs ha6 hI go
    · exact case_4 hC hcs ha6 hI go
    · exact case_5 hC hcs ha6 hI go
    · exact case_6 hC hcs ha6 hI go
    · exact case_7 hC hcs ha6 hI go
    · exact case_8 hC hcs ha6 hI go
    · exact case_9 hC hcs ha6 hI go
    · exact case_10 hC hcs ha6 hI go
    · exact case_11 hC hcs ha6 hI go
    · exact case_12 hC hcs ha6 hI go
    · exact case_13 hC hcs ha6 hI go
    · exact case_14 hC hcs ha6 hI go
    · exact case_15 hC hcs ha6 hI go
    · exact case_16 hC hcs ha6 hI go
    · exact case_17 hC hcs ha6 hI go
    · exact case_18 hC hcs ha6 hI go
    · exact case_19 hC hcs ha6 hI go
    · exact case_20 hC hcs ha6 hI go
    · exact case_21 hC hcs ha6 hI go
    · exact case_22 hC hcs ha6 hI go
    · exact case_23 hC hcs ha6 hI go
    · exact case_24 hC hcs ha6 hI go
    · exact case_25 hC hcs ha6 hI go
    · exact case_26 hC hcs ha6 hI go
    · exact case_27 hC hcs ha6 hI go
    · exact case_28 hC hcs ha6 hI go
    · exact case_29 hC hcs ha6 hI go
    · exact case_30 hC hcs ha6 hI go
    · exact case_31 hC hcs ha6 hI go
    · exact case_32 hC hcs ha6 hI go
set_option maxRecDepth 1000000 in
theorem whole_start {p : Program} {e : Env} {s : State} {m : MethodId} {below : List Frame} {meth : Method} {c : Code} (l : Launch) {b L : Nat} {xs : Nat → Int32} (hL : L ≤ 3072) (C0 : lw_At p s m meth c b L xs) : W p l e room_1 s m #[Value.ref b] below meth c s.heap [] 0 0 (lw_Z below #[Value.ref b] s) (entryFrame m ([Value.ref b] : List Value).toArray 4) := by
  obtain ⟨G, g1, g2, hK⟩ := k_start C0 l
  subst g2
  have hC : lC G p s m meth c b L xs := ⟨C0, g1, hK, hL⟩
  have hl := lv_entry ([.ref b]) (n := 4) (Nat.le_of_ble_eq_true rfl)
  rw [lg_entry_eq]
  generalize (lg_sl ([.ref b]) ++ List.replicate (4 - (lg_sl ([.ref b])).length) Slot.unset).toArray = ls at hl ⊢
  have hl : lv_has ls 4 [(0, .ref b)] := hl
  have hat0 : m_at G ([], fun _ _ => 0, fun _ _ => 0, fun _ _ => none) s.heap := ⟨by rw [g1]; rfl, fun q hq => by rw [g1], fun i x hx => by simp [m_ws, m_wsF] at hx, fun k j q hq => by cases hq⟩
  have key : m_L G p e s m below meth c b 0 0 0 [(0, .ref b)] [] ([], fun _ _ => 0, fun _ _ => 0, fun _ _ => none) := by
    refine l_new (cN := 11) (n := 0) hC (by decide) (by decide +kernel) kc_13_7 m_inst11 (by decide) rfl ?_
    refine l_dup hC (by decide +kernel) ?_
    refine l_callI (cN := 11) (k := 0) hC (by decide) (by decide +kernel) k_13_9 n_WF_init rfl rfl i_WF_init rfl (c_WF_init (len_s (n := 0) rfl)) (Nat.le_of_ble_eq_true rfl) (by decide) ?_
    refine l_ast (k := 1) (i := 1) (lv' := [(1, .ref (G.2.2.1.size + 0)), (0, .ref b)]) hC (by decide +kernel) rfl (by decide) rfl ?_
    refine l_new (cN := 12) (n := 177) hC (by decide) (by decide +kernel) kc_13_10 m_inst12 (by decide) (len_WF (len_s (n := 0) rfl)) ?_
    refine l_dup hC (by decide +kernel) ?_
    refine l_callI (cN := 12) (k := 177) hC (by decide) (by decide +kernel) k_13_12 n_MD_init rfl rfl i_MD_init (by decide +kernel) (c_MD_init (len_s (len_WF (len_s (n := 0) rfl)))) (Nat.le_of_ble_eq_true rfl) (by decide) ?_
    refine l_ast (k := 2) (i := 2) (lv' := [(2, .ref (G.2.2.1.size + 177)), (1, .ref (G.2.2.1.size + 0)), (0, .ref b)]) hC (by decide +kernel) rfl (by decide) rfl ?_
    refine l_iconst (n := 0) (v := nI 0) hC (by decide +kernel) rfl ?_
    refine l_ist (k := 3) (i := 3) (lv' := lvv G b 0) hC (by decide +kernel) rfl (by decide) rfl ?_
    exact l_loop hC (by decide) L 0 (by omega) (by decide) _ wInv_0
  exact key s.heap [] ls hat0 (fun q hq => by cases hq) hl
end GL9
