/-! Reckoner.run -/
abbrev MI : Type := Nat → Nat → Int32
/-- one step of a SUM or TEST; none: it ends with 0 there -/
def rk_step (X : MI) (t : Nat) (s : Int32) : Option (Nat × MI) :=
  if s < 30000 then (if s < 20000 then (if t < 100 then some (t + 1, m_up X 26 t (if 10000 ≤ s then f_Reckoner_partOf X (s - 10000) else s)) else none)
    else (if 2 ≤ t then some (t - 1, m_up X 26 (t - 2) (f_Reckoner_pair s (X 26 (t - 2)) (X 26 (t - 1)))) else none))
  else (if 1 ≤ t then some (t, m_up X 26 (t - 1) (f_Reckoner_single X s (X 26 (t - 1)))) else none)
/-- the steps from the place a on, n of them: where it ends with 0, the memory there; else how many wait, and the memory -/
def rk_run (I : MI) (q a : Nat) : Nat → MI ⊕ (Nat × MI)
  | 0 => .inr (0, I)
  | n + 1 => match rk_run I q a n with
    | .inl X => .inl X
    | .inr (t, X) => match rk_step X t (X q (a + n)) with
      | none => .inl X
      | some r => .inr r
theorem rk_run_no {I X : MI} {q a n : Nat} (h : rk_run I q a n = .inl X) {m : Nat} (hm : n ≤ m) : rk_run I q a m = .inl X := by
  induction hm with
  | refl => exact h
  | step _ ih => simp [rk_run, ih]
def rk_M (a b : Int32) : Nat := min b.toNatClampNeg 1600 - a.toNatClampNeg
def v_run (I : MI) (q : Nat) (a b : Int32) : Int32 := match rk_run I q a.toNatClampNeg (rk_M a b) with
  | .inl _ => 0
  | .inr (t, X) => if nI t ≤ 0 then 0 else X 26 0
def w_run (I : MI) (q : Nat) (a b : Int32) : MI := match rk_run I q a.toNatClampNeg (rk_M a b) with
  | .inl X => X
  | .inr (_, X) => X
theorem max0 (x : Int32) : f_Math_max_II 0 x = nI x.toNatClampNeg := by
  unfold f_Math_max_II
  split
  · rename_i h
    obtain ⟨j, hj, rfl⟩ := nI_of (x := x) (by rw [Int32.not_lt]; exact Int32.le_of_lt h)
    rw [nI_clamp hj]
  · rename_i h
    have h1 : x.toInt ≤ 0 := by
      have := Int32.not_lt.mp h
      simpa [Int32.le_iff_toInt_le] using this
    have h2 : x.toNatClampNeg = 0 := by
      show x.toInt.toNat = 0
      omega
    rw [h2]; rfl
theorem rk_1 {t : Nat} (ht : t ≤ 100) (h : (1 : Int32) ≤ nI t) : 1 ≤ t ∧ nI t - 1 = nI (t - 1) := by
  have h1 : 1 ≤ t := (nI_leI (a := 1) (by decide) (by omega)).mp h
  exact ⟨h1, by rw [show (1 : Int32) = nI 1 from rfl, pk_sub h1]⟩
theorem rk_2 {t : Nat} (ht : t ≤ 100) (h : (2 : Int32) ≤ nI t) : 2 ≤ t ∧ nI t + (-1) = nI (t - 1) ∧ nI t + (-1) - 1 = nI (t - 2) := by
  have h1 : 2 ≤ t := (nI_leI (a := 2) (by decide) (by omega)).mp h
  have e : nI t + (-1) = nI (t - 1) := by
    obtain ⟨u, rfl⟩ : ∃ u, t = u + 1 := ⟨t - 1, by omega⟩
    exact pk_m1 u
  refine ⟨h1, e, ?_⟩
  rw [e, show (1 : Int32) = nI 1 from rfl, pk_sub (by omega)]
  congr 1
theorem rk_in1 {t : Nat} (ht : t ≤ 100) (h : (1 : Int32) ≤ nI t) : vp_in (nI t - 1) 100 := by
  obtain ⟨h1, e⟩ := rk_1 ht h
  rw [e]; exact vp_in_nI (by omega) (by decide)
theorem rk_in2 {t : Nat} (ht : t ≤ 100) (h : (2 : Int32) ≤ nI t) : vp_in (nI t + (-1) - 1) 100 := by
  obtain ⟨h1, e, e2⟩ := rk_2 ht h
  rw [e2]; exact vp_in_nI (by omega) (by decide)
theorem rk_in3 {t : Nat} (ht : t ≤ 100) (h : (2 : Int32) ≤ nI t) : vp_in (nI t + (-1)) 100 := by
  obtain ⟨h1, e, e2⟩ := rk_2 ht h
  rw [e]; exact vp_in_nI (by omega) (by decide)
theorem rk_lt {t : Nat} (ht : t ≤ 100) (h : nI t < (100 : Int32)) : t < 100 := (nI_ltI (b := 100) (by omega) (by decide)).mp h
theorem rk_s1 {X : MI} {t : Nat} {s : Int32} (ht : t ≤ 100) (h1 : ¬ s < 30000) (h2 : (1 : Int32) ≤ nI t) : rk_step X t s = some (t, m_up X 26 (nI t - 1).toNatClampNeg (f_Reckoner_single X s (X 26 (nI t - 1).toNatClampNeg))) := by
  obtain ⟨g1, e⟩ := rk_1 ht h2
  rw [e, nI_clamp (by omega), rk_step, if_neg h1, if_pos g1]
theorem rk_s2 {X : MI} {t : Nat} {s : Int32} (ht : t ≤ 100) (h1 : s < 30000) (h3 : ¬ s < 20000) (h2 : (2 : Int32) ≤ nI t) : rk_step X t s = some (t - 1, m_up X 26 (nI t + (-1) - 1).toNatClampNeg (f_Reckoner_pair s (X 26 (nI t + (-1) - 1).toNatClampNeg) (X 26 (nI t + (-1)).toNatClampNeg))) := by
  obtain ⟨g1, e, e2⟩ := rk_2 ht h2
  rw [e2, e, nI_clamp (by omega), nI_clamp (by omega), rk_step, if_pos h1, if_neg h3, if_pos g1]
theorem rk_s3 {X : MI} {t : Nat} {s : Int32} (ht : t ≤ 100) (h1 : s < 30000) (h3 : s < 20000) (h2 : nI t < (100 : Int32)) : rk_step X t s = some (t + 1, m_up X 26 (nI t).toNatClampNeg (if 10000 ≤ s then f_Reckoner_partOf X (s - 10000) else s)) := by
  rw [nI_clamp (by omega), rk_step, if_pos h1, if_pos h3, if_pos (rk_lt ht h2)]
theorem rk_n1 {X : MI} {t : Nat} {s : Int32} (ht : t ≤ 100) (h1 : ¬ s < 30000) (h2 : ¬ (1 : Int32) ≤ nI t) : rk_step X t s = none := by
  rw [rk_step, if_neg h1, if_neg]
  intro q
  exact h2 ((nI_leI (a := 1) (by decide) (by omega)).mpr q)
theorem rk_n2 {X : MI} {t : Nat} {s : Int32} (ht : t ≤ 100) (h1 : s < 30000) (h3 : ¬ s < 20000) (h2 : ¬ (2 : Int32) ≤ nI t) : rk_step X t s = none := by
  rw [rk_step, if_pos h1, if_neg h3, if_neg]
  intro q
  exact h2 ((nI_leI (a := 2) (by decide) (by omega)).mpr q)
theorem rk_n3 {X : MI} {t : Nat} {s : Int32} (ht : t ≤ 100) (h1 : s < 30000) (h3 : s < 20000) (h2 : ¬ nI t < (100 : Int32)) : rk_step X t s = none := by
  rw [rk_step, if_pos h1, if_pos h3, if_neg]
  intro q
  exact h2 ((nI_ltI (b := 100) (by omega) (by decide)).mpr q)
theorem rk_on {I X : MI} {q a n t : Nat} {r : Nat × MI} (hh : rk_run I q a n = .inr (t, X)) (h : rk_step X t (X q (a + n)) = some r) : rk_run I q a (n + 1) = .inr r := by
  rw [rk_run, hh]
  simp only
  rw [h]
theorem rk_off {I X : MI} {q a n t M : Nat} (hh : rk_run I q a n = .inr (t, X)) (h : rk_step X t (X q (a + n)) = none) (hn : n < M) : rk_run I q a M = .inl X := by
  refine rk_run_no (n := n + 1) ?_ (by omega)
  rw [rk_run, hh]
  simp only
  rw [h]
theorem rk_i {a b : Int32} {n : Nat} (hn : n < rk_M a b) : (nI (a.toNatClampNeg + n)).toNatClampNeg = a.toNatClampNeg + n ∧ a.toNatClampNeg + n < 1600 ∧ a.toNatClampNeg + n < b.toNatClampNeg := by
  unfold rk_M at hn
  exact ⟨nI_clamp (by omega), by omega, by omega⟩
theorem rk_on2 {I X : MI} {q n t : Nat} {a b : Int32} {r : Nat × MI} (hn : n < rk_M a b) (hh : rk_run I q a.toNatClampNeg n = .inr (t, X)) (h : rk_step X t (X q (nI (a.toNatClampNeg + n)).toNatClampNeg) = some r) : rk_run I q a.toNatClampNeg (n + 1) = .inr r := by
  rw [(rk_i hn).1] at h
  exact rk_on hh h
theorem rk_off2 {I X : MI} {q n t : Nat} {a b : Int32} (hn : n < rk_M a b) (hh : rk_run I q a.toNatClampNeg n = .inr (t, X)) (h : rk_step X t (X q (nI (a.toNatClampNeg + n)).toNatClampNeg) = none) : rk_run I q a.toNatClampNeg (rk_M a b) = .inl X := by
  rw [(rk_i hn).1] at h
  exact rk_off hh h hn
theorem rk_N {a b : Int32} (h1 : ¬ b ≤ nI (a.toNatClampNeg + rk_M a b)) (h2 : ¬ (Int32.ofNat 1600) ≤ nI (a.toNatClampNeg + rk_M a b)) : False := by
  have ha := cl_lt a
  have hb := cl_lt b
  by_cases hs : a.toNatClampNeg ≤ min b.toNatClampNeg 1600
  · have e : a.toNatClampNeg + rk_M a b = min b.toNatClampNeg 1600 := by unfold rk_M; omega
    rw [e] at h1 h2
    have g1 : ¬ b.toNatClampNeg ≤ min b.toNatClampNeg 1600 := fun q => h1 ((ge_cl (by omega)).mpr q)
    have g2 : ¬ 1600 ≤ min b.toNatClampNeg 1600 := fun q => h2 ((nI_leI (a := 1600) (by decide) (by omega)).mpr q)
    omega
  · have e : a.toNatClampNeg + rk_M a b = a.toNatClampNeg := by unfold rk_M; omega
    rw [e] at h1 h2
    have g1 : ¬ b.toNatClampNeg ≤ a.toNatClampNeg := fun q => h1 ((ge_cl (by omega)).mpr q)
    have g2 : ¬ 1600 ≤ a.toNatClampNeg := fun q => h2 ((nI_leI (a := 1600) (by decide) (by omega)).mpr q)
    omega
set_option maxRecDepth 100000 in
set_option maxHeartbeats 4000000 in
theorem c_Reckoner_run {G : MG} {L : List (Nat × Nat)} {I : Nat → Nat → Int32} {J : Nat → Nat → Int64} {R : Nat → Nat → Option MRef} (q : Nat) (a : Int32) (b : Int32) (hR : RF R) : m_met G 3 0 0 y_Reckoner_run M_Reckoner_run [mR (6, 0, 25), mR (20, 1600, q), mI a, mI b] (L, I, J, R) (m_is (some (mI (v_run I q a b))) (L, w_run I q a b, J, R)) := by
  refine m_met_in n_Reckoner_run (plainFor_of_name (by decide)) (by decide) (Nat.le_of_ble_eq_true rfl) (ls := [some (mR (6, 0, 25)), some (mR (20, 1600, q)), some (mI a), some (mI b), none, none, none]) rfl ?_
  refine b_blk (pc' := 5) (ls' := [some (mR (6, 0, 25)), some (mR (20, 1600, q)), some (mI a), some (mI b), some (mI 0), none, none]) (st' := [mI a, mI 0]) (S' := (L, I, J, R)) (P := True) [(.iconst 0, (0, 0, 0, 0, 0)), (.istore 4, (0, 0, 0, 0, 0)), (.iconst 0, (0, 0, 0, 0, 0)), (.iload_n 2, (0, 0, 0, 0, 0))] [] (by decide +kernel) rfl trivial ?_
  refine b_cS (as := [mI 0, mI a]) (st := []) (by decide +kernel) k_6_24 n_Math_max_II s_Math_max_II (c_Math_max_II (0 : Int32) a ) (Nat.le_of_ble_eq_true rfl) (by decide) rfl rfl (fun _ h => h) ?_
  show m_B _ _ _ _ _ _ 8 [some (mR (6, 0, 25)), some (mR (20, 1600, q)), some (mI a), some (mI b), some (mI 0), none, none] [mI (f_Math_max_II (0 : Int32) a)] (L, I, J, R)
  refine b_blk (pc' := 10) (ls' := [some (mR (6, 0, 25)), some (mR (20, 1600, q)), some (mI a), some (mI b), some (mI 0), some (mI (f_Math_max_II (0 : Int32) a)), none]) (st' := []) (S' := (L, I, J, R)) (P := True) [(.istore 5, (0, 0, 0, 0, 0))] [] (by decide +kernel) rfl trivial ?_
  suffices hx : ∀ (t : Nat) (X : MI), rk_run I q a.toNatClampNeg (rk_M a b) = .inr (t, X) ∧ t ≤ 100 → m_B G (m_rm 3 0 0) M_Reckoner_run (m_is (some (mI (v_run I q a b))) (L, w_run I q a b, J, R)) 0 0 172 [some (mR (6, 0, 25)), some (mR (20, 1600, q)), some (mI a), some (mI b), some (mI (nI t)), some (mI (nI (a.toNatClampNeg + (rk_M a b)))), none] [] (L, X, J, R) by
    refine m_B_cg ?_ rfl ?_ (loop_up (rk_M a b) (fun n => ∀ (t : Nat) (X : MI), rk_run I q a.toNatClampNeg n = .inr (t, X) ∧ t ≤ 100 → m_B G (m_rm 3 0 0) M_Reckoner_run (m_is (some (mI (v_run I q a b))) (L, w_run I q a b, J, R)) 0 0 10 [some (mR (6, 0, 25)), some (mR (20, 1600, q)), some (mI a), some (mI b), some (mI (nI t)), some (mI (nI (a.toNatClampNeg + n))), none] [] (L, X, J, R)) ?_ ?_ 0 (Nat.zero_le _) 0 I ?_)
    · first | with_reducible rfl | (simp only [m_clr, (rk_2 hh.2 (by assumption)).2.1, nI_1, Nat.add_assoc]; done) | (simp only [m_clr, nI_1, Nat.add_assoc]; done) | (simp only [m_clr, max0]; rfl)
    · first | with_reducible rfl | (simp only [m_clr, (rk_2 hh.2 (by assumption)).2.1, nI_1, Nat.add_assoc]; done) | (simp only [m_clr, nI_1, Nat.add_assoc]; done) | (simp only [m_clr, max0]; rfl)
    · intro t X hh
      refine b_blk (pc' := 13) (ls' := [some (mR (6, 0, 25)), some (mR (20, 1600, q)), some (mI a), some (mI b), some (mI (nI t)), some (mI (nI (a.toNatClampNeg + (rk_M a b)))), none]) (st' := [mI b, mI (nI (a.toNatClampNeg + (rk_M a b)))]) (S' := (L, X, J, R)) (P := True) [(.iload 5, (0, 0, 0, 0, 0)), (.iload_n 3, (0, 0, 0, 0, 0))] [] (by decide +kernel) rfl trivial ?_
      refine b_icmp_ge (off := 159) (tgt := 172) (by decide +kernel) (by decide) (fun h1 => ?_) (fun h1 => ?_)
      · exact hx t X hh
      · refine b_blk (pc' := 20) (ls' := [some (mR (6, 0, 25)), some (mR (20, 1600, q)), some (mI a), some (mI b), some (mI (nI t)), some (mI (nI (a.toNatClampNeg + (rk_M a b)))), none]) (st' := [mI (Int32.ofNat 1600), mI (nI (a.toNatClampNeg + (rk_M a b)))]) (S' := (L, X, J, R)) (P := True) [(.iload 5, (0, 0, 0, 0, 0)), (.aload_n 1, (0, 0, 0, 0, 0)), (.arraylength, (0, 0, 0, 0, 0))] [] (by decide +kernel) rfl trivial ?_
        refine b_icmp_ge (off := 152) (tgt := 172) (by decide +kernel) (by decide) (fun h2 => ?_) (fun h2 => ?_)
        · exact hx t X hh
        · exact (rk_N h1 h2).elim
    · intro n hn ih t X hh
      refine b_blk (pc' := 13) (ls' := [some (mR (6, 0, 25)), some (mR (20, 1600, q)), some (mI a), some (mI b), some (mI (nI t)), some (mI (nI (a.toNatClampNeg + n))), none]) (st' := [mI b, mI (nI (a.toNatClampNeg + n))]) (S' := (L, X, J, R)) (P := True) [(.iload 5, (0, 0, 0, 0, 0)), (.iload_n 3, (0, 0, 0, 0, 0))] [] (by decide +kernel) rfl trivial ?_
      refine b_icmp_ge (off := 159) (tgt := 172) (by decide +kernel) (by decide) (fun h3 => ?_) (fun h3 => ?_)
      · exact absurd ((ge_cl (by have := (rk_i hn).2.1; omega)).mp h3) (by have := (rk_i hn).2.2; omega)
      · refine b_blk (pc' := 20) (ls' := [some (mR (6, 0, 25)), some (mR (20, 1600, q)), some (mI a), some (mI b), some (mI (nI t)), some (mI (nI (a.toNatClampNeg + n))), none]) (st' := [mI (Int32.ofNat 1600), mI (nI (a.toNatClampNeg + n))]) (S' := (L, X, J, R)) (P := True) [(.iload 5, (0, 0, 0, 0, 0)), (.aload_n 1, (0, 0, 0, 0, 0)), (.arraylength, (0, 0, 0, 0, 0))] [] (by decide +kernel) rfl trivial ?_
        refine b_icmp_ge (off := 152) (tgt := 172) (by decide +kernel) (by decide) (fun h4 => ?_) (fun h4 => ?_)
        · exact absurd ((nI_leI (a := 1600) (by decide) (by have := (rk_i hn).2.1; omega)).mp h4) (by have := (rk_i hn).2.1; omega)
        · refine b_blk (pc' := 34) (ls' := [some (mR (6, 0, 25)), some (mR (20, 1600, q)), some (mI a), some (mI b), some (mI (nI t)), some (mI (nI (a.toNatClampNeg + n))), some (mI (X q (nI (a.toNatClampNeg + n)).toNatClampNeg))]) (st' := [mI 30000, mI (X q (nI (a.toNatClampNeg + n)).toNatClampNeg)]) (S' := (L, X, J, R)) (P := (True ∧ vp_in (nI (a.toNatClampNeg + n)) 1600)) [(.aload_n 1, (0, 0, 0, 0, 0)), (.iload 5, (0, 0, 0, 0, 0)), (.iaload, (0, 0, 0, 0, 0)), (.istore 6, (0, 0, 0, 0, 0)), (.iload 6, (0, 0, 0, 0, 0)), (.sipush 30000, (0, 0, 0, 30000, 0))] [] (by decide +kernel) rfl ⟨trivial, (vp_in_nI (N := 1600) (rk_i hn).2.1 (by decide))⟩ ?_
          refine b_icmp_lt (off := 38) (tgt := 72) (by decide +kernel) (by decide) (fun h5 => ?_) (fun h5 => ?_)
          · refine b_blk (pc' := 77) (ls' := [some (mR (6, 0, 25)), some (mR (20, 1600, q)), some (mI a), some (mI b), some (mI (nI t)), some (mI (nI (a.toNatClampNeg + n))), some (mI (X q (nI (a.toNatClampNeg + n)).toNatClampNeg))]) (st' := [mI 20000, mI (X q (nI (a.toNatClampNeg + n)).toNatClampNeg)]) (S' := (L, X, J, R)) (P := True) [(.iload 6, (0, 0, 0, 0, 0)), (.sipush 20000, (0, 0, 0, 20000, 0))] [] (by decide +kernel) rfl trivial ?_
            refine b_icmp_lt (off := 47) (tgt := 124) (by decide +kernel) (by decide) (fun h6 => ?_) (fun h6 => ?_)
            · refine b_blk (pc' := 128) (ls' := [some (mR (6, 0, 25)), some (mR (20, 1600, q)), some (mI a), some (mI b), some (mI (nI t)), some (mI (nI (a.toNatClampNeg + n))), some (mI (X q (nI (a.toNatClampNeg + n)).toNatClampNeg))]) (st' := [mI 100, mI (nI t)]) (S' := (L, X, J, R)) (P := True) [(.iload 4, (0, 0, 0, 0, 0)), (.bipush 100, (0, 0, 0, 100, 0))] [] (by decide +kernel) rfl trivial ?_
              refine b_icmp_lt (off := 5) (tgt := 133) (by decide +kernel) (by decide) (fun h7 => ?_) (fun h7 => ?_)
              · refine b_blk (pc' := 144) (ls' := [some (mR (6, 0, 25)), some (mR (20, 1600, q)), some (mI a), some (mI b), some (mI (nI t)), some (mI (nI (a.toNatClampNeg + n))), some (mI (X q (nI (a.toNatClampNeg + n)).toNatClampNeg))]) (st' := [mI 10000, mI (X q (nI (a.toNatClampNeg + n)).toNatClampNeg), mI (nI t), mR (20, 100, 26)]) (S' := (L, X, J, R)) (P := (True ∧ R 25 0 = some (20, 100, 26))) [(.aload_n 0, (0, 0, 0, 0, 0)), (.getfield 11, (6, 0, 3, 0, 0)), (.iload 4, (0, 0, 0, 0, 0)), (.iload 6, (0, 0, 0, 0, 0)), (.sipush 10000, (0, 0, 0, 10000, 0))] [some (20, 100, 26)] (by decide +kernel) rfl ⟨trivial, (r_25_0 hR)⟩ ?_
                refine b_icmp_ge (off := 8) (tgt := 152) (by decide +kernel) (by decide) (fun h8 => ?_) (fun h8 => ?_)
                · refine b_blk (pc' := 159) (ls' := [some (mR (6, 0, 25)), some (mR (20, 1600, q)), some (mI a), some (mI b), some (mI (nI t)), some (mI (nI (a.toNatClampNeg + n))), some (mI (X q (nI (a.toNatClampNeg + n)).toNatClampNeg))]) (st' := [mI ((X q (nI (a.toNatClampNeg + n)).toNatClampNeg) - (10000 : Int32)), mR (6, 0, 25), mI (nI t), mR (20, 100, 26)]) (S' := (L, X, J, R)) (P := True) [(.aload_n 0, (0, 0, 0, 0, 0)), (.iload 6, (0, 0, 0, 0, 0)), (.sipush 10000, (0, 0, 0, 10000, 0)), (.isub, (0, 0, 0, 0, 0))] [] (by decide +kernel) rfl trivial ?_
                  refine b_cV (as := [mI ((X q (nI (a.toNatClampNeg + n)).toNatClampNeg) - (10000 : Int32))]) (st := [mI (nI t), mR (20, 100, 26)]) (by decide +kernel) k_6_37 n_Reckoner_partOf rfl (by decide) v_Reckoner_partOf (c_Reckoner_partOf ((X q (nI (a.toNatClampNeg + n)).toNatClampNeg) - (10000 : Int32)) hR) (Nat.le_of_ble_eq_true rfl) (by decide) rfl rfl (fun _ h => h) ?_
                  show m_B _ _ _ _ _ _ 162 [some (mR (6, 0, 25)), some (mR (20, 1600, q)), some (mI a), some (mI b), some (mI (nI t)), some (mI (nI (a.toNatClampNeg + n))), some (mI (X q (nI (a.toNatClampNeg + n)).toNatClampNeg))] [mI (f_Reckoner_partOf X ((X q (nI (a.toNatClampNeg + n)).toNatClampNeg) - (10000 : Int32))), mI (nI t), mR (20, 100, 26)] (L, X, J, R)
                  refine b_blk (pc' := 10) (ls' := [some (mR (6, 0, 25)), some (mR (20, 1600, q)), some (mI a), some (mI b), some (mI ((nI t) + 1)), some (mI ((nI (a.toNatClampNeg + n)) + 1)), some (mI (X q (nI (a.toNatClampNeg + n)).toNatClampNeg))]) (st' := []) (S' := (L, m_up X 26 ((nI t).toNatClampNeg) (f_Reckoner_partOf X ((X q (nI (a.toNatClampNeg + n)).toNatClampNeg) - (10000 : Int32))), J, R)) (P := (True ∧ vp_in (nI t) 100)) [(.iastore, (0, 0, 0, 0, 0)), (.iinc 4 1, (0, 0, 0, 1, 0)), (.iinc 5 1, (0, 0, 0, 1, 0)), (.goto (-159), (0, 10, 0, 0, 0))] [] (by decide +kernel) rfl ⟨trivial, (vp_in_nI (N := 100) (rk_lt hh.2 (by assumption)) (by decide))⟩ ?_
                  refine b_frg 6 ?_
                  refine m_B_cg ?_ rfl ?_ (ih (t + 1) (m_up X 26 ((nI t).toNatClampNeg) (f_Reckoner_partOf X ((X q (nI (a.toNatClampNeg + n)).toNatClampNeg) - (10000 : Int32)))) ?_)
                  · first | with_reducible rfl | (simp only [m_clr, (rk_2 hh.2 (by assumption)).2.1, nI_1, Nat.add_assoc]; done) | (simp only [m_clr, nI_1, Nat.add_assoc]; done) | (simp only [m_clr, max0]; rfl)
                  · first | with_reducible rfl | (simp only [m_clr, (rk_2 hh.2 (by assumption)).2.1, nI_1, Nat.add_assoc]; done) | (simp only [m_clr, nI_1, Nat.add_assoc]; done) | (simp only [m_clr, max0]; rfl)
                  · first | exact ⟨rk_on2 hn hh.1 (rk_s1 hh.2 (by assumption) (by assumption)), hh.2⟩ | exact ⟨rk_on2 hn hh.1 (rk_s2 hh.2 (by assumption) (by assumption) (by assumption)), by have := hh.2; omega⟩ | exact ⟨rk_on2 hn hh.1 (by rw [rk_s3 hh.2 (by assumption) (by assumption) (by assumption), if_pos (by assumption)]), by have := rk_lt hh.2 (by assumption); omega⟩ | exact ⟨rk_on2 hn hh.1 (by rw [rk_s3 hh.2 (by assumption) (by assumption) (by assumption), if_neg (by assumption)]), by have := rk_lt hh.2 (by assumption); omega⟩
                · refine b_blk (pc' := 162) (ls' := [some (mR (6, 0, 25)), some (mR (20, 1600, q)), some (mI a), some (mI b), some (mI (nI t)), some (mI (nI (a.toNatClampNeg + n))), some (mI (X q (nI (a.toNatClampNeg + n)).toNatClampNeg))]) (st' := [mI (X q (nI (a.toNatClampNeg + n)).toNatClampNeg), mI (nI t), mR (20, 100, 26)]) (S' := (L, X, J, R)) (P := True) [(.iload 6, (0, 0, 0, 0, 0)), (.goto 13, (0, 162, 0, 0, 0))] [] (by decide +kernel) rfl trivial ?_
                  refine b_blk (pc' := 10) (ls' := [some (mR (6, 0, 25)), some (mR (20, 1600, q)), some (mI a), some (mI b), some (mI ((nI t) + 1)), some (mI ((nI (a.toNatClampNeg + n)) + 1)), some (mI (X q (nI (a.toNatClampNeg + n)).toNatClampNeg))]) (st' := []) (S' := (L, m_up X 26 ((nI t).toNatClampNeg) (X q (nI (a.toNatClampNeg + n)).toNatClampNeg), J, R)) (P := (True ∧ vp_in (nI t) 100)) [(.iastore, (0, 0, 0, 0, 0)), (.iinc 4 1, (0, 0, 0, 1, 0)), (.iinc 5 1, (0, 0, 0, 1, 0)), (.goto (-159), (0, 10, 0, 0, 0))] [] (by decide +kernel) rfl ⟨trivial, (vp_in_nI (N := 100) (rk_lt hh.2 (by assumption)) (by decide))⟩ ?_
                  refine b_frg 6 ?_
                  refine m_B_cg ?_ rfl ?_ (ih (t + 1) (m_up X 26 ((nI t).toNatClampNeg) (X q (nI (a.toNatClampNeg + n)).toNatClampNeg)) ?_)
                  · first | with_reducible rfl | (simp only [m_clr, (rk_2 hh.2 (by assumption)).2.1, nI_1, Nat.add_assoc]; done) | (simp only [m_clr, nI_1, Nat.add_assoc]; done) | (simp only [m_clr, max0]; rfl)
                  · first | with_reducible rfl | (simp only [m_clr, (rk_2 hh.2 (by assumption)).2.1, nI_1, Nat.add_assoc]; done) | (simp only [m_clr, nI_1, Nat.add_assoc]; done) | (simp only [m_clr, max0]; rfl)
                  · first | exact ⟨rk_on2 hn hh.1 (rk_s1 hh.2 (by assumption) (by assumption)), hh.2⟩ | exact ⟨rk_on2 hn hh.1 (rk_s2 hh.2 (by assumption) (by assumption) (by assumption)), by have := hh.2; omega⟩ | exact ⟨rk_on2 hn hh.1 (by rw [rk_s3 hh.2 (by assumption) (by assumption) (by assumption), if_pos (by assumption)]), by have := rk_lt hh.2 (by assumption); omega⟩ | exact ⟨rk_on2 hn hh.1 (by rw [rk_s3 hh.2 (by assumption) (by assumption) (by assumption), if_neg (by assumption)]), by have := rk_lt hh.2 (by assumption); omega⟩
              · refine b_blk (pc' := 132) (ls' := [some (mR (6, 0, 25)), some (mR (20, 1600, q)), some (mI a), some (mI b), some (mI (nI t)), some (mI (nI (a.toNatClampNeg + n))), some (mI (X q (nI (a.toNatClampNeg + n)).toNatClampNeg))]) (st' := [mI 0]) (S' := (L, X, J, R)) (P := True) [(.iconst 0, (0, 0, 0, 0, 0))] [] (by decide +kernel) rfl trivial ?_
                refine b_iret (by decide +kernel) rfl ⟨?_, ?_⟩
                · first | (rw [v_run, rk_off2 hn hh.1 (rk_n1 hh.2 (by assumption) (by assumption))]; done) | (rw [v_run, rk_off2 hn hh.1 (rk_n2 hh.2 (by assumption) (by assumption) (by assumption))]; done) | (rw [v_run, rk_off2 hn hh.1 (rk_n3 hh.2 (by assumption) (by assumption) (by assumption))]; done) | (rw [v_run, hh.1]; simp only; rw [if_pos (by assumption)]; done) | (rw [v_run, hh.1]; simp only; rw [if_neg (by assumption)]; done)
                · first | (rw [w_run, rk_off2 hn hh.1 (rk_n1 hh.2 (by assumption) (by assumption))]; done) | (rw [w_run, rk_off2 hn hh.1 (rk_n2 hh.2 (by assumption) (by assumption) (by assumption))]; done) | (rw [w_run, rk_off2 hn hh.1 (rk_n3 hh.2 (by assumption) (by assumption) (by assumption))]; done) | (rw [w_run, hh.1]; done)
            · refine b_blk (pc' := 83) (ls' := [some (mR (6, 0, 25)), some (mR (20, 1600, q)), some (mI a), some (mI b), some (mI (nI t)), some (mI (nI (a.toNatClampNeg + n))), some (mI (X q (nI (a.toNatClampNeg + n)).toNatClampNeg))]) (st' := [mI 2, mI (nI t)]) (S' := (L, X, J, R)) (P := True) [(.iload 4, (0, 0, 0, 0, 0)), (.iconst 2, (0, 0, 0, 2, 0))] [] (by decide +kernel) rfl trivial ?_
              refine b_icmp_ge (off := 5) (tgt := 88) (by decide +kernel) (by decide) (fun h9 => ?_) (fun h9 => ?_)
              · refine b_blk (pc' := 117) (ls' := [some (mR (6, 0, 25)), some (mR (20, 1600, q)), some (mI a), some (mI b), some (mI ((nI t) + (-1))), some (mI (nI (a.toNatClampNeg + n))), some (mI (X q (nI (a.toNatClampNeg + n)).toNatClampNeg))]) (st' := [mI (X 26 ((nI t) + (-1)).toNatClampNeg), mI (X 26 (((nI t) + (-1)) - (1 : Int32)).toNatClampNeg), mI (X q (nI (a.toNatClampNeg + n)).toNatClampNeg), mI (((nI t) + (-1)) - (1 : Int32)), mR (20, 100, 26)]) (S' := (L, X, J, R)) (P := (((((True ∧ R 25 0 = some (20, 100, 26)) ∧ R 25 0 = some (20, 100, 26)) ∧ vp_in (((nI t) + (-1)) - (1 : Int32)) 100) ∧ R 25 0 = some (20, 100, 26)) ∧ vp_in ((nI t) + (-1)) 100)) [(.iinc 4 (-1), (0, 0, 0, (-1), 0)), (.aload_n 0, (0, 0, 0, 0, 0)), (.getfield 11, (6, 0, 3, 0, 0)), (.iload 4, (0, 0, 0, 0, 0)), (.iconst 1, (0, 0, 0, 1, 0)), (.isub, (0, 0, 0, 0, 0)), (.iload 6, (0, 0, 0, 0, 0)), (.aload_n 0, (0, 0, 0, 0, 0)), (.getfield 11, (6, 0, 3, 0, 0)), (.iload 4, (0, 0, 0, 0, 0)), (.iconst 1, (0, 0, 0, 1, 0)), (.isub, (0, 0, 0, 0, 0)), (.iaload, (0, 0, 0, 0, 0)), (.aload_n 0, (0, 0, 0, 0, 0)), (.getfield 11, (6, 0, 3, 0, 0)), (.iload 4, (0, 0, 0, 0, 0)), (.iaload, (0, 0, 0, 0, 0))] [some (20, 100, 26), some (20, 100, 26), some (20, 100, 26)] (by decide +kernel) rfl ⟨⟨⟨⟨⟨trivial, (r_25_0 hR)⟩, (r_25_0 hR)⟩, (rk_in2 hh.2 (by assumption))⟩, (r_25_0 hR)⟩, (rk_in3 hh.2 (by assumption))⟩ ?_
                refine b_cS (as := [mI (X q (nI (a.toNatClampNeg + n)).toNatClampNeg), mI (X 26 (((nI t) + (-1)) - (1 : Int32)).toNatClampNeg), mI (X 26 ((nI t) + (-1)).toNatClampNeg)]) (st := [mI (((nI t) + (-1)) - (1 : Int32)), mR (20, 100, 26)]) (by decide +kernel) k_6_33 n_Reckoner_pair s_Reckoner_pair (c_Reckoner_pair (X q (nI (a.toNatClampNeg + n)).toNatClampNeg) (X 26 (((nI t) + (-1)) - (1 : Int32)).toNatClampNeg) (X 26 ((nI t) + (-1)).toNatClampNeg) ) (Nat.le_of_ble_eq_true rfl) (by decide) rfl rfl (fun _ h => h) ?_
                show m_B _ _ _ _ _ _ 120 [some (mR (6, 0, 25)), some (mR (20, 1600, q)), some (mI a), some (mI b), some (mI ((nI t) + (-1))), some (mI (nI (a.toNatClampNeg + n))), some (mI (X q (nI (a.toNatClampNeg + n)).toNatClampNeg))] [mI (f_Reckoner_pair (X q (nI (a.toNatClampNeg + n)).toNatClampNeg) (X 26 (((nI t) + (-1)) - (1 : Int32)).toNatClampNeg) (X 26 ((nI t) + (-1)).toNatClampNeg)), mI (((nI t) + (-1)) - (1 : Int32)), mR (20, 100, 26)] (L, X, J, R)
                refine b_blk (pc' := 166) (ls' := [some (mR (6, 0, 25)), some (mR (20, 1600, q)), some (mI a), some (mI b), some (mI ((nI t) + (-1))), some (mI (nI (a.toNatClampNeg + n))), some (mI (X q (nI (a.toNatClampNeg + n)).toNatClampNeg))]) (st' := []) (S' := (L, m_up X 26 ((((nI t) + (-1)) - (1 : Int32)).toNatClampNeg) (f_Reckoner_pair (X q (nI (a.toNatClampNeg + n)).toNatClampNeg) (X 26 (((nI t) + (-1)) - (1 : Int32)).toNatClampNeg) (X 26 ((nI t) + (-1)).toNatClampNeg)), J, R)) (P := (True ∧ vp_in (((nI t) + (-1)) - (1 : Int32)) 100)) [(.iastore, (0, 0, 0, 0, 0)), (.goto 45, (0, 166, 0, 0, 0))] [] (by decide +kernel) rfl ⟨trivial, (rk_in2 hh.2 (by assumption))⟩ ?_
                refine b_blk (pc' := 10) (ls' := [some (mR (6, 0, 25)), some (mR (20, 1600, q)), some (mI a), some (mI b), some (mI ((nI t) + (-1))), some (mI ((nI (a.toNatClampNeg + n)) + 1)), some (mI (X q (nI (a.toNatClampNeg + n)).toNatClampNeg))]) (st' := []) (S' := (L, m_up X 26 ((((nI t) + (-1)) - (1 : Int32)).toNatClampNeg) (f_Reckoner_pair (X q (nI (a.toNatClampNeg + n)).toNatClampNeg) (X 26 (((nI t) + (-1)) - (1 : Int32)).toNatClampNeg) (X 26 ((nI t) + (-1)).toNatClampNeg)), J, R)) (P := True) [(.iinc 5 1, (0, 0, 0, 1, 0)), (.goto (-159), (0, 10, 0, 0, 0))] [] (by decide +kernel) rfl trivial ?_
                refine b_frg 6 ?_
                refine m_B_cg ?_ rfl ?_ (ih (t - 1) (m_up X 26 ((((nI t) + (-1)) - (1 : Int32)).toNatClampNeg) (f_Reckoner_pair (X q (nI (a.toNatClampNeg + n)).toNatClampNeg) (X 26 (((nI t) + (-1)) - (1 : Int32)).toNatClampNeg) (X 26 ((nI t) + (-1)).toNatClampNeg))) ?_)
                · first | with_reducible rfl | (simp only [m_clr, (rk_2 hh.2 (by assumption)).2.1, nI_1, Nat.add_assoc]; done) | (simp only [m_clr, nI_1, Nat.add_assoc]; done) | (simp only [m_clr, max0]; rfl)
                · first | with_reducible rfl | (simp only [m_clr, (rk_2 hh.2 (by assumption)).2.1, nI_1, Nat.add_assoc]; done) | (simp only [m_clr, nI_1, Nat.add_assoc]; done) | (simp only [m_clr, max0]; rfl)
                · first | exact ⟨rk_on2 hn hh.1 (rk_s1 hh.2 (by assumption) (by assumption)), hh.2⟩ | exact ⟨rk_on2 hn hh.1 (rk_s2 hh.2 (by assumption) (by assumption) (by assumption)), by have := hh.2; omega⟩ | exact ⟨rk_on2 hn hh.1 (by rw [rk_s3 hh.2 (by assumption) (by assumption) (by assumption), if_pos (by assumption)]), by have := rk_lt hh.2 (by assumption); omega⟩ | exact ⟨rk_on2 hn hh.1 (by rw [rk_s3 hh.2 (by assumption) (by assumption) (by assumption), if_neg (by assumption)]), by have := rk_lt hh.2 (by assumption); omega⟩
              · refine b_blk (pc' := 87) (ls' := [some (mR (6, 0, 25)), some (mR (20, 1600, q)), some (mI a), some (mI b), some (mI (nI t)), some (mI (nI (a.toNatClampNeg + n))), some (mI (X q (nI (a.toNatClampNeg + n)).toNatClampNeg))]) (st' := [mI 0]) (S' := (L, X, J, R)) (P := True) [(.iconst 0, (0, 0, 0, 0, 0))] [] (by decide +kernel) rfl trivial ?_
                refine b_iret (by decide +kernel) rfl ⟨?_, ?_⟩
                · first | (rw [v_run, rk_off2 hn hh.1 (rk_n1 hh.2 (by assumption) (by assumption))]; done) | (rw [v_run, rk_off2 hn hh.1 (rk_n2 hh.2 (by assumption) (by assumption) (by assumption))]; done) | (rw [v_run, rk_off2 hn hh.1 (rk_n3 hh.2 (by assumption) (by assumption) (by assumption))]; done) | (rw [v_run, hh.1]; simp only; rw [if_pos (by assumption)]; done) | (rw [v_run, hh.1]; simp only; rw [if_neg (by assumption)]; done)
                · first | (rw [w_run, rk_off2 hn hh.1 (rk_n1 hh.2 (by assumption) (by assumption))]; done) | (rw [w_run, rk_off2 hn hh.1 (rk_n2 hh.2 (by assumption) (by assumption) (by assumption))]; done) | (rw [w_run, rk_off2 hn hh.1 (rk_n3 hh.2 (by assumption) (by assumption) (by assumption))]; done) | (rw [w_run, hh.1]; done)
          · refine b_blk (pc' := 40) (ls' := [some (mR (6, 0, 25)), some (mR (20, 1600, q)), some (mI a), some (mI b), some (mI (nI t)), some (mI (nI (a.toNatClampNeg + n))), some (mI (X q (nI (a.toNatClampNeg + n)).toNatClampNeg))]) (st' := [mI 1, mI (nI t)]) (S' := (L, X, J, R)) (P := True) [(.iload 4, (0, 0, 0, 0, 0)), (.iconst 1, (0, 0, 0, 1, 0))] [] (by decide +kernel) rfl trivial ?_
            refine b_icmp_ge (off := 5) (tgt := 45) (by decide +kernel) (by decide) (fun h10 => ?_) (fun h10 => ?_)
            · refine b_blk (pc' := 65) (ls' := [some (mR (6, 0, 25)), some (mR (20, 1600, q)), some (mI a), some (mI b), some (mI (nI t)), some (mI (nI (a.toNatClampNeg + n))), some (mI (X q (nI (a.toNatClampNeg + n)).toNatClampNeg))]) (st' := [mI (X 26 ((nI t) - (1 : Int32)).toNatClampNeg), mI (X q (nI (a.toNatClampNeg + n)).toNatClampNeg), mR (6, 0, 25), mI ((nI t) - (1 : Int32)), mR (20, 100, 26)]) (S' := (L, X, J, R)) (P := (((True ∧ R 25 0 = some (20, 100, 26)) ∧ R 25 0 = some (20, 100, 26)) ∧ vp_in ((nI t) - (1 : Int32)) 100)) [(.aload_n 0, (0, 0, 0, 0, 0)), (.getfield 11, (6, 0, 3, 0, 0)), (.iload 4, (0, 0, 0, 0, 0)), (.iconst 1, (0, 0, 0, 1, 0)), (.isub, (0, 0, 0, 0, 0)), (.aload_n 0, (0, 0, 0, 0, 0)), (.iload 6, (0, 0, 0, 0, 0)), (.aload_n 0, (0, 0, 0, 0, 0)), (.getfield 11, (6, 0, 3, 0, 0)), (.iload 4, (0, 0, 0, 0, 0)), (.iconst 1, (0, 0, 0, 1, 0)), (.isub, (0, 0, 0, 0, 0)), (.iaload, (0, 0, 0, 0, 0))] [some (20, 100, 26), some (20, 100, 26)] (by decide +kernel) rfl ⟨⟨⟨trivial, (r_25_0 hR)⟩, (r_25_0 hR)⟩, (rk_in1 hh.2 (by assumption))⟩ ?_
              refine b_cV (as := [mI (X q (nI (a.toNatClampNeg + n)).toNatClampNeg), mI (X 26 ((nI t) - (1 : Int32)).toNatClampNeg)]) (st := [mI ((nI t) - (1 : Int32)), mR (20, 100, 26)]) (by decide +kernel) k_6_30 n_Reckoner_single rfl (by decide) v_Reckoner_single (c_Reckoner_single (X q (nI (a.toNatClampNeg + n)).toNatClampNeg) (X 26 ((nI t) - (1 : Int32)).toNatClampNeg) hR) (Nat.le_of_ble_eq_true rfl) (by decide) rfl rfl (fun _ h => h) ?_
              show m_B _ _ _ _ _ _ 68 [some (mR (6, 0, 25)), some (mR (20, 1600, q)), some (mI a), some (mI b), some (mI (nI t)), some (mI (nI (a.toNatClampNeg + n))), some (mI (X q (nI (a.toNatClampNeg + n)).toNatClampNeg))] [mI (f_Reckoner_single X (X q (nI (a.toNatClampNeg + n)).toNatClampNeg) (X 26 ((nI t) - (1 : Int32)).toNatClampNeg)), mI ((nI t) - (1 : Int32)), mR (20, 100, 26)] (L, X, J, R)
              refine b_blk (pc' := 166) (ls' := [some (mR (6, 0, 25)), some (mR (20, 1600, q)), some (mI a), some (mI b), some (mI (nI t)), some (mI (nI (a.toNatClampNeg + n))), some (mI (X q (nI (a.toNatClampNeg + n)).toNatClampNeg))]) (st' := []) (S' := (L, m_up X 26 (((nI t) - (1 : Int32)).toNatClampNeg) (f_Reckoner_single X (X q (nI (a.toNatClampNeg + n)).toNatClampNeg) (X 26 ((nI t) - (1 : Int32)).toNatClampNeg)), J, R)) (P := (True ∧ vp_in ((nI t) - (1 : Int32)) 100)) [(.iastore, (0, 0, 0, 0, 0)), (.goto 97, (0, 166, 0, 0, 0))] [] (by decide +kernel) rfl ⟨trivial, (rk_in1 hh.2 (by assumption))⟩ ?_
              refine b_blk (pc' := 10) (ls' := [some (mR (6, 0, 25)), some (mR (20, 1600, q)), some (mI a), some (mI b), some (mI (nI t)), some (mI ((nI (a.toNatClampNeg + n)) + 1)), some (mI (X q (nI (a.toNatClampNeg + n)).toNatClampNeg))]) (st' := []) (S' := (L, m_up X 26 (((nI t) - (1 : Int32)).toNatClampNeg) (f_Reckoner_single X (X q (nI (a.toNatClampNeg + n)).toNatClampNeg) (X 26 ((nI t) - (1 : Int32)).toNatClampNeg)), J, R)) (P := True) [(.iinc 5 1, (0, 0, 0, 1, 0)), (.goto (-159), (0, 10, 0, 0, 0))] [] (by decide +kernel) rfl trivial ?_
              refine b_frg 6 ?_
              refine m_B_cg ?_ rfl ?_ (ih t (m_up X 26 (((nI t) - (1 : Int32)).toNatClampNeg) (f_Reckoner_single X (X q (nI (a.toNatClampNeg + n)).toNatClampNeg) (X 26 ((nI t) - (1 : Int32)).toNatClampNeg))) ?_)
              · first | with_reducible rfl | (simp only [m_clr, (rk_2 hh.2 (by assumption)).2.1, nI_1, Nat.add_assoc]; done) | (simp only [m_clr, nI_1, Nat.add_assoc]; done) | (simp only [m_clr, max0]; rfl)
              · first | with_reducible rfl | (simp only [m_clr, (rk_2 hh.2 (by assumption)).2.1, nI_1, Nat.add_assoc]; done) | (simp only [m_clr, nI_1, Nat.add_assoc]; done) | (simp only [m_clr, max0]; rfl)
              · first | exact ⟨rk_on2 hn hh.1 (rk_s1 hh.2 (by assumption) (by assumption)), hh.2⟩ | exact ⟨rk_on2 hn hh.1 (rk_s2 hh.2 (by assumption) (by assumption) (by assumption)), by have := hh.2; omega⟩ | exact ⟨rk_on2 hn hh.1 (by rw [rk_s3 hh.2 (by assumption) (by assumption) (by assumption), if_pos (by assumption)]), by have := rk_lt hh.2 (by assumption); omega⟩ | exact ⟨rk_on2 hn hh.1 (by rw [rk_s3 hh.2 (by assumption) (by assumption) (by assumption), if_neg (by assumption)]), by have := rk_lt hh.2 (by assumption); omega⟩
            · refine b_blk (pc' := 44) (ls' := [some (mR (6, 0, 25)), some (mR (20, 1600, q)), some (mI a), some (mI b), some (mI (nI t)), some (mI (nI (a.toNatClampNeg + n))), some (mI (X q (nI (a.toNatClampNeg + n)).toNatClampNeg))]) (st' := [mI 0]) (S' := (L, X, J, R)) (P := True) [(.iconst 0, (0, 0, 0, 0, 0))] [] (by decide +kernel) rfl trivial ?_
              refine b_iret (by decide +kernel) rfl ⟨?_, ?_⟩
              · first | (rw [v_run, rk_off2 hn hh.1 (rk_n1 hh.2 (by assumption) (by assumption))]; done) | (rw [v_run, rk_off2 hn hh.1 (rk_n2 hh.2 (by assumption) (by assumption) (by assumption))]; done) | (rw [v_run, rk_off2 hn hh.1 (rk_n3 hh.2 (by assumption) (by assumption) (by assumption))]; done) | (rw [v_run, hh.1]; simp only; rw [if_pos (by assumption)]; done) | (rw [v_run, hh.1]; simp only; rw [if_neg (by assumption)]; done)
              · first | (rw [w_run, rk_off2 hn hh.1 (rk_n1 hh.2 (by assumption) (by assumption))]; done) | (rw [w_run, rk_off2 hn hh.1 (rk_n2 hh.2 (by assumption) (by assumption) (by assumption))]; done) | (rw [w_run, rk_off2 hn hh.1 (rk_n3 hh.2 (by assumption) (by assumption) (by assumption))]; done) | (rw [w_run, hh.1]; done)
    · exact ⟨rfl, by decide⟩
  intro t X hh
  refine b_blk (pc' := 174) (ls' := [some (mR (6, 0, 25)), some (mR (20, 1600, q)), some (mI a), some (mI b), some (mI (nI t)), some (mI (nI (a.toNatClampNeg + (rk_M a b)))), none]) (st' := [mI (nI t)]) (S' := (L, X, J, R)) (P := True) [(.iload 4, (0, 0, 0, 0, 0))] [] (by decide +kernel) rfl trivial ?_
  refine b_if_le (off := 12) (tgt := 186) (by decide +kernel) (by decide) (fun h11 => ?_) (fun h11 => ?_)
  · refine b_blk (pc' := 187) (ls' := [some (mR (6, 0, 25)), some (mR (20, 1600, q)), some (mI a), some (mI b), some (mI (nI t)), some (mI (nI (a.toNatClampNeg + (rk_M a b)))), none]) (st' := [mI 0]) (S' := (L, X, J, R)) (P := True) [(.iconst 0, (0, 0, 0, 0, 0))] [] (by decide +kernel) rfl trivial ?_
    refine b_iret (by decide +kernel) rfl ⟨?_, ?_⟩
    · first | (rw [v_run, rk_off2 hn hh.1 (rk_n1 hh.2 (by assumption) (by assumption))]; done) | (rw [v_run, rk_off2 hn hh.1 (rk_n2 hh.2 (by assumption) (by assumption) (by assumption))]; done) | (rw [v_run, rk_off2 hn hh.1 (rk_n3 hh.2 (by assumption) (by assumption) (by assumption))]; done) | (rw [v_run, hh.1]; simp only; rw [if_pos (by assumption)]; done) | (rw [v_run, hh.1]; simp only; rw [if_neg (by assumption)]; done)
    · first | (rw [w_run, rk_off2 hn hh.1 (rk_n1 hh.2 (by assumption) (by assumption))]; done) | (rw [w_run, rk_off2 hn hh.1 (rk_n2 hh.2 (by assumption) (by assumption) (by assumption))]; done) | (rw [w_run, rk_off2 hn hh.1 (rk_n3 hh.2 (by assumption) (by assumption) (by assumption))]; done) | (rw [w_run, hh.1]; done)
  · refine b_blk (pc' := 187) (ls' := [some (mR (6, 0, 25)), some (mR (20, 1600, q)), some (mI a), some (mI b), some (mI (nI t)), some (mI (nI (a.toNatClampNeg + (rk_M a b)))), none]) (st' := [mI (X 26 0)]) (S' := (L, X, J, R)) (P := ((True ∧ R 25 0 = some (20, 100, 26)) ∧ vp_in (0 : Int32) 100)) [(.aload_n 0, (0, 0, 0, 0, 0)), (.getfield 11, (6, 0, 3, 0, 0)), (.iconst 0, (0, 0, 0, 0, 0)), (.iaload, (0, 0, 0, 0, 0)), (.goto 4, (0, 187, 0, 0, 0))] [some (20, 100, 26)] (by decide +kernel) rfl ⟨⟨trivial, (r_25_0 hR)⟩, (vp_in_nI (n := 0) (N := 100) (by decide) (by decide))⟩ ?_
    refine b_iret (by decide +kernel) rfl ⟨?_, ?_⟩
    · first | (rw [v_run, rk_off2 hn hh.1 (rk_n1 hh.2 (by assumption) (by assumption))]; done) | (rw [v_run, rk_off2 hn hh.1 (rk_n2 hh.2 (by assumption) (by assumption) (by assumption))]; done) | (rw [v_run, rk_off2 hn hh.1 (rk_n3 hh.2 (by assumption) (by assumption) (by assumption))]; done) | (rw [v_run, hh.1]; simp only; rw [if_pos (by assumption)]; done) | (rw [v_run, hh.1]; simp only; rw [if_neg (by assumption)]; done)
    · first | (rw [w_run, rk_off2 hn hh.1 (rk_n1 hh.2 (by assumption) (by assumption))]; done) | (rw [w_run, rk_off2 hn hh.1 (rk_n2 hh.2 (by assumption) (by assumption) (by assumption))]; done) | (rw [w_run, rk_off2 hn hh.1 (rk_n3 hh.2 (by assumption) (by assumption) (by assumption))]; done) | (rw [w_run, hh.1]; done)
