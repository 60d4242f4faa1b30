/-! rest: the call -/
section LA0
variable {I X Y Z : MI} {J JX JY : MJ} {k o sl sd : Nat} {p : CF} {w v : WD} {kl : List NT} {un : List (WD × List NT)} {n : Nat}
theorem msk_cs (ho : CO p) {t : Nat} (ht : t < 2 ^ cF p) : a_msk (wK (a_cs p w t)) 6 = nI t := by
  have hF := ho.2.2.1; have h64 := pow_F ho
  obtain ⟨m, h1, h2, h3⟩ := msk_le (wK (a_cs p w t)) 6 (Nat.le_refl _)
  rw [h2]
  congr 1
  refine Nat.eq_of_testBit_eq fun i => ?_
  have t64 : t < 2 ^ 6 := by omega
  by_cases hi : i < 6
  · have a := h3 i hi
    have e : (if i < 6 ∧ wK (a_cs p w t) i = 1 then 1 else 0) = t / 2 ^ i % 2 := by
      show (if i < 6 ∧ (if i < cF p then nI (t / 2 ^ i % 2) else 0) = 1 then 1 else 0) = _
      by_cases q : i < cF p
      · rw [if_pos q]
        rcases Nat.mod_two_eq_zero_or_one (t / 2 ^ i) with z | z <;> rw [z]
        · rw [if_neg (fun y => absurd y.2 (by decide))]
        · rw [if_pos ⟨hi, rfl⟩]
      · rw [if_neg q, if_neg (fun y => absurd y.2 (by decide))]
        have : t / 2 ^ i = 0 := Nat.div_eq_of_lt (Nat.lt_of_lt_of_le ht (Nat.pow_le_pow_right (by decide) (by omega)))
        rw [this]
    rw [e, tb_dm, tb_dm] at a
    cases x : m.testBit i <;> cases y : t.testBit i <;> rw [x, y] at a <;> first | rfl | exact absurd a (by decide)
  · rw [Nat.testBit_lt_two_pow (Nat.lt_of_lt_of_le h1 (by rw [show 64 = 2 ^ 6 from rfl]; exact Nat.pow_le_pow_right (by decide) (by omega))), Nat.testBit_lt_two_pow (Nat.lt_of_lt_of_le t64 (Nat.pow_le_pow_right (by decide) (by omega)))]
theorem cut_w (ho : CO p) (hw : WC X k w) {t : Nat} (ht : t < 2 ^ cF p) : WC (m_up X k 1 (nI t)) k (a_cs p w t) := by
  obtain ⟨g1, g2, g3, g4, g5⟩ := hw
  refine ⟨?_, ?_, fun f hf => ?_, fun c hc => ?_, fun f c hf hc => ?_⟩
  · rw [up_j _ _ _ (by decide)]; exact g1
  · rw [up_e]; exact (msk_cs ho ht).symm
  · rw [up_k _ _ _ (by omega)]; exact g3 f hf
  · rw [up_k _ _ _ (by omega)]; exact g4 c hc
  · rw [up_k _ _ _ (by omega)]; exact g5 f c hf hc
theorem it_keep (X : MI) (k sl n : Nat) {q : Nat} (h1 : q ≠ 26) (h2 : q ≠ 27) (h3 : q < k ∨ k + 3 < q) : py_it X k sl n q = X q := by
  refine fr_it X k sl n q ?_
  unfold FP
  rintro (h | h | h | h | h | ⟨g, h, -⟩)
  all_goals first | omega | cases h
abbrev DR : List (Nat × Option Nat) := [(26, none), (27, none), (31, none), (32, none), (33, none), (34, none), (35, none), (36, none), (37, none), (38, none), (39, none), (40, none), (41, none), (42, none)]
theorem find_r (h : RelX I J sl p w kl un) (hq : sl = 3 ∨ sl = 11) {y : Nat} (hy : wY w = nI y) (hn : y + n ≤ 999) : ok (F_Foresight_findRest sl I (nI n)) (fun r => r.1 = r_bs p w n (2 ^ cF p) ∧ fsL DR r.2 I) := by
  have hR := RelX_R h
  obtain ⟨⟨ho, hQ, h00, -⟩, ⟨hc, hcd, hm, hcn⟩, ht, -⟩ := h.2.1.2.1
  obtain ⟨⟨hv, hx, -⟩, hw, hwm, hkc, hkm⟩ := h.2.1.2.2.1
  have hF := ho.2.2.1; have hC := ho.1; have hR2 := ho.2.1; have h64 := pow_F ho
  have hp1 : 1 ≤ 2 ^ cF p := Nat.one_le_two_pow
  unfold F_Foresight_findRest
  rw [hc.2.2.1, one_shl (by omega), nI_clamp (by omega), show (1 : Int32) = nI 1 from rfl, nI_subN hp1]
  have wA : WC (w_take I 31 20) 31 w := take_c hw (by omega)
  have kA : ∀ q, q < 31 ∨ 34 < q → w_take I 31 20 q = I q := fun q hq => take_k I 31 20 (by omega)
  generalize w_take I 31 20 = A at *
  have wB : WC (w_take A 35 20) 35 w := take_c (WC_c hw (fun q a b => kA q (by omega))) (by omega)
  have kB : ∀ q, q < 35 ∨ 38 < q → w_take A 35 20 q = A q := fun q hq => take_k A 35 20 (by omega)
  generalize w_take A 35 20 = B at *
  have wB' : WC (m_up B 35 1 (0 : Int32)) 35 (a_cs p w 0) := cut_w (t := 0) ho wB (by omega)
  have kB' : ∀ q, q ≠ 35 → m_up B 35 1 (0 : Int32) q = B q := fun q hq => up_k _ _ _ hq
  generalize m_up B 35 1 (0 : Int32) = B' at *
  have sl1 : ∀ q, q < 20 → B' q = I q := fun q hq => (kB' q (by omega)).trans ((kB q (by omega)).trans (kA q (by omega)))
  have wC : WC (py_it B' 35 sl n) 35 (a_it p (a_cs p w 0) n) := it_c ho hQ hR (CC_c hc (fun q a b => sl1 q (by omega))) (CD_c hcd (fun q a b => sl1 q (by omega))) (cs_O hv 0) (by omega) (by omega) wB' (y := y) hy n hn
  have kC : ∀ q, q ≠ 26 → q ≠ 27 → (q < 35 ∨ 38 < q) → py_it B' 35 sl n q = B' q := fun q a b c => it_keep B' 35 sl n a b c
  generalize py_it B' 35 sl n = C at *
  have w20 : WC C 20 w := WC_c hw (fun q a b => (kC q (by omega) (by omega) (by omega)).trans ((kB' q (by omega)).trans ((kB q (by omega)).trans (kA q (by omega)))))
  have wD : WC (w_take C 39 20) 39 w := take_c w20 (by omega)
  have kD : ∀ q, q < 39 ∨ 42 < q → w_take C 39 20 q = C q := fun q hq => take_k C 39 20 (by omega)
  generalize w_take C 39 20 = D at *
  have wD' : WC (m_up D 39 1 (nI (2 ^ cF p - 1))) 39 (a_cs p w (2 ^ cF p - 1)) := cut_w ho wD (by omega)
  have kD' : ∀ q, q ≠ 39 → m_up D 39 1 (nI (2 ^ cF p - 1)) q = D q := fun q hq => up_k _ _ _ hq
  simp only [bnd]
  generalize m_up D 39 1 (nI (2 ^ cF p - 1)) = D' at *
  have sl2 : ∀ q, q < 20 → D' q = I q := fun q hq => (kD' q (by omega)).trans ((kD q (by omega)).trans ((kC q (by omega) (by omega) (by omega)).trans (sl1 q hq)))
  have wE : WC (py_it D' 39 sl n) 39 (a_it p (a_cs p w (2 ^ cF p - 1)) n) := it_c ho hQ hR (CC_c hc (fun q a b => sl2 q (by omega))) (CD_c hcd (fun q a b => sl2 q (by omega))) (cs_O hv _) (by omega) (by omega) wD' (y := y) hy n hn
  have kE : ∀ q, q ≠ 26 → q ≠ 27 → (q < 39 ∨ 42 < q) → py_it D' 39 sl n q = D' q := fun q a b c => it_keep D' 39 sl n a b c
  generalize py_it D' 39 sl n = E at *
  have e31 : ∀ q, 31 ≤ q → q ≤ 34 → E q = A q := fun q a b => (kE q (by omega) (by omega) (by omega)).trans ((kD' q (by omega)).trans ((kD q (by omega)).trans ((kC q (by omega) (by omega) (by omega)).trans ((kB' q (by omega)).trans (kB q (by omega))))))
  have e35 : ∀ q, 35 ≤ q → q ≤ 38 → E q = C q := fun q a b => (kE q (by omega) (by omega) (by omega)).trans ((kD' q (by omega)).trans (kD q (by omega)))
  have sE : ∀ q, q < 20 → E q = I q := fun q hq => (kE q (by omega) (by omega) (by omega)).trans (sl2 q hq)
  have rq : RQ E p w n := by
    refine ⟨⟨by rw [e31 31 (by decide) (by decide)]; exact wA.1, by rw [e31 31 (by decide) (by decide)]; exact wA.2.1, by rw [e31 32 (by decide) (by decide)]; exact wA.2.2.1, by rw [e31 33 (by decide) (by decide)]; exact wA.2.2.2.1⟩, fun f c h1 h2 hc => ?_, by rw [e35 38 (by decide) (by decide)]; exact wC.2.2.2.2, wE.2.2.2.2⟩
    rw [e31 34 (by decide) (by decide)]
    exact (wA.2.2.2.2 f c h2 hc).trans (hv.2.2.2.2.2 f c (Or.inl h1))
  have fE : fsL DR E I := by
    refine fs_fr (P := fun q => q = 26 ∨ q = 27 ∨ (31 ≤ q ∧ q ≤ 42)) (fun q hq => ?_) (fun q hq => ?_)
    · have hq : ¬ (q = 26 ∨ q = 27 ∨ (31 ≤ q ∧ q ≤ 42)) := hq
      rw [kE q (by omega) (by omega) (by omega), kD' q (by omega), kD q (by omega), kC q (by omega) (by omega) (by omega), kB' q (by omega), kB q (by omega), kA q (by omega)]
    · rcases hq with z | z | ⟨z1, z2⟩
      · subst z; decide
      · subst z; decide
      · rcases (by omega : q = 31 ∨ q = 32 ∨ q = 33 ∨ q = 34 ∨ q = 35 ∨ q = 36 ∨ q = 37 ∨ q = 38 ∨ q = 39 ∨ q = 40 ∨ q = 41 ∨ q = 42) with z | z | z | z | z | z | z | z | z | z | z | z <;> subst z <;> decide
  refine ok_b (best_c ho hR hv hy hn (CC_c hc (fun q a b => sE q (by omega))) (by omega) rq) ?_
  rintro ⟨r1, V⟩ ⟨v1, v2⟩
  exact ok_s ⟨v1, fs_tr (fs_fr (P := fun q => q = 34) (fun q hq => v2 q hq) (fun q hq => by subst hq; decide)) fE⟩
/-- rest -/
theorem op_rest (hr : Rel I J sl) (v : Int32) : ∃ a I1 I2 J2, F_WF_rest sl sd I v = some (a, I1) ∧ F_MD_rest I1 J v = some (a, I2, J2) ∧ Rel I2 J2 sl := by
  obtain ⟨hq, p, w, kl, un, h⟩ := id hr
  obtain ⟨⟨ho, hQ, h00, -⟩, ⟨hc, hcd, hm, hcn⟩, ht, -⟩ := h.2.1.2.1
  obtain ⟨⟨hv, hx, -⟩, hw, hwm, hkc, hkm⟩ := h.2.1.2.2.1
  have hF := ho.2.2.1; have hC := ho.1; have hR := ho.2.1
  obtain ⟨y, y1, y2⟩ := RelX_y h
  unfold F_WF_rest
  rw [told_c ho hc]
  by_cases hC0 : 0 < cC p
  · have hah : ∀ X : MI, WM X p w → X 177 49 = bI (decide (0 < cC p)) → F_MD_isAhead X v 1 30 = some (@ite _ (nI 1 ≤ v ∧ v ≤ nI (min 30 (999 - y))) (Classical.propDecidable _) 1 0) := fun X g1 g2 => ahead_e (a := 1) (b := 30) g1 g2 hC0 y2 y1 (by decide) v
    rw [decide_eq_true hC0, if_neg (show ¬ bI true = 0 by decide), show (30 : Int32) = nI 30 from rfl, most_c hw y2 y1 (by decide)]
    simp only [Option.bind_some]
    by_cases c1 : nI 1 ≤ v ∧ v ≤ nI (min 30 (999 - y))
    · have c0 : ¬ v < 0 := by have : (1 : Int32) ≤ v := c1.1; grind
      obtain ⟨n, hn, rfl⟩ := nI_of2 (M := nI (min 30 (999 - y))) (n := min 30 (999 - y)) (nI_toInt (by omega)) c0 c1.2
      have n1 : 1 ≤ n := (nI_leI (by omega) (by omega)).mp c1.1
      rw [if_neg (show ¬ nI n < 1 from nI_nlt (a := n) (b := 1) (by omega) (by omega)), if_pos c1.2]
      obtain ⟨⟨r1, Z⟩, ez, z1, z4⟩ := find_r (n := n) h hq y2 (by omega)
      have z1 : r1 = r_bs p w n (2 ^ cF p) := z1
      have z4 : fsL DR Z I := z4
      rw [ez]
      simp only [Option.bind_some]
      have hmZ : CM Z p := CM_c hm (fun k hk => fs_k z4 (by rcases hk with z | z | z <;> subst z <;> decide))
      have hnZ : CN Z p := CN_c hcn (fun k hk => fs_k z4 (by rcases hk with z | z | z <;> subst z <;> decide))
      have e49 : Z 177 49 = bI (decide (0 < cC p)) := by rw [z4 177 49 (by decide)]; exact ht
      have hwZ : WM Z p w := WM_c ho hwm (fun j _ => by rw [fs_k z4 (by decide)])
      have hkZ : KM Z kl := KM_c hkm (fun j _ => by rw [fs_k z4 (by decide)])
      obtain ⟨A, ea, a1, a2, a3⟩ := aside_e hmZ hnZ hwZ hkZ
      have a4 : WMg (A 214) p w := WMg_of ho hwZ a2
      obtain ⟨⟨B, JB⟩, eb, b1, b2, b3, b4, b5⟩ := lays_m (X := A) (J := J) ho hQ (RelX_R h) hv y2 (n := n) (by omega) (2 ^ cF p) 0 A J (by omega) a1 a4 (fun u f hu => by omega) (fs_r A) (fs_r J)
      have b1 : TH B p w kl := b1
      have b2 : WMg (B 214) p w := b2
      have b3 : ∀ u f, u < 2 ^ cF p → f < cF p → B 216 (6 * u + f) = nI (r_fd p w n u f) := b3
      have b4 : fsL LRst B A := b4
      have b5 : fsL K1 JB J := b5
      obtain ⟨C, ec, c2, c3, c4, c5⟩ := backT ho b1 b2
      have fC : fsL ((216, none) :: DM) C Z := fs_tr (fs_sub (by decide) c5) (fs_tr (fs_sub (by decide) b4) (fs_sub (by decide) a3))
      have hx2 : fsL ((216, none) :: (DM ++ DR)) C I := fs_tr (fs_sub (by decide) fC) (fs_sub (by decide) z4)
      have rel : Rel C JB sl := ⟨hq, p, w, kl, un, RelX_t hq h hx2 b5 c2 c3 c4 (by decide) (by decide) (by decide) (by decide) (by decide) (by decide) (by decide) (by decide) (by decide +kernel) (gIron_c (ag_of (by decide) hx2) h.2.2.1) (by decide +kernel) (by decide)⟩
      have hmC : CM C p := CM_c hmZ (fun k hk => fs_k fC (by rcases hk with z | z | z <;> subst z <;> decide))
      refine ⟨r1, Z, C, JB, rfl, ?_, rel⟩
      unfold F_MD_rest
      rw [hah Z hwZ e49]
      simp only [Option.bind_some]
      rw [if_pos c1, if_neg (by decide)]
      have eL : F_MD_laysFields Z J (nI n) = some (C, JB) := by
        unfold F_MD_laysFields
        rw [ea]
        simp only [Option.bind_some]
        have eb : wl (fun s : Int32 × MI × MJ => F_MD_laysFields_6 s.2.1 s.2.2 (nI n) s.1) (0, A, J) = some (B, JB) := eb
        rw [eb]
        simp only [Option.bind_some]
        rw [ec]
        rfl
      rw [eL]
      simp only [Option.bind_some]
      rw [best_m (w := w) (n := n) ho hmC (by rw [fs_k c5 (by decide)]; exact b3), z1]
      rfl
    · refine ⟨-1, I, I, J, ?_, ?_, hr⟩
      · by_cases c0 : v < 1
        · rw [if_pos c0]
        · have c1' : nI 1 ≤ v := by show (1 : Int32) ≤ v; grind
          rw [if_neg c0, if_neg (fun z => c1 ⟨c1', z⟩)]
      · unfold F_MD_rest
        rw [hah I hwm ht]
        simp only [Option.bind_some]
        rw [if_neg c1, if_pos rfl]
  · rw [decide_eq_false hC0, if_pos (show bI false = 0 from rfl)]
    refine ⟨-1, I, I, J, rfl, ?_, hr⟩
    unfold F_MD_rest F_MD_isAhead
    rw [ht, decide_eq_false hC0, if_pos (show bI false = 0 from rfl)]
    rfl
end LA0
