/-! calls that only ask: has, kept, letter -/
section A63
variable {I : MI} {J : MJ} {k sl sd : Nat} {p : CF} {w : WD} {kl : List NT} {un : List (WD × List NT)}
theorem posts_n (hw : WC I k w) (hv : WO p w) : l_posts I k 6 = nI (n_pst w) := by
  have key : ∀ n, n ≤ 6 → l_posts I k n = nI (sm (fun c => pop 32 (wP w c).toNatClampNeg) n) := by
    intro n
    induction n with
    | zero => intro _; rfl
    | succ n ih =>
      intro hn
      obtain ⟨q, h1, h2, h3⟩ := postN hv n
      simp only [l_posts, sm]
      rw [ih (by omega), hw.2.2.2.1 n (by omega), h3, h2, bitc_n (by omega), nI_add]
  exact key 6 (by omega)
theorem posts_m (hw : WM I p w) (hv : WO p w) : F_MD_postMany I = some (nI (n_pst w)) := by
  unfold F_MD_postMany
  rw [wl_f 6 (fun n => (nI (sm (fun c => pop 32 (wP w c).toNatClampNeg) n), nI n)) (t := nI (n_pst w))]
  · rfl
  · rfl
  · intro n hn
    obtain ⟨q, h1, h2, h3⟩ := postN hv n
    simp only [F_MD_postMany_4]
    rw [if_neg (show ¬ (6 : Int32) ≤ nI n from nI_ge (b := 6) hn (by decide)), ad_1, gd_n (by omega) (by decide), nI_clamp (by omega), hw.2.2.2.1 n hn, h2, bits_e (by omega)]
    simp only [Option.bind_some, nI_s, nI_add, sm]
    rw [h3]
  · simp only [F_MD_postMany_4]
    rw [if_pos (show (6 : Int32) ≤ nI 6 by decide)]
    rfl
theorem msk_x (hx : ∀ f, cF p ≤ f → wK w f = 0) : ∀ n, cF p ≤ n → a_msk (wK w) n = a_msk (wK w) (cF p) := by
  intro n
  induction n with
  | zero => intro h; rw [show cF p = 0 by omega]
  | succ n ih =>
    intro hn
    by_cases e : cF p = n + 1
    · rw [e]
    · simp only [a_msk]
      rw [hx n (by omega), if_neg (by decide)]; exact ih (by omega)
theorem cutSet_e (ho : CO p) (hm : CM I p) (hw : WM I p w) : F_MD_cutSet I = some (a_msk (wK w) (cF p)) := by
  have hF := ho.2.2.1
  unfold F_MD_cutSet
  rw [wl_f (cF p) (fun n => (a_msk (wK w) n, nI n)) (t := a_msk (wK w) (cF p))]
  · rfl
  · rfl
  · intro n hn
    simp only [F_MD_cutSet_4]
    rw [fm_e hm]
    simp only [Option.bind_some]
    rw [if_neg (nI_ge hn (by omega)), cut_e ho hw hn]
    simp only [Option.bind_some, nI_s, a_msk]
    by_cases q : wK w n = 1
    · simp only [if_pos q, if_neg (show ¬ (1 : Int32) = 0 by decide)]
    · simp only [if_neg q, if_true]
  · simp only [F_MD_cutSet_4]
    rw [fm_e hm]
    simp only [Option.bind_some]
    rw [if_pos (Int32.le_refl _)]
theorem moor_n (ho : CO p) (hv : WO p w) : sm (fun f => a_fd p w f) (cF p) + sm (fun c => n_fld (fun f => wR w f c) (-1) (cF p) (cR p)) (cC p) = cC p * cR p := by
  have hF := ho.2.2.1; have hR := ho.2.1
  unfold a_fd
  rw [sm_sw, ← sm_a, sm_c (g := fun _ => cR p), sm_k]
  intro c hc
  have h := o_all (G := fun f => (wR w f c).toInt) (n := cF p) (R := cR p) (fun f => Int32.le_iff_toInt_le.mp (hv.ge f c))
  rw [n_fld_o _ (-1) (by omega) (by omega), show (-1 : Int32).toInt = -1 by decide]
  rw [sm_c (g := fun i => sm (fun r => if (o_own (fun f => (wR w f c).toInt) (r : Int) (cF p)).1 = (i : Int) then 1 else 0) (cR p))]
  · exact h
  · intro i hi
    rw [n_fld_o _ _ (by omega) (by omega), nI_toInt (by omega)]
theorem moor_c (ho : CO p) (hc : CC I sl p) (hw : WC I 20 w) (hv : WO p w) : F_WF_countMoor sl sd I = some (nI (sm (fun c => n_fld (fun f => wR w f c) (-1) (cF p) (cR p)) (cC p))) := by
  have hF := ho.2.2.1; have hC := ho.1; have hR := ho.2.1
  have key := moor_n ho hv
  have mono : ∀ n, n ≤ cF p → sm (fun f => a_fd p w f) n ≤ sm (fun f => a_fd p w f) (cF p) := by
    intro n hn
    have : ∀ d, sm (fun f => a_fd p w f) n ≤ sm (fun f => a_fd p w f) (n + d) := by
      intro d
      induction d with
      | zero => exact Nat.le_refl _
      | succ d ih => rw [← Nat.add_assoc]; simp only [sm]; omega
    have := this (cF p - n)
    rwa [show n + (cF p - n) = cF p by omega] at this
  unfold F_WF_countMoor
  rw [wl_f (cF p) (fun n => (nI (cC p * cR p - sm (fun f => a_fd p w f) n), nI n)) (t := nI (cC p * cR p - sm (fun f => a_fd p w f) (cF p)))]
  · simp only [Option.bind_some]
    rw [show cC p * cR p - sm (fun f => a_fd p w f) (cF p) = sm (fun c => n_fld (fun f => wR w f c) (-1) (cF p) (cR p)) (cC p) by omega]
  · rw [hc.1, hc.2.1]
    show (nI (cC p) * nI (cR p), (0 : Int32)) = _
    simp only [nI, ← Int32.ofNat_mul, sm, Nat.sub_zero]
    rfl
  · intro n hn
    simp only [F_WF_countMoor_18]
    rw [hc.2.2.1, if_neg (nI_ge hn (by omega)), hc.2.1, field_c hw hv ho (by omega), nI_s]
    have m1 := mono (n + 1) (by omega)
    simp only [sm] at m1
    have e : nI (cC p * cR p - sm (fun f => a_fd p w f) n) - nI (a_fd p w n) = nI (cC p * cR p - sm (fun f => a_fd p w f) (n + 1)) := by
      rw [nI_subN (by omega)]
      simp only [sm]
      congr 1
      omega
    have e2 : sm (fun c => n_fld (fun f => wR w f c) (nI n) (cF p) (cR p)) (cC p) = a_fd p w n := rfl
    rw [e2, e]
  · simp only [F_WF_countMoor_18]
    rw [hc.2.2.1, if_pos (Int32.le_refl _)]
theorem stk_c (ho : CO p) (hc : CC I sl p) (hw : WC I 20 w) (hv : WO p w) : F_WF_countStakes sl sd I = some (nI (sm (fun f => sm (fun c => if wR w f c = -1 then 0 else 1) (cC p)) (cF p))) := by
  have hF := ho.2.2.1
  unfold F_WF_countStakes
  rw [wl_f (cF p) (fun n => (nI (sm (fun f => sm (fun c => if wR w f c = -1 then 0 else 1) (cC p)) n), nI n)) (t := nI (sm (fun f => sm (fun c => if wR w f c = -1 then 0 else 1) (cC p)) (cF p)))]
  · rfl
  · rfl
  · intro n hn
    simp only [F_WF_countStakes_4]
    rw [hc.2.2.1, if_neg (nI_ge hn (by omega)), left_c hw hv ho (by omega), nI_add, nI_s]
    rfl
  · simp only [F_WF_countStakes_4]
    rw [hc.2.2.1, if_pos (Int32.le_refl _)]
theorem stk_e (ho : CO p) (hm : CM I p) (hw : WM I p w) : F_MD_leftAll I = some (nI (sm (fun f => sm (fun c => if wR w f c = -1 then 0 else 1) (cC p)) (cF p))) := by
  have hF := ho.2.2.1
  unfold F_MD_leftAll
  rw [wl_f (cF p) (fun n => (nI (sm (fun f => sm (fun c => if wR w f c = -1 then 0 else 1) (cC p)) n), nI n)) (t := nI (sm (fun f => sm (fun c => if wR w f c = -1 then 0 else 1) (cC p)) (cF p)))]
  · rfl
  · rfl
  · intro n hn
    simp only [F_MD_leftAll_4]
    rw [fm_e hm]
    simp only [Option.bind_some]
    rw [if_neg (nI_ge hn (by omega)), left_e ho hm hw hn]
    simp only [Option.bind_some, nI_add, nI_s]
    rfl
  · simp only [F_MD_leftAll_4]
    rw [fm_e hm]
    simp only [Option.bind_some]
    rw [if_pos (Int32.le_refl _)]
/-- has -/
theorem op_has (h : RelX I J sl p w kl un) (v : Int32) : ∃ a, F_WF_has sl sd I v = some a ∧ F_MD_has I v = some a := by
  obtain ⟨⟨ho, -⟩, ⟨hc, -, hm, -⟩, ht, -⟩ := h.2.1.2.1
  obtain ⟨⟨hv, hx, -⟩, hw, hwm, hkc, hkm⟩ := h.2.1.2.2.1
  obtain ⟨sn, -, s1, s2, -⟩ := h.2.1.1
  obtain ⟨-, -, u1, u2, -⟩ := h.2.1.2.2.2
  have hF := ho.2.2.1
  unfold F_WF_has F_MD_has
  by_cases v0 : v = 0
  · subst v0
    simp only [if_true]
    rw [show (2 : Int32) + 0 = nI 2 from rfl, gd_n (by decide) (by decide), nI_clamp (by decide), hc.1, hm.1]; exact ⟨_, rfl, rfl⟩
  simp only [if_neg v0]
  by_cases v1 : v = 1
  · subst v1
    simp only [if_true]
    rw [show (2 : Int32) + 1 = nI 3 from rfl, gd_n (by decide) (by decide), nI_clamp (by decide), hc.2.1, hm.2.1]; exact ⟨_, rfl, rfl⟩
  simp only [if_neg v1]
  by_cases v2 : v = 2
  · simp only [if_pos v2]
    rw [fm_e hm, hc.2.2.1]; exact ⟨_, rfl, rfl⟩
  simp only [if_neg v2]
  by_cases v3 : v = 3
  · simp only [if_pos v3]
    rw [hw.1, hwm.1]; exact ⟨_, rfl, rfl⟩
  simp only [if_neg v3]
  by_cases v4 : v = 4
  · simp only [if_pos v4]
    rw [posts_n hw hv, posts_m hwm hv]; exact ⟨_, rfl, rfl⟩
  simp only [if_neg v4]
  by_cases v5 : v = 5
  · simp only [if_pos v5]
    rw [stk_c ho hc hw hv, stk_e ho hm hwm]; exact ⟨_, rfl, rfl⟩
  simp only [if_neg v5]
  by_cases v6 : v = 6
  · simp only [if_pos v6]
    rw [cutSet_e ho hm hwm, hw.2.1, msk_x hx.1 6 hF]
    obtain ⟨m, h1, h2, -⟩ := msk_le (wK w) (cF p) hF
    simp only [Option.bind_some]
    rw [h2, bitc_n (by omega), bits_e (by omega)]; exact ⟨_, rfl, rfl⟩
  simp only [if_neg v6]
  by_cases v7 : v = 7
  · simp only [if_pos v7]
    rw [moor_c ho hc hw hv, field_e ho hm hwm hv]; exact ⟨_, rfl, rfl⟩
  simp only [if_neg v7]
  by_cases v8 : v = 8
  · simp only [if_pos v8]
    rw [hkc.2.1, hkm.1]; exact ⟨_, rfl, rfl⟩
  simp only [if_neg v8]
  by_cases v9 : v = 9
  · simp only [if_pos v9]
    rw [s1, s2]; exact ⟨_, rfl, rfl⟩
  simp only [if_neg v9]
  by_cases va : v = 10
  · simp only [if_pos va]
    rw [u1, u2]; exact ⟨_, rfl, rfl⟩
  simp only [if_neg va]; exact ⟨_, rfl, rfl⟩
theorem nx_or (a b : Nat) : nI a ||| nI b = nI (a ||| b) := by
  apply Int32.toBitVec_inj.1
  show BitVec.ofNat 32 a ||| BitVec.ofNat 32 b = BitVec.ofNat 32 (a ||| b)
  apply BitVec.eq_of_getLsbD_eq
  intro i hi
  simp [hi]
theorem shl_n {a s : Nat} (hs : s < 32) : nI a <<< (nI s &&& 31) = nI (2 ^ s * a) := by
  apply b_ext
  intro i hi
  rw [b_shl s hs _ hi]
  unfold bt
  show (decide (s ≤ i) && (BitVec.ofNat 32 a).getLsbD (i - s)) = (BitVec.ofNat 32 (2 ^ s * a)).getLsbD i
  rw [BitVec.getLsbD_ofNat, BitVec.getLsbD_ofNat, Nat.testBit_two_pow_mul]
  by_cases h : s ≤ i
  · simp [h, hi, show i - s < 32 by omega]
  · simp [h]
theorem pk_n {a b d : Nat} (hb : b < 256) (hd : d < 256) : pk (nI a, nI b, nI d) = nI (65536 * a + 256 * b + d) := by
  unfold pk
  have e16 : (16 : Int32) = nI 16 := rfl
  have e8 : (8 : Int32) = nI 8 := rfl
  rw [e16, e8, shl_n (by decide), shl_n (by decide), nx_or, nx_or]
  congr 1
  have h1 : 2 ^ 8 * b < 2 ^ 16 := by omega
  rw [← Nat.two_pow_add_eq_or_of_lt h1]
  have h2 : 2 ^ 16 * a + 2 ^ 8 * b = 2 ^ 8 * (256 * a + b) := by omega
  have h3 : d < 2 ^ 8 := by omega
  rw [h2, ← Nat.two_pow_add_eq_or_of_lt h3]
/-- kept -/
theorem op_kept (h : RelX I J sl p w kl un) (x v : Int32) : ∃ a, F_WF_kept sl sd I x v = some a ∧ F_MD_kept I x v = some a := by
  obtain ⟨⟨-, -, hkn⟩, -, -, hkc, hkm⟩ := h.2.1.2.2.1
  obtain ⟨k1, k2, o, k3, k4, k5⟩ := hkc
  obtain ⟨m1, m2, m3⟩ := hkm
  unfold F_WF_kept F_MD_kept
  rw [m1, show (0 : Int64) = (0 : Int32).toInt64 by decide, show (2 : Int64) = (2 : Int32).toInt64 by decide, isIn_i]
  simp only [Option.bind_some, le_pred (show kl.length < 2 ^ 31 by omega)]
  unfold f_Log_tell
  rw [k2]
  by_cases q : 0 ≤ x ∧ x < nI kl.length
  · obtain ⟨i, hi, rfl⟩ := ix_2 (by omega) q
    simp only [if_pos q, if_neg (show ¬ (1 : Int32) = 0 by decide)]
    rw [isIn_i]
    simp only [Option.bind_some]
    rw [if_neg (nI_pos (by omega)), if_pos q.2, k4, nI_add]
    have e40 : m_rem (nI (o + i)) (40 : Int32) = nI ((o + i) % 40) := rem_n (b := 40) (by omega) (by decide) (by decide)
    rw [e40, if_pos (nI_pos' (by omega)), nI_clamp (by omega), k5 i hi]
    have hmem : kl.getD i (0, 0, 0) ∈ kl := by
      rw [List.getD_eq_getElem?_getD, List.getElem?_eq_getElem hi]
      exact List.getElem_mem _
    obtain ⟨⟨a1, a2⟩, ⟨a3, a4⟩, a5, a6⟩ := hkn _ hmem
    have hm3 := m3 i hi
    generalize kl.getD i (0, 0, 0) = nt at *
    obtain ⟨y, f, c⟩ := nt
    simp only [Prod.mk.injEq] at hm3
    obtain ⟨hy, hf, hcc⟩ := hm3
    dsimp only at a1 a2 a3 a4 a5 a6
    obtain ⟨ya, hya, rfl⟩ := ix_2 (v := y) (n := 1000) (by decide) ⟨a1, by show y < 1000; grind⟩
    obtain ⟨fa, hfa, rfl⟩ := ix_2 (v := f) (n := 6) (by decide) ⟨a3, a4⟩
    obtain ⟨ca, hca, rfl⟩ := ix_2 (v := c) (n := 256) (by decide) ⟨a5, by show c < 256; grind⟩
    rw [pk_n (by omega) hca]
    have e16 : (16 : Int32) = nI 16 := rfl
    have e8 : (8 : Int32) = nI 8 := rfl
    have e255 : (255 : Int32) = nI 255 := rfl
    have s16 : nI (65536 * ya + 256 * fa + ca) >>> ((16 : Int32) &&& 31) = nI ya := by
      rw [e16, shr_n (by omega) (by decide)]
      congr 1
      omega
    have s8 : (nI (65536 * ya + 256 * fa + ca) >>> ((8 : Int32) &&& 31)) &&& (255 : Int32) = nI fa := by
      rw [e8, shr_n (by omega) (by decide), e255, nx_and, show (255 : Nat) = 2 ^ 8 - 1 from rfl, Nat.and_two_pow_sub_one_eq_mod]
      congr 1
      omega
    have s0 : nI (65536 * ya + 256 * fa + ca) &&& (255 : Int32) = nI ca := by
      rw [e255, nx_and, show (255 : Nat) = 2 ^ 8 - 1 from rfl, Nat.and_two_pow_sub_one_eq_mod]
      congr 1
      omega
    rw [s16, s8, s0]
    have ad : ∀ j, j < 3 → ((56 : Int32) + ((3 : Int32) * nI i)) + nI j = nI (56 + 3 * i + j) := fun j _ => by
      simp only [nI, ← Int32.ofNat_mul, ← Int32.ofNat_add, show (56 : Int32) = Int32.ofNat 56 from rfl, show (3 : Int32) = Int32.ofNat 3 from rfl]
    by_cases v0 : v = 0
    · subst v0
      rw [if_pos rfl, if_neg (show ¬ (if (0 : Int32) ≤ 0 ∧ (0 : Int32) ≤ 2 then (1 : Int32) else 0) = 0 by decide), show (0 : Int32) = nI 0 from rfl, ad 0 (by decide), gd_n (by omega) (by decide), nI_clamp (by omega)]
      exact ⟨_, rfl, by rw [Nat.add_zero, hy]⟩
    rw [if_neg v0]
    by_cases v1 : v = 1
    · subst v1
      rw [if_pos rfl, if_neg (show ¬ (if (0 : Int32) ≤ 1 ∧ (1 : Int32) ≤ 2 then (1 : Int32) else 0) = 0 by decide), show (1 : Int32) = nI 1 from rfl, ad 1 (by decide), gd_n (by omega) (by decide), nI_clamp (by omega)]
      exact ⟨_, rfl, by rw [show 56 + 3 * i + 1 = 57 + 3 * i by omega, hf]⟩
    rw [if_neg v1]
    by_cases v2 : v = 2
    · subst v2
      rw [if_pos rfl, if_neg (show ¬ (if (0 : Int32) ≤ 2 ∧ (2 : Int32) ≤ 2 then (1 : Int32) else 0) = 0 by decide), show (2 : Int32) = nI 2 from rfl, ad 2 (by decide), gd_n (by omega) (by decide), nI_clamp (by omega)]
      exact ⟨_, rfl, by rw [show 56 + 3 * i + 2 = 58 + 3 * i by omega, hcc]⟩
    rw [if_neg v2, if_neg (show ¬ ((0 : Int32) ≤ v ∧ v ≤ 2) by grind), if_pos rfl]
    exact ⟨_, rfl, rfl⟩
  · simp only [if_neg q, if_true]
    by_cases c0 : x < 0
    · rw [if_pos c0]; exact ⟨_, rfl, rfl⟩
    · rw [if_neg c0, if_neg (by grind)]; exact ⟨_, rfl, rfl⟩
end A63
