/-! iron, the act -/
theorem pop_or : ∀ k x r, r < k → x / 2 ^ r % 2 = 0 → pop k (x ||| 2 ^ r) = pop k x + 1 := by
  intro k
  induction k with
  | zero => intro x r h; omega
  | succ k ih =>
    intro x r hr h0
    simp only [pop]
    rw [Nat.or_div_two]
    cases r with
    | zero =>
      have e1 : (x ||| 2 ^ 0) % 2 = 1 := Nat.or_mod_two_eq_one.mpr (Or.inr rfl)
      rw [e1, show (2 ^ 0 : Nat) / 2 = 0 from rfl, Nat.or_zero]
      have : x % 2 = 0 := by simpa using h0
      omega
    | succ r =>
      have e2 : (2 ^ (r + 1) : Nat) / 2 = 2 ^ r := by rw [Nat.pow_succ]; omega
      have e3 : (x ||| 2 ^ (r + 1)) % 2 = x % 2 := by
        have e4 : (2 ^ (r + 1) : Nat) % 2 = 0 := by rw [Nat.pow_succ]; omega
        have := Nat.or_mod_two_eq_one (a := x) (b := 2 ^ (r + 1))
        rw [e4] at this
        have a := Nat.mod_two_eq_zero_or_one (x ||| 2 ^ (r + 1))
        have b := Nat.mod_two_eq_zero_or_one x
        omega
      rw [e2, e3, ih (x / 2) r (by omega) (by rw [Nat.div_div_eq_div_mul, Nat.mul_comm, ← Nat.pow_succ]; exact h0)]
      omega
section L82
variable {I X Z B : MI} {J JX J2 : MJ} {k o sl sd : Nat} {p : CF} {w w' : WD} {kl kl' : List NT} {un un' : List (WD × List NT)}
theorem refs_e {k : Nat} (hk : k < 6) : F_MD_refuses (m_up I 176 k (I 176 k + 1)) (nI k) = some (-1, m_up (m_up I 176 k (I 176 k + 1)) 179 k (I 179 k + 1)) := by
  unfold F_MD_refuses
  rw [gd_n hk (by decide), gd_n hk (by decide), nI_clamp (by omega), up_k _ _ _ (show (179 : Nat) ≠ 176 by decide)]
theorem drv_n (hv : WO p w) (hx : WX p w) (hR : cR p ≤ 30) {c r : Nat} (hr : r < cR p) (h0 : a_pst w c r = false) : ∃ q, q < 2 ^ 30 ∧ wP w c = nI q ∧ (wP w c ||| ((1 : Int32) <<< (nI r &&& 31))) = nI (q ||| 2 ^ r) ∧ q ||| 2 ^ r < 2 ^ cR p ∧ pop 32 (q ||| 2 ^ r) = pop 32 q + 1 := by
  obtain ⟨q, h1, h2, h3⟩ := postN hv c
  have e1 : (1 : Int32) <<< (nI r &&& 31) = nI (2 ^ r) := by
    have := shl_n (a := 1) (s := r) (by omega)
    rw [Nat.mul_one] at this
    exact this
  have hq : q < 2 ^ cR p := by
    have := hx.2.2.1 c
    rw [h2] at this
    have h30 : 2 ^ cR p ≤ 2 ^ 30 := Nat.pow_le_pow_right (by decide) hR
    by_cases z : q < 2 ^ cR p
    · exact z
    · exact absurd this (nI_nlt (by omega) (by omega))
  refine ⟨q, h1, h2, by rw [h2, e1, nx_or], Nat.or_lt_two_pow hq (Nat.pow_lt_pow_right (by decide) hr), pop_or 32 q r (by omega) ?_⟩
  unfold a_pst at h0
  rw [h3] at h0
  have := of_decide_eq_false h0
  have := Nat.mod_two_eq_zero_or_one (q / 2 ^ r)
  omega
theorem drv_O (hv : WO p w) (hx : WX p w) (ho : CO p) {c r : Nat} (hc : c < cC p) (hr : r < cR p) (h0 : a_pst w c r = false) (hn : n_pst w < 24) : WO p (a_drv w c r) ∧ WX p (a_drv w c r) := by
  have hC := ho.1; have hR := ho.2.1
  obtain ⟨q, h1, h2, h3, h4, h5⟩ := drv_n hv hx hR hr h0
  have h30 : 2 ^ cR p ≤ 2 ^ 30 := Nat.pow_le_pow_right (by decide) hR
  have e : ∀ c', wP (a_drv w c r) c' = if c' = c then nI (q ||| 2 ^ r) else wP w c' := fun c' => by
    show (if c' = c then wP w c ||| ((1 : Int32) <<< (nI r &&& 31)) else wP w c') = _
    rw [h3]
  refine ⟨⟨hv.1, hv.2.1, hv.2.2.1, fun c' => ?_, hv.2.2.2.2.1, hv.2.2.2.2.2⟩, ⟨hx.1, fun c' hc' => ?_, fun c' => ?_, hx.2.2.2.1, ?_⟩⟩
  · rw [e]
    split
    · exact ⟨nI_pos' (by omega), nI_lt (b := 1073741824) (by omega) (by decide)⟩
    · exact hv.2.2.2.1 c'
  · rw [e, if_neg (by omega)]; exact hx.2.1 c' hc'
  · rw [e]
    split
    · exact nI_lt h4 (by omega)
    · exact hx.2.2.1 c'
  · have key : ∀ n, sm (fun c' => pop 32 (wP (a_drv w c r) c').toNatClampNeg) n = sm (fun c' => pop 32 (wP w c').toNatClampNeg) n + if c < n then 1 else 0 := by
      intro n
      induction n with
      | zero => rfl
      | succ n ih =>
        show sm _ n + _ = sm _ n + _ + _
        rw [ih]
        show _ + pop 32 (wP (a_drv w c r) n).toNatClampNeg = sm (fun c' => pop 32 (wP w c').toNatClampNeg) n + pop 32 (wP w n).toNatClampNeg + _
        rw [e]
        by_cases z : n = c
        · subst z
          rw [if_pos rfl, h2, nI_clamp (by omega), nI_clamp (by omega), h5, if_neg (Nat.lt_irrefl _), if_pos (Nat.lt_succ_self _)]; omega
        · rw [if_neg z]
          by_cases z2 : c < n
          · rw [if_pos z2, if_pos (show c < n + 1 by omega)]; omega
          · rw [if_neg z2, if_neg (show ¬ c < n + 1 by omega)]; omega
    have k6 := key 6
    have : n_pst (a_drv w c r) = n_pst w + 1 := by unfold n_pst; rw [k6, if_pos (by omega)]
    omega
/-- iron -/
theorem op_iron (hr : Rel I J sl) (v1 v2 : Int32) : ∃ a I1 I2, F_WF_iron sl sd I v1 v2 = some (a, I1) ∧ F_MD_iron I1 v1 v2 = some (a, I2) ∧ Rel I2 J sl := by
  have href := Rel_ref hr (k := 2) (by decide)
  obtain ⟨hq, p, w, kl, un, h⟩ := id hr
  obtain ⟨⟨ho, hQ, h00, -⟩, ⟨hc, hcd, hm, hcn⟩, ht, -⟩ := h.2.1.2.1
  obtain ⟨⟨hv, hx, hK⟩, hw, hwm, hkc, hkm⟩ := h.2.1.2.2.1
  obtain ⟨hU, -, -⟩ := gHist_i.mp h.2.1.2.2.2
  have hF := ho.2.2.1; have hC := ho.1; have hR := ho.2.1
  have hmZ : CM (m_up I 176 2 (I 176 2 + 1)) p := CM_c hm (fun k hk => up_k _ _ _ (by omega))
  have hwZ : WM (m_up I 176 2 (I 176 2 + 1)) p w := WM_c ho hwm (fun j _ => by rw [up_k _ _ _ (by decide)])
  have htZ : (m_up I 176 2 (I 176 2 + 1)) 177 49 = bI (decide (0 < cC p)) := by rw [up_k _ _ _ (by decide)]; exact ht
  unfold F_WF_iron
  rw [hasPlace_c hc]
  by_cases q : b_plc p v1 v2
  · obtain ⟨c, hc1, rfl⟩ := ix_2 (by omega) q.1
    obtain ⟨r, hr1, rfl⟩ := ix_2 (by omega) q.2
    rw [if_pos q, if_neg (by decide), post_c hw hv (by omega) (by omega), posts_n hw hv]
    have n24 := hx.2.2.2.2
    cases hb : a_pst w c r with
    | true =>
      rw [if_neg (by decide), show (2 : Int32) = nI 2 from rfl, refuse_c (by decide)]
      refine ⟨-1, _, _, rfl, ?_, href⟩
      unfold F_MD_iron
      rw [isPlace_e ho hmZ htZ]
      simp only [Option.bind_some]
      rw [if_pos q, if_neg (by decide), post_m hwZ hv (by omega) (by omega), hb]
      simp only [Option.bind_some]
      rw [if_neg (by decide), show (2 : Int32) = nI 2 from rfl, refs_e (by decide)]
      rfl
    | false =>
      rw [if_pos (show bI false = 0 from rfl)]
      by_cases n0 : n_pst w < 24
      · rw [if_pos (show nI (n_pst w) < 24 from nI_lt (b := 24) n0 (by decide))]
        obtain ⟨A, ea, a1, a2, a3, a4, a5, a6⟩ := begin_c (sd := sd) h
        obtain ⟨hO, hX⟩ := drv_O hv hx ho hc1 hr1 hb n0
        rw [ea]
        simp only [Option.bind_some]
        have eD : gI_Lay_drive A 20 (nI c) (nI r) = m_up A 22 c ((A 22 c) ||| ((1 : Int32) <<< (nI r &&& 31))) := by
          unfold gI_Lay_drive
          rw [if_neg (nI_pos (by omega)), if_neg (show ¬ (6 : Int32) ≤ nI c from nI_ge (b := 6) (by omega) (by decide)), if_neg (nI_pos (by omega)), if_neg (show ¬ (30 : Int32) ≤ nI r from nI_ge (b := 30) (by omega) (by decide)), nI_clamp (by omega)]
        rw [eD]
        have zk : ∀ q, q ≠ 22 → m_up A 22 c ((A 22 c) ||| ((1 : Int32) <<< (nI r &&& 31))) q = A q := fun q x1 => up_k _ _ _ x1
        have zW : WC (m_up A 22 c ((A 22 c) ||| ((1 : Int32) <<< (nI r &&& 31)))) 20 (a_drv w c r) := by
          obtain ⟨g1, g2, g3, g4, g5⟩ := a3
          refine ⟨?_, ?_, fun f hf => ?_, fun c' hc' => ?_, fun f c' hf hc' => ?_⟩
          · rw [up_k _ _ _ (by decide)]; exact g1
          · rw [up_k _ _ _ (by decide)]; exact g2
          · rw [up_k _ _ _ (by decide)]; exact g3 f hf
          · show _ = (if c' = c then wP w c ||| ((1 : Int32) <<< (nI r &&& 31)) else wP w c')
            by_cases e : c' = c
            · subst e; rw [if_pos rfl, up_e]
              exact congrArg (· ||| ((1 : Int32) <<< (nI r &&& 31))) (g4 c' hc')
            · rw [if_neg e, up_j _ _ _ e]; exact g4 c' hc'
          · rw [up_k _ _ _ (by decide)]; exact g5 f c' hf hc'
        generalize m_up A 22 c ((A 22 c) ||| ((1 : Int32) <<< (nI r &&& 31))) = Z at *
        rw [posts_n zW hO]
        have hz : fsL DA Z I := fs_tr (fs_fr (P := fun q => q = 22) (fun q hq => zk q hq) (fun q hq => by subst hq; simp [DA])) (fs_sub (by decide +kernel) a6)
        obtain ⟨m1, m2, m3, m4, m5, m6⟩ := ref_A h hz
        obtain ⟨B, eb, b1, b2⟩ := keep_m ho m5 hU.1 m3 m4
        have wB : WM B p w := WM_c ho m3 (fun j _ => by rw [fs_k b2 (by decide)])
        have kB : KM B kl := KM_c m4 (fun j _ => by rw [fs_k b2 (by decide)])
        have eix : (1 : Int32) + nI c = nI (1 + c) := nI_add 1 c
        have eP : B 213 (1 + c) = wP w c := wB.2.2.2.1 c (by omega)
        have wC : WM (m_up B 213 (1 + c) (wP w c ||| ((1 : Int32) <<< (nI r &&& 31)))) p (a_drv w c r) := by
          obtain ⟨g1, g2, g3, g4, g5⟩ := wB
          refine ⟨?_, fun g hg => ?_, fun g hg => ?_, fun c' hc' => ?_, fun g c' hg hc' => ?_⟩
          · rw [up_j _ _ _ (by omega)]; exact g1
          · rw [up_j _ _ _ (by omega)]; exact g2 g hg
          · rw [up_j _ _ _ (by omega)]; exact g3 g hg
          · show _ = (if c' = c then wP w c ||| ((1 : Int32) <<< (nI r &&& 31)) else wP w c')
            by_cases e : c' = c
            · subst e; rw [if_pos rfl, up_e]
            · rw [if_neg e, up_j _ _ _ (by omega)]; exact g4 c' hc'
          · rw [up_j _ _ _ (by omega)]; exact g5 g c' hg hc'
        have fC : fsL [(213, none)] (m_up B 213 (1 + c) (wP w c ||| ((1 : Int32) <<< (nI r &&& 31)))) B := fs_up (LX := [(213, none)]) (by decide) (by simp [inL]) (fs_r B)
        have kC : KM (m_up B 213 (1 + c) (wP w c ||| ((1 : Int32) <<< (nI r &&& 31)))) kl := KM_c kB (fun j hj => up_j _ _ _ (by omega))
        refine ⟨nI (n_pst (a_drv w c r)), Z, _, rfl, ?_, hq, p, a_drv w c r, kl, u_add (w, kl) un, RelX_a hq h hz (fs_tr (fs_sub (by decide) fC) (fs_sub (by decide) b2)) (DJ := []) (fs_r J) (by decide) ?_ ⟨hO, hX, hK⟩ (u_O hU ⟨hv, hx, hK⟩) (HC_c a2 (u_O hU ⟨hv, hx, hK⟩).1 (fun q x1 x2 => zk q (by omega))) zW (KC_c a4 (fun q hq => zk q (by omega))) ?_ (HM_c b1 (by rw [fs_k fC (by decide)]) (by rw [fs_k fC (by decide)]) (fs_k fC (by decide))) wC kC⟩
        · unfold F_MD_iron
          rw [isPlace_e ho m1 m6]
          simp only [Option.bind_some]
          rw [if_pos q, if_neg (by decide), post_m m3 hv (by omega) (by omega), hb]
          simp only [Option.bind_some]
          rw [if_pos (show bI false = 0 from rfl), posts_m m3 hv]
          simp only [Option.bind_some]
          rw [if_neg (show ¬ nI (n_pst w) = 24 from fun e => by have := congrArg Int32.toNatClampNeg e; rw [nI_clamp (by omega)] at this; have : n_pst w = 24 := this; omega), eb]
          simp only [Option.bind_some]
          rw [eix, gd_n (by omega) (by decide), gd_n (by omega) (by decide), nI_clamp (by omega), eP]
          simp only [bnd]
          rw [posts_m wC hO]
          rfl
        · refine seed_B h ?_
          rw [fs_k fC (by decide), fs_k b2 (by decide), zk 0 (by omega)]; exact a5
        · rw [zk 30 (by omega)]; exact a1
      · rw [if_neg (show ¬ nI (n_pst w) < 24 from nI_nlt (b := 24) (by omega) (by omega)), show (2 : Int32) = nI 2 from rfl, refuse_c (by decide)]
        refine ⟨-1, _, _, rfl, ?_, href⟩
        unfold F_MD_iron
        rw [isPlace_e ho hmZ htZ]
        simp only [Option.bind_some]
        rw [if_pos q, if_neg (by decide), post_m hwZ hv (by omega) (by omega), hb]
        simp only [Option.bind_some]
        rw [if_pos (show bI false = 0 from rfl), posts_m hwZ hv]
        simp only [Option.bind_some]
        rw [show n_pst w = 24 by omega, if_pos (show nI 24 = 24 from rfl), show (2 : Int32) = nI 2 from rfl, refs_e (by decide)]
        rfl
  · rw [if_neg q, if_pos rfl, show (2 : Int32) = nI 2 from rfl, refuse_c (by decide)]
    refine ⟨-1, _, _, rfl, ?_, href⟩
    unfold F_MD_iron
    rw [isPlace_e ho hmZ htZ]
    simp only [Option.bind_some]
    rw [if_neg q, if_pos rfl, show (2 : Int32) = nI 2 from rfl, refs_e (by decide)]
    rfl
end L82
