/-! tells: the reference -/
section L77
variable {I X : MI} {J JX : MJ} {k o sl sd : Nat} {p : CF} {w : WD} {kl : List NT} {un : List (WD × List NT)}
/-- what is laid out -/
def LO (X : MI) (p : CF) (w : WD) (φ : Nat → Bool) : Prop := X 177 63 = nI (fc φ 31) ∧ (∀ i, i < 31 → X 219 i = bI (φ i)) ∧ (∀ i c r, i < 31 → c < cC p → r < cR p → X 218 (180 * i + 30 * c + r) = (a_own (fun f => wR (a_it p w i) f c) (nI r) (cF p)).1) ∧ CM X p
theorem LO_c {φ : Nat → Bool} {Y : MI} (h : LO X p w φ) (e : ∀ k, k ≠ 220 → Y k = X k) : LO Y p w φ := ⟨by rw [e 177 (by decide)]; exact h.1, fun i hi => by rw [e 219 (by decide)]; exact h.2.1 i hi, fun i c r a b d => by rw [e 218 (by decide)]; exact h.2.2.1 i c r a b d, CM_c h.2.2.2 (fun k hk => e k (by omega))⟩
theorem alike_e (ho : CO p) {φ : Nat → Bool} (h : LO X p w φ) {c r : Nat} (hc : c < cC p) (hr : r < cR p) : ok (F_MD_mostAlike X (nI c) (nI r)) (fun t => t.1 = nI (a_mx p w φ c r 31) ∧ ∀ k, k ≠ 220 → t.2 k = X k) := by
  have hC := ho.1; have hR := ho.2.1
  have z : ok (wl (fun s : Int32 × MI => F_MD_mostAlike_5 s.2 (nI c) (nI r) (0 : Int32) s.1) ((0 : Int32), X)) (fun Y => (∀ k, k < 7 → Y 220 k = 0) ∧ ∀ k, k ≠ 220 → Y k = X k) := by
    refine ok_cnt 7 (fun m Y => (∀ k, k < m → Y 220 k = 0) ∧ ∀ k, k ≠ 220 → Y k = X k) ⟨fun k h => absurd h (by omega), fun _ _ => rfl⟩ ?_ ?_
    · rintro m hm Y ⟨h1, h2⟩
      simp only [F_MD_mostAlike_5]
      refine ok_f (show ¬ (7 : Int32) ≤ nI m from nI_ge (b := 7) hm (by decide)) (ok_gd rfl hm (by decide) (ok_s ⟨nI_s m, fun k hk => ?_, fun k hk => ?_⟩))
      · show m_up Y 220 (nI m).toNatClampNeg 0 220 k = 0
        rw [nI_clamp (by omega)]
        by_cases e : k = m
        · subst e; rw [up_e]
        · rw [up_j _ _ _ e]; exact h1 k (by omega)
      · show m_up Y 220 _ 0 k = _
        rw [up_k _ _ _ hk]; exact h2 k hk
    · rintro Y h
      simp only [F_MD_mostAlike_5]
      exact ok_t (by decide) (ok_s h)
  have loop : ∀ d n (Y : MI), n + d = 31 → (∀ k, k < 7 → Y 220 k = nI (fo φ (fun i => a_k p (a_it p w i) c (nI r)) k n)) → (∀ k, k ≠ 220 → Y k = X k) → ok (wl (fun s : Int32 × Int32 × MI => F_MD_mostAlike_29 s.2.2 (nI c) (nI r) s.1 s.2.1) (nI (a_mx p w φ c r n), nI n, Y)) (fun t => t.1 = nI (a_mx p w φ c r 31) ∧ ∀ k, k ≠ 220 → t.2 k = X k) := by
    intro d
    induction d with
    | zero =>
      intro n Y hn h1 h2
      have hn : n = 31 := by omega
      subst hn
      refine ok_e (x := (nI (a_mx p w φ c r 31), Y)) (wl_in ?_) ⟨rfl, h2⟩
      simp only [F_MD_mostAlike_29]
      rw [if_pos (by decide)]
    | succ d ih =>
      intro n Y hn h1 h2
      obtain ⟨l1, l2, l3, l4⟩ := LO_c h h2
      obtain ⟨k1, k2⟩ := a_k_e ho (a_it p w n) c (nI r)
      have fl := fo_le φ (fun i => a_k p (a_it p w i) c (nI r))
      have fcl := fc_le φ n
      have mxl := mx_N (p := p) (w := w) φ c r n
      have st : ∃ Y', F_MD_mostAlike_29 Y (nI c) (nI r) (nI (a_mx p w φ c r n)) (nI n) = some (.inl (nI (a_mx p w φ c r (n + 1)), nI (n + 1), Y')) ∧ (∀ k, k < 7 → Y' 220 k = nI (fo φ (fun i => a_k p (a_it p w i) c (nI r)) k (n + 1))) ∧ ∀ k, k ≠ 220 → Y' k = X k := by
        unfold F_MD_mostAlike_29
        rw [if_neg (show ¬ (30 : Int32) < nI n from nI_nlt (a := 30) (b := n) (by omega) (by omega)), gd_n (by omega) (by decide), ad_218, nI_clamp (n := n) (by omega), nI_clamp (n := 180 * n + 30 * c + r) (by omega), l2 n (by omega), l3 n c r (by omega) hc hr, k1]
        cases hb : φ n with
        | false =>
          rw [if_pos (show bI false = 0 from rfl)]
          refine ⟨Y, ?_, fun k hk => ?_, h2⟩
          · rw [nI_s]
            have : a_mx p w φ c r (n + 1) = a_mx p w φ c r n := mx_c 7 (fun k _ => by simp only [fo]; rw [hb, if_neg (fun z => by cases z.1)])
            rw [this]
          · simp only [fo]; rw [hb, if_neg (fun z => by cases z.1)]; exact h1 k hk
        | true =>
          have flk := fl (a_k p (a_it p w n) c (nI r)) n
          have eN : a_mx p w φ c r (n + 1) = max (a_mx p w φ c r n) (fo φ (fun i => a_k p (a_it p w i) c (nI r)) (a_k p (a_it p w n) c (nI r)) n + 1) := by
            have := mx_up (fun k => fo φ (fun i => a_k p (a_it p w i) c (nI r)) k n) (k0 := a_k p (a_it p w n) c (nI r)) 7
            rw [if_pos (by omega)] at this
            unfold a_mx
            rw [← this]
            refine mx_c 7 (fun k _ => ?_)
            simp only [fo]
            by_cases e : k = a_k p (a_it p w n) c (nI r)
            · rw [if_pos ⟨hb, e.symm⟩, if_pos e]
            · rw [if_neg (fun z => e z.2.symm), if_neg e]
          have sx : ∀ k, k < 7 → m_up Y 220 (a_k p (a_it p w n) c (nI r)) (nI (fo φ (fun i => a_k p (a_it p w i) c (nI r)) (a_k p (a_it p w n) c (nI r)) n + 1)) 220 k = nI (fo φ (fun i => a_k p (a_it p w i) c (nI r)) k (n + 1)) := by
            intro k hk
            simp only [fo]
            by_cases e : k = a_k p (a_it p w n) c (nI r)
            · subst e; rw [up_e, if_pos ⟨hb, rfl⟩]
            · rw [up_j _ _ _ e, if_neg (fun z => e z.2.symm)]; exact h1 k hk
          rw [if_neg (show ¬ bI true = 0 by decide), gd_n (by omega) (by decide), gd_n (by omega) (by decide), nI_clamp (by omega), h1 _ (by omega), nI_s, nI_s]
          simp only [bnd]
          rw [up_e, gd_n (by omega) (by decide), gd_n (by omega) (by decide)]
          refine ⟨m_up Y 220 (a_k p (a_it p w n) c (nI r)) (nI (fo φ (fun i => a_k p (a_it p w i) c (nI r)) (a_k p (a_it p w n) c (nI r)) n + 1)), ?_, sx, fun k hk => by rw [up_k _ _ _ hk]; exact h2 k hk⟩
          by_cases q : fo φ (fun i => a_k p (a_it p w i) c (nI r)) (a_k p (a_it p w n) c (nI r)) n + 1 ≤ a_mx p w φ c r n
          · rw [if_pos (nI_le q (by omega)), eN, Nat.max_eq_left q]
          · rw [if_neg (nI_ge (by omega) (by omega)), eN, Nat.max_eq_right (by omega), gd_n (by omega) (by decide)]
      obtain ⟨Y', e1, g1, g2⟩ := st
      have e2 : wl (fun s : Int32 × Int32 × MI => F_MD_mostAlike_29 s.2.2 (nI c) (nI r) s.1 s.2.1) (nI (a_mx p w φ c r n), nI n, Y) = wl (fun s : Int32 × Int32 × MI => F_MD_mostAlike_29 s.2.2 (nI c) (nI r) s.1 s.2.1) (nI (a_mx p w φ c r (n + 1)), nI (n + 1), Y') := wl_st e1
      rw [e2]
      exact ih (n + 1) Y' (by omega) g1 g2
  unfold F_MD_mostAlike
  refine ok_b z ?_
  rintro Y ⟨h1, h2⟩
  have e0 : a_mx p w φ c r 0 = 0 := by unfold a_mx; have := mx_le (g := fun k => fo φ (fun i => a_k p (a_it p w i) c (nI r)) k 0) (N := 0) (fun k => Nat.le_refl 0) 7; omega
  have := loop 31 0 Y (by omega) h1 h2
  rw [e0, nI_0] at this
  refine ok_b this ?_
  rintro ⟨t1, t2⟩ ht
  exact ok_s ht
theorem tells_r (ho : CO p) {φ : Nat → Bool} (h : LO X p w φ) {c : Nat} (hc : c < cC p) {s : TS} (hs : TB (fc φ 31) s) (v : Int32) : ok (wl (fun s : Int32 × Int32 × Int32 × Int32 × MI => F_MD_tells_56 s.2.2.2.2 v s.1 s.2.1 s.2.2.1 (nI c) s.2.2.2.1) ((tM s).1, (tM s).2.1, (tM s).2.2, (0 : Int32), X)) (fun t => (t.1, t.2.1, t.2.2.1) = tM (t_r (fun r => a_mx p w φ c r 31) c s (cR p)) ∧ ∀ k, k ≠ 220 → t.2.2.2 k = X k) := by
  have hC := ho.1; have hR := ho.2.1
  have fcl := fc_le φ 31
  have loop : ∀ d n (Y : MI), n + d = cR p → (∀ k, k ≠ 220 → Y k = X k) → ok (wl (fun s : Int32 × Int32 × Int32 × Int32 × MI => F_MD_tells_56 s.2.2.2.2 v s.1 s.2.1 s.2.2.1 (nI c) s.2.2.2.1) ((tM (t_r (fun r => a_mx p w φ c r 31) c s n)).1, (tM (t_r (fun r => a_mx p w φ c r 31) c s n)).2.1, (tM (t_r (fun r => a_mx p w φ c r 31) c s n)).2.2, nI n, Y)) (fun t => (t.1, t.2.1, t.2.2.1) = tM (t_r (fun r => a_mx p w φ c r 31) c s (cR p)) ∧ ∀ k, k ≠ 220 → t.2.2.2 k = X k) := by
    intro d
    induction d with
    | zero =>
      intro n Y hn hY
      have hn : n = cR p := by omega
      subst hn
      refine ok_e (x := ((tM (t_r (fun r => a_mx p w φ c r 31) c s (cR p))).1, (tM (t_r (fun r => a_mx p w φ c r 31) c s (cR p))).2.1, (tM (t_r (fun r => a_mx p w φ c r 31) c s (cR p))).2.2, Y)) (wl_in ?_) ⟨rfl, hY⟩
      simp only [F_MD_tells_56]
      rw [(LO_c h hY).2.2.2.2.1, if_pos (Int32.le_refl _)]
    | succ d ih =>
      intro n Y hn hY
      have hB := TB_r hs (show c < 6 by omega) (fun r => mx_N (p := p) (w := w) φ c r 31) n
      obtain ⟨⟨t1, Z⟩, ez, z1, z2⟩ := alike_e ho (LO_c h hY) hc (r := n) (by omega)
      have z1 : t1 = nI (a_mx p w φ c n 31) := z1
      have z2 : ∀ k, k ≠ 220 → Z k = Y k := z2
      have hm := mx_N (p := p) (w := w) φ c n 31
      subst z1
      have st : F_MD_tells_56 Y v (tM (t_r (fun r => a_mx p w φ c r 31) c s n)).1 (tM (t_r (fun r => a_mx p w φ c r 31) c s n)).2.1 (tM (t_r (fun r => a_mx p w φ c r 31) c s n)).2.2 (nI c) (nI n) = some (.inl ((tM (t_r (fun r => a_mx p w φ c r 31) c s (n + 1))).1, (tM (t_r (fun r => a_mx p w φ c r 31) c s (n + 1))).2.1, (tM (t_r (fun r => a_mx p w φ c r 31) c s (n + 1))).2.2, nI (n + 1), Z)) := by
        unfold F_MD_tells_56
        rw [(LO_c h hY).2.2.2.2.1, if_neg (nI_ge (by omega) (by omega)), ez]
        simp only [Option.bind_some, nI_s, t_r]
        cases e : t_r (fun r => a_mx p w φ c r 31) c s n with
        | none => rfl
        | some t =>
          obtain ⟨b1, b2⟩ := hB t e
          rw [if_neg (show ¬ (tM (some t)).1 = -1 from fun e => by have e : nI t.1 = -1 := e; have := nI_pos' (n := t.1) (by omega); rw [e] at this; exact absurd this (by decide))]
          by_cases q : t.2.2 ≤ a_mx p w φ c n 31
          · rw [if_neg (show ¬ nI (a_mx p w φ c n 31) < (tM (some t)).2.2 from nI_nlt q (by omega)), show t_st (some t) c n (a_mx p w φ c n 31) = some t from if_pos q]
          · rw [if_pos (show nI (a_mx p w φ c n 31) < (tM (some t)).2.2 from nI_lt (by omega) (by omega)), show t_st (some t) c n (a_mx p w φ c n 31) = some (c, n, a_mx p w φ c n 31) from if_neg q]
            rfl
      have e2 : wl (fun s : Int32 × Int32 × Int32 × Int32 × MI => F_MD_tells_56 s.2.2.2.2 v s.1 s.2.1 s.2.2.1 (nI c) s.2.2.2.1) ((tM (t_r (fun r => a_mx p w φ c r 31) c s n)).1, (tM (t_r (fun r => a_mx p w φ c r 31) c s n)).2.1, (tM (t_r (fun r => a_mx p w φ c r 31) c s n)).2.2, nI n, Y) = wl (fun s : Int32 × Int32 × Int32 × Int32 × MI => F_MD_tells_56 s.2.2.2.2 v s.1 s.2.1 s.2.2.1 (nI c) s.2.2.2.1) ((tM (t_r (fun r => a_mx p w φ c r 31) c s (n + 1))).1, (tM (t_r (fun r => a_mx p w φ c r 31) c s (n + 1))).2.1, (tM (t_r (fun r => a_mx p w φ c r 31) c s (n + 1))).2.2, nI (n + 1), Z) := wl_st st
      rw [e2]
      exact ih (n + 1) Z (by omega) (fun k hk => (z2 k hk).trans (hY k hk))
  exact loop (cR p) 0 X (by omega) (fun _ _ => rfl)
theorem tells_c (ho : CO p) {φ : Nat → Bool} (h : LO X p w φ) (v : Int32) : ok (wl (fun s : Int32 × Int32 × Int32 × Int32 × MI => F_MD_tells_35 s.2.2.2.2 v s.1 s.2.1 s.2.2.1 s.2.2.2.1) (((-1) : Int32), ((-1) : Int32), (0 : Int32), (0 : Int32), X)) (fun t => (t.1, t.2.1, t.2.2.1) = tM (if fc φ 31 = 0 then none else t_c (fun c r => a_mx p w φ c r 31) (cR p) (cC p)) ∧ ∀ k, k ≠ 220 → t.2.2.2 k = X k) := by
  have hC := ho.1; have hR := ho.2.1
  have fcl := fc_le φ 31
  by_cases q : fc φ 31 = 0
  · rw [if_pos q]
    refine ok_e (x := (-1, -1, 0, X)) (wl_in ?_) ⟨rfl, fun _ _ => rfl⟩
    simp only [F_MD_tells_35]
    rw [h.1, q]
    split
    · rfl
    · rw [if_pos (by decide)]
  rw [if_neg q]
  have loop : ∀ d n (Y : MI), n + d = cC p → (∀ k, k ≠ 220 → Y k = X k) → ok (wl (fun s : Int32 × Int32 × Int32 × Int32 × MI => F_MD_tells_35 s.2.2.2.2 v s.1 s.2.1 s.2.2.1 s.2.2.2.1) ((tM (t_c (fun c r => a_mx p w φ c r 31) (cR p) n)).1, (tM (t_c (fun c r => a_mx p w φ c r 31) (cR p) n)).2.1, (tM (t_c (fun c r => a_mx p w φ c r 31) (cR p) n)).2.2, nI n, Y)) (fun t => (t.1, t.2.1, t.2.2.1) = tM (t_c (fun c r => a_mx p w φ c r 31) (cR p) (cC p)) ∧ ∀ k, k ≠ 220 → t.2.2.2 k = X k) := by
    intro d
    induction d with
    | zero =>
      intro n Y hn hY
      have hn : n = cC p := by omega
      subst hn
      refine ok_e (x := ((tM (t_c (fun c r => a_mx p w φ c r 31) (cR p) (cC p))).1, (tM (t_c (fun c r => a_mx p w φ c r 31) (cR p) (cC p))).2.1, (tM (t_c (fun c r => a_mx p w φ c r 31) (cR p) (cC p))).2.2, Y)) (wl_in ?_) ⟨rfl, hY⟩
      simp only [F_MD_tells_35]
      rw [(LO_c h hY).2.2.2.1, if_pos (Int32.le_refl _)]
    | succ d ih =>
      intro n Y hn hY
      obtain ⟨⟨t1, t2, t3, Z⟩, ez, z1, z2⟩ := tells_r ho (LO_c h hY) (c := n) (by omega) (TB_c (fun c r => mx_N (p := p) (w := w) φ c r 31) (R := cR p) n (by omega)) v
      have z1 : (t1, t2, t3) = tM (t_c (fun c r => a_mx p w φ c r 31) (cR p) (n + 1)) := z1
      have z2 : ∀ k, k ≠ 220 → Z k = Y k := z2
      have st : F_MD_tells_35 Y v (tM (t_c (fun c r => a_mx p w φ c r 31) (cR p) n)).1 (tM (t_c (fun c r => a_mx p w φ c r 31) (cR p) n)).2.1 (tM (t_c (fun c r => a_mx p w φ c r 31) (cR p) n)).2.2 (nI n) = some (.inl ((tM (t_c (fun c r => a_mx p w φ c r 31) (cR p) (n + 1))).1, (tM (t_c (fun c r => a_mx p w φ c r 31) (cR p) (n + 1))).2.1, (tM (t_c (fun c r => a_mx p w φ c r 31) (cR p) (n + 1))).2.2, nI (n + 1), Z)) := by
        unfold F_MD_tells_35
        rw [(LO_c h hY).2.2.2.1, if_neg (nI_ge (by omega) (by omega)), (LO_c h hY).1, if_neg (show ¬ nI (fc φ 31) ≤ 0 from nI_ge (a := 0) (by omega) (by omega)), ez]
        simp only [Option.bind_some, nI_s]
        rw [← z1]
      have e2 : wl (fun s : Int32 × Int32 × Int32 × Int32 × MI => F_MD_tells_35 s.2.2.2.2 v s.1 s.2.1 s.2.2.1 s.2.2.2.1) ((tM (t_c (fun c r => a_mx p w φ c r 31) (cR p) n)).1, (tM (t_c (fun c r => a_mx p w φ c r 31) (cR p) n)).2.1, (tM (t_c (fun c r => a_mx p w φ c r 31) (cR p) n)).2.2, nI n, Y) = wl (fun s : Int32 × Int32 × Int32 × Int32 × MI => F_MD_tells_35 s.2.2.2.2 v s.1 s.2.1 s.2.2.1 s.2.2.2.1) ((tM (t_c (fun c r => a_mx p w φ c r 31) (cR p) (n + 1))).1, (tM (t_c (fun c r => a_mx p w φ c r 31) (cR p) (n + 1))).2.1, (tM (t_c (fun c r => a_mx p w φ c r 31) (cR p) (n + 1))).2.2, nI (n + 1), Z) := wl_st st
      rw [e2]
      exact ih (n + 1) Z (by omega) (fun k hk => (z2 k hk).trans (hY k hk))
  exact loop (cC p) 0 X (by omega) (fun _ _ => rfl)
end L77
