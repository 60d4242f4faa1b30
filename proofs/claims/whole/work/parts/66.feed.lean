/-! feed, end, seed -/
theorem by_lo (x : Int32) {i : Nat} (h : i < 8) : bt x.toInt8.toInt32 i = bt x i := by
  unfold bt
  show ((x.toBitVec.signExtend 8).signExtend 32).getLsbD i = _
  rw [BitVec.getLsbD_signExtend, BitVec.getLsbD_signExtend]
  simp [h, show i < 32 by omega]
theorem by_nar (x : Int32) : vp_nar .byte x.toInt8.toInt32 &&& 255 = x &&& 255 := by
  rw [vp_nar_byte]
  apply b_ext
  intro i hi
  rw [b_and, b_and, b_255]
  by_cases h : i < 8
  · rw [by_lo _ h, by_lo _ h]
  · simp [h]
theorem and_255 (x : Int32) : ∃ m, m < 256 ∧ x &&& 255 = nI m := by
  have e : x = nI x.toBitVec.toNat := by
    apply Int32.toBitVec_inj.1
    show x.toBitVec = BitVec.ofNat 32 x.toBitVec.toNat
    simp
  refine ⟨x.toBitVec.toNat % 256, Nat.mod_lt _ (by omega), ?_⟩
  have e255 : (255 : Int32) = nI 255 := rfl
  rw [e255]
  conv => lhs; rw [e]
  rw [nx_and, show (255 : Nat) = 2 ^ 8 - 1 from rfl, Nat.and_two_pow_sub_one_eq_mod]
section F66
variable {I X : MI} {J JX : MJ} {sl sd : Nat} {p : CF} {w : WD} {kl : List NT} {un : List (WD × List NT)}
theorem app1 {m s : Nat} (hm : m < 1600) (hs : s < 2 ^ 31) (hz : X 1 1 = nI m) (v : Int32) : ∃ Z, F_Tape_append_3 X v (nI s) = some (.inl (nI s + (-8), Z)) ∧ Z 1 1 = nI (m + 1) ∧ Z 2 m &&& 255 = (v >>> (nI s &&& 31)) &&& 255 ∧ (∀ j, j < m → Z 2 j = X 2 j) ∧ fsL [(1, some 1), (2, none)] Z X := by
  have hL : subL [(1, some 1), (2, none)] [(1, some 1), (2, none)] = true := by decide
  refine ⟨m_up (m_up X 2 m (vp_nar .byte ((v >>> (nI s &&& 31)).toInt8.toInt32))) 1 1 (nI (m + 1)), ?_, up_e _ _ _ _, ?_, fun j hj => ?_, fs_up hL rfl (fs_up hL rfl (fs_r X))⟩
  · unfold F_Tape_append_3
    rw [if_neg (nI_pos hs), hz, if_neg (show ¬ (1600 : Int32) ≤ nI m from nI_ge (b := 1600) hm (by decide)), gd_n hm (by decide), nI_clamp (by omega), nI_s]
    rfl
  · rw [up_k _ _ _ (by decide), up_e]; exact by_nar _
  · rw [up_k _ _ _ (by decide), up_j _ _ _ (by omega)]
/-- four bytes are put at the tape's end -/
theorem append_c {n : Nat} (hn : n + 4 ≤ 1600) (h : X 1 1 = nI n) (v : Int32) : ok (F_Tape_append X v) (fun Y => Y 1 1 = nI (n + 4) ∧ (∀ i, i < 4 → Y 2 (n + i) &&& 255 = (v >>> (nI (24 - 8 * i) &&& 31)) &&& 255) ∧ (∀ j, j < n → Y 2 j = X 2 j) ∧ fsL [(1, some 1), (2, none)] Y X) := by
  unfold F_Tape_append
  have e0 : nI 24 + (-8) = nI 16 := by decide
  have e1 : nI 16 + (-8) = nI 8 := by decide
  have e2 : nI 8 + (-8) = nI 0 := by decide
  obtain ⟨A, a0, a1, a2, a3, a4⟩ := app1 (m := n) (s := 24) (by omega) (by decide) h v
  obtain ⟨B, b0, b1, b2, b3, b4⟩ := app1 (m := n + 1) (s := 16) (by omega) (by decide) a1 v
  obtain ⟨C, c0, c1, c2, c3, c4⟩ := app1 (m := n + 1 + 1) (s := 8) (by omega) (by decide) b1 v
  obtain ⟨D, d0, d1, d2, d3, d4⟩ := app1 (m := n + 1 + 1 + 1) (s := 0) (by omega) (by decide) c1 v
  rw [e0] at a0
  rw [e1] at b0
  rw [e2] at c0
  have fin : F_Tape_append_3 D v (nI 0 + (-8)) = some (.inr D) := by
    unfold F_Tape_append_3
    rw [if_pos (by decide)]
  have run : wl (fun s : Int32 × MI => F_Tape_append_3 s.2 v s.1) ((24 : Int32), X) = some D := by
    have s1 : wl (fun s : Int32 × MI => F_Tape_append_3 s.2 v s.1) (nI 24, X) = wl (fun s : Int32 × MI => F_Tape_append_3 s.2 v s.1) (nI 16, A) := wl_st a0
    have s2 : wl (fun s : Int32 × MI => F_Tape_append_3 s.2 v s.1) (nI 16, A) = wl (fun s : Int32 × MI => F_Tape_append_3 s.2 v s.1) (nI 8, B) := wl_st b0
    have s3 : wl (fun s : Int32 × MI => F_Tape_append_3 s.2 v s.1) (nI 8, B) = wl (fun s : Int32 × MI => F_Tape_append_3 s.2 v s.1) (nI 0, C) := wl_st c0
    have s4 : wl (fun s : Int32 × MI => F_Tape_append_3 s.2 v s.1) (nI 0, C) = wl (fun s : Int32 × MI => F_Tape_append_3 s.2 v s.1) (nI 0 + (-8), D) := wl_st d0
    have s5 : wl (fun s : Int32 × MI => F_Tape_append_3 s.2 v s.1) (nI 0 + (-8), D) = some D := wl_in fin
    exact s1.trans (s2.trans (s3.trans (s4.trans s5)))
  refine ok_be run (ok_s ⟨d1, fun i hi => ?_, fun j hj => ?_, fs_tr d4 (fs_tr c4 (fs_tr b4 a4))⟩)
  · rcases (by omega : i = 0 ∨ i = 1 ∨ i = 2 ∨ i = 3) with z | z | z | z <;> subst z
    · rw [d3 _ (by omega), c3 _ (by omega), b3 _ (by omega)]; exact a2
    · rw [d3 _ (by omega), c3 _ (by omega)]; exact b2
    · rw [d3 _ (by omega)]; exact c2
    · exact d2
  · rw [d3 _ (by omega), c3 _ (by omega), b3 _ (by omega), a3 _ (by omega)]
def wd5 (a b c d e : Int32) (q : Nat) : Int32 := if q = 0 then a else if q = 1 then b else if q = 2 then c else if q = 3 then d else e
def by5 (a b c d e : Int32) (j : Nat) : Int32 := (wd5 a b c d e (j / 4) >>> (nI (24 - 8 * (j % 4)) &&& 31)) &&& 255
theorem feed_m {n : Nat} (hn : n + 20 ≤ 1600) (h : X 177 1 = nI n) (a b c d e : Int32) : ok (wl (fun s : Int32 × MI => F_MD_feed_28 s.2 a b c d e s.1) ((0 : Int32), X)) (fun Y => Y 177 1 = nI (n + 20) ∧ (∀ j, j < 20 → Y 178 (n + j) = by5 a b c d e j) ∧ ∀ j, j < n → Y 178 j = X 178 j) := by
  refine ok_cnt (σ := MI) 20 (fun m Y => Y 177 1 = nI (n + m) ∧ (∀ j, j < m → Y 178 (n + j) = by5 a b c d e j) ∧ ∀ j, j < n → Y 178 j = X 178 j) ⟨h, fun j hj => by omega, fun _ _ => rfl⟩ ?_ ?_
  · rintro m hm Y ⟨h1, h2, h3⟩
    have body : ok (F_MD_feed_81 Y a b c d e (nI m) (wd5 a b c d e (m / 4))) (Sum.elim (fun q => q.1 = nI (m + 1) ∧ q.2 177 1 = nI (n + (m + 1)) ∧ (∀ j, j < m + 1 → q.2 178 (n + j) = by5 a b c d e j) ∧ ∀ j, j < n → q.2 178 j = X 178 j) (fun _ => False)) := by
      unfold F_MD_feed_81
      rw [h1, gd_n (by omega) (by decide), nI_clamp (by omega), nI_s]
      have e4 : m_rem (nI m) (4 : Int32) = nI (m % 4) := rem_n (b := 4) (by omega) (by decide) (by decide)
      have e8 : (8 : Int32) * ((3 : Int32) - nI (m % 4)) = nI (24 - 8 * (m % 4)) := by
        have : (3 : Int32) - nI (m % 4) = nI (3 - m % 4) := nI_subN (a := 3) (by omega)
        rw [this]
        have : (8 : Int32) * nI (3 - m % 4) = nI (8 * (3 - m % 4)) := by
          simp only [nI, ← Int32.ofNat_mul, show (8 : Int32) = Int32.ofNat 8 from rfl]
        rw [this]
        congr 1
        omega
      rw [e4, e8]
      refine ok_bnd (ok_s ⟨nI_s m, ?_, fun j hj => ?_, fun j hj => ?_⟩)
      · show m_up (m_up Y 178 (n + m) ((wd5 a b c d e (m / 4) >>> (nI (24 - 8 * (m % 4)) &&& 31)) &&& 255)) 177 1 (nI (n + m + 1)) 177 1 = _
        rw [up_e]; rfl
      · show m_up (m_up Y 178 (n + m) ((wd5 a b c d e (m / 4) >>> (nI (24 - 8 * (m % 4)) &&& 31)) &&& 255)) 177 1 (nI (n + m + 1)) 178 (n + j) = _
        rw [up_k _ _ _ (by decide)]
        by_cases q : j = m
        · rw [q, up_e]; rfl
        · rw [up_j _ _ _ (by omega)]; exact h2 j (by omega)
      · show m_up (m_up Y 178 (n + m) ((wd5 a b c d e (m / 4) >>> (nI (24 - 8 * (m % 4)) &&& 31)) &&& 255)) 177 1 (nI (n + m + 1)) 178 j = _
        rw [up_k _ _ _ (by decide), up_j _ _ _ (by omega)]; exact h3 j hj
    simp only [F_MD_feed_28]
    rw [if_neg (show ¬ (20 : Int32) ≤ nI m from nI_ge (b := 20) hm (by decide))]
    unfold wd5 at body
    by_cases c1 : m < 4
    · rw [if_pos (by omega)] at body
      rw [if_neg (show ¬ (4 : Int32) ≤ nI m from nI_ge (b := 4) c1 (by decide))]; exact body
    · rw [if_neg (show ¬ m / 4 = 0 by omega)] at body
      rw [if_pos (show (4 : Int32) ≤ nI m from nI_le (a := 4) (by omega) (by omega))]
      by_cases c2 : m < 8
      · rw [if_pos (by omega)] at body
        rw [if_neg (show ¬ (8 : Int32) ≤ nI m from nI_ge (b := 8) c2 (by decide))]; exact body
      · rw [if_neg (show ¬ m / 4 = 1 by omega)] at body
        rw [if_pos (show (8 : Int32) ≤ nI m from nI_le (a := 8) (by omega) (by omega))]
        by_cases c3 : m < 12
        · rw [if_pos (by omega)] at body
          rw [if_neg (show ¬ (12 : Int32) ≤ nI m from nI_ge (b := 12) c3 (by decide))]; exact body
        · rw [if_neg (show ¬ m / 4 = 2 by omega)] at body
          rw [if_pos (show (12 : Int32) ≤ nI m from nI_le (a := 12) (by omega) (by omega))]
          by_cases c4 : m < 16
          · rw [if_pos (by omega)] at body
            rw [if_neg (show ¬ (16 : Int32) ≤ nI m from nI_ge (b := 16) c4 (by decide))]; exact body
          · rw [if_neg (show ¬ m / 4 = 3 by omega)] at body
            rw [if_pos (show (16 : Int32) ≤ nI m from nI_le (a := 16) (by omega) (by omega))]; exact body
  · rintro Y ⟨h1, h2, h3⟩
    simp only [F_MD_feed_28]
    rw [if_pos (show (20 : Int32) ≤ nI 20 by decide)]
    exact ok_s ⟨h1, h2, h3⟩
/-- both refuse -/
theorem Rel_ref (h : Rel I J sl) {k : Nat} (hk : k < 6) : Rel (m_up (m_up I 176 k (I 176 k + 1)) 179 k (I 179 k + 1)) J sl := by
  obtain ⟨hq, p, w, kl, un, ⟨h1, h2, h3, h4, h5⟩, ⟨h6, h7, h8, h9⟩, h10, h11, h12⟩ := h
  have hL : subL [(176, none), (179, none)] [(176, none), (179, none)] = true := by decide
  have hx : fsL [(176, none), (179, none)] (m_up (m_up I 176 k (I 176 k + 1)) 179 k (I 179 k + 1)) I := fs_up hL rfl (fs_up hL rfl (fs_r I))
  refine ⟨hq, p, w, kl, un, ⟨gTape_c (ag_of (by decide) hx) h1, gFault_c (ag_of (by decide) hx) h2, fun j hj => ?_, gImg_c (ag_of (by decide) hx) h4, gSeed_c (ag_of (by decide) hx) rfl h5⟩, ⟨gSeen_c (ag_of (by decide) hx) h6, gSlope_c hq (ag_of (by decide) hx) rfl h7, gNow_c (ag_of (by decide) hx) h8, gHist_c (ag_of (by decide +kernel) hx) h9⟩, gIron_c (ag_of (by decide) hx) h10, ?_, gWord_c (ag_of (by decide +kernel) hx) h12⟩
  · rw [up_k _ _ _ (by decide)]
    by_cases e : j = k
    · rw [e, up_e, up_e, h3 k hk]
    · rw [up_j _ _ _ e, up_j _ _ _ e, up_k _ _ _ (by decide)]; exact h3 j hj
  · rw [up_k _ _ _ (by decide), up_k _ _ _ (by decide)]; exact h11
theorem refuse_c {k : Nat} (hk : k < 6) : F_WF_refuse sl sd I (nI k) = some (-1, m_up I 176 k (I 176 k + 1)) := by
  unfold F_WF_refuse
  rw [if_neg (nI_pos (by omega)), if_neg (show ¬ (6 : Int32) ≤ nI k from nI_ge (b := 6) hk (by decide)), gd_n hk (by decide), gd_n hk (by decide), nI_clamp (by omega)]
/-- end -/
theorem op_end (h : Rel I J sl) (v : Int32) : ∃ a I1 I2, F_WF_end sl sd I v = some (a, I1) ∧ F_MD_end I1 v = some (a, I2) ∧ Rel I2 J sl := by
  have href := Rel_ref h (k := 0) (by decide)
  obtain ⟨hq, p, w, kl, un, ⟨h1, h2, h3, h4, h5⟩, ⟨h6, h7, h8, h9⟩, h10, h11, h12⟩ := id h
  obtain ⟨n, tb, t1, t2, t3, t4⟩ := h1
  have no : F_WF_refuse sl sd I 0 = some (-1, m_up I 176 0 (I 176 0 + 1)) := refuse_c (k := 0) (by decide)
  have nom : F_MD_end_12 (m_up I 176 0 (I 176 0 + 1)) = some (0, m_up (m_up I 176 0 (I 176 0 + 1)) 179 0 (I 179 0 + 1)) := by unfold F_MD_end_12; rw [up_k _ _ _ (by decide)]
  unfold F_WF_end F_MD_end
  by_cases c0 : v < 0
  · refine ⟨0, m_up I 176 0 (I 176 0 + 1), m_up (m_up I 176 0 (I 176 0 + 1)) 179 0 (I 179 0 + 1), by rw [if_pos c0, no]; rfl, by rw [if_pos c0]; exact nom, href⟩
  by_cases c1 : v ≤ nI n
  · obtain ⟨m, hm, rfl⟩ := nI_of2 (M := nI n) (n := n) (nI_toInt (by omega)) c0 c1
    have hL : subL [(1, some 1), (177, some 1)] [(1, some 1), (177, some 1)] = true := by decide
    have hx : fsL [(1, some 1), (177, some 1)] (m_up (m_up I 1 1 (nI m)) 177 1 (nI m)) I := fs_up hL rfl (fs_up hL rfl (fs_r I))
    refine ⟨1, m_up I 1 1 (nI m), m_up (m_up I 1 1 (nI m)) 177 1 (nI m), by rw [if_neg c0, t2, if_pos c1], by rw [if_neg c0, up_k _ _ _ (by decide), t3, if_pos c1], hq, p, w, kl, un, ⟨⟨m, tb, by omega, ?_, up_e _ _ _ _, fun j hj => ?_⟩, gFault_c (ag_of (by decide) hx) h2, gRef_c (ag_of (by decide) hx) h3, gImg_c (ag_of (by decide) hx) h4, gSeed_c (ag_of (by decide) hx) rfl h5⟩, ⟨gSeen_c (ag_of (by decide) hx) h6, gSlope_c hq (ag_of (by decide) hx) rfl h7, gNow_c (ag_of (by decide) hx) h8, gHist_c (ag_of (by decide +kernel) hx) h9⟩, gIron_c (ag_of (by decide) hx) h10, ?_, gWord_c (ag_of (by decide +kernel) hx) h12⟩
    · rw [up_k _ _ _ (by decide), up_e]
    · rw [up_k _ _ _ (by decide), up_k _ _ _ (by decide), up_k _ _ _ (by decide), up_k _ _ _ (by decide)]; exact t4 j (by omega)
    · rw [up_j _ _ _ (by decide), up_k _ _ _ (by decide)]; exact h11
  · refine ⟨0, m_up I 176 0 (I 176 0 + 1), m_up (m_up I 176 0 (I 176 0 + 1)) 179 0 (I 179 0 + 1), by rw [if_neg c0, t2, if_neg c1, no]; rfl, by rw [if_neg c0, up_k _ _ _ (by decide), t3, if_neg c1]; exact nom, href⟩
/-- seed -/
theorem op_seed (h : Rel I J sl) (v : Int32) : ∃ a I1 I2 J2, F_WF_seed sl sd I v = some (a, I1) ∧ F_MD_seed I1 J v = some (a, I2, J2) ∧ Rel I2 J2 sl := by
  have href := Rel_ref h (k := 5) (by decide)
  obtain ⟨hq, p, w, kl, un, ⟨h1, h2, h3, h4, h5⟩, ⟨h6, h7, h8, h9⟩, h10, h11, h12⟩ := id h
  have no : F_WF_refuse sl sd I 5 = some (-1, m_up I 176 5 (I 176 5 + 1)) := refuse_c (k := 5) (by decide)
  unfold F_WF_seed F_MD_seed
  by_cases c0 : 0 ≤ v
  · obtain ⟨s, hs, rfl⟩ := nI_of (x := v) (by grind)
    have hL : subL [(0, some 12)] [(0, some 12)] = true := by decide
    have hx : fsL [(0, some 12)] (m_up I 0 12 (nI s)) I := fs_up hL rfl (fs_r I)
    refine ⟨1, m_up I 0 12 (nI s), _, _, by rw [if_pos c0], by rw [if_pos c0], hq, p, w, kl, un, ⟨gTape_c (ag_of (by decide) hx) h1, gFault_c (ag_of (by decide) hx) h2, gRef_c (ag_of (by decide) hx) h3, gImg_c (ag_of (by decide) hx) h4, ⟨s, hs, up_e _ _ _ _, ?_⟩⟩, ⟨gSeen_c (ag_of (by decide) hx) h6, gSlope_c hq (ag_of (by decide) hx) (up_k _ _ _ (by decide)) h7, gNow_c (ag_of (by decide) hx) h8, gHist_c (ag_of (by decide +kernel) hx) h9⟩, gIron_c (ag_of (by decide) hx) h10, ?_, gWord_c (ag_of (by decide +kernel) hx) h12⟩
    · rw [up_e]; exact nI_l hs
    · rw [up_k _ _ _ (by decide)]; exact h11
  · refine ⟨0, m_up I 176 5 (I 176 5 + 1), m_up (m_up I 176 5 (I 176 5 + 1)) 179 5 (I 179 5 + 1), J, by rw [if_neg c0, no]; rfl, by rw [if_neg c0, up_k _ _ _ (by decide)], href⟩
theorem by_by (x : Int8) : x.toInt32.toInt8.toInt32 = x.toInt32 := by simp
theorem gB_up (h : gByte X) (k : Nat) (y : Int8) (z : Int32) : gByte (m_up (m_up X 2 k (vp_nar .byte y.toInt32)) 1 1 z) := by
  intro j
  rw [up_k _ _ _ (by decide)]
  by_cases e : j = k
  · subst e
    rw [up_e, vp_nar_byte]
    exact by_by _
  · rw [up_j _ _ _ e]; exact h j
theorem append_b (X : MI) (v : Int32) : pc (F_Tape_append X v) (fun Y => gByte X → gByte Y) := by
  intro Y hY hX
  unfold F_Tape_append at hY
  have g : pc (wl (fun s : Int32 × MI => F_Tape_append_3 s.2 v s.1) ((24 : Int32), X)) (fun Y => gByte Y) := pc_wl (fun s : Int32 × MI => gByte s.2) (fun s hs => by
    unfold F_Tape_append_3
    exact pc_if (pc_s hs) (pc_if (pc_s hs) (pc_gd (pc_bnd (pc_s (gB_up hs ((s.2 1 1).toNatClampNeg) ((v >>> (s.1 &&& 31)).toInt8) ((s.2 1 1) + 1))))))) hX
  obtain ⟨t, e1, e2⟩ := bnd_o hY
  cases e2
  exact g _ e1
/-- feed -/
theorem op_feed (h : Rel I J sl) (a b c d e : Int32) : ∃ r I1 I2, F_WF_feed sl sd I a b c d e = some (r, I1) ∧ F_MD_feed I1 a b c d e = some (r, I2) ∧ Rel I2 J sl := by
  have href := Rel_ref h (k := 0) (by decide)
  obtain ⟨hq, p, w, kl, un, ⟨h1, h2, h3, h4, h5⟩, ⟨h6, h7, h8, h9⟩, h10, h11, h12⟩ := id h
  obtain ⟨n, tb, t1, t2, t3, t4⟩ := h1
  have no : F_WF_refuse sl sd I 0 = some (-1, m_up I 176 0 (I 176 0 + 1)) := refuse_c (k := 0) (by decide)
  have e20 : nI n + 20 = nI (n + 20) := nI_add n 20
  unfold F_WF_feed F_MD_feed
  by_cases c0 : n + 20 ≤ 1600
  · have le : nI (n + 20) ≤ (1600 : Int32) := nI_le (b := 1600) c0 (by decide)
    obtain ⟨A, ea, a1, a2, a3, a4⟩ := append_c (X := I) (n := n) (by omega) t2 a
    obtain ⟨B, eb, b1, b2, b3, b4⟩ := append_c (X := A) (n := n + 4) (by omega) a1 b
    obtain ⟨C, ec, c1, c2, c3, c4⟩ := append_c (X := B) (n := n + 4 + 4) (by omega) b1 c
    obtain ⟨D, ed, d1, d2, d3, d4⟩ := append_c (X := C) (n := n + 4 + 4 + 4) (by omega) c1 d
    obtain ⟨E, ee, e1, e2, e3, e4⟩ := append_c (X := D) (n := n + 4 + 4 + 4 + 4) (by omega) d1 e
    have fE : fsL [(1, some 1), (2, none)] E I := fs_tr e4 (fs_tr d4 (fs_tr c4 (fs_tr b4 a4)))
    have hE : E 177 1 = nI n := by rw [fE 177 1 (by decide)]; exact t3
    obtain ⟨⟨Y, ey, y1, y2, y3⟩, yq⟩ : (∃ Y, wl (fun s : Int32 × MI => F_MD_feed_28 s.2 a b c d e s.1) ((0 : Int32), E) = some Y ∧ Y 177 1 = nI (n + 20) ∧ (∀ j, j < 20 → Y 178 (n + j) = by5 a b c d e j) ∧ ∀ j, j < n → Y 178 j = E 178 j) ∧ True := ⟨feed_m (X := E) c0 hE a b c d e, trivial⟩
    have fY : fsL L_MD_feed Y E := by
      have := q_MD_feed (L := L_MD_feed) (LJ := K_MD_feed) (I0 := E) (J0 := J) (I := E) (v1 := a) (v2 := b) (v3 := c) (v4 := d) (v5 := e) (by decide) (by decide) (fs_r E) (Y 177 1, Y) (by
        unfold F_MD_feed
        rw [hE, e20, if_pos le, ey]; rfl)
      exact this
    have hx : fsL [(1, some 1), (2, none), (177, some 1), (178, none), (179, none)] Y I := fs_tr (fs_sub (by decide) fY) (fs_sub (by decide) fE)
    have cY : ∀ k, k = 1 ∨ k = 2 → Y k = E k := fun k hk => funext fun j => fY k j (by rcases hk with z | z <;> subst z <;> rfl)
    have hx2 : fsL [(1, some 1), (2, none), (177, some 1), (178, none)] Y I := by
      have f2 : fsL [(177, some 1), (178, none)] Y E := by
        have g : pc (wl (fun s : Int32 × MI => F_MD_feed_28 s.2 a b c d e s.1) ((0 : Int32), E)) (fun Y => fsL [(177, some 1), (178, none)] Y E) := pc_wl (fun s : Int32 × MI => fsL [(177, some 1), (178, none)] s.2 E) (fun s hs => q_MD_feed_28 (L := [(177, some 1), (178, none)]) (LJ := []) (I0 := E) (J0 := J) (by decide) (by decide) hs) (fs_r E)
        exact g Y ey
      exact fs_tr (fs_sub (by decide) f2) (fs_sub (by decide) fE)
    refine ⟨nI (n + 20), E, Y, ?_, ?_, hq, p, w, kl, un, ⟨⟨n + 20, fun j => if j < n then tb j else (by5 a b c d e (j - n)).toNatClampNeg, c0, ?_, y1, fun j hj => ?_⟩, gFault_c (ag_of (by decide) hx2) h2, gRef_c (ag_of (by decide) hx2) h3, gImg_c (ag_of (by decide) hx2) h4, gSeed_c (ag_of (by decide) hx2) rfl h5⟩, ⟨gSeen_c (ag_of (by decide) hx2) h6, gSlope_c hq (ag_of (by decide) hx2) rfl h7, gNow_c (ag_of (by decide) hx2) h8, gHist_c (ag_of (by decide +kernel) hx2) h9⟩, gIron_c (ag_of (by decide) hx2) h10, ?_, ⟨fun q hq j hj => ?_, ?_⟩⟩
    · rw [t2, e20, if_pos le, ea]
      simp only [Option.bind_some]
      rw [eb]
      simp only [Option.bind_some]
      rw [ec]
      simp only [Option.bind_some]
      rw [ed]
      simp only [Option.bind_some]
      rw [ee]
      simp only [Option.bind_some]
      rw [e1]
    · rw [hE, e20, if_pos le, ey]
      simp only [Option.bind_some]
      rw [y1]
    · rw [cY 1 (Or.inl rfl)]; exact e1
    · rw [cY 2 (Or.inr rfl)]
      by_cases q : j < n
      · simp only [if_pos q]
        obtain ⟨g1, g2, g3⟩ := t4 j q
        refine ⟨g1, ?_, ?_⟩
        · rw [y3 j q, fE 178 j (by rfl)]; exact g2
        · rw [e3 j (by omega), d3 j (by omega), c3 j (by omega), b3 j (by omega), a3 j (by omega)]; exact g3
      · simp only [if_neg q]
        obtain ⟨m, hm, em⟩ := and_255 (wd5 a b c d e ((j - n) / 4) >>> (nI (24 - 8 * ((j - n) % 4)) &&& 31))
        have eb5 : by5 a b c d e (j - n) = nI m := em
        rw [eb5, nI_clamp (by omega)]
        refine ⟨hm, ?_, ?_⟩
        · have := y2 (j - n) (by omega)
          rw [show n + (j - n) = j by omega] at this
          rw [this]; exact eb5
        · rw [← em]
          rcases (by omega : (j - n) / 4 = 0 ∨ (j - n) / 4 = 1 ∨ (j - n) / 4 = 2 ∨ (j - n) / 4 = 3 ∨ (j - n) / 4 = 4) with z | z | z | z | z
          · have := a2 ((j - n) % 4) (by omega)
            rw [show n + (j - n) % 4 = j by omega] at this
            rw [e3 j (by omega), d3 j (by omega), c3 j (by omega), b3 j (by omega), this, z]; rfl
          · have := b2 ((j - n) % 4) (by omega)
            rw [show n + 4 + (j - n) % 4 = j by omega] at this
            rw [e3 j (by omega), d3 j (by omega), c3 j (by omega), this, z]; rfl
          · have := c2 ((j - n) % 4) (by omega)
            rw [show n + 4 + 4 + (j - n) % 4 = j by omega] at this
            rw [e3 j (by omega), d3 j (by omega), this, z]; rfl
          · have := d2 ((j - n) % 4) (by omega)
            rw [show n + 4 + 4 + 4 + (j - n) % 4 = j by omega] at this
            rw [e3 j (by omega), this, z]; rfl
          · have := e2 ((j - n) % 4) (by omega)
            rw [show n + 4 + 4 + 4 + 4 + (j - n) % 4 = j by omega] at this
            rw [this, z]; rfl
    · rw [hx2 177 55 (by rfl)]; exact h11
    · have ek : Y q.1 = I q.1 := (ag_of (G := m_wds.map (fun q => (q.1, none))) (by decide +kernel) hx2) (q.1, none) (List.mem_map.mpr ⟨q, hq, rfl⟩)
      rw [ek]; exact h12.1 q hq j hj
    · intro j
      rw [cY 2 (Or.inr rfl)]
      exact append_b D e E ee (append_b C d D ed (append_b B c C ec (append_b A b B eb (append_b I a A ea h12.2)))) j
  · have gt : ¬ nI (n + 20) ≤ (1600 : Int32) := nI_ge (a := 1600) (by omega) (by omega)
    refine ⟨-1, m_up I 176 0 (I 176 0 + 1), m_up (m_up I 176 0 (I 176 0 + 1)) 179 0 (I 179 0 + 1), by rw [t2, e20, if_neg gt, no]; rfl, by rw [up_k _ _ _ (by decide), t3, e20, if_neg gt, up_k _ _ _ (by decide)], href⟩
end F66
