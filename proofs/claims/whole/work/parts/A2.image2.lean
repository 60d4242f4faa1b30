/-! image: the reference; the call -/
section LA2
variable {I X Y Z : MI} {J : MJ} {sl sd : Nat} {p : CF} {w : WD} {kl : List NT} {un : List (WD × List NT)} {l : List Nat}
theorem VI_0 {l2 : List Nat} (h : VI X l) (e : l = l2) : VI X l2 := e ▸ h
theorem LV_cm (h : fsL LV X I) (hm : CM I p) : CM X p := CM_c hm (fun k hk => fs_k h (by rcases hk with z | z | z <;> subst z <;> decide))
theorem LV_wm (ho : CO p) (h : fsL LV X I) (hm : WM I p w) : WM X p w := WM_c ho hm (fun j _ => by rw [fs_k h (by decide)])
theorem wm55 (ho : CO p) (hv : WO p w) (hm : CM I p) (hw : WM I p w) {c : Nat} (hc : c < cC p) (hl : l.length + 2 * pn w c (cR p) < 100) (h : VI X l) (hX : fsL LV X I) : ok (wl (fun s : Int32 × MI => F_MD_image_55 s.2 (nI c) s.1) ((0 : Int32), X)) (fun Y => VI Y (l ++ pst_r w c (cR p)) ∧ fsL LV Y I) := by
  have hR := ho.2.1; have hC := ho.1
  refine ok_cnt (σ := MI) (cR p) (fun m Y => VI Y (l ++ pst_r w c m) ∧ fsL LV Y I) ⟨VI_0 h (List.append_nil l).symm, hX⟩ ?_ ?_
  · rintro m hm2 Y ⟨g1, g2⟩
    simp only [F_MD_image_55]
    rw [(LV_cm g2 hm).2.1, if_neg (nI_ge hm2 (by omega)), post_m (LV_wm ho g2 hw) hv (by omega) (by omega)]
    simp only [Option.bind_some]
    have len := pst_len w c m
    have mo : pn w c (m + 1) ≤ pn w c (cR p) := sm_mono (by omega)
    cases hb : a_pst w c m with
    | false =>
      rw [if_pos (show bI false = 0 from rfl)]
      refine ok_s ⟨nI_s m, VI_0 g1 ?_, g2⟩
      simp [pst_r, hb]
    | true =>
      have mo2 : pn w c (m + 1) = pn w c m + 1 := by simp only [pn, sm]; rw [if_pos hb]
      rw [if_neg (show ¬ bI true = 0 by decide)]
      refine ok_b (wr_m g1 (by rw [List.length_append, len]; omega) c g2) ?_
      rintro A ⟨a1, a2⟩
      refine ok_b (wr_m a1 (by rw [List.length_append, List.length_append, len]; simp; omega) m a2) ?_
      rintro B ⟨b1, b2⟩
      refine ok_s ⟨nI_s m, VI_0 b1 ?_, b2⟩
      simp [pst_r, hb]
  · rintro Y ⟨g1, g2⟩
    simp only [F_MD_image_55]
    rw [(LV_cm g2 hm).2.1, if_pos (Int32.le_refl _)]
    exact ok_s ⟨g1, g2⟩
theorem wm43 (ho : CO p) (hv : WO p w) (hx : WX p w) (hm : CM I p) (hw : WM I p w) (hl : l.length ≤ 3) (h : VI X l) (hX : fsL LV X I) : ok (wl (fun s : Int32 × MI => F_MD_image_43 s.2 s.1) ((0 : Int32), X)) (fun Y => VI Y (l ++ pst_c p w (cC p)) ∧ fsL LV Y I) := by
  have hR := ho.2.1; have hC := ho.1
  refine ok_cnt (σ := MI) (cC p) (fun m Y => VI Y (l ++ pst_c p w m) ∧ fsL LV Y I) ⟨VI_0 h (List.append_nil l).symm, hX⟩ ?_ ?_
  · rintro m hm2 Y ⟨g1, g2⟩
    simp only [F_MD_image_43]
    rw [(LV_cm g2 hm).1, if_neg (nI_ge hm2 (by omega))]
    have len := pstc_len p w m
    have le := pstc_le ho hx (n := m + 1) (by omega)
    simp only [sm] at le
    refine ok_b (wm55 ho hv hm hw hm2 (by rw [List.length_append, len]; omega) g1 g2) ?_
    rintro A ⟨a1, a2⟩
    exact ok_s ⟨nI_s m, VI_0 a1 (by simp [pst_c]), a2⟩
  · rintro Y ⟨g1, g2⟩
    simp only [F_MD_image_43]
    rw [(LV_cm g2 hm).1, if_pos (Int32.le_refl _)]
    exact ok_s ⟨g1, g2⟩
theorem wm134 (ho : CO p) (hv : WO p w) (hm : CM I p) (hw : WM I p w) {f : Nat} (hf : f < cF p) (hl : l.length + cC p < 100) (h : VI X l) (hX : fsL LV X I) : ok (wl (fun s : Int32 × MI => F_MD_image_134 s.2 (nI f) s.1) ((0 : Int32), X)) (fun Y => VI Y (l ++ fen_r w f (cC p)) ∧ fsL LV Y I) := by
  have hR := ho.2.1; have hC := ho.1; have hF := ho.2.2.1
  refine ok_cnt (σ := MI) (cC p) (fun m Y => VI Y (l ++ fen_r w f m) ∧ fsL LV Y I) ⟨VI_0 h (List.append_nil l).symm, hX⟩ ?_ ?_
  · rintro m hm2 Y ⟨g1, g2⟩
    simp only [F_MD_image_134]
    rw [(LV_cm g2 hm).1, if_neg (nI_ge hm2 (by omega)), row_e ho (LV_wm ho g2 hw) hf hm2]
    simp only [Option.bind_some]
    have len := fenr_len w f m
    have fin := wr_m g1 (by rw [List.length_append, len]; omega) (fen_b w f m) g2
    by_cases q : wR w f m = -1
    · rw [if_pos q]
      have e : fen_b w f m = 255 := by unfold fen_b; rw [if_pos q]
      rw [e] at fin
      refine ok_b fin ?_
      rintro A ⟨a1, a2⟩
      exact ok_s ⟨nI_s m, VI_0 a1 (by simp [fen_r, e]), a2⟩
    · rw [if_neg q]
      obtain ⟨r, h1, h2, h3⟩ := rowN hv ho q
      have e : fen_b w f m = r := by unfold fen_b; rw [if_neg q]; exact h3
      rw [e] at fin
      rw [h2]
      refine ok_b fin ?_
      rintro A ⟨a1, a2⟩
      exact ok_s ⟨nI_s m, VI_0 a1 (by simp [fen_r, e]), a2⟩
  · rintro Y ⟨g1, g2⟩
    simp only [F_MD_image_134]
    rw [(LV_cm g2 hm).1, if_pos (Int32.le_refl _)]
    exact ok_s ⟨g1, g2⟩
theorem wm98 (ho : CO p) (hv : WO p w) (hm : CM I p) (hw : WM I p w) (hl : l.length ≤ 51) (h : VI X l) (hX : fsL LV X I) : ok (wl (fun s : Int32 × MI => F_MD_image_98 s.2 s.1) ((0 : Int32), X)) (fun Y => VI Y (l ++ fen_a p w (cF p)) ∧ fsL LV Y I) := by
  have hR := ho.2.1; have hC := ho.1; have hF := ho.2.2.1
  refine ok_cnt (σ := MI) (cF p) (fun m Y => VI Y (l ++ fen_a p w m) ∧ fsL LV Y I) ⟨VI_0 h (List.append_nil l).symm, hX⟩ ?_ ?_
  · rintro m hm2 Y ⟨g1, g2⟩
    simp only [F_MD_image_98]
    have len := fena_len p w m
    have mul : m * (2 + cC p) ≤ 5 * 8 := Nat.mul_le_mul (by omega) (by omega)
    obtain ⟨a, n1, n2, n3⟩ := age_N hv m
    rw [fm_e (LV_cm g2 hm)]
    simp only [Option.bind_some]
    rw [if_neg (nI_ge hm2 (by omega)), age_e ho (LV_wm ho g2 hw) hm2, n2]
    simp only [Option.bind_some]
    refine ok_b (wr_m g1 (by rw [List.length_append, len]; omega) a g2) ?_
    rintro A ⟨a1, a2⟩
    rw [cut_e ho (LV_wm ho a2 hw) hm2]
    simp only [Option.bind_some]
    have fin : ∀ k, k < 2 → k = (if wK w m = 1 then 1 else 0) → ok (F_MD_image_129 A (nI m) (nI k)) (Sum.elim (fun q => q.1 = nI (m + 1) ∧ VI q.2 (l ++ fen_a p w (m + 1)) ∧ fsL LV q.2 I) (fun _ => False)) := by
      intro k hk ek
      unfold F_MD_image_129
      refine ok_b (wr_m a1 (by rw [List.length_append, List.length_append, len]; simp; omega) k a2) ?_
      rintro B ⟨b1, b2⟩
      refine ok_b (wm134 ho hv hm hw hm2 (by rw [List.length_append, List.length_append, List.length_append, len]; simp; omega) b1 b2) ?_
      rintro C ⟨c1, c2⟩
      refine ok_s ⟨nI_s m, VI_0 c1 ?_, c2⟩
      simp [fen_a, fen_h, n3, ek]
    by_cases q : wK w m = 1
    · rw [if_pos q, if_neg (by decide)]
      exact fin 1 (by decide) (by rw [if_pos q])
    · rw [if_neg q, if_pos rfl]
      exact fin 0 (by decide) (by rw [if_neg q])
  · rintro Y ⟨g1, g2⟩
    simp only [F_MD_image_98]
    rw [fm_e (LV_cm g2 hm)]
    simp only [Option.bind_some]
    rw [if_pos (Int32.le_refl _)]
    exact ok_s ⟨g1, g2⟩
/-- the check byte of a row of bytes -/
theorem chk_m {k lk n : Nat} (hn : n ≤ lk) (hlk : lk < 2000) (hl : l.length = n) (h3 : ∀ i, i < n → X k i = nI (l.getD i 0)) (h1 : ∀ b, b ∈ l → b < 256) : F_MD_checked k lk X (nI n) = some (nI (chk l)) := by
  subst hl
  unfold F_MD_checked
  have e : wl (fun s : Int32 × Int32 => F_MD_checked_6 k lk X (nI l.length) s.1 s.2) ((131 : Int32), (0 : Int32)) = some (nI (chk l)) := by
    refine wl_f l.length (fun k => (nI (chk (l.take k)), nI k)) rfl (fun j hj => ?_) ?_
    · show F_MD_checked_6 k lk X (nI l.length) (nI (chk (l.take j))) (nI j) = _
      unfold F_MD_checked_6
      rw [if_neg (nI_ge hj (by omega)), gd_n (by omega) (by omega), nI_clamp (by omega), h3 j hj, rem3 (chk_lt _) (h1 _ (getD_mem' hj)), nI_s, chk_s hj]
    · show F_MD_checked_6 k lk X (nI l.length) (nI (chk (l.take l.length))) (nI l.length) = _
      unfold F_MD_checked_6
      rw [if_pos (Int32.le_refl _), List.take_length]
  rw [e]; rfl
theorem image_m (ho : CO p) (hv : WO p w) (hx : WX p w) (hm : CM I p) (hw : WM I p w) {y : Nat} (hy : wY w = nI y) (y9 : y ≤ 999) (h1 : ∀ b, b ∈ img_a p w → b < 256) : ok (F_MD_image I) (fun t => t.1 = nI (img_a p w ++ [chk (img_a p w)]).length ∧ VI t.2 (img_a p w ++ [chk (img_a p w)]) ∧ fsL LV t.2 I) := by
  have hC := ho.1; have hF := ho.2.2.1
  have yc : (wY w).toNatClampNeg = y := by rw [hy, nI_clamp (by omega)]
  have h0 : VI (m_up I 177 102 (0 : Int32)) [] := ⟨up_e _ _ _ _, fun i hi => absurd hi (by simp)⟩
  have f0 : fsL LV (m_up I 177 102 (0 : Int32)) I := fs_up (LX := LV) (by decide) (by simp [inL]) (fs_r I)
  unfold F_MD_image
  rw [hw.1, hy, show (256 : Int32) = nI 256 from rfl, nDiv (by omega) (by decide)]
  refine ok_b (wr_m h0 (by simp) (y / 256) f0) ?_
  rintro A ⟨a1, a2⟩
  rw [(LV_wm ho a2 hw).1, hy, rem_n (by omega) (by decide) (by decide)]
  refine ok_b (wr_m a1 (by simp) (y % 256) a2) ?_
  rintro B ⟨b1, b2⟩
  rw [posts_m (LV_wm ho b2 hw) hv]
  simp only [Option.bind_some]
  refine ok_b (wr_m b1 (by simp) (n_pst w) b2) ?_
  rintro C ⟨c1, c2⟩
  have c1 : VI C (img_0 w) := VI_0 c1 (by simp [img_0, yc])
  refine ok_b (wm43 ho hv hx hm hw (show (img_0 w).length ≤ 3 from Nat.le_refl _) c1 c2) ?_
  rintro D ⟨d1, d2⟩
  refine ok_b (wm98 ho hv hm hw (by rw [List.length_append, pstc_len]; have := pstc_le ho hx (n := cC p) hC; have : (img_0 w).length = 3 := rfl; omega) d1 d2) ?_
  rintro E ⟨e1, e2⟩
  have e1 : VI E (img_a p w) := e1
  have il := img_len ho hx
  rw [e1.1, chk_m (l := img_a p w) (by omega) (by decide) rfl e1.2 h1]
  simp only [Option.bind_some]
  refine ok_b (wr_m e1 il (chk (img_a p w)) e2) ?_
  rintro G ⟨g1, g2⟩
  exact ok_s ⟨g1.1, g1, g2⟩
/-- image -/
theorem op_image (hr : Rel I J sl) : ∃ a I1 I2, F_WF_image sl sd I = some (a, I1) ∧ F_MD_image I1 = some (a, I2) ∧ Rel I2 J sl := by
  obtain ⟨hq, p, w, kl, un, h⟩ := id hr
  obtain ⟨⟨ho, hQ, h00, -⟩, ⟨hc, hcd, hm, hcn⟩, ht, -⟩ := h.2.1.2.1
  obtain ⟨⟨hv, hx, -⟩, hw, hwm, hkc, hkm⟩ := h.2.1.2.2.1
  obtain ⟨y, y1, y2⟩ := RelX_y h
  obtain ⟨⟨h1, h2, h3, h4, h5⟩, ⟨h6, h7, h8, h9⟩, h10, h11, h12⟩ := id h
  obtain ⟨Z, ez, z1, z2⟩ := write_c ho hv hx hc hw hq y2 y1
  have hmZ : CM Z p := CM_c hm (fun k hk => fs_k z2 (by rcases hk with z | z | z <;> subst z <;> decide))
  have hwZ : WM Z p w := WM_c ho hwm (fun j _ => by rw [fs_k z2 (by decide)])
  obtain ⟨⟨t, B⟩, eb, b1, b2, b3⟩ := image_m ho hv hx hmZ hwZ y2 y1 (fun b hb => z1.1 b (List.mem_append_left _ hb))
  have b1 : t = nI (img_a p w ++ [chk (img_a p w)]).length := b1
  have b2 : VI B (img_a p w ++ [chk (img_a p w)]) := b2
  have b3 : fsL LV B Z := b3
  have il := img_len ho hx
  have hx2 : fsL (LV ++ LI) B I := fs_tr (fs_sub (by decide) b3) (fs_sub (by decide) z2)
  refine ⟨t, Z, B, ?_, eb, hq, p, w, kl, un, ⟨gTape_c (ag_of (by decide) hx2) h1, gFault_c (ag_of (by decide) hx2) h2, gRef_c (ag_of (by decide) hx2) h3, ?_, gSeed_c (ag_of (by decide) hx2) rfl h5⟩, ⟨gSeen_c (ag_of (by decide) hx2) h6, gSlope_c hq (ag_of (by decide) hx2) rfl h7, gNow_c (ag_of (by decide) hx2) h8, gHist_c (ag_of (by decide +kernel) hx2) h9⟩, gIron_c (ag_of (by decide) hx2) h10, (hx2 177 55 (by decide)).trans h11, gWord_c (ag_of (by decide +kernel) hx2) h12⟩
  · unfold F_WF_image
    rw [ez]
    simp only [Option.bind_some]
    rw [z1.2.1, b1]
  · refine ⟨(img_a p w ++ [chk (img_a p w)]).length, fun i => (img_a p w ++ [chk (img_a p w)]).getD i 0, ?_, ?_, b2.1, fun j hj => ⟨z1.1 _ (getD_mem' hj), b2.2 j hj, ?_⟩⟩
    · rw [List.length_append]; simp; omega
    · rw [fs_k b3 (by decide)]; exact z1.2.1
    · rw [fs_k b3 (by decide)]; exact z1.2.2 j hj
end LA2
