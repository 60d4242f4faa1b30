/-! irons: the reference; the call -/
section L97
variable {I X Y : MI} {J JX JY : MJ} {k o sl sd : Nat} {p : CF} {w : WD} {kl : List NT} {un : List (WD × List NT)}
theorem drvT (ho : CO p) (h : TH X p w kl) {c r : Nat} (hc : c < 6) : TH (m_up X 213 (1 + c) (wP w c ||| ((1 : Int32) <<< (nI r &&& 31)))) p (a_drv w c r) kl := by
  obtain ⟨h1, h2, h3, h4, h5⟩ := h
  have hF := ho.2.2.1; have hC := ho.1
  refine ⟨CM_c h1 (fun k hk => up_k _ _ _ (by omega)), CN_c h2 (fun k hk => up_k _ _ _ (by omega)), ?_, KM_c h4 (fun j hj => up_j _ _ _ (by omega)), by rw [up_k _ _ _ (by decide)]; exact h5⟩
  obtain ⟨g1, g2, g3, g4, g5⟩ := h3
  refine ⟨?_, fun g hg => ?_, fun g hg => ?_, fun c' hc' => ?_, fun g c' hg hc' => ?_⟩
  · rw [up_j _ _ _ (by omega)]; exact g1
  · rw [up_j _ _ _ (by omega)]; exact g2 g hg
  · rw [up_j _ _ _ (by omega)]; exact g3 g hg
  · show _ = (if c' = c then wP w c ||| ((1 : Int32) <<< (nI r &&& 31)) else wP w c')
    by_cases e : c' = c
    · subst e; rw [if_pos rfl, up_e]
    · rw [if_neg e, up_j _ _ _ (by omega)]; exact g4 c' hc'
  · rw [up_j _ _ _ (by omega)]; exact g5 g c' hg hc'
theorem irr_m (ho : CO p) (hQ : CQ p) (hR : cF p = 0 ∨ 0 < cR p) (hv : WO p w) (hx : WX p w) (h24 : n_pst w < 24) {f n c y : Nat} (hf : f < cF p) (hy : wY w = nI y) (hn : y + n ≤ 999) (hc : c < cC p) (u : Int32) (s : NT) : ∀ d r (Y : MI) (JY : MJ), r + d = cR p → TH Y p w kl → WMg (Y 214) p w → fsL LY Y X → fsL K1 JY J →
    ok (wl (fun s : Int32 × Int32 × Int32 × Int32 × MI × MJ => F_MD_irons_85 s.2.2.2.2.1 s.2.2.2.2.2 (nI f) (nI n) u s.1 s.2.1 s.2.2.1 (nI c) s.2.2.2.1) ((a_irr p w f n c r s).2.2, (a_irr p w f n c r s).1, (a_irr p w f n c r s).2.1, nI r, Y, JY)) (fun t => t.1 = (a_irr p w f n c (cR p) s).2.2 ∧ t.2.1 = (a_irr p w f n c (cR p) s).1 ∧ t.2.2.1 = (a_irr p w f n c (cR p) s).2.1 ∧ TH t.2.2.2.1 p w kl ∧ WMg (t.2.2.2.1 214) p w ∧ fsL LY t.2.2.2.1 X ∧ fsL K1 t.2.2.2.2 J) := by
  have hF := ho.2.2.1; have hC := ho.1; have hR2 := ho.2.1
  intro d
  induction d with
  | zero =>
    intro r Y JY hr hT hG f1 f2
    have hr : r = cR p := by omega
    subst hr
    refine ok_e (x := ((a_irr p w f n c (cR p) s).2.2, (a_irr p w f n c (cR p) s).1, (a_irr p w f n c (cR p) s).2.1, Y, JY)) (wl_in ?_) ⟨rfl, rfl, rfl, hT, hG, f1, f2⟩
    simp only [F_MD_irons_85]
    rw [hT.1.2.1, if_pos (Int32.le_refl _)]
  | succ d ih =>
    intro r Y JY hr hT hG f1 f2
    have st : ok (F_MD_irons_85 Y JY (nI f) (nI n) u (a_irr p w f n c r s).2.2 (a_irr p w f n c r s).1 (a_irr p w f n c r s).2.1 (nI c) (nI r)) (fun t => ∃ Y' JY', t = .inl ((a_irr p w f n c (r + 1) s).2.2, (a_irr p w f n c (r + 1) s).1, (a_irr p w f n c (r + 1) s).2.1, nI (r + 1), Y', JY') ∧ TH Y' p w kl ∧ WMg (Y' 214) p w ∧ fsL LY Y' X ∧ fsL K1 JY' J) := by
      unfold F_MD_irons_85
      rw [hT.1.2.1, if_neg (nI_ge (by omega) (by omega)), post_m hT.2.2.1 hv (by omega) (by omega)]
      simp only [Option.bind_some]
      cases hb : a_pst w c r with
      | true =>
        rw [if_neg (show ¬ bI true = 0 by decide)]
        refine ok_e (x := .inl ((a_irr p w f n c r s).2.2, (a_irr p w f n c r s).1, (a_irr p w f n c r s).2.1, nI (r + 1), Y, JY)) (by rw [nI_s]) ⟨Y, JY, ?_, hT, hG, f1, f2⟩
        simp only [a_irr]
        rw [if_pos hb]
      | false =>
        rw [if_pos (show bI false = 0 from rfl), ad_1, gd_n (by omega) (by decide), gd_n (by omega) (by decide), nI_clamp (by omega), hT.2.2.1.2.2.2.1 c (by omega)]
        simp only [bnd]
        obtain ⟨hO, -⟩ := drv_O hv hx ho hc (show r < cR p by omega) hb h24
        have hD := drvT (r := r) ho hT (c := c) (by omega)
        have fD : fsL LY (m_up Y 213 (1 + c) (wP w c ||| ((1 : Int32) <<< (nI r &&& 31)))) Y := fs_up (LX := LY) (by decide) (by simp [inL]) (fs_r Y)
        have gD : m_up Y 213 (1 + c) (wP w c ||| ((1 : Int32) <<< (nI r &&& 31))) 214 = Y 214 := up_k _ _ _ (by decide)
        generalize m_up Y 213 (1 + c) (wP w c ||| ((1 : Int32) <<< (nI r &&& 31))) = D at *
        obtain ⟨⟨E, JE⟩, ee, e1, e2, e3⟩ := yearsT ho hQ hR hO hD JY (y := y) hy (n := n) (by omega)
        have e1 : TH E p (a_it p (a_drv w c r) n) kl := e1
        have e2 : fsL LY E D := e2
        have e3 : fsL K1 JE JY := e3
        have hO2 := it_O ho hR hO (y := y) hy n (by omega)
        obtain ⟨G, eg, g1, g2⟩ := anewT ho (w0 := w) e1 (by rw [fs_k e2 (by decide), gD]; exact hG)
        rw [ee]
        simp only [Option.bind_some]
        rw [field_e ho e1.1 e1.2.2.1 hO2]
        simp only [Option.bind_some]
        rw [eg]
        simp only [Option.bind_some]
        refine ok_e (x := .inl ((a_irr p w f n c (r + 1) s).2.2, (a_irr p w f n c (r + 1) s).1, (a_irr p w f n c (r + 1) s).2.1, nI (r + 1), G, JE)) ?_ ⟨G, JE, rfl, g1, ?_, fs_tr (fs_sub (by decide) g2) (fs_tr e2 (fs_tr fD f1)), fs_tr e3 f2⟩
        · have efd : nI (sm (fun c' => n_fld (fun f_1 => wR (a_it p (a_drv w c r) n) f_1 c') (nI f) (cF p) (cR p)) (cC p)) = nI (a_fd p (a_it p (a_drv w c r) n) f) := rfl
          rw [efd]
          simp only [a_irr, nI_s]
          rw [if_neg (show ¬ a_pst w c r = true by rw [hb]; decide)]
          by_cases z : nI (a_fd p (a_it p (a_drv w c r) n) f) ≤ (a_irr p w f n c r s).2.2
          · rw [if_pos z, if_neg (by grind)]
          · rw [if_neg z, if_pos (by grind)]
        · show WMg (G 214) p w
          rw [fs_k g2 (by decide), fs_k e2 (by decide), gD]; exact hG
    obtain ⟨t, es, Y', JY', rfl, s1, s2, s3, s4⟩ := st
    have e1 : wl (fun s : Int32 × Int32 × Int32 × Int32 × MI × MJ => F_MD_irons_85 s.2.2.2.2.1 s.2.2.2.2.2 (nI f) (nI n) u s.1 s.2.1 s.2.2.1 (nI c) s.2.2.2.1) ((a_irr p w f n c r s).2.2, (a_irr p w f n c r s).1, (a_irr p w f n c r s).2.1, nI r, Y, JY) = wl (fun s : Int32 × Int32 × Int32 × Int32 × MI × MJ => F_MD_irons_85 s.2.2.2.2.1 s.2.2.2.2.2 (nI f) (nI n) u s.1 s.2.1 s.2.2.1 (nI c) s.2.2.2.1) ((a_irr p w f n c (r + 1) s).2.2, (a_irr p w f n c (r + 1) s).1, (a_irr p w f n c (r + 1) s).2.1, nI (r + 1), Y', JY') := wl_st es
    rw [e1]
    exact ih (r + 1) Y' JY' (by omega) s1 s2 s3 s4
theorem irc_m (ho : CO p) (hQ : CQ p) (hR : cF p = 0 ∨ 0 < cR p) (hv : WO p w) (hx : WX p w) (h24 : n_pst w < 24) {f n y : Nat} (hf : f < cF p) (hy : wY w = nI y) (hn : y + n ≤ 999) (u : Int32) : ∀ d c (Y : MI) (JY : MJ), c + d = cC p → TH Y p w kl → WMg (Y 214) p w → fsL LY Y X → fsL K1 JY J →
    ok (wl (fun s : Int32 × Int32 × Int32 × Int32 × MI × MJ => F_MD_irons_71 s.2.2.2.2.1 s.2.2.2.2.2 (nI f) (nI n) u s.1 s.2.1 s.2.2.1 s.2.2.2.1) ((a_irc p w f n c).2.2, (a_irc p w f n c).1, (a_irc p w f n c).2.1, nI c, Y, JY)) (fun t => t.1 = (a_irn p w f n).2.2 ∧ t.2.1 = (a_irn p w f n).1 ∧ t.2.2.1 = (a_irn p w f n).2.1 ∧ TH t.2.2.2.1 p w kl ∧ WMg (t.2.2.2.1 214) p w ∧ fsL LY t.2.2.2.1 X ∧ fsL K1 t.2.2.2.2 J) := by
  have hF := ho.2.2.1; have hC := ho.1; have hR2 := ho.2.1
  intro d
  induction d with
  | zero =>
    intro c Y JY hc hT hG f1 f2
    have hc : c = cC p := by omega
    subst hc
    refine ok_e (x := ((a_irc p w f n (cC p)).2.2, (a_irc p w f n (cC p)).1, (a_irc p w f n (cC p)).2.1, Y, JY)) (wl_in ?_) ⟨rfl, rfl, rfl, hT, hG, f1, f2⟩
    simp only [F_MD_irons_71]
    rw [hT.1.1, if_pos (Int32.le_refl _)]
  | succ d ih =>
    intro c Y JY hc hT hG f1 f2
    obtain ⟨⟨t1, t2, t3, Y', JY'⟩, et, g1, g2, g3, g4, g5, g6, g7⟩ := irr_m (X := X) (J := J) (kl := kl) ho hQ hR hv hx h24 hf hy hn (show c < cC p by omega) u (a_irc p w f n c) (cR p) 0 Y JY (by omega) hT hG f1 f2
    have g1 : t1 = (a_irc p w f n (c + 1)).2.2 := g1
    have g2 : t2 = (a_irc p w f n (c + 1)).1 := g2
    have g3 : t3 = (a_irc p w f n (c + 1)).2.1 := g3
    have g4 : TH Y' p w kl := g4
    have g5 : WMg (Y' 214) p w := g5
    have es : F_MD_irons_71 Y JY (nI f) (nI n) u (a_irc p w f n c).2.2 (a_irc p w f n c).1 (a_irc p w f n c).2.1 (nI c) = some (.inl ((a_irc p w f n (c + 1)).2.2, (a_irc p w f n (c + 1)).1, (a_irc p w f n (c + 1)).2.1, nI (c + 1), Y', JY')) := by
      unfold F_MD_irons_71
      rw [hT.1.1, if_neg (nI_ge (by omega) (by omega))]
      have et : wl (fun s : Int32 × Int32 × Int32 × Int32 × MI × MJ => F_MD_irons_85 s.2.2.2.2.1 s.2.2.2.2.2 (nI f) (nI n) u s.1 s.2.1 s.2.2.1 (nI c) s.2.2.2.1) ((a_irc p w f n c).2.2, (a_irc p w f n c).1, (a_irc p w f n c).2.1, 0, Y, JY) = some (t1, t2, t3, Y', JY') := et
      rw [et]
      simp only [Option.bind_some, nI_s]
      rw [g1, g2, g3]
    have e1 : wl (fun s : Int32 × Int32 × Int32 × Int32 × MI × MJ => F_MD_irons_71 s.2.2.2.2.1 s.2.2.2.2.2 (nI f) (nI n) u s.1 s.2.1 s.2.2.1 s.2.2.2.1) ((a_irc p w f n c).2.2, (a_irc p w f n c).1, (a_irc p w f n c).2.1, nI c, Y, JY) = wl (fun s : Int32 × Int32 × Int32 × Int32 × MI × MJ => F_MD_irons_71 s.2.2.2.2.1 s.2.2.2.2.2 (nI f) (nI n) u s.1 s.2.1 s.2.2.1 s.2.2.2.1) ((a_irc p w f n (c + 1)).2.2, (a_irc p w f n (c + 1)).1, (a_irc p w f n (c + 1)).2.1, nI (c + 1), Y', JY') := wl_st es
    rw [e1]
    exact ih (c + 1) Y' JY' (by omega) g4 g5 g6 g7
/-- irons -/
theorem op_irons (hr : Rel I J sl) (f v u : Int32) : ∃ a I1 I2 J2, F_WF_irons sl sd I f v u = some (a, I1) ∧ F_MD_irons I1 J f v u = some (a, I2, J2) ∧ Rel I2 J2 sl := by
  obtain ⟨hq, p, w, kl, un, h⟩ := id hr
  obtain ⟨⟨ho, hQ, h00, -⟩, ⟨hc, hcd, hm, hcn⟩, ht, -⟩ := h.2.1.2.1
  obtain ⟨⟨hv, hx, -⟩, hw, hwm, hkc, hkm⟩ := h.2.1.2.2.1
  have hF := ho.2.2.1; have hC := ho.1; have hR := ho.2.1
  obtain ⟨y, y1, y2⟩ := RelX_y h
  have n24 := hx.2.2.2.2
  unfold F_WF_irons
  rw [hasFence_c ho hc]
  by_cases q : 0 ≤ f ∧ f < nI (cF p)
  · have hC0 := F_told ho h00 q
    have hah : ∀ X : MI, WM X p w → X 177 49 = bI (decide (0 < cC p)) → F_MD_isAhead X v 1 20 = some (@ite _ (nI 1 ≤ v ∧ v ≤ nI (min 20 (999 - y))) (Classical.propDecidable _) 1 0) := fun X g1 g2 => ahead_e (a := 1) (b := 20) g1 g2 hC0 y2 y1 (by decide) v
    rw [if_pos q, if_neg (by decide), show (20 : Int32) = nI 20 from rfl, most_c hw y2 y1 (by decide)]
    simp only [Option.bind_some]
    by_cases c1 : nI 1 ≤ v ∧ v ≤ nI (min 20 (999 - y))
    · have c0 : ¬ v < 0 := by have : (1 : Int32) ≤ v := c1.1; grind
      obtain ⟨n, hn, rfl⟩ := nI_of2 (M := nI (min 20 (999 - y))) (n := min 20 (999 - y)) (nI_toInt (by omega)) c0 c1.2
      have n1 : 1 ≤ n := (nI_leI (by omega) (by omega)).mp c1.1
      obtain ⟨a, ha, rfl⟩ := ix_2 (by omega) q
      rw [if_neg (show ¬ nI n < 1 from nI_nlt (a := n) (b := 1) (by omega) (by omega)), if_neg (nI_nlt (by omega) (by omega)), posts_n hw hv]
      by_cases n0 : n_pst w < 24
      · rw [if_pos (show nI (n_pst w) < 24 from nI_lt (b := 24) n0 (by decide))]
        obtain ⟨z1, z2, z3, z4⟩ := find_c h hq ha n0 y2 (n := n) (by omega) n1 (by omega)
        generalize fi_w I sl (nI a) (nI n) = Z at *
        have hmZ : CM Z p := CM_c hm (fun k hk => fs_k z4 (by rcases hk with z | z | z <;> subst z <;> decide))
        have hnZ : CN Z p := CN_c hcn (fun k hk => fs_k z4 (by rcases hk with z | z | z <;> subst z <;> decide))
        have e49 : Z 177 49 = bI (decide (0 < cC p)) := by rw [z4 177 49 (by decide)]; exact ht
        have hwZ : WM Z p w := WM_c ho hwm (fun j _ => by rw [fs_k z4 (by decide)])
        have hkZ : KM Z kl := KM_c hkm (fun j _ => by rw [fs_k z4 (by decide)])
        have e55 : Z 177 55 = 0 := by rw [z4 177 55 (by decide)]; exact h.2.2.2.1
        have gZ : ∀ C : MI, C 30 = Z 30 → gIron C p w := by
          intro C e f' n' hf' hn1' hn20' hy' h7 h8
          rw [e] at h7 h8 ⊢
          rw [z2] at h7
          rw [z3] at h8
          have e1 : a = f' := by have := congrArg Int32.toNatClampNeg h7; rwa [nI_clamp (by omega), nI_clamp (by omega)] at this
          have e2 : n = n' := by have := congrArg Int32.toNatClampNeg h8; rwa [nI_clamp (by omega), nI_clamp (by omega)] at this
          subst e1 e2
          exact z1
        by_cases u02 : 0 ≤ u ∧ u ≤ 2
        · obtain ⟨A, ea, a1, a2, a3⟩ := aside_e hmZ hnZ hwZ hkZ
          have a4 : WMg (A 214) p w := WMg_of ho hwZ a2
          obtain ⟨⟨B, JB⟩, eb, b1, b2, b3⟩ := yearsT ho hQ (RelX_R h) hv a1 J y2 (n := n) (by omega)
          have b1 : TH B p (a_it p w n) kl := b1
          have b2 : fsL LY B A := b2
          have b3 : fsL K1 JB J := b3
          obtain ⟨C, ec, c2, c3⟩ := anewT ho (w0 := w) b1 (by rw [fs_k b2 (by decide)]; exact a4)
          have c4 : WMg (C 214) p w := by rw [fs_k c3 (by decide), fs_k b2 (by decide)]; exact a4
          obtain ⟨⟨t1, t2, t3, D, JD⟩, ed, d1, d2, d3, d4, d5, d6, d7⟩ := irc_m (X := C) (J := JB) (kl := kl) ho hQ (RelX_R h) hv hx n0 ha y2 (n := n) (by omega) u (cC p) 0 C JB (by omega) c2 c4 (fs_r C) (fs_r JB)
          have d1 : t1 = (a_irn p w a n).2.2 := d1
          have d2 : t2 = (a_irn p w a n).1 := d2
          have d3 : t3 = (a_irn p w a n).2.1 := d3
          have d4 : TH D p w kl := d4
          have d5 : WMg (D 214) p w := d5
          have d6 : fsL LY D C := d6
          have d7 : fsL K1 JD JB := d7
          obtain ⟨E, ee, e2, e3, e4, e5⟩ := backT ho d4 d5
          have fE : fsL DM E Z := fs_tr (fs_sub (by decide) e5) (fs_tr (fs_sub (by decide) d6) (fs_tr (fs_sub (by decide) c3) (fs_tr (fs_sub (by decide) b2) (fs_sub (by decide) a3))))
          have hx2 : fsL (DM ++ DI) E I := fs_tr (fs_sub (by decide) fE) (fs_sub (by decide) z4)
          have hj2 : fsL K1 JD J := fs_tr d7 b3
          have rel : Rel E JD sl := ⟨hq, p, w, kl, un, RelX_t hq h hx2 hj2 e2 e3 e4 (by decide) (by decide) (by decide) (by decide) (by decide) (by decide) (by decide) (by decide) (by decide +kernel) (gZ E (fs_k fE (by decide))) (by decide +kernel) (by decide)⟩
          have hO := it_O ho (RelX_R h) hv y2 n (by omega)
          have ed : wl (fun s : Int32 × Int32 × Int32 × Int32 × MI × MJ => F_MD_irons_71 s.2.2.2.2.1 s.2.2.2.2.2 (nI a) (nI n) u s.1 s.2.1 s.2.2.1 s.2.2.2.1) (nI (a_fd p (a_it p w n) a), -1, -1, 0, C, JB) = some (t1, t2, t3, D, JD) := ed
          have eM : F_MD_irons Z J (nI a) (nI n) u = if (a_irn p w a n).1 = -1 then some (-1, E, JD) else if u = 0 then some ((a_irn p w a n).1, E, JD) else if u = 1 then some ((a_irn p w a n).2.1, E, JD) else some ((a_irn p w a n).2.2, E, JD) := by
            unfold F_MD_irons
            rw [isFence_e ho hmZ]
            simp only [Option.bind_some]
            rw [if_pos q, if_neg (by decide), hah Z hwZ e49]
            simp only [Option.bind_some]
            rw [if_pos c1, if_neg (by decide), show (0 : Int64) = (0 : Int32).toInt64 by decide, show (2 : Int64) = (2 : Int32).toInt64 by decide, isIn_i]
            simp only [Option.bind_some]
            rw [if_pos u02, if_neg (by decide), posts_m hwZ hv]
            simp only [Option.bind_some]
            rw [if_neg (show ¬ nI (n_pst w) = 24 from fun e => by have := congrArg Int32.toNatClampNeg e; rw [nI_clamp (by omega)] at this; have : n_pst w = 24 := this; omega), ea]
            simp only [Option.bind_some]
            rw [eb]
            simp only [Option.bind_some]
            rw [field_e ho b1.1 b1.2.2.1 hO]
            simp only [Option.bind_some]
            rw [ec]
            simp only [Option.bind_some]
            have efd : nI (sm (fun c' => n_fld (fun f_1 => wR (a_it p w n) f_1 c') (nI a) (cF p) (cR p)) (cC p)) = nI (a_fd p (a_it p w n) a) := rfl
            rw [efd, ed]
            simp only [Option.bind_some]
            rw [ee]
            simp only [Option.bind_some]
            rw [d1, d2, d3]
          have q9 : Z 30 9 = (a_irn p w a n).1 := by rw [← z1]
          have q10 : Z 30 10 = (a_irn p w a n).2.1 := by rw [← z1]
          have q11 : Z 30 11 = (a_irn p w a n).2.2 := by rw [← z1]
          rw [q9, q10, q11]
          have iok := irn_ok (w := w) ho a n
          by_cases z : (a_irn p w a n).1 = -1
          · have z' : (a_irn p w a n).2.1 = -1 := by
              rcases iok with g | g
              · exact g.2
              · exact absurd z g
            rw [if_pos z] at eM
            rw [z, z']
            refine ⟨-1, Z, E, JD, ?_, eM, rel⟩
            by_cases u0 : u = 0
            · rw [if_pos u0]
            · rw [if_neg u0]
              by_cases u1 : u = 1
              · rw [if_pos u1]
              · rw [if_neg u1, if_pos rfl]
                split <;> rfl
          · rw [if_neg z] at eM ⊢
            by_cases u0 : u = 0
            · rw [if_pos u0] at eM ⊢
              exact ⟨_, Z, E, JD, rfl, eM, rel⟩
            · rw [if_neg u0] at eM ⊢
              by_cases u1 : u = 1
              · rw [if_pos u1] at eM ⊢
                exact ⟨_, Z, E, JD, rfl, eM, rel⟩
              · rw [if_neg u1] at eM ⊢
                have u2 : u = 2 := by
                  obtain ⟨m, hm2, rfl⟩ := nI_of2 (M := 2) (n := 2) (by decide) (show ¬ u < 0 by grind) u02.2
                  rcases (by omega : m = 0 ∨ m = 1 ∨ m = 2) with e | e | e <;> subst e
                  · exact absurd rfl u0
                  · exact absurd rfl u1
                  · rfl
                rw [if_pos u2]
                exact ⟨_, Z, E, JD, rfl, eM, rel⟩
        · have rel : Rel Z J sl := ⟨hq, p, w, kl, un, RelX_t hq h z4 (DJ := []) (fs_r J) hwZ hkZ e55 (by decide) (by decide) (by decide) (by decide) (by decide) (by decide) (by decide) (by decide) (by decide +kernel) (gZ Z rfl) (by decide +kernel) (by decide)⟩
          refine ⟨-1, Z, Z, J, ?_, ?_, rel⟩
          · rw [if_neg (show ¬ u = 0 from fun e => u02 (by subst e; decide)), if_neg (show ¬ u = 1 from fun e => u02 (by subst e; decide)), if_neg (show ¬ u = 2 from fun e => u02 (by subst e; decide))]
          · unfold F_MD_irons
            rw [isFence_e ho hmZ]
            simp only [Option.bind_some]
            rw [if_pos q, if_neg (by decide), hah Z hwZ e49]
            simp only [Option.bind_some]
            rw [if_pos c1, if_neg (by decide), show (0 : Int64) = (0 : Int32).toInt64 by decide, show (2 : Int64) = (2 : Int32).toInt64 by decide, isIn_i]
            simp only [Option.bind_some]
            rw [if_neg u02, if_pos rfl]
      · rw [if_neg (show ¬ nI (n_pst w) < 24 from nI_nlt (b := 24) (by omega) (by omega))]
        refine ⟨-1, I, I, J, rfl, ?_, hr⟩
        unfold F_MD_irons
        rw [isFence_e ho hm]
        simp only [Option.bind_some]
        rw [if_pos q, if_neg (by decide), hah I hwm ht]
        simp only [Option.bind_some]
        rw [if_pos c1, if_neg (by decide), show (0 : Int64) = (0 : Int32).toInt64 by decide, show (2 : Int64) = (2 : Int32).toInt64 by decide, isIn_i]
        simp only [Option.bind_some]
        by_cases u02 : 0 ≤ u ∧ u ≤ 2
        · rw [if_pos u02, if_neg (by decide), posts_m hwm hv]
          simp only [Option.bind_some]
          rw [show n_pst w = 24 by omega, if_pos (show nI 24 = 24 from rfl)]
        · rw [if_neg u02, if_pos rfl]
    · refine ⟨-1, I, I, J, ?_, ?_, hr⟩
      · by_cases c0 : v < 1
        · rw [if_pos c0]
        · have c1' : nI 1 ≤ v := by show (1 : Int32) ≤ v; grind
          rw [if_neg c0, if_pos (show nI (min 20 (999 - y)) < v by have : ¬ v ≤ nI (min 20 (999 - y)) := fun z => c1 ⟨c1', z⟩; grind)]
      · unfold F_MD_irons
        rw [isFence_e ho hm]
        simp only [Option.bind_some]
        rw [if_pos q, if_neg (by decide), hah I hwm ht]
        simp only [Option.bind_some]
        rw [if_neg c1, if_pos rfl]
  · refine ⟨-1, I, I, J, by rw [if_neg q, if_pos rfl], ?_, hr⟩
    unfold F_MD_irons
    rw [isFence_e ho hm]
    simp only [Option.bind_some]
    rw [if_neg q, if_pos rfl]
end L97
