/-! chance: the reference -/
section L86
variable {I X Z B : MI} {J JX J2 : MJ} {k o sl sd : Nat} {p : CF} {w w' : WD} {kl kl' : List NT} {un un' : List (WD × List NT)} {ch : Int32} {t : CT}
theorem AM_gone (ho : CO p) (h : AM B Z p w kl un) {f c : Nat} (hf : f < cF p) (hc : c < cC p) : ok (F_MD_isGone B (nI f) (nI c)) (fun Y => AM Y Z p (a_wsh w f c) (k_add kl (wY w, nI f, nI c)) un ∧ Y 0 = B 0 ∧ Y 177 43 = B 177 43) := by
  have hF := ho.2.2.1; have hC := ho.1
  obtain ⟨⟨h1, h2⟩, h3, h4, h5, h6, h7⟩ := h
  have hg : F_MD_isGone B (nI f) (nI c) = (F_MD_isKept (m_up (m_up B 213 (9 + 8 * f + c) (-1)) 177 56 (B 177 56 + 1)) (nI f) (nI c)) := by
    unfold F_MD_isGone F_MD_rowIs
    rw [ad_row, gd_n (by omega) (by decide), nI_clamp (by omega)]
    simp only [Option.bind_some]
    rw [up_k _ _ _ (by decide)]
    cases F_MD_isKept (m_up (m_up B 213 (9 + 8 * f + c) (-1)) 177 56 (B 177 56 + 1)) (nI f) (nI c) <;> rfl
  have fY : fsL LA (m_up (m_up B 213 (9 + 8 * f + c) (-1)) 177 56 (B 177 56 + 1)) Z := fs_up (LX := [(177, some 56)]) (by decide) (by decide) (fs_up (LX := [(213, none)]) (by decide) (by simp [inL]) h7)
  have u213 : ∀ j, (m_up (m_up B 213 (9 + 8 * f + c) (-1)) 177 56 (B 177 56 + 1)) 213 j = if j = 9 + 8 * f + c then -1 else B 213 j := fun j => by
    rw [up_k _ _ _ (by decide)]
    by_cases e : j = 9 + 8 * f + c
    · rw [if_pos e, e, up_e]
    · rw [if_neg e, up_j _ _ _ e]
  have u177 : ∀ j, j ≠ 56 → (m_up (m_up B 213 (9 + 8 * f + c) (-1)) 177 56 (B 177 56 + 1)) 177 j = B 177 j := fun j hj => by rw [up_j _ _ _ hj, up_k _ _ _ (by decide)]
  have uk : ∀ q, q ≠ 177 → q ≠ 213 → (m_up (m_up B 213 (9 + 8 * f + c) (-1)) 177 56 (B 177 56 + 1)) q = B q := fun q a b => by rw [up_k _ _ _ a, up_k _ _ _ b]
  rw [hg]
  generalize m_up (m_up B 213 (9 + 8 * f + c) (-1)) 177 56 (B 177 56 + 1) = U at *
  have kU : KM U kl := KM_c h4 (fun j hj => by rw [u213, if_neg (by omega)])
  refine ok_m (kept_e kU (th := false) ((u177 55 (by decide)).trans h6) (nI f) (nI c)) ?_
  rintro Y ⟨y1, y2, y3⟩
  have e0 : U 213 0 = wY w := by rw [u213, if_neg (by omega)]; exact h3.1
  rw [e0] at y1
  have yk : ∀ q, q ≠ 177 → q ≠ 213 → Y q = B q := fun q a b => (y3 q b).trans (uk q a b)
  have y177 : ∀ j, j ≠ 56 → Y 177 j = B 177 j := fun j hj => by rw [y3 177 (by decide)]; exact u177 j hj
  refine ⟨⟨⟨CM_c h1 (fun k hk => yk k (by omega) (by omega)), CN_c h2 (fun k hk => yk k (by omega) (by omega))⟩, ?_, y1, HM_c h5 (y177 66 (by decide)) (y177 67 (by decide)) (yk 221 (by decide) (by decide)), (y177 55 (by decide)).trans h6, fs_tr (fs_fr (P := fun q => q = 213) (fun q hq => y3 q hq) (fun q hq => by subst hq; decide)) fY⟩, yk 0 (by decide) (by decide), y177 43 (by decide)⟩
  obtain ⟨g1, g2, g3, g4, g5⟩ := h3
  refine ⟨?_, fun g hg => ?_, fun g hg => ?_, fun c' hc' => ?_, fun g c' hg hc' => ?_⟩
  · rw [y2 0 (by omega), u213, if_neg (by omega)]; exact g1
  · rw [y2 _ (by omega), u213, if_neg (by omega)]; exact g2 g hg
  · rw [y2 _ (by omega), u213, if_neg (by omega)]; exact g3 g hg
  · rw [y2 _ (by omega), u213, if_neg (by omega)]; exact g4 c' hc'
  · show _ = (if g = f ∧ c' = c then (-1 : Int32) else wR w g c')
    rw [y2 _ (by omega), u213]
    by_cases e : g = f ∧ c' = c
    · rw [if_pos e, if_pos (by omega)]
    · rw [if_neg e, if_neg (by omega)]; exact g5 g c' hg hc'
/-- one step of the reference -/
theorem chs_m (ho : CO p) (hQ : CQ p) (hR : cF p = 0 ∨ 0 < cR p) (hC0 : 0 < cC p) (hm : AM B Z p t.2.1 t.2.2.1 un) (hA : AW p t.2.1 t.2.2.1) (hch : B 177 43 = ch) (hs : t.1 < 2 ^ 31) (hJ : J 177 68 = lN t.1) {n m : Nat} (hmn : m < n) (hn : n < 1000) : ∃ Y JY, F_MD_chance_25 B J (nI n) (nI t.2.2.2) (nI m) = some (.inl (nI (ch_s p ch t).2.2.2, nI (m + 1), Y, JY)) ∧ AM Y Z p (ch_s p ch t).2.1 (ch_s p ch t).2.2.1 un ∧ Y 0 = B 0 ∧ Y 177 43 = ch ∧ JY 177 68 = lN (ch_s p ch t).1 ∧ fsL ((177, some 68) :: K1) JY J := by
  have hC := ho.1; have hF := ho.2.2.1
  have hW := chw_A (ch := ch) ho hC0 hA
  have last : ∀ (Y : MI) (JY : MJ), AM Y Z p (ch_w p ch t).2.1 (ch_w p ch t).2.2.1 un → Y 0 = B 0 → Y 177 43 = ch → JY 177 68 = lN (ch_w p ch t).1 → fsL ((177, some 68) :: K1) JY J → ∃ U JU, F_MD_yearGoes Y JY = some (U, JU) ∧ AM U Z p (ch_s p ch t).2.1 (ch_s p ch t).2.2.1 un ∧ U 0 = B 0 ∧ U 177 43 = ch ∧ JU 177 68 = lN (ch_s p ch t).1 ∧ fsL ((177, some 68) :: K1) JU J := by
    intro Y JY g1 g2 g3 g4 g5
    obtain ⟨⟨U, JU⟩, eu, ⟨u1, u2, u3, u4⟩, u5⟩ := ok_and (AM_year ho hQ hR g1 hW.1 JY) (q_MD_yearGoes (L := LY) (LJ := K1) (I0 := Y) (J0 := JY) (by decide) (by decide) (fs_r Y) (fs_r JY))
    have u3 : fsL K1 JU JY := u3
    have u4 : U 0 = Y 0 := u4
    have u6 : fsL LY U Y := u5.1
    exact ⟨U, JU, eu, u1, u4.trans g2, (u6 177 43 (by decide)).trans g3, (u3 177 68 (by decide)).trans g4, fs_tr (fs_sub (by decide) u3) g5⟩
  have fm : ∀ X : MI, CM X p → F_MD_fenceMany X = some (nI (cF p)) := fun X h => by unfold F_MD_fenceMany; rw [h.2.2.1]
  unfold F_MD_chance_25
  rw [if_neg (nI_ge hmn (by omega)), show (100 : Int32) = nI 100 from rfl, draw_m hJ hs (by decide) (by decide)]
  simp only [Option.bind_some]
  have j1 : (m_up J 177 68 (lN (a_nx t.1))) 177 68 = lN (a_nx t.1) := up_e _ _ _ _
  have f1 : fsL ((177, some 68) :: K1) (m_up J 177 68 (lN (a_nx t.1))) J := fs_up (LX := [(177, some 68)]) (by decide) (by decide) (fs_r J)
  generalize m_up J 177 68 (lN (a_nx t.1)) = J1 at *
  rw [hch]
  by_cases q1 : ch ≤ nI (a_dr t.1 100)
  · rw [if_pos q1]
    have e : ch_w p ch t = (a_nx t.1, t.2.1, t.2.2.1, t.2.2.2) := if_pos (Or.inl q1)
    obtain ⟨U, JU, eu, rest⟩ := last B J1 (by rw [e]; exact hm) rfl hch (by rw [e]; exact j1) f1
    refine ⟨U, JU, ?_, rest⟩
    rw [eu, nI_s]
    show some _ = some (Sum.inl (nI (ch_w p ch t).2.2.2, _, _, _))
    rw [e]
  rw [if_neg q1, fm B hm.1.1]
  simp only [Option.bind_some]
  by_cases q2 : cF p = 0
  · rw [q2, if_pos (show nI 0 ≤ 0 by decide)]
    have e : ch_w p ch t = (a_nx t.1, t.2.1, t.2.2.1, t.2.2.2) := if_pos (Or.inr q2)
    obtain ⟨U, JU, eu, rest⟩ := last B J1 (by rw [e]; exact hm) rfl hch (by rw [e]; exact j1) f1
    refine ⟨U, JU, ?_, rest⟩
    rw [eu, nI_s]
    show some _ = some (Sum.inl (nI (ch_w p ch t).2.2.2, _, _, _))
    rw [e]
  have hf : a_dr (a_nx t.1) (cF p) < cF p := Nat.mod_lt _ (by omega)
  have hcl : a_dr (a_nx (a_nx t.1)) (cC p) < cC p := Nat.mod_lt _ hC0
  rw [if_neg (show ¬ nI (cF p) ≤ 0 from nI_ge (a := 0) (by omega) (by omega)), draw_m j1 (nx_lt _) (by omega) (by omega)]
  simp only [Option.bind_some]
  have j2 : (m_up J1 177 68 (lN (a_nx (a_nx t.1)))) 177 68 = lN (a_nx (a_nx t.1)) := up_e _ _ _ _
  have f2 : fsL ((177, some 68) :: K1) (m_up J1 177 68 (lN (a_nx (a_nx t.1)))) J := fs_up (LX := [(177, some 68)]) (by decide) (by decide) f1
  generalize m_up J1 177 68 (lN (a_nx (a_nx t.1))) = J2 at *
  rw [hm.1.1.1, draw_m j2 (nx_lt _) hC0 (by omega)]
  simp only [Option.bind_some]
  have j3 : (m_up J2 177 68 (lN (a_nx (a_nx (a_nx t.1))))) 177 68 = lN (a_nx (a_nx (a_nx t.1))) := up_e _ _ _ _
  have f3 : fsL ((177, some 68) :: K1) (m_up J2 177 68 (lN (a_nx (a_nx (a_nx t.1))))) J := fs_up (LX := [(177, some 68)]) (by decide) (by decide) f2
  generalize m_up J2 177 68 (lN (a_nx (a_nx (a_nx t.1)))) = J3 at *
  rw [row_e ho hm.2.1 hf hcl]
  simp only [Option.bind_some]
  by_cases q3 : wR t.2.1 (a_dr (a_nx t.1) (cF p)) (a_dr (a_nx (a_nx t.1)) (cC p)) = -1
  · have e : ch_w p ch t = (a_nx (a_nx (a_nx t.1)), t.2.1, t.2.2.1, t.2.2.2 + 1) := by unfold ch_w; rw [if_neg (fun z => z.elim q1 q2), if_pos q3]
    obtain ⟨U, JU, eu, rest⟩ := last B J3 (by rw [e]; exact hm) rfl hch (by rw [e]; exact j3) f3
    refine ⟨U, JU, ?_, rest⟩
    rw [if_pos q3, eu, nI_s, nI_s]
    show some _ = some (Sum.inl (nI (ch_w p ch t).2.2.2, _, _, _))
    rw [e]
  · have e : ch_w p ch t = (a_nx (a_nx (a_nx t.1)), a_wsh t.2.1 (a_dr (a_nx t.1) (cF p)) (a_dr (a_nx (a_nx t.1)) (cC p)), k_add t.2.2.1 (wY t.2.1, nI (a_dr (a_nx t.1) (cF p)), nI (a_dr (a_nx (a_nx t.1)) (cC p))), t.2.2.2 + 1) := by unfold ch_w; rw [if_neg (fun z => z.elim q1 q2), if_neg q3]
    obtain ⟨V, ev, v1, v2, v3⟩ := AM_gone ho hm hf hcl
    obtain ⟨U, JU, eu, rest⟩ := last V J3 (by rw [e]; exact v1) v2 (v3.trans hch) (by rw [e]; exact j3) f3
    refine ⟨U, JU, ?_, rest⟩
    rw [if_neg q3, ev]
    simp only [Option.bind_some]
    rw [eu, nI_s, nI_s]
    show some _ = some (Sum.inl (nI (ch_w p ch t).2.2.2, _, _, _))
    rw [e]
theorem chn_A (ho : CO p) (hR : cF p = 0 ∨ 0 < cR p) (hC0 : 0 < cC p) (h : AW p t.2.1 t.2.2.1) (hs : t.1 < 2 ^ 31) {y : Nat} (hy : wY t.2.1 = nI y) : ∀ n, y + n ≤ 999 → AW p (ch_n p ch t n).2.1 (ch_n p ch t n).2.2.1 ∧ wY (ch_n p ch t n).2.1 = nI (y + n) ∧ (ch_n p ch t n).1 < 2 ^ 31 := by
  intro n
  induction n with
  | zero => intro _; exact ⟨h, hy, hs⟩
  | succ n ih =>
    intro hn
    obtain ⟨h1, h2, h3⟩ := ih (by omega)
    refine ⟨AW_year ho hR (chw_A ho hC0 h1) (by rw [chw_Y, h2]; exact nI_lt (b := 999) (by omega) (by decide)), ?_, chw_s h3⟩
    show wY (ch_w p ch (ch_n p ch t n)).2.1 + 1 = _
    rw [chw_Y, h2, nI_s]; rfl
end L86
