/-! sets, the two loops -/
section L71
variable {I X : MI} {J JX : MJ} {k o sl sd : Nat} {p : CF} {w : WD} {kl : List NT} {un : List (WD × List NT)}
/-- the best of the first n years to set it in -/
def a_bs (p : CF) (w : WD) (f m : Nat) : Nat → Int32 × Int32
  | 0 => (a_lf p w f (-1) m, -1)
  | n + 1 => if a_lf p w f (nI n) m ≤ (a_bs p w f m n).1 then a_bs p w f m n else (a_lf p w f (nI n) m, nI n)
theorem bs_c (ho : CO p) (hQ : CQ p) (hR : cF p = 0 ∨ 0 < cR p) (hq : sl = 3 ∨ sl = 11) (hv : WO p w) (hc : CC I sl p) (hcd : CD I sl p) (hw : WC I 20 w) {f : Nat} (hf : f < cF p) {y m : Nat} (hy : wY w = nI y) (hm : y + m ≤ 999) (u : Int32) :
    ok (wl (fun s : Int32 × Int32 × Int32 × MI => F_WF_sets_55 sl sd s.2.2.2 (nI f) (nI m) u s.1 s.2.1 s.2.2.1) ((lf I sl (nI f) (-1 : Int32) m).1, -1, 0, (lf I sl (nI f) (-1 : Int32) m).2)) (fun t => t.1 = (a_bs p w f m m).1 ∧ t.2.1 = (a_bs p w f m m).2 ∧ fsL DC t.2.2 I) := by
  have keep : ∀ Y : MI, fsL DC Y I → ∀ v : Int32, (lf Y sl (nI f) v m).1 = a_lf p w f v m ∧ fsL DC (lf Y sl (nI f) v m).2 I := by
    intro Y hY v
    have z := lf_c ho hQ hR hq hv (CC_c hc (fun q a b => fs_fr_k hY (by omega))) (CD_c hcd (fun q a b => fs_fr_k hY (by omega))) (WC_c hw (fun q a b => fs_fr_k hY (by omega))) hf hy v m hm
    exact ⟨z.1, fs_tr (fs_fr z.2.2 FT_D) hY⟩
  have loop : ∀ d n (Y : MI), n + d = m → fsL DC Y I → ok (wl (fun s : Int32 × Int32 × Int32 × MI => F_WF_sets_55 sl sd s.2.2.2 (nI f) (nI m) u s.1 s.2.1 s.2.2.1) ((a_bs p w f m n).1, (a_bs p w f m n).2, nI n, Y)) (fun t => t.1 = (a_bs p w f m m).1 ∧ t.2.1 = (a_bs p w f m m).2 ∧ fsL DC t.2.2 I) := by
    intro d
    induction d with
    | zero =>
      intro n Y hn hY
      have hn : n = m := by omega
      subst hn
      refine ok_e (x := ((a_bs p w f n n).1, (a_bs p w f n n).2, Y)) (wl_in ?_) ⟨rfl, rfl, hY⟩
      simp only [F_WF_sets_55]
      rw [if_pos (Int32.le_refl _)]
    | succ d ih =>
      intro n Y hn hY
      obtain ⟨k1, k2⟩ := keep Y hY (nI n)
      have e1 : F_WF_sets_55 sl sd Y (nI f) (nI m) u (a_bs p w f m n).1 (a_bs p w f m n).2 (nI n) = some (.inl ((a_bs p w f m (n + 1)).1, (a_bs p w f m (n + 1)).2, nI (n + 1), (lf Y sl (nI f) (nI n) m).2)) := by
        unfold F_WF_sets_55
        rw [if_neg (nI_ge (by omega) (by omega)), nI_clamp (by omega), k1]
        simp only [a_bs, nI_s]
        split <;> rfl
      have e2 : wl (fun s : Int32 × Int32 × Int32 × MI => F_WF_sets_55 sl sd s.2.2.2 (nI f) (nI m) u s.1 s.2.1 s.2.2.1) ((a_bs p w f m n).1, (a_bs p w f m n).2, nI n, Y) = wl (fun s : Int32 × Int32 × Int32 × MI => F_WF_sets_55 sl sd s.2.2.2 (nI f) (nI m) u s.1 s.2.1 s.2.2.1) ((a_bs p w f m (n + 1)).1, (a_bs p w f m (n + 1)).2, nI (n + 1), (lf Y sl (nI f) (nI n) m).2) := wl_st e1
      rw [e2]
      exact ih (n + 1) _ (by omega) k2
  obtain ⟨k1, k2⟩ := keep I (fs_r I) (-1)
  rw [k1]
  exact loop m 0 _ (by omega) k2
theorem bs_m (ho : CO p) (hQ : CQ p) (hR : cF p = 0 ∨ 0 < cR p) (hv : WO p w) (h : TH X p w kl) (ha : WMg (X 214) p w) (J : MJ) {f : Nat} (hf : f < cF p) {y m : Nat} (hy : wY w = nI y) (hm : y + m ≤ 1999) (hm1 : 1 ≤ m) (u : Int32) :
    ok ((F_MD_leastField X J (nI f) (nI m) (-1 : Int32)).bind fun r8 => wl (fun s : Int32 × Int32 × Int32 × MI × MJ => F_MD_sets_50 s.2.2.2.1 s.2.2.2.2 (nI f) (nI m) u s.1 s.2.1 s.2.2.1) (((-1) : Int32), (r8.1 : Int32), (0 : Int32), r8.2.1, r8.2.2)) (fun t => t.1 = (a_bs p w f m m).2 ∧ t.2.1 = (a_bs p w f m m).1 ∧ TH t.2.2.1 p w kl ∧ WMg (t.2.2.1 214) p w ∧ fsL LY t.2.2.1 X ∧ fsL K1 t.2.2.2 J) := by
  have loop : ∀ d n (Y : MI) (JY : MJ), n + d = m → TH Y p w kl → WMg (Y 214) p w → fsL LY Y X → fsL K1 JY J → ok (wl (fun s : Int32 × Int32 × Int32 × MI × MJ => F_MD_sets_50 s.2.2.2.1 s.2.2.2.2 (nI f) (nI m) u s.1 s.2.1 s.2.2.1) ((a_bs p w f m n).2, (a_bs p w f m n).1, nI n, Y, JY)) (fun t => t.1 = (a_bs p w f m m).2 ∧ t.2.1 = (a_bs p w f m m).1 ∧ TH t.2.2.1 p w kl ∧ WMg (t.2.2.1 214) p w ∧ fsL LY t.2.2.1 X ∧ fsL K1 t.2.2.2 J) := by
    intro d
    induction d with
    | zero =>
      intro n Y JY hn hT hG f1 f2
      have hn : n = m := by omega
      subst hn
      refine ok_e (x := ((a_bs p w f n n).2, (a_bs p w f n n).1, Y, JY)) (wl_in ?_) ⟨rfl, rfl, hT, hG, f1, f2⟩
      simp only [F_MD_sets_50]
      rw [if_pos (Int32.le_refl _)]
    | succ d ih =>
      intro n Y JY hn hT hG f1 f2
      obtain ⟨⟨r, Z, JZ⟩, er, g1, g2, g3, g4, g5⟩ := lf_m ho hQ hR hv hT hG JY hf hy hm hm1 (nI n)
      have g1 : r = a_lf p w f (nI n) m := g1
      have e1 : F_MD_sets_50 Y JY (nI f) (nI m) u (a_bs p w f m n).2 (a_bs p w f m n).1 (nI n) = some (.inl ((a_bs p w f m (n + 1)).2, (a_bs p w f m (n + 1)).1, nI (n + 1), Z, JZ)) := by
        unfold F_MD_sets_50
        rw [if_neg (nI_ge (by omega) (by omega)), er]
        simp only [Option.bind_some, a_bs, nI_s]
        rw [← g1]
        by_cases c : r ≤ (a_bs p w f m n).1
        · rw [if_neg (by grind), if_pos c]
        · rw [if_pos (by grind), if_neg c]
      have e2 : wl (fun s : Int32 × Int32 × Int32 × MI × MJ => F_MD_sets_50 s.2.2.2.1 s.2.2.2.2 (nI f) (nI m) u s.1 s.2.1 s.2.2.1) ((a_bs p w f m n).2, (a_bs p w f m n).1, nI n, Y, JY) = wl (fun s : Int32 × Int32 × Int32 × MI × MJ => F_MD_sets_50 s.2.2.2.1 s.2.2.2.2 (nI f) (nI m) u s.1 s.2.1 s.2.2.1) ((a_bs p w f m (n + 1)).2, (a_bs p w f m (n + 1)).1, nI (n + 1), Z, JZ) := wl_st e1
      rw [e2]
      exact ih (n + 1) Z JZ (by omega) g2 g3 (fs_tr g4 f1) (fs_tr g5 f2)
  refine ok_b (lf_m ho hQ hR hv h ha J hf hy hm hm1 (-1)) ?_
  rintro ⟨r, Z, JZ⟩ ⟨g1, g2, g3, g4, g5⟩
  have g1 : r = a_lf p w f (-1) m := g1
  subst g1
  exact loop m 0 Z JZ (by omega) g2 g3 g4 g5
/-- sets -/
theorem op_sets (hr : Rel I J sl) (f v u : Int32) : ∃ a I1 I2 J2, F_WF_sets sl sd I f v u = some (a, I1) ∧ F_MD_sets I1 J f v u = some (a, I2, J2) ∧ Rel I2 J2 sl := by
  obtain ⟨hq, p, w, kl, un, h⟩ := id hr
  obtain ⟨⟨ho, hQ, h00, -⟩, ⟨hc, hcd, hm, hcn⟩, ht, -⟩ := h.2.1.2.1
  obtain ⟨⟨hv, -, -⟩, hw, hwm, hkc, hkm⟩ := h.2.1.2.2.1
  have hF := ho.2.2.1; have hC := ho.1; have hR := ho.2.1
  obtain ⟨y, y1, y2⟩ := RelX_y h
  unfold F_WF_sets
  rw [hasFence_c ho hc]
  by_cases q : 0 ≤ f ∧ f < nI (cF p)
  · have hC0 := F_told ho h00 q
    have hah : ∀ X : MI, WM X p w → X 177 49 = bI (decide (0 < cC p)) → F_MD_isAhead X v 1 30 = some (@ite _ (nI 1 ≤ v ∧ v ≤ nI (min 30 (999 - y))) (Classical.propDecidable _) 1 0) := fun X g1 g2 => ahead_e (a := 1) (b := 30) g1 g2 hC0 y2 y1 (by decide) v
    rw [if_pos q, if_neg (by decide), show (30 : Int32) = nI 30 from rfl, most_c hw y2 y1 (by decide)]
    simp only [Option.bind_some]
    by_cases c1 : nI 1 ≤ v ∧ v ≤ nI (min 30 (999 - y))
    · have c0 : ¬ v < 0 := by have : (1 : Int32) ≤ v := c1.1; grind
      obtain ⟨n, hn, rfl⟩ := nI_of2 (M := nI (min 30 (999 - y))) (n := min 30 (999 - y)) (nI_toInt (by omega)) c0 c1.2
      have n1 : 1 ≤ n := (nI_leI (by omega) (by omega)).mp c1.1
      obtain ⟨a, ha, rfl⟩ := ix_2 (by omega) q
      rw [if_neg (show ¬ nI n < 1 from nI_nlt (a := n) (b := 1) (by omega) (by omega)), if_neg (nI_nlt (by omega) (by omega))]
      by_cases u01 : 0 ≤ u ∧ u ≤ 1
      · obtain ⟨⟨t1, t2, Z⟩, ez, z1, z2, z3⟩ := bs_c (sd := sd) ho hQ (RelX_R h) hq hv hc hcd hw ha y2 (m := n) (by omega) u
        have z1 : t1 = (a_bs p w a n n).1 := z1
        have z2 : t2 = (a_bs p w a n n).2 := z2
        subst z1 z2
        have z3 : fsL DC Z I := z3
        rw [if_neg (show ¬ u < 0 by grind), if_pos u01.2, nI_clamp (by omega), ez]
        simp only [Option.bind_some]
        have hmZ : CM Z p := CM_c hm (fun k hk => fs_k z3 (by rcases hk with z | z | z <;> subst z <;> decide))
        have hnZ : CN Z p := CN_c hcn (fun k hk => fs_k z3 (by rcases hk with z | z | z <;> subst z <;> decide))
        have e49 : Z 177 49 = bI (decide (0 < cC p)) := by rw [z3 177 49 (by decide)]; exact ht
        have hwZ : WM Z p w := WM_c ho hwm (fun j _ => by rw [fs_k z3 (by decide)])
        have hkZ : KM Z kl := KM_c hkm (fun j _ => by rw [fs_k z3 (by decide)])
        obtain ⟨A, ea, a1, a2, a3⟩ := aside_e hmZ hnZ hwZ hkZ
        have a4 : WMg (A 214) p w := WMg_of ho hwZ a2
        obtain ⟨⟨s1, s2, B, JB⟩, eb, b1, b2, b3, b4, b5, b6⟩ := bs_m ho hQ (RelX_R h) hv a1 a4 J ha y2 (m := n) (by omega) n1 u
        have b1 : s1 = (a_bs p w a n n).2 := b1
        have b2 : s2 = (a_bs p w a n n).1 := b2
        subst b1 b2
        obtain ⟨C, ec, c2, c3, c4, c5⟩ := backT ho b3 b4
        have b5 : fsL LY B A := b5
        have hx : fsL (DM ++ DC) C I := fs_tr (fs_sub (by decide) c5) (fs_tr (fs_sub (by decide) b5) (fs_tr (fs_sub (by decide) a3) (fs_sub (by decide) z3)))
        have rel : Rel C JB sl := ⟨hq, p, w, kl, un, RelX_t hq h hx b6 c2 c3 c4 (by decide) (by decide) (by decide) (by decide) (by decide) (by decide) (by decide) (by decide) (by decide +kernel) (gIron_c (ag_of (by decide) hx) h.2.2.1) (by decide +kernel) (by decide)⟩
        have eM : F_MD_sets Z J (nI a) (nI n) u = if u = 0 then some ((a_bs p w a n n).2, C, JB) else some ((a_bs p w a n n).1, C, JB) := by
          unfold F_MD_sets
          rw [isFence_e ho hmZ]
          simp only [Option.bind_some]
          rw [if_pos q, if_neg (by decide), hah Z hwZ e49]
          simp only [Option.bind_some]
          rw [if_pos c1, if_neg (by decide), show (0 : Int64) = (0 : Int32).toInt64 by decide, show (1 : Int64) = (1 : Int32).toInt64 by decide, isIn_i]
          simp only [Option.bind_some]
          rw [if_pos u01, if_neg (by decide), ea]
          simp only [Option.bind_some]
          rw [← Option.bind_assoc, eb]
          simp only [Option.bind_some]
          rw [ec]
          rfl
        by_cases u0 : u = 0
        · rw [if_pos u0] at eM ⊢
          exact ⟨_, Z, C, JB, rfl, eM, rel⟩
        · rw [if_neg u0] at eM ⊢
          exact ⟨_, Z, C, JB, rfl, eM, rel⟩
      · refine ⟨-1, I, I, J, ?_, ?_, hr⟩
        · by_cases c0 : u < 0
          · rw [if_pos c0]
          · rw [if_neg c0, if_neg (fun z => u01 ⟨by grind, z⟩)]
        · unfold F_MD_sets
          rw [isFence_e ho hm]
          simp only [Option.bind_some]
          rw [if_pos q, if_neg (by decide), hah I hwm ht]
          simp only [Option.bind_some]
          rw [if_pos c1, if_neg (by decide), show (0 : Int64) = (0 : Int32).toInt64 by decide, show (1 : Int64) = (1 : Int32).toInt64 by decide, isIn_i]
          simp only [Option.bind_some]
          rw [if_neg u01, if_pos rfl]
    · refine ⟨-1, I, I, J, ?_, ?_, hr⟩
      · by_cases c0 : v < 1
        · rw [if_pos c0]
        · have c1' : nI 1 ≤ v := by show (1 : Int32) ≤ v; grind
          rw [if_neg c0, if_pos (show nI (min 30 (999 - y)) < v by have : ¬ v ≤ nI (min 30 (999 - y)) := fun z => c1 ⟨c1', z⟩; grind)]
      · unfold F_MD_sets
        rw [isFence_e ho hm]
        simp only [Option.bind_some]
        rw [if_pos q, if_neg (by decide), hah I hwm ht]
        simp only [Option.bind_some]
        rw [if_neg c1, if_pos rfl]
  · refine ⟨-1, I, I, J, by rw [if_neg q, if_pos rfl], ?_, hr⟩
    unfold F_MD_sets
    rw [isFence_e ho hm]
    simp only [Option.bind_some]
    rw [if_neg q, if_pos rfl]
end L71
