/-! fits -/
section L75
variable {I X : MI} {J JX : MJ} {k o sl sd : Nat} {p : CF} {w : WD} {kl : List NT} {un : List (WD × List NT)}
theorem seen_of (h : gSeen I p) : ∃ sn, SN p sn ∧ SC I sn ∧ SM I sn := by
  obtain ⟨sn, h1, h2, h3, h4⟩ := h
  exact ⟨sn, ⟨h1, fun i hi => (h4 i hi).2.2⟩, ⟨h2, fun i hi => (h4 i hi).1⟩, ⟨h3, fun i hi => (h4 i hi).2.1⟩⟩
theorem told_c (ho : CO p) (hc : CC I sl p) : f_Slope_isTold I sl = bI (decide (0 < cC p)) := by
  have hC := ho.1
  unfold f_Slope_isTold
  rw [hc.1]
  by_cases q : 0 < cC p
  · rw [decide_eq_true q, if_neg (show ¬ nI (cC p) ≤ 0 from nI_ge (b := cC p) (a := 0) q (by omega))]; rfl
  · rw [decide_eq_false q, show cC p = 0 by omega]; rfl
theorem f1_neg (φ : Nat → Bool) {n : Nat} (hn : n < 1000) : (f1 φ n = -1) ↔ fc φ n = 0 := by
  constructor
  · intro h
    by_cases q : fc φ n = 0
    · exact q
    · obtain ⟨k, k1, k2⟩ := (f1_v φ n).2 q
      rw [k2] at h
      have := nI_pos' (n := k) (by omega)
      rw [h] at this
      exact absurd this (by decide)
  · exact (f1_v φ n).1
theorem fit_end {sn : List NT} {y : Nat} : ∀ i, min 30 (999 - y) + 1 ≤ i → i < 31 → a_fit p w sn y i = false := by
  intro i h1 h2
  unfold a_fit
  rw [decide_eq_false (by omega), Bool.false_and]
/-- what both have of the years that fit -/
theorem fits_two (hq : sl = 3 ∨ sl = 11) (h : RelX I J sl p w kl un) (hy1 : 0 < cC p) : ∃ (sn : List NT) (y : Nat), y ≤ 999 ∧ wY w = nI y ∧ SN p sn ∧
    F_WF_yearsAtMost sl sd I (30 : Int32) = some (nI (min 30 (999 - y))) ∧ nI (min 30 (999 - y)) ≤ 60 ∧ m_le (nI (min 30 (999 - y))) = min 30 (999 - y) + 1 ∧
    (FFc (ff I sl (min 30 (999 - y) + 1)) p w sn y 31 ∧ fsL DF (ff I sl (min 30 (999 - y) + 1)) I) ∧
    ∀ Z : MI, fsL ((30, some 15) :: (30, some 16) :: (30, some 17) :: DF) Z I → Z 177 49 = 1 ∧ ok (F_MD_laysFits Z J) (fun t => t.1 177 63 = nI (fc (a_fit p w sn y) 31) ∧ (∀ i, i < 31 → t.1 219 i = bI (a_fit p w sn y i)) ∧ (∀ i c r, i < 31 → c < cC p → r < cR p → t.1 218 (180 * i + 30 * c + r) = (a_own (fun f => wR (a_it p w i) f c) (nI r) (cF p)).1) ∧ CM t.1 p ∧ RelX t.1 t.2 sl p w kl un) := by
  obtain ⟨⟨ho, hQ, h00, -⟩, ⟨hc, hcd, hm, hcn⟩, ht, -⟩ := h.2.1.2.1
  obtain ⟨⟨hv, -, -⟩, hw, hwm, hkc, hkm⟩ := h.2.1.2.2.1
  obtain ⟨y, y1, y2⟩ := RelX_y h
  obtain ⟨sn, s1, s2, s3⟩ := seen_of h.2.1.1
  obtain ⟨-, ⟨b1, b2, b3, b4⟩, b5⟩ := ff_c ho hQ (RelX_R h) hq hv hc hcd hw s1 s2 y2 (min 30 (999 - y) + 1) (by omega) (by omega)
  obtain ⟨x1, x2, x3, x4⟩ := fx_ext (φ := a_fit p w sn y) (N := min 30 (999 - y) + 1) (M := 31) (by omega) fit_end
  refine ⟨sn, y, y1, y2, s1, ?_, nI_le (b := 60) (by omega) (by decide), ?_, ⟨⟨?_, ?_, ?_, fun c r k a b d => ?_⟩, b5⟩, fun Z hZ => ?_⟩
  · exact most_c (m := 30) hw y2 y1 (by decide)
  · unfold m_le; rw [if_neg (nI_pos (by omega)), nI_clamp (by omega)]
  · rw [x1]; exact b1
  · rw [x2]; exact b2
  · rw [x3]; exact b3
  · rw [x4]; exact b4 c r k a b d
  · have hmZ : CM Z p := CM_c hm (fun k hk => fs_k hZ (by rcases hk with z | z | z <;> subst z <;> decide))
    have hnZ : CN Z p := CN_c hcn (fun k hk => fs_k hZ (by rcases hk with z | z | z <;> subst z <;> decide))
    have hwZ : WM Z p w := WM_c ho hwm (fun j _ => by rw [fs_k hZ (by decide)])
    have hkZ : KM Z kl := KM_c hkm (fun j _ => by rw [fs_k hZ (by decide)])
    have hSZ : SM Z sn := ⟨by rw [fs_k hZ (by decide)]; exact s3.1, fun i hi => by rw [fs_k hZ (by decide)]; exact s3.2 i hi⟩
    refine ⟨?_, ok_m (lays_e ho hQ (RelX_R h) hv hmZ hnZ hwZ hkZ J s1 hSZ y2 y1) ?_⟩
    · rw [fs_k hZ (by decide), ht, decide_eq_true hy1]; rfl
    · rintro ⟨C, JC⟩ ⟨c1, c2, c3, c4, c5, c6, c7, c8⟩
      have c7 : fsL ((177, some 63) :: (218, none) :: (219, none) :: DM) C Z := c7
      have hx : fsL ((177, some 63) :: (218, none) :: (219, none) :: (30, some 15) :: (30, some 16) :: (30, some 17) :: (DM ++ DF)) C I := fs_tr (fs_sub (by decide) c7) (fs_sub (by decide) hZ)
      refine ⟨c4, c5, c6, CM_c hmZ (fun k hk => fs_k c7 (by rcases hk with z | z | z <;> subst z <;> decide)), ?_⟩
      exact RelX_t hq h hx c8 c1 c2 c3 (by decide) (by decide) (by decide) (by decide) (by decide) (by decide) (by decide +kernel) (by decide) (by decide +kernel) (gIron_c (ag_of (by decide) hx) h.2.2.1) (by decide +kernel) (by decide)
/-- fits -/
theorem op_fits (hr : Rel I J sl) (v : Int32) : ∃ a I1 I2 J2, F_WF_fits sl sd I v = some (a, I1) ∧ F_MD_fits I1 J v = some (a, I2, J2) ∧ Rel I2 J2 sl := by
  obtain ⟨hq, p, w, kl, un, h⟩ := id hr
  obtain ⟨⟨ho, hQ, h00, -⟩, ⟨hc, hcd, hm, hcn⟩, ht, -⟩ := h.2.1.2.1
  unfold F_WF_fits
  rw [told_c ho hc]
  by_cases hC0 : 0 < cC p
  · obtain ⟨sn, y, y1, y2, s1, e1, e2, e3, ⟨⟨b1, b2, b3, -⟩, b5⟩, rest⟩ := fits_two (sd := sd) hq h hC0
    rw [decide_eq_true hC0, if_neg (show ¬ bI true = 0 by decide), e1]
    simp only [Option.bind_some]
    rw [gq_e e2, e3]
    generalize ff I sl (min 30 (999 - y) + 1) = Z at *
    obtain ⟨z1, ⟨C, JC⟩, ez, c1, c2, -, -, c5⟩ := rest Z (fs_sub (by decide) b5)
    have c1 : C 177 63 = nI (fc (a_fit p w sn y) 31) := c1
    have c2 : ∀ i, i < 31 → C 219 i = bI (a_fit p w sn y i) := c2
    have c5 : RelX C JC sl p w kl un := c5
    by_cases u : 0 ≤ v ∧ v ≤ 2
    · have loop : wl (fun s : Int32 × Int32 × Int32 => F_MD_fits_32 C v s.1 s.2.1 s.2.2) (((-1) : Int32), ((-1) : Int32), (0 : Int32)) = some (f1 (a_fit p w sn y) 31, f2 (a_fit p w sn y) 31) := by
        refine wl_f 31 (fun n => (f1 (a_fit p w sn y) n, f2 (a_fit p w sn y) n, nI n)) rfl (fun n hn => ?_) ?_
        · simp only [F_MD_fits_32]
          rw [if_neg (show ¬ (30 : Int32) < nI n from nI_nlt (a := 30) (b := n) (by omega) (by omega)), gd_n hn (by decide), nI_clamp (by omega), c2 n hn]
          simp only [f1, f2, nI_s]
          cases hb : a_fit p w sn y n with
          | false => rw [if_pos (show bI false = 0 from rfl), if_neg (by decide), if_neg (by decide)]
          | true =>
            rw [if_neg (show ¬ bI true = 0 by decide), if_pos rfl, if_pos rfl]
            by_cases q : fc (a_fit p w sn y) n = 0
            · rw [if_pos ((f1_neg _ (by omega)).mpr q), if_pos q]
            · rw [if_neg (fun z => q ((f1_neg _ (by omega)).mp z)), if_neg q]
        · simp only [F_MD_fits_32]
          rw [if_pos (by decide)]
      have eM : F_MD_fits Z J v = if v = 0 then some (C 177 63, C, JC) else if v = 1 then some (f1 (a_fit p w sn y) 31, C, JC) else some (f2 (a_fit p w sn y) 31, C, JC) := by
        unfold F_MD_fits
        rw [z1, if_neg (by decide), show (0 : Int64) = (0 : Int32).toInt64 by decide, show (2 : Int64) = (2 : Int32).toInt64 by decide, isIn_i]
        simp only [Option.bind_some]
        rw [if_pos u, if_neg (by decide), ez]
        simp only [Option.bind_some]
        rw [loop]
        rfl
      by_cases v0 : v = 0
      · rw [if_pos v0] at eM ⊢
        exact ⟨_, Z, C, JC, rfl, by rw [eM, b1, c1], hq, p, w, kl, un, c5⟩
      rw [if_neg v0] at eM ⊢
      by_cases v1 : v = 1
      · rw [if_pos v1] at eM ⊢
        exact ⟨_, Z, C, JC, rfl, by rw [eM, b2], hq, p, w, kl, un, c5⟩
      rw [if_neg v1] at eM ⊢
      rw [if_pos (show v = 2 by grind)]
      exact ⟨_, Z, C, JC, rfl, by rw [eM, b3], hq, p, w, kl, un, c5⟩
    · refine ⟨-1, Z, Z, J, ?_, ?_, hq, p, w, kl, un, RelX_f (DJ := []) hq h b5 (fs_r J) (by decide) (by decide) (by decide) (by decide) (by decide) (by decide) (by decide) (by decide) (by decide +kernel) (by decide) (by decide +kernel) (by decide) (by decide)⟩
      · rw [if_neg (by rintro rfl; exact u ⟨by decide, by decide⟩), if_neg (by rintro rfl; exact u ⟨by decide, by decide⟩), if_neg (by rintro rfl; exact u ⟨by decide, by decide⟩)]
      · unfold F_MD_fits
        rw [z1, if_neg (by decide), show (0 : Int64) = (0 : Int32).toInt64 by decide, show (2 : Int64) = (2 : Int32).toInt64 by decide, isIn_i]
        simp only [Option.bind_some]
        rw [if_neg u, if_pos rfl]
  · refine ⟨-1, I, I, J, ?_, ?_, hr⟩
    · rw [decide_eq_false hC0, if_pos (show bI false = 0 from rfl)]
    · unfold F_MD_fits
      rw [ht, decide_eq_false hC0, if_pos (show bI false = 0 from rfl)]
end L75
