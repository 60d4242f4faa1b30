/-! a year passes in the reference: roots, and all of it -/
section G57
variable {I : MI} {J : MJ} {p : CF} {w : WD} {kl : List NT} {th : Bool}
theorem mid_no {n : Nat} (h : a_rt p w n = false) : a_mid p w (n + 1) = a_mid p w n := by
  have e : ∀ f, (f < n + 1 ∧ a_rt p w f = true) ↔ (f < n ∧ a_rt p w f = true) := by
    intro f
    constructor
    · rintro ⟨h1, h2⟩
      by_cases q : f = n
      · rw [q, h] at h2; cases h2
      · exact ⟨by omega, h2⟩
    · rintro ⟨h1, h2⟩
      exact ⟨by omega, h2⟩
  unfold a_mid
  refine Prod.ext rfl (Prod.ext rfl (Prod.ext (funext fun f => ?_) (Prod.ext rfl (funext fun f => funext fun c => ?_))))
  · simp only [e]
  · simp only [e]
theorem mid_A {n f : Nat} (hf : f < cF p) : wA (a_mid p w n) f = if f < n ∧ a_rt p w f = true then 0 else a_age w f := by
  show (if f < cF p then (if f < n ∧ a_rt p w f = true then (0 : Int32) else a_age w f) else wA w f) = _
  rw [if_pos hf]
theorem mid_R {n f c : Nat} : wR (a_mid p w n) f c = if f < n ∧ a_rt p w f = true then (if c < cC p then 0 else -1) else a_row p w f c := rfl
abbrev L4 : List (Nat × Option Nat) := [(177, some 50), (177, some 53), (177, some 98), (213, none)]
theorem goes_4 (ho : CO p) (hq : CQ p) (hR : cF p = 0 ∨ 0 < cR p) (hs : CM I p) (hn : CN I p) (hv : WO p w) (hw : WM I p (a_mid p w 0)) (hk : KM I kl) (ht : I 177 55 = bI th) :
    ok (wl (fun s : Int32 × MI × MJ => F_MD_yearGoes_193 s.2.1 s.2.2 s.1) ((0 : Int32), I, J)) (fun t => WM t.1 p (a_mid p w (cF p)) ∧ KM t.1 (k_set p w th (cF p) kl) ∧ fsL L4 t.1 I) := by
  have hC := ho.1; have hF := ho.2.2.1
  have vw : ∀ X : MI, fsL L4 X I → CM X p ∧ CN X p ∧ X 177 55 = bI th := fun X h => ⟨CM_c hs (fun k hk => fs_k h (by rcases hk with z | z | z <;> subst z <;> decide)), CN_c hn (fun k hk => fs_k h (by rcases hk with z | z | z <;> subst z <;> decide)), by rw [h 177 55 (by decide)]; exact ht⟩
  refine ok_cnt (σ := MI × MJ) (cF p) (fun n s => (WM s.1 p (a_mid p w n) ∧ KM s.1 (k_set p w th n kl)) ∧ fsL L4 s.1 I ∧ fsL K1 s.2 J) ⟨⟨hw, hk⟩, fs_r I, fs_r J⟩ ?_ ?_
  · rintro n hn2 ⟨X, JX⟩ ⟨⟨g1, g2⟩, g3, g4⟩
    obtain ⟨v1, v2, v3⟩ := vw X g3
    have g1 : WM X p (a_mid p w n) := g1
    have g2 : KM X (k_set p w th n kl) := g2
    have main : ok (F_MD_yearGoes_193 X JX (nI n)) (Sum.elim (fun q => q.1 = nI (n + 1) ∧ WM q.2.1 p (a_mid p w (n + 1)) ∧ KM q.2.1 (k_set p w th (n + 1) kl)) (fun _ => False)) := by
      unfold F_MD_yearGoes_193
      refine ok_be (fm_e v1) (ok_f (nI_ge hn2 (by omega)) ?_)
      refine ok_b (ok_and (doesRoot_e ho hq v1 v2 g1 (mid_O hv ho hR n) hn2 JX) (q_MD_doesRoot (L := L_MD_doesRoot) (LJ := K_MD_doesRoot) (I0 := X) (J0 := JX) (by decide) (by decide) (fs_r X) (fs_r JX))) ?_
      rintro ⟨z1, z2, z3⟩ ⟨e1, e2, -⟩
      have e0 : a_ro p (wA (a_mid p w n) n) (wY (a_mid p w n)) (a_left p (wR (a_mid p w n) n)) = a_rt p w n := by
        rw [mid_A hn2, if_neg (by omega)]
        have : wR (a_mid p w n) n = a_row p w n := funext fun c => by rw [mid_R, if_neg (by omega)]
        rw [this]
        unfold a_rt
        rw [decide_eq_true hn2]; rfl
      rw [e0] at e1
      have e1 : z1 = bI (a_rt p w n) := e1
      have e2 : fsL L_MD_doesRoot z2 X := e2
      have e213 : z2 213 = X 213 := fs_k e2 (by decide)
      cases er : a_rt p w n with
      | false =>
        rw [er] at e1
        refine ok_t e1 (ok_s ⟨nI_s n, ?_, ?_⟩)
        · show WM z2 p _
          rw [mid_no er]
          exact WM_c ho g1 (fun j _ => by rw [e213])
        · show KM z2 _
          simp only [k_set]
          rw [er, if_neg (by decide)]
          exact KM_c g2 (fun j _ => by rw [e213])
      | true =>
        rw [er] at e1
        have hz : CM z2 p := CM_c v1 (fun k hk => fs_k e2 (by rcases hk with z | z | z <;> subst z <;> decide))
        refine ok_f (by show ¬ z1 = 0; rw [e1]; decide) (ok_b (isSet_e ho hz hn2) ?_)
        rintro Y ⟨y1, y2, y3, y4⟩
        have kY : KM Y (k_set p w th n kl) := KM_c (KM_c g2 (fun j _ => by rw [e213])) (fun j hj => y3 j (by omega) (fun c hc => by omega))
        have tY : Y 177 55 = bI th := by rw [y4 177 (by decide), e2 177 55 (by decide)]; exact v3
        refine ok_b (kept_e kY tY (nI n) 255) ?_
        rintro Z ⟨q1, q2, q3⟩
        have y0 : Y 213 0 = wY w := by rw [y3 0 (by omega) (fun c _ => by omega), e213]; exact g1.1
        rw [y0] at q1
        refine ok_s ⟨nI_s n, ?_, ?_⟩
        · show WM Z p (a_mid p w (n + 1))
          obtain ⟨w1, w2, w3, w4, w5⟩ := g1
          refine ⟨?_, fun f hf => ?_, fun f hf => ?_, fun c hc => ?_, fun f c hf hc => ?_⟩
          · rw [q2 0 (by omega)]; exact y0
          · rw [q2 _ (by omega), y3 _ (by omega) (fun c hc => by omega), e213]; exact w2 f hf
          · rw [q2 _ (by omega), mid_A hf]
            by_cases e : f = n
            · rw [e, y1, if_pos ⟨by omega, er⟩]
            · rw [y3 _ (by omega) (fun c hc => by omega), e213, w3 f hf, mid_A hf]
              by_cases q : f < n ∧ a_rt p w f = true
              · rw [if_pos q, if_pos ⟨by omega, q.2⟩]
              · rw [if_neg q, if_neg (fun z => q ⟨by omega, z.2⟩)]
          · rw [q2 _ (by omega), y3 _ (by omega) (fun c2 hc2 => by omega), e213]; exact w4 c hc
          · rw [q2 _ (by omega), mid_R]
            by_cases e : f = n
            · rw [e, y2 c hc, if_pos ⟨by omega, er⟩, if_pos hc]
            · rw [y3 _ (by omega) (fun c2 hc2 => by omega), e213, w5 f c hf hc, mid_R]
              by_cases q : f < n ∧ a_rt p w f = true
              · have q2 : f < n + 1 ∧ a_rt p w f = true := ⟨by omega, q.2⟩
                rw [if_pos q, if_pos q2]
              · rw [if_neg q, if_neg (fun z => q ⟨by omega, z.2⟩)]
        · show KM Z _
          simp only [k_set]
          rw [er, if_pos rfl]; exact q1
    refine ok_m (ok_and main (q_MD_yearGoes_193 (L := L4) (LJ := K1) (I0 := I) (J0 := J) (by decide) (by decide) g3 g4)) ?_
    rintro (⟨q1, q2, q3⟩ | q) ⟨h1, h2⟩
    · exact ⟨h1.1, h1.2, h2⟩
    · exact h1.elim
  · rintro ⟨X, JX⟩ ⟨⟨g1, g2⟩, g3, g4⟩
    obtain ⟨v1, v2, v3⟩ := vw X g3
    simp only [F_MD_yearGoes_193]
    exact ok_be (fm_e v1) (ok_t (Int32.le_refl _) (ok_s ⟨g1, g2, g3⟩))
/-- a year of the reference -/
theorem year_e (ho : CO p) (hq : CQ p) (hR : cF p = 0 ∨ 0 < cR p) (hs : CM I p) (hn : CN I p) (hv : WO p w) (hw : WM I p w) (hk : KM I kl) (ht : I 177 55 = bI th) :
    ok (F_MD_yearGoes I J) (fun t => WM t.1 p (a_year p w) ∧ KM t.1 (a_kept p w th kl) ∧ t.1 177 56 = I 177 56 + nI (a_went p w)) := by
  have hC := ho.1; have hF := ho.2.2.1
  unfold F_MD_yearGoes
  refine ok_b (goes_1 ho hq hs hn hw hv) ?_
  rintro ⟨A, JA⟩ ⟨a1, a2⟩
  have a1 : fsL L1 A I := a1
  have hsA : CM A p := CM_c hs (fun k hk => fs_k a1 (by rcases hk with z | z | z <;> subst z <;> decide))
  have hnA : CN A p := CN_c hn (fun k hk => fs_k a1 (by rcases hk with z | z | z <;> subst z <;> decide))
  have hwA : WM A p w := WM_c ho hw (fun j _ => by rw [fs_k a1 (by decide)])
  have hkA : KM A kl := KM_c hk (fun j _ => by rw [fs_k a1 (by decide)])
  have htA : A 177 55 = bI th := by rw [a1 177 55 (by decide)]; exact ht
  refine ok_b (goes_2 ho hsA hwA hv hkA htA a2) ?_
  rintro B ⟨b1, b2, b3, b4, b5, b6⟩
  have hsB : CM B p := CM_c hsA (fun k hk => b3 k (by omega) (by omega))
  have hnB : CN B p := CN_c hnA (fun k hk => b3 k (by omega) (by omega))
  refine ok_b (goes_3 (w := w) ho hsB (fun f hf => by rw [b2 _ (by omega) (fun f2 c2 h1 h2 => by omega)]; exact hwA.2.2.1 f hf)) ?_
  rintro C ⟨c1, c2, c3⟩
  have hsC : CM C p := CM_c hsB (fun k hk => c3 k (by omega))
  have hnC : CN C p := CN_c hnB (fun k hk => c3 k (by omega))
  have hkC : KM C (k_all p w th (cF p) kl) := KM_c b6 (fun j hj => c2 j (fun f hf => by omega))
  have htC : C 177 55 = bI th := by rw [c3 177 (by decide), b4 55 (by decide)]; exact htA
  have hwC : WM C p (a_mid p w 0) := by
    refine ⟨?_, fun f hf => ?_, fun f hf => ?_, fun c hc => ?_, fun f c hf hc => ?_⟩
    · rw [c2 0 (fun f hf => by omega), b2 0 (by omega) (fun f c _ _ => by omega)]; exact hwA.1
    · rw [(c1 f hf).2]
      show 0 = (if f < cF p then (0 : Int32) else wK w f)
      rw [if_pos hf]
    · rw [(c1 f hf).1, mid_A hf, if_neg (by omega)]
    · rw [c2 _ (fun f hf => by omega), b2 _ (by omega) (fun f c _ _ => by omega)]; exact hwA.2.2.2.1 c hc
    · rw [c2 _ (fun f2 hf2 => by omega), b1 f c hf hc, if_pos (Or.inl hf), mid_R, if_neg (by omega)]
  refine ok_b (goes_4 (J := JA) ho hq hR hsC hnC hv hwC hkC htC) ?_
  rintro ⟨D, JD⟩ ⟨d1, d2, d3⟩
  have d3 : fsL L4 D C := d3
  have d1 : WM D p (a_mid p w (cF p)) := d1
  have d2 : KM D (k_set p w th (cF p) (k_all p w th (cF p) kl)) := d2
  refine ok_s ⟨?_, ?_, ?_⟩
  · show WM (m_up D 213 0 (D 213 0 + 1)) p (a_year p w)
    obtain ⟨w1, w2, w3, w4, w5⟩ := d1
    refine ⟨?_, fun f hf => ?_, fun f hf => ?_, fun c hc => ?_, fun f c hf hc => ?_⟩
    · rw [up_e, w1]; rfl
    · rw [up_j _ _ _ (by omega), w2 f hf]
      show (if f < cF p then (0 : Int32) else wK w f) = 0
      rw [if_pos hf]
    · rw [up_j _ _ _ (by omega), w3 f hf, mid_A hf]
      show _ = (if f < cF p then (if a_rt p w f then (0 : Int32) else a_age w f) else wA w f)
      rw [if_pos hf]
      cases er : a_rt p w f
      · rw [if_neg (by simp), if_neg (by simp)]
      · rw [if_pos ⟨hf, rfl⟩, if_pos rfl]
    · rw [up_j _ _ _ (by omega)]; exact w4 c hc
    · rw [up_j _ _ _ (by omega), w5 f c hf hc, mid_R]
      show _ = (if a_rt p w f then (if c < cC p then (0 : Int32) else -1) else a_row p w f c)
      cases er : a_rt p w f
      · rw [if_neg (by simp), if_neg (by simp)]
      · rw [if_pos ⟨hf, rfl⟩, if_pos rfl]
  · show KM (m_up D 213 0 (D 213 0 + 1)) _
    exact KM_c d2 (fun j hj => up_j _ _ _ (by omega))
  · show m_up D 213 0 (D 213 0 + 1) 177 56 = _
    have b5 : B 177 56 = A 177 56 + nI (a_went p w) := b5
    rw [up_k _ _ _ (by decide), d3 177 56 (by decide), c3 177 (by decide), b5, a1 177 56 (by decide)]
theorem year_O (ho : CO p) (hR : cF p = 0 ∨ 0 < cR p) (hv : WO p w) (hy : wY w < 2000) : WO p (a_year p w) := by
  have h := mid_O hv ho hR (cF p)
  refine ⟨?_, fun _ => Or.inl rfl, fun f => ?_, hv.2.2.2.1, fun f c => ?_, fun f c hfc => ?_⟩
  · have h1 := hv.1.1
    show 0 ≤ wY w + 1 ∧ wY w + 1 ≤ 2000
    constructor <;> grind
  · have h3 := h.2.2.1 f
    show 0 ≤ (if f < cF p then (if a_rt p w f then (0 : Int32) else a_age w f) else wA w f) ∧ (if f < cF p then (if a_rt p w f then (0 : Int32) else a_age w f) else wA w f) ≤ 99
    split
    · split
      · decide
      · exact a_age_b hv f
    · exact hv.2.2.1 f
  · have h4 := h.2.2.2.2.1 f c
    rw [mid_R] at h4
    show (-1 ≤ (if a_rt p w f then (if c < cC p then (0 : Int32) else -1) else a_row p w f c) ∧ (if a_rt p w f then (if c < cC p then (0 : Int32) else -1) else a_row p w f c) < nI (cR p)) ∨ (if a_rt p w f then (if c < cC p then (0 : Int32) else -1) else a_row p w f c) = -1
    cases er : a_rt p w f
    · rw [er, if_neg (by simp)] at h4
      rw [if_neg (by simp)]; exact h4
    · rw [er, if_pos ⟨a_rt_F er, rfl⟩] at h4
      rw [if_pos rfl]; exact h4
  · show (if a_rt p w f then (if c < cC p then (0 : Int32) else -1) else a_row p w f c) = -1
    cases er : a_rt p w f
    · rw [if_neg (by simp)]; exact a_row_x hv hfc
    · have := a_rt_F er
      rw [if_pos rfl, if_neg (by omega)]
end G57
