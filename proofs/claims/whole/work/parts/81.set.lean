/-! set, cut -/
section L81
variable {I X Z B : MI} {J JX J2 : MJ} {k o sl sd : Nat} {p : CF} {w w' : WD} {kl kl' : List NT} {un un' : List (WD × List NT)}
theorem HC_c (h : HC I un) (hu : un.length ≤ 20) (e : ∀ q, 47 ≤ q → q < 170 → X q = I q) : HC X un := by
  obtain ⟨h1, nx, n1, n2, n3⟩ := h
  refine ⟨by rw [e 47 (by omega) (by omega)]; exact h1, nx, n1, by rw [e 47 (by omega) (by omega)]; exact n2, fun i hi q hq => ?_⟩
  obtain ⟨g1, g2⟩ := n3 i hi q hq
  exact ⟨WC_c g1 (fun q a b => e q (by omega) (by omega)), KC_c g2 (fun q hq => e q (by omega) (by omega))⟩
theorem HM_c (h : HM I p un) (e1 : X 177 66 = I 177 66) (e2 : X 177 67 = I 177 67) (e3 : X 221 = I 221) : HM X p un := by
  unfold HM
  rw [e1, e2, e3]; exact h
/-- what the class's act leaves alone -/
theorem DA_k (h : fsL DA Z I) {q : Nat} (hq : (0 < q ∧ q < 20) ∨ (170 ≤ q)) : Z q = I q := by
  funext j
  refine h q j ?_
  cases e : inL DA q j with
  | false => rfl
  | true =>
    exfalso
    obtain ⟨x, x1, x2⟩ := List.any_eq_true.mp e
    have hx : x.1 = q := eq_of_beq (Bool.and_eq_true_iff.mp x2).1
    have key : x.1 = 0 ∨ (20 ≤ x.1 ∧ x.1 < 170) := by
      unfold DA at x1
      simp only [List.mem_cons] at x1
      rcases x1 with z | z | z | z | z | z | z | z | z | z | z | z | z
      all_goals first | (subst z; simp; done) | skip
      obtain ⟨i, hi, e⟩ := List.mem_map.mp z
      have := List.mem_range.mp hi
      subst e
      right
      constructor
      · show 20 ≤ 50 + i; omega
      · show 50 + i < 170; omega
    omega
/-- the reference's data, where only the class has moved -/
theorem ref_A (h : RelX I J sl p w kl un) (hz : fsL DA Z I) : CM Z p ∧ CN Z p ∧ WM Z p w ∧ KM Z kl ∧ HM Z p un ∧ Z 177 49 = bI (decide (0 < cC p)) := by
  obtain ⟨⟨ho, hQ, h00, -⟩, ⟨hc, hcd, hm, hcn⟩, ht, -⟩ := h.2.1.2.1
  obtain ⟨⟨hv, -, -⟩, hw, hwm, hkc, hkm⟩ := h.2.1.2.2.1
  obtain ⟨-, -, hh⟩ := gHist_i.mp h.2.1.2.2.2
  have e213 : Z 213 = I 213 := DA_k hz (by omega)
  have e177 : Z 177 = I 177 := DA_k hz (by omega)
  refine ⟨CM_c hm (fun k hk => DA_k hz (by omega)), CN_c hcn (fun k hk => DA_k hz (by omega)), by unfold WM; rw [e213]; exact hwm, by unfold KM; rw [e213]; exact hkm, HM_c hh (by rw [e177]) (by rw [e177]) (DA_k hz (by omega)), by rw [e177]; exact ht⟩
theorem seed_B (h : RelX I J sl p w kl un) (e : B 0 12 = I 0 12) : gSeed B J := by
  obtain ⟨s, h1, h2, h3⟩ := h.1.2.2.2.2
  exact ⟨s, h1, by rw [e]; exact h2, h3⟩
theorem refd_e : F_MD_isRefused (m_up I 176 2 (I 176 2 + 1)) = some (0, m_up (m_up I 176 2 (I 176 2 + 1)) 179 2 (I 179 2 + 1)) := by
  unfold F_MD_isRefused
  rw [up_k _ _ _ (show (179 : Nat) ≠ 176 by decide)]
/-- set -/
theorem op_set (hr : Rel I J sl) (f : Int32) : ∃ a I1 I2, F_WF_set sl sd I f = some (a, I1) ∧ F_MD_set I1 f = some (a, I2) ∧ Rel I2 J sl := by
  have href := Rel_ref hr (k := 2) (by decide)
  obtain ⟨hq, p, w, kl, un, h⟩ := id hr
  obtain ⟨⟨ho, hQ, h00, -⟩, ⟨hc, hcd, hm, hcn⟩, ht, -⟩ := h.2.1.2.1
  obtain ⟨⟨hv, hx, hK⟩, hw, hwm, hkc, hkm⟩ := h.2.1.2.2.1
  obtain ⟨hU, -, -⟩ := gHist_i.mp h.2.1.2.2.2
  have hF := ho.2.2.1; have hC := ho.1; have hR := ho.2.1
  unfold F_WF_set
  rw [hasFence_c ho hc]
  by_cases q : 0 ≤ f ∧ f < nI (cF p)
  · obtain ⟨a, ha, rfl⟩ := ix_2 (by omega) q
    rw [if_pos q, if_neg (by decide)]
    obtain ⟨A, ea, a1, a2, a3, a4, a5, a6⟩ := begin_c (sd := sd) h
    have esl : A sl 1 = nI (cC p) := by rw [DA_k (fs_sub (by decide +kernel) a6) (by omega)]; exact hc.1
    rw [ea]
    simp only [Option.bind_some]
    rw [esl]
    have zk : ∀ q, q ≠ 21 → q ≠ 23 → w_plant A 20 (nI a) (nI (cC p)) q = A q := fun q x1 x2 => plant_k _ _ _ x1 x2
    have zW := set_c ho a3 ha
    generalize w_plant A 20 (nI a) (nI (cC p)) = Z at *
    have hz : fsL DA Z I := fs_tr (fs_fr (P := fun q => q = 21 ∨ q = 23) (fun q hq => zk q (by omega) (by omega)) (fun q hq => by rcases hq with z | z <;> subst z <;> simp [DA])) (fs_sub (by decide +kernel) a6)
    obtain ⟨m1, m2, m3, m4, m5, m6⟩ := ref_A h hz
    obtain ⟨B, eb, b1, b2⟩ := keep_m ho m5 hU.1 m3 m4
    have mB : CM B p := CM_c m1 (fun k hk => fs_k b2 (by rcases hk with z | z | z <;> subst z <;> decide))
    have wB : WM B p w := WM_c ho m3 (fun j _ => by rw [fs_k b2 (by decide)])
    have kB : KM B kl := KM_c m4 (fun j _ => by rw [fs_k b2 (by decide)])
    obtain ⟨C, ec, c1, c2, c3⟩ := set_m ho mB wB ha
    refine ⟨1, Z, C, rfl, ?_, hq, p, a_set p w a, kl, u_add (w, kl) un, RelX_a hq h hz (fs_tr (fs_sub (by decide) c3) (fs_sub (by decide) b2)) (DJ := []) (fs_r J) (by decide) ?_ ⟨set_O ho (RelX_R h) hv ha, hx, hK⟩ (u_O hU ⟨hv, hx, hK⟩) (HC_c a2 (u_O hU ⟨hv, hx, hK⟩).1 (fun q x1 x2 => zk q (by omega) (by omega))) zW (KC_c a4 (fun q hq => zk q (by omega) (by omega))) ?_ (HM_c b1 (by rw [fs_k c3 (by decide)]) (by rw [fs_k c3 (by decide)]) (fs_k c3 (by decide))) c1 (KM_c kB c2)⟩
    · unfold F_MD_set
      rw [isFence_e ho m1]
      simp only [Option.bind_some]
      rw [if_pos q, if_neg (by decide), eb]
      simp only [Option.bind_some]
      rw [ec]
      rfl
    · refine seed_B h ?_
      rw [fs_k c3 (by decide), fs_k b2 (by decide), zk 0 (by omega) (by omega)]; exact a5
    · rw [zk 30 (by omega) (by omega)]; exact a1
  · rw [if_neg q, if_pos rfl, show (2 : Int32) = nI 2 from rfl, refuse_c (by decide)]
    refine ⟨0, _, _, rfl, ?_, href⟩
    unfold F_MD_set
    have hmZ : CM (m_up I 176 2 (I 176 2 + 1)) p := CM_c hm (fun k hk => up_k _ _ _ (by omega))
    rw [isFence_e ho hmZ]
    simp only [Option.bind_some]
    rw [if_neg q, if_pos rfl, refd_e]
    simp only [Option.bind_some]
    rw [gq_e (Or.inl trivial)]
/-- fence f is cut -/
def a_cut (w : WD) (f : Nat) : WD := (wY w, fun g => if g = f then 1 else wK w g, wA w, wP w, wR w)
theorem msk_cut {K K' : Nat → Int32} {f : Nat} (h : ¬ K f = 1) (h1 : K' f = 1) (h2 : ∀ g, g ≠ f → K' g = K g) : ∀ n, a_msk K' n = if f < n then a_msk K n ||| ((1 : Int32) <<< (nI f &&& 31)) else a_msk K n := by
  intro n
  induction n with
  | zero => rw [if_neg (by omega)]; rfl
  | succ n ih =>
    simp only [a_msk]
    rw [ih]
    by_cases e : n = f
    · subst e
      rw [if_pos h1, if_neg (Nat.lt_irrefl _), if_pos (Nat.lt_succ_self _), if_neg h]
    · rw [h2 n e]
      by_cases e2 : f < n
      · rw [if_pos e2, if_pos (show f < n + 1 by omega)]
        by_cases e3 : K n = 1
        · rw [if_pos e3, if_pos e3, Int32.or_assoc, Int32.or_comm ((1 : Int32) <<< (nI f &&& 31)), ← Int32.or_assoc]
        · rw [if_neg e3, if_neg e3]
      · rw [if_neg e2, if_neg (show ¬ f < n + 1 by omega)]
/-- cut -/
theorem op_cut (hr : Rel I J sl) (f : Int32) : ∃ a I1 I2, F_WF_cut sl sd I f = some (a, I1) ∧ F_MD_cut I1 f = some (a, I2) ∧ Rel I2 J sl := by
  have href := Rel_ref hr (k := 2) (by decide)
  obtain ⟨hq, p, w, kl, un, h⟩ := id hr
  obtain ⟨⟨ho, hQ, h00, -⟩, ⟨hc, hcd, hm, hcn⟩, ht, -⟩ := h.2.1.2.1
  obtain ⟨⟨hv, hx, hK⟩, hw, hwm, hkc, hkm⟩ := h.2.1.2.2.1
  obtain ⟨hU, -, -⟩ := gHist_i.mp h.2.1.2.2.2
  have hF := ho.2.2.1; have hC := ho.1; have hR := ho.2.1
  have hmZ : CM (m_up I 176 2 (I 176 2 + 1)) p := CM_c hm (fun k hk => up_k _ _ _ (by omega))
  have hwZ : WM (m_up I 176 2 (I 176 2 + 1)) p w := WM_c ho hwm (fun j _ => by rw [up_k _ _ _ (by decide)])
  unfold F_WF_cut
  rw [hasFence_c ho hc]
  by_cases q : 0 ≤ f ∧ f < nI (cF p)
  · obtain ⟨a, ha, rfl⟩ := ix_2 (by omega) q
    rw [if_pos q, if_neg (by decide), cut_c hw (by omega)]
    by_cases c0 : wK w a = 1
    · rw [if_pos c0, if_neg (by decide), show (2 : Int32) = nI 2 from rfl, refuse_c (by decide)]
      refine ⟨0, _, _, rfl, ?_, href⟩
      unfold F_MD_cut
      rw [isFence_e ho hmZ]
      simp only [Option.bind_some]
      rw [if_pos q, if_neg (by decide), cut_e ho hwZ ha, if_pos c0]
      simp only [Option.bind_some]
      rw [if_neg (by decide), refd_e]
      simp only [Option.bind_some]
      rw [gq_e (Or.inl trivial)]
    · obtain ⟨A, ea, a1, a2, a3, a4, a5, a6⟩ := begin_c (sd := sd) h
      rw [if_neg c0, if_pos rfl, ea]
      simp only [Option.bind_some]
      have zk : ∀ q, q ≠ 20 → m_up A 20 1 ((A 20 1) ||| ((1 : Int32) <<< (nI a &&& 31))) q = A q := fun q x1 => up_k _ _ _ x1
      have zW : WC (m_up A 20 1 ((A 20 1) ||| ((1 : Int32) <<< (nI a &&& 31)))) 20 (a_cut w a) := by
        obtain ⟨g1, g2, g3, g4, g5⟩ := a3
        refine ⟨?_, ?_, fun f hf => ?_, fun c hc => ?_, fun f c hf hc => ?_⟩
        · rw [up_j _ _ _ (by decide)]; exact g1
        · rw [up_e, g2]
          show _ = a_msk (fun g => if g = a then 1 else wK w g) 6
          rw [msk_cut (f := a) c0 (if_pos rfl) (fun g hg => if_neg hg), if_pos (by omega)]
        · rw [up_k _ _ _ (by decide)]; exact g3 f hf
        · rw [up_k _ _ _ (by decide)]; exact g4 c hc
        · rw [up_k _ _ _ (by decide)]; exact g5 f c hf hc
      generalize m_up A 20 1 ((A 20 1) ||| ((1 : Int32) <<< (nI a &&& 31))) = Z at *
      have hz : fsL DA Z I := fs_tr (fs_fr (P := fun q => q = 20) (fun q hq => zk q hq) (fun q hq => by subst hq; simp [DA])) (fs_sub (by decide +kernel) a6)
      obtain ⟨m1, m2, m3, m4, m5, m6⟩ := ref_A h hz
      obtain ⟨B, eb, b1, b2⟩ := keep_m ho m5 hU.1 m3 m4
      have wB : WM B p w := WM_c ho m3 (fun j _ => by rw [fs_k b2 (by decide)])
      have kB : KM B kl := KM_c m4 (fun j _ => by rw [fs_k b2 (by decide)])
      have eix : (((7 : Int32) + ((8 : Int32) * nI a)) + (1 : Int32)).toNatClampNeg = 8 + 8 * a := by rw [ad_cut, nI_clamp (by omega)]
      have fC : fsL [(213, none)] (m_up B 213 (8 + 8 * a) 1) B := fs_up (LX := [(213, none)]) (by decide) (by simp [inL]) (fs_r B)
      refine ⟨1, Z, m_up B 213 (8 + 8 * a) 1, rfl, ?_, hq, p, a_cut w a, kl, u_add (w, kl) un, RelX_a hq h hz (fs_tr (fs_sub (by decide) fC) (fs_sub (by decide) b2)) (DJ := []) (fs_r J) (by decide) ?_ ⟨⟨hv.1, fun g => ?_, hv.2.2.1, hv.2.2.2.1, hv.2.2.2.2.1, hv.2.2.2.2.2⟩, ⟨fun g hg => ?_, hx.2⟩, hK⟩ (u_O hU ⟨hv, hx, hK⟩) (HC_c a2 (u_O hU ⟨hv, hx, hK⟩).1 (fun q x1 x2 => zk q (by omega))) zW (KC_c a4 (fun q hq => zk q (by omega))) ?_ (HM_c b1 (by rw [fs_k fC (by decide)]) (by rw [fs_k fC (by decide)]) (fs_k fC (by decide))) ?_ (KM_c kB (fun j hj => up_j _ _ _ (by omega)))⟩
      · unfold F_MD_cut
        rw [isFence_e ho m1]
        simp only [Option.bind_some]
        rw [if_pos q, if_neg (by decide), cut_e ho m3 ha, if_neg c0]
        simp only [Option.bind_some]
        rw [if_pos trivial, eb]
        simp only [Option.bind_some]
        rw [eix, ad_cut, gd_n (by omega) (by decide)]
      · refine seed_B h ?_
        rw [fs_k fC (by decide), fs_k b2 (by decide), zk 0 (by omega)]; exact a5
      · show (if g = a then (1 : Int32) else wK w g) = 0 ∨ (if g = a then (1 : Int32) else wK w g) = 1
        split
        · exact Or.inr rfl
        · exact hv.2.1 g
      · show (if g = a then (1 : Int32) else wK w g) = 0
        rw [if_neg (by omega)]; exact hx.1 g hg
      · rw [zk 30 (by omega)]; exact a1
      · obtain ⟨g1, g2, g3, g4, g5⟩ := wB
        refine ⟨?_, fun g hg => ?_, fun g hg => ?_, fun c hc => ?_, fun g c hg hc => ?_⟩
        · rw [up_j _ _ _ (by omega)]; exact g1
        · show _ = (if g = a then (1 : Int32) else wK w g)
          by_cases e : g = a
          · subst e; rw [up_e, if_pos rfl]
          · rw [up_j _ _ _ (by omega), if_neg e]; exact g2 g hg
        · rw [up_j _ _ _ (by omega)]; exact g3 g hg
        · rw [up_j _ _ _ (by omega)]; exact g4 c hc
        · rw [up_j _ _ _ (by omega)]; exact g5 g c hg hc
  · rw [if_neg q, if_pos rfl, show (2 : Int32) = nI 2 from rfl, refuse_c (by decide)]
    refine ⟨0, _, _, rfl, ?_, href⟩
    unfold F_MD_cut
    rw [isFence_e ho hmZ]
    simp only [Option.bind_some]
    rw [if_neg q, if_pos rfl, refd_e]
    simp only [Option.bind_some]
    rw [gq_e (Or.inl trivial)]
end L81
