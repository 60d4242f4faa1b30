/-! a year, as it should be; how far a stake walks, whether a fence roots again: the reference -/
def fo0 : Nat → Int → Int := fun _ _ => 0
def ptw (age st y r : Int32) : Nat → Int := fun k => if k = 0 then age.toInt else if k = 1 then st.toInt else if k = 2 then y.toInt else if k = 3 then r.toInt else 0
def ptr (age st y : Int32) (left : Nat) : Nat → Int := fun k => if k = 0 then age.toInt else if k = 1 then st.toInt else if k = 2 then y.toInt else if k = 4 then (left : Int) else 0
def al_w (k : Nat) : Bool := Nat.blt k 4
def al_r (k : Nat) : Bool := Nat.blt k 3 || k == 4
/-- the codes of walks and roots may be -/
def CQ (p : CF) : Prop := (cW p = [] ∨ (q_ty (cW p) [] = some [false] ∧ q_al al_w false (cW p))) ∧ (cT p = [] ∨ (q_ty (cT p) [] = some [true] ∧ q_al al_r false (cT p)))
/-- how many rows a stake walks -/
def a_pn (p : CF) (age y : Int32) (c : Nat) (r : Int32) : Nat := if cW p = [] then (cS p c).toNatClampNeg else (max 0 (min 9 (q_val (ptw age (cS p c) y r) fo0 (cW p)))).toNat
def a_ro (p : CF) (age y : Int32) (left : Nat) : Bool := if cT p = [] then false else decide (q_val (ptr age (cS p 0) y left) fo0 (cT p) = 1)
/-- where a stake comes to in a year -/
def a_o (p : CF) (w : WD) (f c : Nat) : Option Nat := w_n (wP w c).toNatClampNeg (cR p) (if wK w f = 1 then 0 else a_pn p (wA w f) (wY w) c (wR w f c)) (wR w f c).toNatClampNeg
def a_row (p : CF) (w : WD) (f c : Nat) : Int32 := if wR w f c = -1 then -1 else oI (a_o p w f c)
def a_goes (p : CF) (w : WD) (f c : Nat) : Bool := !(wR w f c == -1) && (a_o p w f c).isNone
def a_age (w : WD) (f : Nat) : Int32 := if 99 ≤ wA w f then wA w f else wA w f + 1
def a_left (p : CF) (g : Nat → Int32) : Nat := sm (fun c => if g c = -1 then 0 else 1) (cC p)
def a_rt (p : CF) (w : WD) (f : Nat) : Bool := decide (f < cF p) && a_ro p (a_age w f) (wY w) (a_left p (a_row p w f))
/-- a year -/
def a_year (p : CF) (w : WD) : WD := (wY w + 1, fun _ => 0, fun f => if f < cF p then (if a_rt p w f then 0 else a_age w f) else wA w f, wP w, fun f c => if a_rt p w f then (if c < cC p then 0 else -1) else a_row p w f c)
/-- the codes of walks and roots as the reference has them -/
def codM (I : MI) (w : Nat) (cs : List Nat) : Prop := if cs = [] then I 210 (2 + w) = -1 else ∃ a, I 210 (2 + w) = nI a ∧ I 211 (2 + w) = nI (a + cs.length) ∧ a + cs.length ≤ 1600 ∧ ∀ i, i < cs.length → I 212 (1600 + (a + i)) = nI (cs.getD i 0)
def CN (I : MI) (p : CF) : Prop := codM I 0 (cW p) ∧ codM I 1 (cT p)
theorem CM_c {I X : MI} {p : CF} (h : CM I p) (e : ∀ k, k = 204 ∨ k = 205 ∨ k = 207 → X k = I k) : CM X p := by
  obtain ⟨h1, h2, h3, h4⟩ := h
  refine ⟨?_, ?_, ?_, fun c hc => ?_⟩
  · rw [e 204 (by omega)]; exact h1
  · rw [e 204 (by omega)]; exact h2
  · rw [e 205 (by omega)]; exact h3
  · rw [e 207 (by omega)]; exact h4 c hc
theorem codM_c {I X : MI} {w : Nat} {cs : List Nat} (h : codM I w cs) (e : ∀ k, k = 210 ∨ k = 211 ∨ k = 212 → X k = I k) : codM X w cs := by
  unfold codM at *
  rw [e 210 (by omega), e 211 (by omega), e 212 (by omega)]
  exact h
theorem CN_c {I X : MI} {p : CF} (h : CN I p) (e : ∀ k, k = 210 ∨ k = 211 ∨ k = 212 → X k = I k) : CN X p := ⟨codM_c h.1 e, codM_c h.2 e⟩
theorem WM_c {I X : MI} {p : CF} {w : WD} (ho : CO p) (h : WM I p w) (e : ∀ j, j < 55 → X 213 j = I 213 j) : WM X p w := by
  obtain ⟨h1, h2, h3, h4, h5⟩ := h
  have hF := ho.2.2.1; have hC := ho.1
  refine ⟨?_, fun f hf => ?_, fun f hf => ?_, fun c hc => ?_, fun f c hf hc => ?_⟩
  · rw [e 0 (by omega)]; exact h1
  · rw [e _ (by omega)]; exact h2 f hf
  · rw [e _ (by omega)]; exact h3 f hf
  · rw [e _ (by omega)]; exact h4 c hc
  · rw [e _ (by omega)]; exact h5 f c hf hc
theorem KM_c {I X : MI} {kl : List NT} (h : KM I kl) (e : ∀ j, 55 ≤ j → X 213 j = I 213 j) : KM X kl := by
  obtain ⟨h1, h2, h3⟩ := h
  exact ⟨by rw [e 55 (by omega)]; exact h1, h2, fun i hi => by rw [e _ (by omega), e _ (by omega), e _ (by omega)]; exact h3 i hi⟩
theorem toL (x : Int32) : x.toInt64 = xL x.toInt := Int64.toInt_inj.mp (by
  have h1 := Int32.toInt_lt x
  have h2 := Int32.le_toInt x
  rw [Int32.toInt_toInt64, xL_t (by omega) (by omega)])
theorem smI {x : Int32} {a b : Int32} (h1 : a ≤ x) (h2 : x ≤ b) (ha : -1000000 ≤ a.toInt) (hb : b.toInt ≤ 1000000) : smv x.toInt := by
  rw [Int32.le_iff_toInt_le] at h1 h2
  exact ⟨by omega, by omega⟩
theorem ptw_s {p : CF} {w : WD} (ho : CO p) (hv : WO p w) (f c c2 : Nat) : ∀ k, smv (ptw (wA w f) (cS p c2) (wY w) (wR w f c) k) := by
  intro k
  unfold ptw
  split
  · exact smI (hv.2.2.1 f).1 (hv.2.2.1 f).2 (by decide) (by decide)
  · split
    · exact smI (ho.2.2.2 c2).1 (ho.2.2.2 c2).2 (by decide) (by decide)
    · split
      · exact smI hv.1.1 hv.1.2 (by decide) (by decide)
      · split
        · refine smI (hv.ge f c) (b := 30) ?_ (by decide) (by decide)
          rcases hv.2.2.2.2.1 f c with h | h
          · have hR := ho.2.1
            have h2 := h.2
            rw [Int32.lt_iff_toInt_lt, nI_toInt (by omega)] at h2
            rw [Int32.le_iff_toInt_le]
            show _ ≤ (30 : Int)
            omega
          · rw [h]; decide
        · unfold smv; omega
theorem fo0_s : ∀ k x, smv (fo0 k x) := fun _ _ => by unfold smv fo0; omega
section Y54
variable {I : MI} {p : CF} {w : WD}
theorem partW {X : MI} (ho : CO p) (hw : WM X p w) (hs : CM X p) {f c : Nat} (hf : f < cF p) (hc : c < 6) {r : Int32} (h53 : X 177 53 = nI c) (h54 : X 177 54 = r) : ∀ k, k < 8 → al_w k = true → F_MD_qPartOf X (nI k) (nI f) = some (xL (ptw (wA w f) (cS p c) (wY w) r k)) := by
  intro k _ hk
  have hk4 : k < 4 := by simpa [al_w] using hk
  unfold F_MD_qPartOf ptw
  rcases (by omega : k = 0 ∨ k = 1 ∨ k = 2 ∨ k = 3) with q | q | q | q <;> subst q
  · rw [if_pos (show nI 0 = 0 from rfl), age_e ho hw hf, if_pos rfl]
    simp only [Option.bind_some]
    rw [toL]
  · rw [if_neg (show ¬ nI 1 = 0 by decide), if_pos (show nI 1 = 1 from rfl), h53, ad_6, gd_n (by omega) (by decide), nI_clamp (by omega), hs.2.2.2 c hc, toL]; rfl
  · rw [if_neg (show ¬ nI 2 = 0 by decide), if_neg (show ¬ nI 2 = 1 by decide), if_pos (show nI 2 = 2 from rfl), hw.1, toL]; rfl
  · rw [if_neg (show ¬ nI 3 = 0 by decide), if_neg (show ¬ nI 3 = 1 by decide), if_neg (show ¬ nI 3 = 2 by decide), if_pos (show nI 3 = 3 from rfl), h54, toL]; rfl
theorem partR {X : MI} (ho : CO p) (hw : WM X p w) (hs : CM X p) {f : Nat} (hf : f < cF p) (h53 : X 177 53 = 0) : ∀ k, k < 8 → al_r k = true → F_MD_qPartOf X (nI k) (nI f) = some (xL (ptr (wA w f) (cS p 0) (wY w) (a_left p (wR w f)) k)) := by
  intro k _ hk
  have hk4 : k = 0 ∨ k = 1 ∨ k = 2 ∨ k = 4 := by
    unfold al_r at hk
    simp at hk
    omega
  have hC := ho.1
  unfold F_MD_qPartOf ptr
  rcases hk4 with q | q | q | q <;> subst q
  · rw [if_pos (show nI 0 = 0 from rfl), age_e ho hw hf, if_pos rfl]
    simp only [Option.bind_some]
    rw [toL]
  · rw [if_neg (show ¬ nI 1 = 0 by decide), if_pos (show nI 1 = 1 from rfl), h53, show (6 : Int32) + 0 = nI 6 from rfl, gd_n (by omega) (by decide), nI_clamp (by omega), hs.2.2.2 0 (by omega), toL]; rfl
  · rw [if_neg (show ¬ nI 2 = 0 by decide), if_neg (show ¬ nI 2 = 1 by decide), if_pos (show nI 2 = 2 from rfl), hw.1, toL]; rfl
  · rw [if_neg (show ¬ nI 4 = 0 by decide), if_neg (show ¬ nI 4 = 1 by decide), if_neg (show ¬ nI 4 = 2 by decide), if_neg (show ¬ nI 4 = 3 by decide), if_pos (show nI 4 = 4 from rfl), left_e ho hs hw hf]
    simp only [Option.bind_some]
    have : sm (fun c => if wR w f c = -1 then 0 else 1) (cC p) ≤ cC p * 1 := sm_le (fun i _ => by split <;> omega)
    rw [toL, nI_toInt (by omega)]; rfl
theorem a_pn_le (ho : CO p) (age y : Int32) (c : Nat) (r : Int32) : a_pn p age y c r ≤ 9 := by
  unfold a_pn
  split
  · have h := ho.2.2.2 c
    have h2 := h.2
    rw [Int32.le_iff_toInt_le] at h2
    have e : (9 : Int32).toInt = 9 := by decide
    rw [e] at h2
    unfold Int32.toNatClampNeg
    omega
  · omega
theorem nI_cl {x : Int32} (h : 0 ≤ x) : nI x.toNatClampNeg = x := by
  obtain ⟨j, hj, rfl⟩ := nI_of (x := x) (by grind)
  rw [nI_clamp hj]
theorem walkOf_e (ho : CO p) (hq : CQ p) (hs : CM I p) (hn : CN I p) (hw : WM I p w) (hv : WO p w) {f c : Nat} (hf : f < cF p) (hc : c < cC p) (J : MJ) : ok (F_MD_walkOf I J (nI f) (nI c)) (fun r => r.1 = nI (a_pn p (wA w f) (wY w) c (wR w f c))) := by
  have hC := ho.1; have hF := ho.2.2.1
  unfold F_MD_walkOf
  have hn1 := hn.1
  unfold codM at hn1
  by_cases q : cW p = []
  · rw [if_pos q] at hn1
    refine ok_t hn1 (ok_gd (ad_6 c) (by omega) (by decide) (ok_s ?_))
    show I 207 ((6 : Int32) + nI c).toNatClampNeg = _
    rw [ad_6, nI_clamp (by omega), hs.2.2.2 c (by omega)]
    unfold a_pn
    rw [if_pos q, nI_cl (ho.2.2.2 c).1]
  · rw [if_neg q] at hn1
    obtain ⟨a, n1, n2, n3, n4⟩ := hn1
    have hty : q_ty (cW p) [] = some [false] ∧ q_al al_w false (cW p) := hq.1.resolve_left q
    refine ok_f ?_ ?_
    · rw [show I 210 2 = nI a from n1]
      intro z
      have := congrArg Int32.toInt z
      rw [nI_toInt (by omega)] at this
      have e : (-1 : Int32).toInt = -1 := by decide
      omega
    · have hw2 : WM (m_up I 177 53 (nI c)) p w := WM_c ho hw (fun j _ => by rw [up_k _ _ _ (by decide)])
      refine ok_be (row_e ho hw2 hf hc) ?_
      obtain ⟨J', e⟩ := tellM (I := m_up (m_up I 177 53 (nI c)) 177 54 (wR w f c)) (pt := ptw (wA w f) (cS p c) (wY w) (wR w f c)) (fo := fo0) (al := al_w) (w := 0) (a := a) (f := f) (cs := cW p) (by decide)
        (by rw [up_k _ _ _ (by decide), up_k _ _ _ (by decide)]; exact n1) (by rw [up_k _ _ _ (by decide), up_k _ _ _ (by decide)]; exact n2) n3 (fun i hi => by rw [up_k _ _ _ (by decide), up_k _ _ _ (by decide)]; exact n4 i hi) hty.1 hty.2 (ptw_s ho hv f c c) fo0_s
        (fun X hX => partW ho (WM_c ho hw (fun j _ => by rw [hX 213 j (by omega), up_k _ _ _ (by decide), up_k _ _ _ (by decide)])) (CM_c hs (fun k hk => funext fun j => by rw [hX k j (by omega), up_k _ _ _ (by omega), up_k _ _ _ (by omega)])) hf (by omega)
          (by rw [hX 177 53 (by omega), up_j _ _ _ (by decide), up_e]) (by rw [hX 177 54 (by omega), up_e])) J
      rw [nI_0] at e
      refine ok_be e ?_
      obtain ⟨v, -, v2, v3, -⟩ := q_val_s (ptw_s ho hv f c c) fo0_s hty.1
      have z0 : (0 : Int64) = xL 0 := by decide
      have z9 : (9 : Int64) = xL 9 := by decide
      have b0 : bgv 0 := by unfold bgv; omega
      have b9 : bgv 9 := by unfold bgv; omega
      have fin : a_pn p (wA w f) (wY w) c (wR w f c) = (max 0 (min 9 v)).toNat := by
        unfold a_pn
        rw [if_neg q, v2]
      rw [fin, v2]
      simp only [lg_cmp_ge, lg_cmp_le, z0, z9, xL_le b0 (smb v3), xL_le (smb v3) b9]
      refine ok_if (fun c1 => ok_if (fun c2 => ok_s ?_) (fun c2 => ok_s ?_)) (fun c1 => ok_s ?_)
      · show (xL v).toInt32 = _
        rw [xL_I (by omega) (by omega), ← xI_n, show max 0 (min 9 v) = v by omega, Int.toNat_of_nonneg c1]
      · show (9 : Int32) = _
        rw [show max 0 (min 9 v) = 9 by omega]; rfl
      · show (0 : Int32) = _
        rw [show max 0 (min 9 v) = 0 by omega]; rfl
theorem left_le (p : CF) (g : Nat → Int32) : a_left p g ≤ cC p := by
  have : a_left p g ≤ cC p * 1 := sm_le (fun i _ => by split <;> omega)
  omega
theorem ptr_s (ho : CO p) (hv : WO p w) (f : Nat) (g : Nat → Int32) : ∀ k, smv (ptr (wA w f) (cS p 0) (wY w) (a_left p g) k) := by
  intro k
  have hl := left_le p g
  have hC := ho.1
  unfold ptr
  split
  · exact smI (hv.2.2.1 f).1 (hv.2.2.1 f).2 (by decide) (by decide)
  · split
    · exact smI (ho.2.2.2 0).1 (ho.2.2.2 0).2 (by decide) (by decide)
    · split
      · exact smI hv.1.1 hv.1.2 (by decide) (by decide)
      · split
        · unfold smv; omega
        · unfold smv; omega
theorem doesRoot_e (ho : CO p) (hq : CQ p) (hs : CM I p) (hn : CN I p) (hw : WM I p w) (hv : WO p w) {f : Nat} (hf : f < cF p) (J : MJ) : ok (F_MD_doesRoot I J (nI f)) (fun r => r.1 = bI (a_ro p (wA w f) (wY w) (a_left p (wR w f)))) := by
  have hC := ho.1; have hF := ho.2.2.1
  unfold F_MD_doesRoot
  have hn1 := hn.2
  unfold codM at hn1
  by_cases q : cT p = []
  · rw [if_pos q] at hn1
    refine ok_t hn1 (ok_s ?_)
    unfold a_ro
    rw [if_pos q]; rfl
  · rw [if_neg q] at hn1
    obtain ⟨a, n1, n2, n3, n4⟩ := hn1
    have hty : q_ty (cT p) [] = some [true] ∧ q_al al_r false (cT p) := hq.2.resolve_left q
    refine ok_f ?_ ?_
    · rw [show I 210 3 = nI a from n1]
      intro z
      have := congrArg Int32.toInt z
      rw [nI_toInt (by omega)] at this
      have e : (-1 : Int32).toInt = -1 := by decide
      omega
    · obtain ⟨J', e⟩ := tellM (I := m_up I 177 53 0) (pt := ptr (wA w f) (cS p 0) (wY w) (a_left p (wR w f))) (fo := fo0) (al := al_r) (w := 1) (a := a) (f := f) (cs := cT p) (by decide)
        (by rw [up_k _ _ _ (by decide)]; exact n1) (by rw [up_k _ _ _ (by decide)]; exact n2) n3 (fun i hi => by rw [up_k _ _ _ (by decide)]; exact n4 i hi) hty.1 hty.2 (ptr_s ho hv f _) fo0_s
        (fun X hX => partR ho (WM_c ho hw (fun j _ => by rw [hX 213 j (by omega), up_k _ _ _ (by decide)])) (CM_c hs (fun k hk => funext fun j => by rw [hX k j (by omega), up_k _ _ _ (by omega)])) hf
          (by rw [hX 177 53 (by omega), up_e])) J
      refine ok_be e ?_
      obtain ⟨v, -, v2, v3, v4⟩ := q_val_s (ptr_s ho hv f (wR w f)) fo0_s hty.1
      have z1 : (1 : Int64) = xL 1 := by decide
      have b1 : bgv 1 := by unfold bgv; omega
      unfold a_ro
      rw [if_neg q, v2]
      simp only [lg_cmp_eq, z1, xL_eq (smb v3) b1]
      refine ok_if (fun c1 => ok_s ?_) (fun c1 => ok_s ?_)
      · rw [decide_eq_true c1]; rfl
      · rw [decide_eq_false c1]; rfl
end Y54
