/-! how far a stake walks, whether a fence roots again, what is kept: the class -/
def codC (I : MI) (sl a b : Nat) (cs : List Nat) : Prop := if cs = [] then I sl b ≤ I sl a else ∃ n, I sl a = nI n ∧ I sl b = nI (n + cs.length) ∧ n + cs.length ≤ 1600 ∧ ∀ i, i < cs.length → I (sl + 7) (n + i) = nI (q_tau (cs.getD i 0))
def CD (I : MI) (sl : Nat) (p : CF) : Prop := codC I sl 9 10 (cW p) ∧ codC I sl 11 12 (cT p)
theorem CC_c {I X : MI} {sl : Nat} {p : CF} (h : CC I sl p) (e : ∀ q, sl ≤ q → q ≤ sl + 7 → X q = I q) : CC X sl p := by
  obtain ⟨h1, h2, h3, h4⟩ := h
  refine ⟨?_, ?_, ?_, fun c hc => ?_⟩
  · rw [e sl (by omega) (by omega)]; exact h1
  · rw [e sl (by omega) (by omega)]; exact h2
  · rw [e sl (by omega) (by omega)]; exact h3
  · rw [e (sl + 1) (by omega) (by omega)]; exact h4 c hc
theorem codC_c {I X : MI} {sl a b : Nat} {cs : List Nat} (h : codC I sl a b cs) (e : ∀ q, sl ≤ q → q ≤ sl + 7 → X q = I q) : codC X sl a b cs := by
  unfold codC at *
  rw [e sl (by omega) (by omega), e (sl + 7) (by omega) (by omega)]; exact h
theorem CD_c {I X : MI} {sl : Nat} {p : CF} (h : CD I sl p) (e : ∀ q, sl ≤ q → q ≤ sl + 7 → X q = I q) : CD X sl p := ⟨codC_c h.1 e, codC_c h.2 e⟩
theorem WC_c {I X : MI} {k : Nat} {w : WD} (h : WC I k w) (e : ∀ q, k ≤ q → q ≤ k + 3 → X q = I q) : WC X k w := by
  obtain ⟨h1, h2, h3, h4, h5⟩ := h
  refine ⟨?_, ?_, fun f hf => ?_, fun c hc => ?_, fun f c hf hc => ?_⟩
  · rw [e k (by omega) (by omega)]; exact h1
  · rw [e k (by omega) (by omega)]; exact h2
  · rw [e (k + 1) (by omega) (by omega)]; exact h3 f hf
  · rw [e (k + 2) (by omega) (by omega)]; exact h4 c hc
  · rw [e (k + 3) (by omega) (by omega)]; exact h5 f c hf hc
theorem run_26 (X : MI) (q : Nat) (a b : Int32) {k : Nat} (hk : k ≠ 26) : w_run X q a b k = X k := fr_run (P := fun q => q = 26) fr_refl rfl k hk
theorem max9 {v : Int} (hv : smv v) : f_Math_max_II (0 : Int32) (f_Math_min_II (9 : Int32) (xI v)) = nI (max 0 (min 9 v)).toNat := by
  have s9 : smv 9 := by unfold smv; omega
  have s0 : smv 0 := by unfold smv; omega
  have e9 : (9 : Int32) = xI 9 := by decide
  have e0 : (0 : Int32) = xI 0 := by decide
  unfold f_Math_max_II f_Math_min_II
  rw [e9, e0]
  by_cases q : v < 9
  · rw [if_pos ((xI_lt hv s9).mpr q)]
    by_cases q2 : 0 < v
    · rw [if_pos ((xI_lt s0 hv).mpr q2), show max 0 (min 9 v) = v by omega, ← xI_n, Int.toNat_of_nonneg (by omega)]
    · rw [if_neg (fun z => q2 ((xI_lt s0 hv).mp z)), show max 0 (min 9 v) = 0 by omega]; rfl
  · rw [if_neg (fun z => q ((xI_lt hv s9).mp z)), if_pos (by decide), show max 0 (min 9 v) = 9 by omega]; rfl
section C58
variable {I X : MI} {k sl : Nat} {p : CF} {w : WD} {kl : List NT}
theorem steep_c (hs : CC X sl p) {c : Nat} (hc : c < 6) : f_Slope_steepOf X sl (nI c) = cS p c := by
  unfold f_Slope_steepOf
  rw [if_neg (nI_pos (by omega)), if_neg (show ¬ (6 : Int32) ≤ nI c from nI_ge hc (by decide)), nI_clamp (by omega), hs.2.2.2 c hc]
theorem paces_c (ho : CO p) (hq : CQ p) (hs : CC X sl p) (hd : CD X sl p) (hv : WO p w) (hsl : sl + 7 < 20) {f c : Nat} (hc : c < 6) (h6 : X 27 6 = wA w f) (h11 : X 27 11 = wY w) : f_Walker_paces X sl (nI c) (wR w f c) = nI (a_pn p (wA w f) (wY w) c (wR w f c)) := by
  have hd1 := hd.1
  unfold codC at hd1
  unfold f_Walker_paces a_pn
  by_cases q : cW p = []
  · rw [if_pos q] at hd1
    rw [if_pos hd1, if_pos q, steep_c hs hc]
    have h := ho.2.2.2 c
    have hv9 : smv (cS p c).toInt := smI h.1 h.2 (by decide) (by decide)
    have e := max9 hv9
    rw [xI_of] at e
    rw [e]
    have h1 := Int32.le_iff_toInt_le.mp h.1
    have h2 := Int32.le_iff_toInt_le.mp h.2
    have e9 : (9 : Int32).toInt = 9 := by decide
    have e0 : (0 : Int32).toInt = 0 := by decide
    unfold Int32.toNatClampNeg
    congr 1
    omega
  · rw [if_neg q] at hd1
    obtain ⟨n, n1, n2, n3, n4⟩ := hd1
    have hl : 0 < (cW p).length := List.length_pos_iff.mpr q
    have hty : q_ty (cW p) [] = some [false] ∧ q_al al_w false (cW p) := hq.1.resolve_left q
    rw [if_neg (by rw [n1, n2]; exact nI_ge (by omega) (by omega)), if_neg q, up_k _ _ _ (by omega), up_k _ _ _ (by omega), n1, n2, steep_c hs hc]
    obtain ⟨v, -, v2, v3, -⟩ := q_val_s (ptw_s ho hv f c c) fo0_s hty.1
    rw [runC_v (pt := ptw (wA w f) (cS p c) (wY w) (wR w f c)) (fo := fo0) (al := al_w) (oo := false) (q := sl + 7) (a := n) (cs := cW p) (b := false) (by omega) (fun i hi => by rw [up_k _ _ _ (by omega), up_k _ _ _ (by omega)]; exact n4 i hi) hty.1 hty.2 (ptw_s ho hv f c c) fo0_s ?_ (fun z => by cases z) n3, v2]
    · exact max9 v3
    · intro k hk
      have hk4 : k < 4 := by simpa [al_w] using hk
      unfold ptw
      rcases (by omega : k = 0 ∨ k = 1 ∨ k = 2 ∨ k = 3) with z | z | z | z <;> subst z
      · show m_up (m_up X 27 2 (cS p c)) 27 5 (wR w f c) 27 6 = _
        rw [up_j _ _ _ (by decide), up_j _ _ _ (by decide), h6, if_pos rfl, xI_of]
      · show m_up (m_up X 27 2 (cS p c)) 27 5 (wR w f c) 27 2 = _
        rw [up_j _ _ _ (by decide), up_e, if_neg (by decide), if_pos rfl, xI_of]
      · show m_up (m_up X 27 2 (cS p c)) 27 5 (wR w f c) 27 11 = _
        rw [up_j _ _ _ (by decide), up_j _ _ _ (by decide), h11, if_neg (by decide), if_neg (by decide), if_pos rfl, xI_of]
      · show m_up (m_up X 27 2 (cS p c)) 27 5 (wR w f c) 27 5 = _
        rw [up_e, if_neg (by decide), if_neg (by decide), if_neg (by decide), if_pos rfl, xI_of]
theorem paces_27 (X : MI) (sl : Nat) (c r : Int32) {j : Nat} (h2 : j ≠ 2) (h5 : j ≠ 5) : gI_Walker_paces X sl c r 27 j = X 27 j := by
  unfold gI_Walker_paces
  split
  · rfl
  · unfold uI_Walker_paces_0
    rw [run_26 _ _ _ _ (by decide), up_j _ _ _ h5, up_j _ _ _ h2]
theorem paces_k (X : MI) (sl : Nat) (c r : Int32) {q : Nat} (h6 : q ≠ 26) (h7 : q ≠ 27) : gI_Walker_paces X sl c r q = X q := fr_paces (P := fun q => q = 26 ∨ q = 27) fr_refl (Or.inl rfl) (Or.inr rfl) q (by omega)
/-- whether a fence roots again, in a memory that has its age and its stakes -/
theorem roots_c (ho : CO p) (hq : CQ p) (hs : CC X sl p) (hd : CD X sl p) (hv : WO p w) (hw : WC X k w) (hsl : sl + 7 < 20) (hk : (20 ≤ k ∧ k ≤ 22) ∨ (28 ≤ k ∧ k ≤ 41)) {f : Nat} (hf : f < 6) : f_Walker_rootsAgain X sl k (nI f) = bI (a_ro p (wA w f) (wY w) (a_left p (wR w f))) := by
  have hd1 := hd.2
  unfold codC at hd1
  unfold f_Walker_rootsAgain a_ro
  by_cases q : cT p = []
  · rw [if_pos q] at hd1
    rw [if_neg (by grind), if_pos q]; rfl
  · rw [if_neg q] at hd1
    obtain ⟨n, n1, n2, n3, n4⟩ := hd1
    have hl : 0 < (cT p).length := List.length_pos_iff.mpr q
    have hty : q_ty (cT p) [] = some [true] ∧ q_al al_r false (cT p) := hq.2.resolve_left q
    rw [if_pos (by rw [n1, n2]; exact nI_lt (by omega) (by omega)), if_neg q]
    have u : ∀ q, q ≠ 27 → uI_Walker_rootsAgain_0 X sl k (nI f) q = X q := fun q hq => by unfold uI_Walker_rootsAgain_0; rw [up_k _ _ _ hq, up_k _ _ _ hq, up_k _ _ _ hq]
    have uw : WC (uI_Walker_rootsAgain_0 X sl k (nI f)) k w := WC_c hw (fun q h1 h2 => u q (by omega))
    have u6 : uI_Walker_rootsAgain_0 X sl k (nI f) 27 6 = wA w f := by
      unfold uI_Walker_rootsAgain_0
      rw [up_j _ _ _ (by decide), up_j _ _ _ (by decide), up_e, age_c hw hf]
    have u11 : uI_Walker_rootsAgain_0 X sl k (nI f) 27 11 = wY w := by
      unfold uI_Walker_rootsAgain_0
      rw [up_j _ _ _ (by decide), up_e, up_k _ _ _ (by omega), hw.1]
    have u2 : uI_Walker_rootsAgain_0 X sl k (nI f) 27 2 = cS p 0 := by
      unfold uI_Walker_rootsAgain_0
      rw [up_e]
      have := steep_c (X := m_up (m_up X 27 6 (f_Lay_ageOf X k (nI f))) 27 11 ((m_up X 27 6 (f_Lay_ageOf X k (nI f))) k 0)) (sl := sl) (p := p) (CC_c hs (fun q h1 h2 => by rw [up_k _ _ _ (by omega), up_k _ _ _ (by omega)])) (c := 0) (by decide)
      rw [nI_0] at this
      exact this
    rw [left_c uw hv ho hf, up_k _ _ _ (by omega), u _ (by omega), n1, n2]
    have hs2 : ∀ k, smv (ptr (wA w f) (cS p 0) (wY w) (a_left p (wR w f)) k) := ptr_s ho hv f (wR w f)
    obtain ⟨v, -, v2, v3, v4⟩ := q_val_s hs2 fo0_s hty.1
    rw [runC_v (pt := ptr (wA w f) (cS p 0) (wY w) (a_left p (wR w f))) (fo := fo0) (al := al_r) (oo := false) (q := sl + 7) (a := n) (cs := cT p) (b := true) (by omega) (fun i hi => by rw [up_k _ _ _ (by omega), u _ (by omega)]; exact n4 i hi) hty.1 hty.2 hs2 fo0_s ?_ (fun z => by cases z) n3, v2]
    · rcases v4 rfl with z | z <;> subst z <;> decide
    · intro j hj
      have hj4 : j = 0 ∨ j = 1 ∨ j = 2 ∨ j = 4 := by
        unfold al_r at hj
        simp at hj
        omega
      unfold ptr
      rcases hj4 with z | z | z | z <;> subst z
      · show m_up _ 27 12 _ 27 6 = _
        rw [up_j _ _ _ (by decide), u6, if_pos rfl, xI_of]
      · show m_up _ 27 12 _ 27 2 = _
        rw [up_j _ _ _ (by decide), u2, if_neg (by decide), if_pos rfl, xI_of]
      · show m_up _ 27 12 _ 27 11 = _
        rw [up_j _ _ _ (by decide), u11, if_neg (by decide), if_neg (by decide), if_pos rfl, xI_of]
      · show m_up _ 27 12 _ 27 12 = _
        rw [up_e, if_neg (by decide), if_neg (by decide), if_neg (by decide), if_pos rfl, xI_n]; rfl
theorem roots_k (X : MI) (sl k : Nat) (f : Int32) {q : Nat} (h6 : q ≠ 26) (h7 : q ≠ 27) : gI_Walker_rootsAgain X sl k f q = X q := fr_roots (P := fun q => q = 26 ∨ q = 27) fr_refl (Or.inl rfl) (Or.inr rfl) q (by omega)
theorem rem_n {a b : Nat} (ha : a < 2 ^ 31) (hb0 : 0 < b) (hb : b < 2 ^ 31) : m_rem (nI a) (nI b) = nI (a % b) := by
  refine Int32.toInt_inj.mp ?_
  have : a % b ≤ a := Nat.mod_le _ _
  rw [m_rem_toInt, nI_toInt ha, nI_toInt hb, nI_toInt (by omega)]
  rfl
/-- a note in one number -/
def pk (x : NT) : Int32 := ((x.1 <<< ((16 : Int32) &&& 31)) ||| (x.2.1 <<< ((8 : Int32) &&& 31))) ||| x.2.2
def KC (X : MI) (g : Nat) (kl : List NT) : Prop := kl.length ≤ 40 ∧ X g 2 = nI kl.length ∧ ∃ o, o < 40 ∧ X g 1 = nI o ∧ ∀ i, i < kl.length → X (g + 1) ((o + i) % 40) = pk (kl.getD i (0, 0, 0))
theorem note_c {g : Nat} {y f c : Int32} (h : KC X g kl) : KC (gI_Log_note X g y f c) g (k_add kl (y, f, c)) := by
  obtain ⟨h1, h2, o, h3, h4, h5⟩ := h
  unfold gI_Log_note
  have e1 : m_rem ((X g 1) + (X g 2)) (40 : Int32) = nI ((o + kl.length) % 40) := by
    rw [h4, h2, nI_add]
    exact rem_n (b := 40) (by omega) (by decide) (by decide)
  rw [e1, if_pos (nI_pos' (by omega)), nI_clamp (by omega), up_k _ _ _ (by omega), h2]
  by_cases q : kl.length = 40
  · rw [if_pos (by rw [q]; decide)]
    unfold uI_Log_note_0 k_add
    rw [if_pos q, e1, nI_clamp (by omega), up_k _ _ _ (by omega), h4, nI_s]
    have e2 : m_rem (nI (o + 1)) (40 : Int32) = nI ((o + 1) % 40) := rem_n (b := 40) (by omega) (by decide) (by decide)
    rw [e2]
    refine ⟨by simp only [List.length_append, List.length_tail, List.length_cons, List.length_nil]; omega, ?_, (o + 1) % 40, by omega, up_e _ _ _ _, fun i hi => ?_⟩
    · rw [up_j _ _ _ (by decide), up_k _ _ _ (by omega), h2]
      simp only [List.length_append, List.length_tail, List.length_cons, List.length_nil]
      rw [q]
    · simp only [List.length_append, List.length_tail, List.length_cons, List.length_nil] at hi
      rw [up_k _ _ _ (by omega), getD_app, List.length_tail]
      by_cases z : i < kl.length - 1
      · rw [if_pos z, getD_tl, up_j _ _ _ (by omega), ← h5 (i + 1) (by omega)]
        congr 1
        omega
      · rw [if_neg z, if_pos (by omega), show ((o + 1) % 40 + i) % 40 = (o + kl.length) % 40 by omega, up_e]; rfl
  · rw [if_neg (show ¬ (40 : Int32) ≤ nI kl.length from nI_ge (b := 40) (by omega) (by decide))]
    unfold uI_Log_note_1 k_add
    rw [if_neg q, e1, nI_clamp (by omega), up_k _ _ _ (by omega), h2, nI_s]
    refine ⟨by simp only [List.length_append, List.length_cons, List.length_nil]; omega, ?_, o, h3, ?_, fun i hi => ?_⟩
    · rw [up_e]; simp only [List.length_append, List.length_cons, List.length_nil]
    · rw [up_j _ _ _ (by decide), up_k _ _ _ (by omega)]; exact h4
    · simp only [List.length_append, List.length_cons, List.length_nil] at hi
      rw [up_k _ _ _ (by omega), getD_app]
      by_cases z : i < kl.length
      · rw [if_pos z, up_j _ _ _ (by omega)]; exact h5 i z
      · rw [if_neg z, if_pos (by omega), show i = kl.length by omega, up_e]; rfl
def KO (lg : Option Nat) (X : MI) (kl : List NT) : Prop := match lg with
  | none => True
  | some g => KC X g kl
theorem KC_c {g : Nat} (h : KC I g kl) (e : ∀ q, q = g ∨ q = g + 1 → X q = I q) : KC X g kl := by
  obtain ⟨h1, h2, o, h3, h4, h5⟩ := h
  exact ⟨h1, by rw [e g (Or.inl rfl)]; exact h2, o, h3, by rw [e g (Or.inl rfl)]; exact h4, fun i hi => by rw [e _ (Or.inr rfl)]; exact h5 i hi⟩
theorem KO_c {lg : Option Nat} (h : KO lg I kl) (e : ∀ g q, lg = some g → q = g ∨ q = g + 1 → X q = I q) : KO lg X kl := by
  cases lg with
  | none => trivial
  | some g => exact KC_c h (fun q hq => e g q rfl hq)
theorem wnote_c {lg : Option Nat} {f c : Int32} (h : KO lg X kl) : KO lg (wf_note lg X k f c) (kl_add lg.isNone kl (X k 0, f, c)) := by
  cases lg with
  | none => trivial
  | some g => exact note_c h
theorem wnote_k {lg : Option Nat} {f c : Int32} {q : Nat} (h : ∀ g, lg = some g → q ≠ g ∧ q ≠ g + 1) : wf_note lg X k f c q = X q := by
  cases lg with
  | none => rfl
  | some g => exact fr_note (P := fun q => q = g ∨ q = g + 1) fr_refl (Or.inl rfl) (Or.inr rfl) q (by have := h g rfl; omega)
end C58
