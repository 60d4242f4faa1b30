/-! the class's questions about how all lies -/
/-- the slope as the class has it -/
def CC (I : MI) (sl : Nat) (p : CF) : Prop := I sl 1 = nI (cC p) ∧ I sl 2 = nI (cR p) ∧ I sl 3 = nI (cF p) ∧ ∀ c, c < 6 → I (sl + 1) c = cS p c
/-- which fences are cut, as bits -/
def a_msk (K : Nat → Int32) : Nat → Int32
  | 0 => 0
  | n + 1 => if K n = 1 then a_msk K n ||| ((1 : Int32) <<< (nI n &&& 31)) else a_msk K n
def WC (I : MI) (k : Nat) (w : WD) : Prop := I k 0 = wY w ∧ I k 1 = a_msk (wK w) 6 ∧ (∀ f, f < 6 → I (k + 1) f = wA w f) ∧ (∀ c, c < 6 → I (k + 2) c = wP w c) ∧ ∀ f c, f < 6 → c < 6 → I (k + 3) (6 * f + c) = wR w f c
theorem ad_76 (f c : Nat) : (nI f * 6) + nI c = nI (6 * f + c) := by
  simp only [nI, ← Int32.ofNat_mul, ← Int32.ofNat_add, show (6 : Int32) = Int32.ofNat 6 from rfl]
  congr 1
  omega
theorem is_st {f c : Nat} (hf : f < 6) (hc : c < 6) : v_isStake (nI f) (nI c) = true := by
  unfold v_isStake
  exact decide_eq_true ⟨nI_pos' (by omega), nI_lt hf (by decide), nI_pos' (by omega), nI_lt hc (by decide)⟩
section CLS46
variable {I : MI} {k sl : Nat} {p : CF} {w : WD}
theorem row_c (hw : WC I k w) {f c : Nat} (hf : f < 6) (hc : c < 6) : v_rowOf I k (nI f) (nI c) = wR w f c := by
  unfold v_rowOf
  rw [if_pos (is_st hf hc), ad_76, nI_clamp (by omega), hw.2.2.2.2 f c hf hc]
theorem age_c (hw : WC I k w) {f : Nat} (hf : f < 6) : f_Lay_ageOf I k (nI f) = wA w f := by
  unfold f_Lay_ageOf
  rw [if_neg (nI_pos (by omega)), if_neg (show ¬ (6 : Int32) ≤ nI f from nI_ge hf (by decide)), nI_clamp (by omega), hw.2.2.1 f hf]
theorem posts_c (hw : WC I k w) {c : Nat} (hc : c < 6) : f_Lay_postsOf I k (nI c) = wP w c := by
  unfold f_Lay_postsOf
  rw [if_neg (nI_pos (by omega)), if_neg (show ¬ (6 : Int32) ≤ nI c from nI_ge hc (by decide)), nI_clamp (by omega), hw.2.2.2.1 c hc]
theorem own_c (hw : WC I k w) {c : Nat} (hc : c < 6) (r : Int32) : ∀ n, n ≤ 6 → l_owner I k (nI c) r n = a_own (fun f => wR w f c) r n := by
  intro n
  induction n with
  | zero => intro _; rfl
  | succ n ih =>
    intro hn
    simp only [l_owner, a_own]
    rw [row_c hw (by omega) hc, ih (by omega)]
theorem own_x (hv : WO p w) (ho : CO p) (c : Nat) (r : Int32) : ∀ n, cF p ≤ n → a_own (fun f => wR w f c) r n = a_own (fun f => wR w f c) r (cF p) := by
  intro n
  induction n with
  | zero => intro h; rw [show cF p = 0 by omega]
  | succ n ih =>
    intro hn
    by_cases e : cF p = n + 1
    · rw [e]
    · simp only [a_own]
      have h1 := a_near (r := r) (fun f => hv.ge f c) n
      rw [hv.2.2.2.2.2 n c (Or.inl (by omega))]
      by_cases q : r < -1
      · rw [if_pos q]; exact ih (by omega)
      · rw [if_neg q, if_pos h1]; exact ih (by omega)
theorem owner_c (hw : WC I k w) (hv : WO p w) (ho : CO p) {c : Nat} (hc : c < 6) (r : Int32) : l_owner I k (nI c) r 6 = a_own (fun f => wR w f c) r (cF p) := by
  rw [own_c hw hc r 6 (by omega), own_x hv ho c r 6 ho.2.2.1]
theorem left_c (hw : WC I k w) (hv : WO p w) (ho : CO p) {f : Nat} (hf : f < 6) : l_left I k (nI f) 6 = nI (sm (fun c => if wR w f c = -1 then 0 else 1) (cC p)) := by
  have key : ∀ n, n ≤ 6 → l_left I k (nI f) n = nI (sm (fun c => if wR w f c = -1 then 0 else 1) n) := by
    intro n
    induction n with
    | zero => intro _; rfl
    | succ n ih =>
      intro hn
      simp only [l_left, sm]
      rw [row_c hw hf (by omega), ih (by omega)]
      split
      · rw [Int32.add_zero]; rfl
      · exact nI_s _
  rw [key 6 (by omega), sm_ext ho.1]
  intro i h1 h2
  rw [if_pos (hv.2.2.2.2.2 f i (Or.inr h1))]
theorem stakes_c (hw : WC I k w) (hv : WO p w) (ho : CO p) {c : Nat} (hc : c < 6) {r : Int32} (hr : ¬ r = -1) : l_stakesAt I k (nI c) r 6 = nI (sm (fun f => if wR w f c = r then 1 else 0) (cF p)) := by
  have key : ∀ n, n ≤ 6 → l_stakesAt I k (nI c) r n = nI (sm (fun f => if wR w f c = r then 1 else 0) n) := by
    intro n
    induction n with
    | zero => intro _; rfl
    | succ n ih =>
      intro hn
      simp only [l_stakesAt, sm]
      rw [row_c hw (by omega) hc, ih (by omega)]
      split
      · exact nI_s _
      · rw [Int32.add_zero]; rfl
  rw [key 6 (by omega), sm_ext ho.2.2.1]
  intro i h1 h2
  rw [if_neg]
  rw [hv.2.2.2.2.2 i c (Or.inl h1)]
  exact fun e => hr e.symm
theorem below_c (hw : WC I k w) (hv : WO p w) (ho : CO p) {a b : Nat} (ha : a < 6) (hb : b < 6) : l_below I k (nI a) (nI b) 6 = nI (n_bel w a b (cC p)) := by
  have key : ∀ n, n ≤ 6 → l_below I k (nI a) (nI b) n = nI (n_bel w a b n) := by
    intro n
    induction n with
    | zero => intro _; rfl
    | succ n ih =>
      intro hn
      simp only [l_below, n_bel, sm]
      rw [row_c hw ha (by omega), row_c hw hb (by omega), ih (by omega)]
      have g1 := hv.ge a n
      have g2 := hv.ge b n
      by_cases q1 : wR w b n = -1
      · rw [if_pos q1]
        rw [Int32.add_zero, if_pos q1]
        split <;> rfl
      · rw [if_neg q1]
        by_cases q2 : wR w a n = -1
        · rw [if_pos q2, if_pos (by rw [q2]; exact g2), Int32.add_zero]; rfl
        · rw [if_neg q2, if_neg q1]
          split
          · rw [Int32.add_zero]; rfl
          · exact nI_s _
  rw [key 6 (by omega)]
  unfold n_bel
  rw [sm_ext ho.1]
  intro i h1 h2
  rw [if_pos (hv.2.2.2.2.2 a i (Or.inr h1))]
theorem meet_c (hw : WC I k w) (hv : WO p w) (ho : CO p) {a b : Nat} (ha : a < 6) (hb : b < 6) : l_meet I k (nI a) (nI b) 6 = b_meet w a b (cC p) := by
  have key : ∀ n, n ≤ 6 → l_meet I k (nI a) (nI b) n = b_meet w a b n := by
    intro n
    induction n with
    | zero => intro _; rfl
    | succ n ih =>
      intro hn
      simp only [l_meet, b_meet]
      rw [row_c hw ha (by omega), row_c hw hb (by omega), ih (by omega)]
      by_cases q1 : wR w a n = -1
      · simp [q1]
      · by_cases q2 : wR w a n = wR w b n
        · rw [if_neg q1, if_pos q2]; rw [q2] at q1; simp [q1, q2]
        · rw [if_neg q1, if_neg q2]; simp [q2]
  have ex : ∀ n, cC p ≤ n → b_meet w a b n = b_meet w a b (cC p) := by
    intro n
    induction n with
    | zero => intro h; rw [show cC p = 0 by omega]
    | succ n ih =>
      intro hn
      by_cases e : cC p = n + 1
      · rw [e]
      · simp only [b_meet]
        rw [ih (by omega), hv.2.2.2.2.2 a n (Or.inr (by omega))]
        simp
  rw [key 6 (by omega), ex 6 ho.1]
/-- Int32 and Int -/
theorem own_o (g : Nat → Int32) (r : Int32) : ∀ n, n < 2 ^ 31 → ((a_own g r n).1.toInt, (a_own g r n).2.toInt) = o_own (fun f => (g f).toInt) r.toInt n := by
  intro n
  induction n with
  | zero => intro _; show ((-1 : Int32).toInt, (-1 : Int32).toInt) = ((-1 : Int), (-1 : Int)); decide
  | succ n ih =>
    intro hn
    have h := ih (by omega)
    have h2 : (o_own (fun f => (g f).toInt) r.toInt n).2 = (a_own g r n).2.toInt := by rw [← h]
    simp only [a_own, o_own]
    by_cases q1 : r < g n
    · rw [if_pos q1, if_pos (Int32.lt_iff_toInt_lt.mp q1)]; exact h
    · rw [if_neg q1, if_neg (fun z => q1 (Int32.lt_iff_toInt_lt.mpr z)), h2]
      by_cases q2 : g n ≤ (a_own g r n).2
      · rw [if_pos q2, if_pos (Int32.le_iff_toInt_le.mp q2)]; exact h
      · rw [if_neg q2, if_neg (fun z => q2 (Int32.le_iff_toInt_le.mpr z))]
        show ((nI n).toInt, _) = _
        rw [nI_toInt (by omega)]
theorem own_1 (g : Nat → Int32) (r : Int32) {n : Nat} (hn : n < 2 ^ 31) (v : Int32) : (a_own g r n).1 = v ↔ (o_own (fun f => (g f).toInt) r.toInt n).1 = v.toInt := by
  rw [← own_o g r n hn]
  exact Int32.toInt_inj.symm
theorem n_fld_o (g : Nat → Int32) (f : Int32) {F R : Nat} (hF : F < 2 ^ 31) (hR : R < 2 ^ 31) : n_fld g f F R = sm (fun r => if (o_own (fun f => (g f).toInt) (r : Int) F).1 = f.toInt then 1 else 0) R := by
  unfold n_fld
  refine sm_c fun r hr => ?_
  have := own_1 g (nI r) hF f
  rw [nI_toInt (by omega)] at this
  by_cases q : (a_own g (nI r) F).1 = f
  · rw [if_pos q, if_pos (this.mp q)]
  · rw [if_neg q, if_neg (fun z => q (this.mpr z))]
theorem toInt_sub_small {a b : Int32} (h1 : -1 ≤ b) (h2 : b ≤ a) (h3 : a ≤ 100) : (a - b).toInt = a.toInt - b.toInt := by
  rw [Int32.le_iff_toInt_le] at h1 h2 h3
  rw [Int32.toInt_sub]
  have e1 : (-1 : Int32).toInt = -1 := by decide
  have e2 : (100 : Int32).toInt = 100 := by decide
  rw [e1] at h1
  rw [e2] at h3
  rw [Int.bmod_eq_of_le] <;> omega
/-- the class's field in a column is the counted one -/
theorem fin_c (hw : WC I k w) {c f : Nat} (hf : f < 6) (hc : c < 6) {R : Nat} (hR : R ≤ 30) : ∀ n, n ≤ 6 → (l_fieldIn I k (nI c) (nI f) (nI R) n).map Int32.toInt = o_fin (fun f => (wR w f c).toInt) f (R : Int) n := by
  intro n
  induction n with
  | zero => intro _; simp only [l_fieldIn, o_fin, Option.map_some]; rw [nI_toInt (by omega)]
  | succ n ih =>
    intro hn
    have h := ih (by omega)
    simp only [l_fieldIn, o_fin]
    rw [← h]
    cases he : l_fieldIn I k (nI c) (nI f) (nI R) n with
    | none => rfl
    | some e =>
      simp only [Option.map_some]
      rw [row_c hw (by omega) hc, row_c hw hf hc]
      have t1 : (wR w n c = wR w f c ∧ ¬ nI f ≤ nI n) ↔ ((wR w n c).toInt = (wR w f c).toInt ∧ n < f) := by
        rw [Int32.toInt_inj, nI_leI (by omega) (by omega)]
        exact ⟨fun h => ⟨h.1, by omega⟩, fun h => ⟨h.1, by omega⟩⟩
      by_cases q1 : wR w n c = wR w f c ∧ ¬ nI f ≤ nI n
      · rw [if_pos q1, if_pos (t1.mp q1)]; rfl
      · rw [if_neg q1, if_neg (fun z => q1 (t1.mpr z))]
        by_cases q2 : wR w n c ≤ wR w f c
        · rw [if_pos q2, if_pos (Int32.le_iff_toInt_le.mp q2)]; rfl
        · rw [if_neg q2, if_neg (fun z => q2 (Int32.le_iff_toInt_le.mpr z))]
          by_cases q3 : e ≤ wR w n c
          · rw [if_pos q3, if_pos (Int32.le_iff_toInt_le.mp q3)]; rfl
          · rw [if_neg q3, if_neg (fun z => q3 (Int32.le_iff_toInt_le.mpr z))]; rfl
theorem WO.lt {p : CF} {w : WD} (h : WO p w) (ho : CO p) (f c : Nat) (hR : 0 < cR p) : wR w f c < nI (cR p) := by
  rcases h.2.2.2.2.1 f c with h | h
  · exact h.2
  · rw [h]
    have := ho.2.1
    rw [Int32.lt_iff_toInt_lt, nI_toInt (by omega)]
    show (-1 : Int) < _
    omega
theorem fldin_c (hw : WC I k w) (hv : WO p w) (ho : CO p) {c f : Nat} (hf : f < 6) (hc : c < 6) : v_fieldIn I k (nI c) (nI f) (nI (cR p)) = nI (n_fld (fun f => wR w f c) (nI f) (cF p) (cR p)) := by
  have hR := ho.2.1; have hF := ho.2.2.1
  by_cases h0 : wR w f c = -1
  · unfold v_fieldIn
    rw [row_c hw hf hc, if_pos h0]
    have : n_fld (fun f => wR w f c) (nI f) (cF p) (cR p) = 0 := by
      rw [n_fld_o _ _ (by omega) (by omega), nI_toInt (by omega), sm_c (g := fun _ => 0), sm_0]
      intro r hr
      rw [if_neg]
      intro e
      rcases o_own_is (G := fun f => (wR w f c).toInt) (r := (r : Int)) (fun f => by have := Int32.le_iff_toInt_le.mp (hv.ge f c); exact this) (cF p) with ⟨e2, -⟩ | ⟨f2, hf2, e2, h2, -⟩
      · rw [e2] at e; simp at e <;> omega
      · rw [e2] at e
        have z : f2 = f := by simp at e; omega
        rw [z] at h2
        dsimp only at h2
        rw [h0] at h2
        exact absurd h2 (by decide)
    rw [this]
    rfl
  · have hfF : f < cF p := by
      by_cases z : f < cF p
      · exact z
      · exact absurd (hv.2.2.2.2.2 f c (Or.inl (by omega))) h0
    have hge : ∀ f, -1 ≤ (wR w f c).toInt := fun f => Int32.le_iff_toInt_le.mp (hv.ge f c)
    have hR0 : 0 < cR p := by
      rcases hv.2.2.2.2.1 f c with h | h
      · by_cases z : 0 < cR p
        · exact z
        · rw [show cR p = 0 by omega, nI_0] at h
          have a := h.1; have b := h.2
          exact absurd (by grind) h0
      · exact absurd h h0
    have hlt : ∀ f, (wR w f c).toInt < (cR p : Int) := fun f => by
      have := Int32.lt_iff_toInt_lt.mp (hv.lt ho f c hR0)
      rwa [nI_toInt (by omega)] at this
    have cnt := o_fld_c (G := fun f => (wR w f c).toInt) (f := f) (n := 6) (R := cR p) hge hlt hf
    have ex : ∀ r : Nat, r < cR p → (o_own (fun f => (wR w f c).toInt) (r : Int) 6) = (o_own (fun f => (wR w f c).toInt) (r : Int) (cF p)) := fun r hr => by
      have a := own_o (fun f => wR w f c) (nI r) 6 (by decide)
      have b := own_o (fun f => wR w f c) (nI r) (cF p) (by omega)
      rw [nI_toInt (by omega)] at a b
      rw [← a, ← b, own_x hv ho c (nI r) 6 hF]
    have cnt2 : (n_fld (fun f => wR w f c) (nI f) (cF p) (cR p) : Int) = o_fld (fun f => (wR w f c).toInt) f (cR p : Int) 6 := by
      rw [n_fld_o _ _ (by omega) (by omega), nI_toInt (by omega), ← cnt]
      congr 1
      refine sm_c fun r hr => ?_
      rw [ex r hr]
    refine Int32.toInt_inj.mp ?_
    rw [nI_toInt (by have := n_fld_le (fun f => wR w f c) (nI f) (cF p) (cR p); omega), cnt2]
    unfold v_fieldIn o_fld
    dsimp only
    rw [row_c hw hf hc, if_neg h0, if_neg (show ¬ (wR w f c).toInt = -1 from fun z => h0 (Int32.toInt_inj.mp z)), ← fin_c hw hf hc hR 6 (by omega)]
    cases e : l_fieldIn I k (nI c) (nI f) (nI (cR p)) 6 with
    | none => rfl
    | some e1 =>
      simp only [Option.map_some]
      have h1 := fin_c hw hf hc hR 6 (by omega)
      rw [e] at h1
      rcases o_fin_is (G := fun f => (wR w f c).toInt) (f := f) (R := (cR p : Int)) 6 with ⟨e2, -⟩ | ⟨e3, he, -, h2, -, h4, -, -⟩
      · rw [e2] at h1; cases h1
      · rw [he] at h1
        have h5 : e1.toInt = e3 := by simpa using h1
        have h6 := h4 (by have := hlt f; dsimp only; omega)
        dsimp only at h6
        refine toInt_sub_small (hv.ge f c) (Int32.le_iff_toInt_le.mpr (by omega)) (Int32.le_iff_toInt_le.mpr ?_)
        show e1.toInt ≤ 100
        omega
theorem field_c (hw : WC I k w) (hv : WO p w) (ho : CO p) {f : Nat} (hf : f < 6) : l_field I k (nI f) (nI (cR p)) 6 = nI (sm (fun c => n_fld (fun f => wR w f c) (nI f) (cF p) (cR p)) (cC p)) := by
  have key : ∀ n, n ≤ 6 → l_field I k (nI f) (nI (cR p)) n = nI (sm (fun c => n_fld (fun f => wR w f c) (nI f) (cF p) (cR p)) n) := by
    intro n
    induction n with
    | zero => intro _; rfl
    | succ n ih =>
      intro hn
      simp only [l_field, sm]
      rw [ih (by omega), fldin_c hw hv ho hf (by omega), nI_add]
  rw [key 6 (by omega), sm_ext ho.1]
  intro i h1 h2
  rw [n_fld_o _ _ (by have := ho.2.2.1; omega) (by have := ho.2.1; omega), nI_toInt (by omega), sm_c (g := fun _ => 0), sm_0]
  intro r hr
  rw [if_neg]
  intro e
  rcases o_own_is (G := fun f => (wR w f i).toInt) (r := (r : Int)) (fun f => by have := Int32.le_iff_toInt_le.mp (hv.ge f i); exact this) (cF p) with ⟨e2, -⟩ | ⟨f2, hf2, e2, h2, -⟩
  · rw [e2] at e; simp at e <;> omega
  · dsimp only at h2
    rw [hv.2.2.2.2.2 f2 i (Or.inr h1)] at h2
    exact absurd h2 (by decide)
end CLS46
