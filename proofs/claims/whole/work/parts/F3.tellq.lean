/-! a question reckoned for a fence -/
def ptq (p : CF) (w : WD) (f : Nat) : Nat → Int := fun k => if k = 0 then (wA w f).toInt else if k = 2 then (wY w).toInt else if k = 4 then (a_left p (wR w f) : Int) else if k = 5 then (f : Int) else if k = 6 then (a_fd p w f : Int) else if 7 ≤ k then (if wK w f = 1 then 1 else 0) else 0
def foq (p : CF) (w : WD) (f : Nat) : Nat → Int → Int := fun k x => if k = 0 then (if 0 ≤ x ∧ x < (cC p : Int) then (wR w f x.toNat).toInt else -1) else (if 0 ≤ x ∧ x < (cF p : Int) then (n_bel w f x.toNat (cC p) : Int) else 0)
section LF3
variable {I X Y Z : MI} {J : MJ} {sl sd : Nat} {p : CF} {w : WD}
theorem a_left_le (ho : CO p) (g : Nat → Int32) : a_left p g ≤ 6 := by
  have h : sm (fun c => if g c = -1 then 0 else 1) (cC p) ≤ cC p * 1 := sm_le (fun i _ => by split <;> omega)
  have := ho.1
  unfold a_left; omega
theorem a_fd_le (ho : CO p) (w : WD) (f : Nat) : a_fd p w f ≤ 180 := by
  have h : sm (fun c => n_fld (fun f => wR w f c) (nI f) (cF p) (cR p)) (cC p) ≤ cC p * 30 := sm_le (fun i _ => by have := n_fld_le (fun f => wR w f i) (nI f) (cF p) (cR p); have := ho.2.1; omega)
  have := ho.1
  unfold a_fd; omega
theorem n_bel_le (ho : CO p) (w : WD) (a b : Nat) : n_bel w a b (cC p) ≤ 6 := by
  have h : sm (fun c => if wR w a c = -1 then 0 else if wR w b c = -1 then 0 else if wR w a c ≤ wR w b c then 0 else 1) (cC p) ≤ cC p * 1 := sm_le (fun i _ => by (repeat' split) <;> omega)
  have := ho.1
  unfold n_bel; omega
theorem row_sm (ho : CO p) (hv : WO p w) (f c : Nat) : smv (wR w f c).toInt := by
  have hR := ho.2.1
  rcases hv.2.2.2.2.1 f c with h | h
  · have h1 := Int32.le_iff_toInt_le.mp h.1
    have h2 := Int32.lt_iff_toInt_lt.mp h.2
    rw [nI_toInt (by omega)] at h2
    have e : (-1 : Int32).toInt = -1 := by decide
    rw [e] at h1
    unfold smv; omega
  · rw [h]; unfold smv; decide
theorem ptq_s (ho : CO p) (hv : WO p w) {f : Nat} (hf : f < 6) : ∀ k, smv (ptq p w f k) := by
  intro k
  have h1 := a_left_le ho (wR w f)
  have h2 := a_fd_le ho w f
  unfold ptq
  split
  · exact smI (hv.2.2.1 f).1 (hv.2.2.1 f).2 (by decide) (by decide)
  split
  · exact smI hv.1.1 hv.1.2 (by decide) (by decide)
  split
  · unfold smv; omega
  split
  · unfold smv; omega
  split
  · unfold smv; omega
  split
  · unfold smv; split <;> omega
  · unfold smv; omega
theorem foq_s (ho : CO p) (hv : WO p w) (f : Nat) : ∀ k x, smv (foq p w f k x) := by
  intro k x
  unfold foq
  split
  · split
    · exact row_sm ho hv f _
    · unfold smv; omega
  · split
    · have := n_bel_le ho w f x.toNat
      unfold smv; omega
    · unfold smv; omega
/-- the reference's parts -/
theorem partQ (ho : CO p) (hw : WM X p w) (hs : CM X p) (hv : WO p w) {f : Nat} (hf : f < cF p) : ∀ k, k < 8 → q_a 2 k = true → F_MD_qPartOf X (nI k) (nI f) = some (xL (ptq p w f k)) := by
  intro k hk ha
  have hF := ho.2.2.1
  have h1 := a_left_le ho (wR w f)
  have h2 := a_fd_le ho w f
  have hk4 : k = 0 ∨ k = 2 ∨ k = 4 ∨ k = 5 ∨ k = 6 ∨ k = 7 := by
    unfold q_a at ha
    simp at ha
    omega
  unfold F_MD_qPartOf ptq
  rcases hk4 with q | q | q | q | q | q <;> subst q
  · rw [if_pos (show nI 0 = 0 from rfl), age_e ho hw hf, if_pos rfl]
    simp only [Option.bind_some]
    rw [toL]
  · rw [if_neg (show ¬ nI 2 = 0 by decide), if_neg (show ¬ nI 2 = 1 by decide), if_pos (show nI 2 = 2 from rfl), hw.1, toL]; rfl
  · rw [if_neg (show ¬ nI 4 = 0 by decide), if_neg (show ¬ nI 4 = 1 by decide), if_neg (show ¬ nI 4 = 2 by decide), if_neg (show ¬ nI 4 = 3 by decide), if_pos (show nI 4 = 4 from rfl), left_e ho hs hw hf]
    simp only [Option.bind_some]
    have e : sm (fun c => if wR w f c = -1 then 0 else 1) (cC p) = a_left p (wR w f) := rfl
    rw [e, toL, nI_toInt (by omega)]; rfl
  · rw [if_neg (show ¬ nI 5 = 0 by decide), if_neg (show ¬ nI 5 = 1 by decide), if_neg (show ¬ nI 5 = 2 by decide), if_neg (show ¬ nI 5 = 3 by decide), if_neg (show ¬ nI 5 = 4 by decide), if_pos (show nI 5 = 5 from rfl), toL, nI_toInt (by omega)]; rfl
  · rw [if_neg (show ¬ nI 6 = 0 by decide), if_neg (show ¬ nI 6 = 1 by decide), if_neg (show ¬ nI 6 = 2 by decide), if_neg (show ¬ nI 6 = 3 by decide), if_neg (show ¬ nI 6 = 4 by decide), if_neg (show ¬ nI 6 = 5 by decide), if_pos (show nI 6 = 6 from rfl), field_e ho hs hw hv]
    simp only [Option.bind_some]
    have e : sm (fun c => n_fld (fun f => wR w f c) (nI f) (cF p) (cR p)) (cC p) = a_fd p w f := rfl
    rw [e, toL, nI_toInt (by omega)]; rfl
  · rw [if_neg (show ¬ nI 7 = 0 by decide), if_neg (show ¬ nI 7 = 1 by decide), if_neg (show ¬ nI 7 = 2 by decide), if_neg (show ¬ nI 7 = 3 by decide), if_neg (show ¬ nI 7 = 4 by decide), if_neg (show ¬ nI 7 = 5 by decide), if_neg (show ¬ nI 7 = 6 by decide), cut_e ho hw hf]
    simp only [Option.bind_some]
    by_cases z : wK w f = 1
    · simp only [if_pos z]; exact (show some (1 : Int64) = some (xL 1) by decide)
    · simp only [if_neg z]; exact (show some (0 : Int64) = some (xL 0) by decide)
theorem isIn_q {a b c : Int} (ha : bgv a) (hb : bgv b) (hc : bgv c) : F_MD_isIn (xL a) (xL b) (xL c) = some (if b ≤ a ∧ a ≤ c then 1 else 0) := by
  unfold F_MD_isIn
  simp only [lg_cmp_lt, lg_cmp_gt, xL_lt ha hb, xL_lt hc ha]
  by_cases z : a < b
  · rw [if_pos z, if_neg (by omega)]
  · rw [if_neg z]
    by_cases y : c < a
    · rw [if_pos y, if_neg (by omega)]
    · rw [if_neg y, if_pos (by omega)]
theorem n_sub1 {m : Nat} (hm : m < 100) : (nI m - (1 : Int32)).toInt64 = xL ((m : Int) - 1) := by
  have e1 : (1 : Int32) = xI 1 := by decide
  rw [e1, ← xI_n, xI_sub, xI_L (by omega) (by omega)]
theorem ofQ (ho : CO p) (hw : WM X p w) (hs : CM X p) {f : Nat} (hf : f < cF p) : ∀ k x, k < 2 → smv x → F_MD_qOf X (nI k) (xL x) (nI f) = some (xL (foq p w f k x)) := by
  intro k x hk hx
  have hC := ho.1; have hF := ho.2.2.1
  have z0 : (0 : Int64) = xL 0 := by decide
  have b0 : bgv 0 := by unfold bgv; omega
  have xb := smb hx
  unfold F_MD_qOf foq
  rcases (by omega : k = 0 ∨ k = 1) with q | q <;> subst q
  · rw [if_pos (show nI 0 = 0 from rfl), hs.1, n_sub1 (by omega), z0, isIn_q xb b0 (by unfold bgv; omega), if_pos rfl]
    simp only [Option.bind_some]
    by_cases z : 0 ≤ x ∧ x < (cC p : Int)
    · rw [if_pos (show 0 ≤ x ∧ x ≤ (cC p : Int) - 1 by omega), if_neg (by decide), if_pos z, xL_I (by omega) (by omega)]
      have e : xI x = nI x.toNat := by rw [← xI_n]; congr 1; omega
      rw [e, row_e ho hw hf (by omega)]
      simp only [Option.bind_some]
      rw [toL]
    · rw [if_neg (show ¬ (0 ≤ x ∧ x ≤ (cC p : Int) - 1) by omega), if_pos rfl, if_neg z]; rfl
  · rw [if_neg (show ¬ nI 1 = 0 by decide), fm_e hs]
    simp only [Option.bind_some]
    rw [n_sub1 (by omega), z0, isIn_q xb b0 (by unfold bgv; omega), if_neg (show ¬ (1 : Nat) = 0 by decide)]
    simp only [Option.bind_some]
    by_cases z : 0 ≤ x ∧ x < (cF p : Int)
    · rw [if_pos (show 0 ≤ x ∧ x ≤ (cF p : Int) - 1 by omega), if_neg (by decide), if_pos z, xL_I (by omega) (by omega)]
      have e : xI x = nI x.toNat := by rw [← xI_n]; congr 1; omega
      have := n_bel_le ho w f x.toNat
      rw [e, belows_e ho hs hw hf (by omega)]
      simp only [Option.bind_some]
      rw [toL, nI_toInt (by omega)]
    · rw [if_neg (show ¬ (0 ≤ x ∧ x ≤ (cF p : Int) - 1) by omega), if_pos rfl, if_neg z]
/-- the reference's answer for a fence -/
theorem toldQ {cs : List Nat} {bb : Bool} {f : Nat} (ho : CO p) (hw : WM I p w) (hs : CM I p) (hv : WO p w) (hf : f < cF p) (h92 : I 177 92 = nI cs.length) (hl : cs.length ≤ 1600) (hc : ∀ i, i < cs.length → I 244 i = nI (cs.getD i 0)) (hty : q_ty cs [] = some [bb]) (hal : alk 2 cs) (J : MJ) :
    ∃ J', F_MD_qTold I J (nI f) = some (xL (q_val (ptq p w f) (foq p w f) cs), m_up I 177 98 1, J') ∧ fsL [(246, none)] J' J := by
  have hF := ho.2.2.1
  have hsp := ptq_s ho hv (f := f) (by omega)
  have hso := foq_s ho hv f
  obtain ⟨J', h1, h2⟩ := loopM (b := fun s : Int32 × MI × MJ => F_MD_qTold_7 s.2.1 s.2.2 (nI f) s.1) (I := I) (a := 0) hty hsp hso (fun n hn J s t t' g1 g2 g3 g4 => by
    have hm : cs.getD n 0 ∈ cs := by
      rw [List.getD_eq_getElem?_getD, List.getElem?_eq_getElem (by omega)]
      exact List.getElem_mem _
    have r1 : ∀ k, k ≠ 177 → m_up I 177 98 (nI s.length) k = I k := fun k hk => by rw [up_k _ _ _ hk]
    have hw2 : WM (m_up I 177 98 (nI s.length)) p w := WM_c ho hw (fun j _ => by rw [r1 213 (by decide)])
    have hs2 : CM (m_up I 177 98 (nI s.length)) p := CM_c hs (fun k hk => r1 k (by omega))
    obtain ⟨J', q1, q2⟩ := stepQ (X := m_up I 177 98 (nI s.length)) (J := J) (pt := ptq p w f) (fo := foq p w f) (al := q_a 2) (oo := true) (f := f) (i := n) g1 g2 g3 (up_e _ _ _ _) g4 hsp hso (hal _ hm) (partQ ho hw2 hs2 hv hf) (fun _ => ofQ ho hw2 hs2 hf) (by rw [up_j _ _ _ (by decide), h92]; exact nI_ge (by omega) (by omega)) (by omega) (by rw [r1 244 (by decide)]; exact hc n hn)
    refine ⟨J', ?_, q2⟩
    show F_MD_qTold_7 _ _ _ (nI (0 + n)) = _
    rw [show 0 + n = n by omega, show 0 + (n + 1) = n + 1 by omega, q1, up_up]) (fun X J hX => by
    show F_MD_qTold_7 X J (nI f) (nI (0 + cs.length)) = _
    unfold F_MD_qTold_7
    rw [hX 177 92 (by omega), h92, show 0 + cs.length = cs.length by omega, if_pos (Int32.le_refl _)]) J
  obtain ⟨v, v1, v2, v3, v4⟩ := q_val_s hsp hso hty
  have e : F_MD_qTold I J (nI f) = some (xL (q_val (ptq p w f) (foq p w f) cs), m_up I 177 98 1, J') := by
    unfold F_MD_qTold
    rw [show (0 : Int32) = nI 0 from nI_0.symm] at h1 ⊢
    rw [h1]
    rw [v1] at h2 ⊢
    rw [v2]
    simp only [Option.bind_some]
    have h3 : J' 246 0 = xL v := h2.1
    rw [h3]
    rfl
  exact ⟨J', e, (q_MD_qTold (L := L_MD_qTold) (LJ := [(246, none)]) (by decide) (by decide) (fs_r I) (fs_r J) _ e).2⟩
/-- the class's rows before it reckons -/
theorem rq80 (hw : WC X 20 w) {f : Nat} (hf : f < 6) : ∃ Z, wl (fun s : Int32 × MI => F_Walker_reckonQuestion_80 sl sd s.2 (nI f) s.1) ((0 : Int32), X) = some Z ∧ (∀ q, q ≠ 28 → Z q = X q) ∧ ∀ c, c < 6 → Z 28 c = wR w f c := by
  have lp : ∀ d c (B : MI), c + d = 6 → (∀ q, q ≠ 28 → B q = X q) → (∀ i, i < c → B 28 i = wR w f i) → ∃ Z, wl (fun s : Int32 × MI => F_Walker_reckonQuestion_80 sl sd s.2 (nI f) s.1) (nI c, B) = some Z ∧ (∀ q, q ≠ 28 → Z q = X q) ∧ ∀ c, c < 6 → Z 28 c = wR w f c := by
    intro d
    induction d with
    | zero =>
      intro c B hc b1 b2
      have e : c = 6 := by omega
      subst e
      refine ⟨B, wl_in ?_, b1, b2⟩
      show F_Walker_reckonQuestion_80 sl sd B (nI f) (nI 6) = _
      unfold F_Walker_reckonQuestion_80
      rw [if_pos (by decide)]
    | succ d ih =>
      intro c B hc b1 b2
      have st : F_Walker_reckonQuestion_80 sl sd B (nI f) (nI c) = some (.inl (nI (c + 1), m_up B 28 c (wR w f c))) := by
        unfold F_Walker_reckonQuestion_80
        rw [if_neg (show ¬ (6 : Int32) ≤ nI c from nI_ge (b := 6) (by omega) (by decide)), gd_n (by omega) (by decide), nI_clamp (by omega), row_c (WC_c hw (fun q a c => b1 q (by omega))) hf (by omega), nI_s]
      obtain ⟨Z, z1, z2⟩ := ih (c + 1) (m_up B 28 c (wR w f c)) (by omega) (fun q hq => by rw [up_k _ _ _ hq]; exact b1 q hq) (fun i hi => by
        by_cases z : i = c
        · subst z; rw [up_e]
        · rw [up_j _ _ _ z]; exact b2 i (by omega))
      exact ⟨Z, (wl_st st).trans z1, z2⟩
  exact lp 6 0 X (by omega) (fun _ _ => rfl) (fun c hc => by omega)
theorem rq113 (hw : WC X 20 w) (hv : WO p w) (ho : CO p) {f : Nat} (hf : f < 6) : ∃ Z, wl (fun s : Int32 × MI => F_Walker_reckonQuestion_113 sl sd s.2 (nI f) s.1) ((0 : Int32), X) = some Z ∧ (∀ q, q ≠ 29 → Z q = X q) ∧ ∀ c, c < 6 → Z 29 c = nI (n_bel w f c (cC p)) := by
  have lp : ∀ d c (B : MI), c + d = 6 → (∀ q, q ≠ 29 → B q = X q) → (∀ i, i < c → B 29 i = nI (n_bel w f i (cC p))) → ∃ Z, wl (fun s : Int32 × MI => F_Walker_reckonQuestion_113 sl sd s.2 (nI f) s.1) (nI c, B) = some Z ∧ (∀ q, q ≠ 29 → Z q = X q) ∧ ∀ c, c < 6 → Z 29 c = nI (n_bel w f c (cC p)) := by
    intro d
    induction d with
    | zero =>
      intro c B hc b1 b2
      have e : c = 6 := by omega
      subst e
      refine ⟨B, wl_in ?_, b1, b2⟩
      show F_Walker_reckonQuestion_113 sl sd B (nI f) (nI 6) = _
      unfold F_Walker_reckonQuestion_113
      rw [if_pos (by decide)]
    | succ d ih =>
      intro c B hc b1 b2
      have st : F_Walker_reckonQuestion_113 sl sd B (nI f) (nI c) = some (.inl (nI (c + 1), m_up B 29 c (nI (n_bel w f c (cC p))))) := by
        unfold F_Walker_reckonQuestion_113
        rw [if_neg (show ¬ (6 : Int32) ≤ nI c from nI_ge (b := 6) (by omega) (by decide)), gd_n (by omega) (by decide), nI_clamp (by omega), below_c (WC_c hw (fun q a c => b1 q (by omega))) hv ho hf (by omega), nI_s]
      obtain ⟨Z, z1, z2⟩ := ih (c + 1) (m_up B 29 c (nI (n_bel w f c (cC p)))) (by omega) (fun q hq => by rw [up_k _ _ _ hq]; exact b1 q hq) (fun i hi => by
        by_cases z : i = c
        · subst z; rw [up_e]
        · rw [up_j _ _ _ z]; exact b2 i (by omega))
      exact ⟨Z, (wl_st st).trans z1, z2⟩
  exact lp 6 0 X (by omega) (fun _ _ => rfl) (fun c hc => by omega)
/-- how the class asks rows and fences -/
theorem sngQ (ho : CO p) (hv : WO p w) {f : Nat} (h28 : ∀ c, c < 6 → X 28 c = wR w f c) (h29 : ∀ c, c < 6 → X 29 c = nI (n_bel w f c (cC p))) : ∀ k x, k < 2 → smv x → f_Reckoner_single X (nI (k + 30001)) (xI x) = xI (foq p w f k x) := by
  intro k x hk hx
  have hC := ho.1; have hF := ho.2.2.1
  have hx1 := hx.1; have hx2 := hx.2
  have s0 : smv 0 := by unfold smv; omega
  have s6 : smv 6 := by unfold smv; omega
  have e0 : (0 : Int32) = xI 0 := by decide
  have e6 : (6 : Int32) = xI 6 := by decide
  have lt0 : xI x < (0 : Int32) ↔ x < 0 := by rw [e0]; exact xI_lt hx s0
  have le6 : (6 : Int32) ≤ xI x ↔ 6 ≤ x := by rw [e6]; exact xI_le s6 hx
  have cl : 0 ≤ x → (xI x).toNatClampNeg = x.toNat := fun h => by
    rw [show xI x = nI x.toNat by rw [← xI_n]; congr 1; omega]
    exact nI_clamp (by omega)
  unfold f_Reckoner_single foq
  rcases (by omega : k = 0 ∨ k = 1) with q | q <;> subst q
  · rw [if_neg (show ¬ nI (0 + 30001) = 30000 by decide), if_pos (show nI (0 + 30001) = 30001 from rfl), if_pos rfl]
    by_cases a : x < 0
    · rw [if_pos (lt0.mpr a), if_neg (by omega)]; decide
    · rw [if_neg (fun z => a (lt0.mp z))]
      by_cases b : 6 ≤ x
      · rw [if_pos (le6.mpr b), if_neg (by omega)]; decide
      · rw [if_neg (fun z => b (le6.mp z)), cl (by omega), h28 _ (by omega)]
        by_cases c : x < (cC p : Int)
        · rw [if_pos (by omega), xI_of]
        · rw [if_neg (by omega), hv.2.2.2.2.2 f x.toNat (Or.inr (by omega))]; decide
  · rw [if_neg (show ¬ nI (1 + 30001) = 30000 by decide), if_neg (show ¬ nI (1 + 30001) = 30001 by decide), if_pos (show nI (1 + 30001) = 30002 from rfl), if_neg (show ¬ (1 : Nat) = 0 by decide)]
    by_cases a : x < 0
    · rw [if_pos (lt0.mpr a), if_neg (by omega)]; decide
    · rw [if_neg (fun z => a (lt0.mp z))]
      by_cases b : 6 ≤ x
      · rw [if_pos (le6.mpr b), if_neg (by omega)]; decide
      · rw [if_neg (fun z => b (le6.mp z)), cl (by omega), h29 _ (by omega)]
        by_cases c : x < (cF p : Int)
        · rw [if_pos (by omega), xI_n]
        · rw [if_neg (by omega)]
          have : n_bel w f x.toNat (cC p) = 0 := by
            unfold n_bel
            rw [sm_c (g := fun _ => 0), sm_0]
            intro i hi
            rw [hv.2.2.2.2.2 x.toNat i (Or.inl (by omega))]
            split
            · rfl
            · rfl
          rw [this]; decide
theorem reck_q {cs : List Nat} {bb : Bool} {f : Nat} (hsl : sl + 7 < 20) (hsd : sd + 7 < 20) (ho : CO p) (hc : CC I sl p) (hw : WC I 20 w) (hv : WO p w) (hf : f < 6) (h9 : I sd 9 = 0) (h10 : I sd 10 = nI cs.length) (hl : cs.length ≤ 1600) (hcs : ∀ i, i < cs.length → I (sd + 7) i = nI (q_tau (cs.getD i 0))) (hty : q_ty cs [] = some [bb]) (hal : alk 2 cs) :
    ∃ Z, F_Walker_reckonQuestion sl sd I (nI f) = some (xI (q_val (ptq p w f) (foq p w f) cs), Z) ∧ ∀ q, q ≠ 26 → q ≠ 27 → q ≠ 28 → q ≠ 29 → Z q = I q := by
  have hR := ho.2.1
  have hF := ho.2.2.1
  -- the six parts
  have k1 : ∀ q, q ≠ 27 → m_up (m_up (m_up I 27 6 (f_Lay_ageOf I 20 (nI f))) 27 11 ((m_up I 27 6 (f_Lay_ageOf I 20 (nI f))) 20 0)) 27 13 (nI f) q = I q := fun q hq => by rw [up_k _ _ _ hq, up_k _ _ _ hq, up_k _ _ _ hq]
  have u6 : m_up (m_up (m_up I 27 6 (f_Lay_ageOf I 20 (nI f))) 27 11 ((m_up I 27 6 (f_Lay_ageOf I 20 (nI f))) 20 0)) 27 13 (nI f) 27 6 = wA w f := by rw [up_j _ _ _ (by decide), up_j _ _ _ (by decide), up_e, age_c hw hf]
  have u11 : m_up (m_up (m_up I 27 6 (f_Lay_ageOf I 20 (nI f))) 27 11 ((m_up I 27 6 (f_Lay_ageOf I 20 (nI f))) 20 0)) 27 13 (nI f) 27 11 = wY w := by rw [up_j _ _ _ (by decide), up_e, up_k _ _ _ (by decide), hw.1]
  have u13 : m_up (m_up (m_up I 27 6 (f_Lay_ageOf I 20 (nI f))) 27 11 ((m_up I 27 6 (f_Lay_ageOf I 20 (nI f))) 20 0)) 27 13 (nI f) 27 13 = nI f := up_e _ _ _ _
  unfold F_Walker_reckonQuestion
  generalize m_up (m_up (m_up I 27 6 (f_Lay_ageOf I 20 (nI f))) 27 11 ((m_up I 27 6 (f_Lay_ageOf I 20 (nI f))) 20 0)) 27 13 (nI f) = A at *
  have wA1 : WC A 20 w := WC_c hw (fun q a c => k1 q (by omega))
  simp only [bnd]
  rw [left_c wA1 hv ho hf]
  have eL : sm (fun c => if wR w f c = -1 then 0 else 1) (cC p) = a_left p (wR w f) := rfl
  rw [eL]
  have wA2 : WC (m_up A 27 12 (nI (a_left p (wR w f)))) 20 w := WC_c wA1 (fun q a c => up_k _ _ _ (by omega))
  have eR : (m_up A 27 12 (nI (a_left p (wR w f)))) sl 2 = nI (cR p) := by rw [up_k _ _ _ (by omega), k1 sl (by omega)]; exact hc.2.1
  rw [eR, field_c wA2 hv ho hf]
  have eD : sm (fun c => n_fld (fun f => wR w f c) (nI f) (cF p) (cR p)) (cC p) = a_fd p w f := rfl
  rw [eD]
  have wA3 : WC (m_up (m_up A 27 12 (nI (a_left p (wR w f)))) 27 14 (nI (a_fd p w f))) 20 w := WC_c wA2 (fun q a c => up_k _ _ _ (by omega))
  have k3 : ∀ q, q ≠ 27 → m_up (m_up A 27 12 (nI (a_left p (wR w f)))) 27 14 (nI (a_fd p w f)) q = I q := fun q hq => by rw [up_k _ _ _ hq, up_k _ _ _ hq]; exact k1 q hq
  have v6 : m_up (m_up A 27 12 (nI (a_left p (wR w f)))) 27 14 (nI (a_fd p w f)) 27 6 = wA w f := by rw [up_j _ _ _ (by decide), up_j _ _ _ (by decide)]; exact u6
  have v11 : m_up (m_up A 27 12 (nI (a_left p (wR w f)))) 27 14 (nI (a_fd p w f)) 27 11 = wY w := by rw [up_j _ _ _ (by decide), up_j _ _ _ (by decide)]; exact u11
  have v13 : m_up (m_up A 27 12 (nI (a_left p (wR w f)))) 27 14 (nI (a_fd p w f)) 27 13 = nI f := by rw [up_j _ _ _ (by decide), up_j _ _ _ (by decide)]; exact u13
  have v12 : m_up (m_up A 27 12 (nI (a_left p (wR w f)))) 27 14 (nI (a_fd p w f)) 27 12 = nI (a_left p (wR w f)) := by rw [up_j _ _ _ (by decide), up_e]
  have v14 : m_up (m_up A 27 12 (nI (a_left p (wR w f)))) 27 14 (nI (a_fd p w f)) 27 14 = nI (a_fd p w f) := up_e _ _ _ _
  generalize m_up (m_up A 27 12 (nI (a_left p (wR w f)))) 27 14 (nI (a_fd p w f)) = B at *
  rw [cut_c wA3 hf]
  have e76 : (if (if wK w f = 1 then (1 : Int32) else 0) = 0 then F_Walker_reckonQuestion_76 sl sd B (nI f) 0 15 else F_Walker_reckonQuestion_76 sl sd B (nI f) 1 15) = F_Walker_reckonQuestion_76 sl sd B (nI f) (if wK w f = 1 then 1 else 0) 15 := by
    by_cases z : wK w f = 1
    · simp only [if_pos z]; rw [if_neg (by decide)]
    · simp only [if_neg z]; rw [if_pos trivial]
  rw [e76]
  unfold F_Walker_reckonQuestion_76
  rw [show (15 : Int32) = nI 15 from rfl, gd_n (by decide) (by decide), nI_clamp (by decide)]
  have wA4 : WC (m_up B 27 15 (if wK w f = 1 then 1 else 0)) 20 w := WC_c wA3 (fun q a c => up_k _ _ _ (by omega))
  obtain ⟨C, c1, c2, c3⟩ := rq80 (sl := sl) (sd := sd) wA4 hf
  have wA5 : WC C 20 w := WC_c wA4 (fun q a c => c2 q (by omega))
  obtain ⟨D, d1, d2, d3⟩ := rq113 (sl := sl) (sd := sd) wA5 hv ho hf
  rw [c1]
  simp only [Option.bind_some]
  rw [d1]
  simp only [Option.bind_some]
  have kD : ∀ q, q ≠ 27 → q ≠ 28 → q ≠ 29 → D q = I q := fun q a b c => by rw [d2 q c, c2 q b, up_k _ _ _ a]; exact k3 q a
  have D27 : D 27 = m_up B 27 15 (if wK w f = 1 then 1 else 0) 27 := by rw [d2 27 (by decide), c2 27 (by decide)]
  have D28 : ∀ c, c < 6 → D 28 c = wR w f c := fun c hc => by rw [d2 28 (by decide)]; exact c3 c hc
  have e9 : D sd 9 = nI 0 := by rw [kD sd (by omega) (by omega) (by omega)]; exact h9
  have e10 : D sd 10 = nI (0 + cs.length) := by rw [kD sd (by omega) (by omega) (by omega), h10, Nat.zero_add]
  rw [e9, e10]
  refine ⟨w_run D (sd + 7) (nI 0) (nI (0 + cs.length)), ?_, fun q a b c d => by rw [run_26 _ _ _ _ a]; exact kD q b c d⟩
  rw [runC_v (pt := ptq p w f) (fo := foq p w f) (al := q_a 2) (oo := true) (q := sd + 7) (a := 0) (cs := cs) (b := bb) (by omega) (fun i hi => by rw [kD (sd + 7) (by omega) (by omega) (by omega), Nat.zero_add]; exact hcs i hi) hty hal (ptq_s ho hv hf) (foq_s ho hv f) ?_ (fun _ X hX => sngQ ho hv (fun c hc => by rw [hX 28 (by decide)]; exact D28 c hc) (fun c hc => by rw [hX 29 (by decide)]; exact d3 c hc)) (by omega)]
  intro k hk
  have hk4 : k = 0 ∨ k = 2 ∨ k = 4 ∨ k = 5 ∨ k = 6 ∨ 7 ≤ k := by
    unfold q_a at hk
    simp at hk
    omega
  rw [D27]
  unfold ptq
  rcases hk4 with z | z | z | z | z | z
  · subst z
    show m_up B 27 15 _ 27 6 = _
    rw [up_j _ _ _ (by decide), v6, if_pos rfl, xI_of]
  · subst z
    show m_up B 27 15 _ 27 11 = _
    rw [up_j _ _ _ (by decide), v11, if_neg (by decide), if_pos rfl, xI_of]
  · subst z
    show m_up B 27 15 _ 27 12 = _
    rw [up_j _ _ _ (by decide), v12, if_neg (by decide), if_neg (by decide), if_pos rfl, xI_n]
  · subst z
    show m_up B 27 15 _ 27 13 = _
    rw [up_j _ _ _ (by decide), v13, if_neg (by decide), if_neg (by decide), if_neg (by decide), if_pos rfl, xI_n]
  · subst z
    show m_up B 27 15 _ 27 14 = _
    rw [up_j _ _ _ (by decide), v14, if_neg (by decide), if_neg (by decide), if_neg (by decide), if_neg (by decide), if_pos rfl, xI_n]
  · have e : q_word k = 15 := by
      obtain ⟨m, rfl⟩ := Nat.exists_eq_add_of_le z
      rw [show 7 + m = m + 7 by omega]; rfl
    rw [e, up_e, if_neg (show ¬ k = 0 by omega), if_neg (show ¬ k = 2 by omega), if_neg (show ¬ k = 4 by omega), if_neg (show ¬ k = 5 by omega), if_neg (show ¬ k = 6 by omega), if_pos z]
    by_cases y : wK w f = 1
    · rw [if_pos y, if_pos y]; decide
    · rw [if_neg y, if_neg y]; decide
end LF3
