/-! the reference's questions about how all lies -/
theorem wl_f {σ τ : Type} {b : σ → Option (σ ⊕ τ)} (N : Nat) (f : Nat → σ) {s : σ} {t : τ} (h0 : s = f 0) (hs : ∀ n, n < N → b (f n) = some (.inl (f (n + 1)))) (ht : b (f N) = some (.inr t)) : wl b s = some t := by
  subst h0; exact wl_for N f hs ht
/-- columns, rows, fences, steepness, walks, roots -/
abbrev CF : Type := Nat × Nat × Nat × (Nat → Int32) × List Nat × List Nat
/-- year, cut, age, posts, rows of stakes -/
abbrev WD : Type := Int32 × (Nat → Int32) × (Nat → Int32) × (Nat → Int32) × (Nat → Nat → Int32)
abbrev cC (p : CF) : Nat := p.1
abbrev cR (p : CF) : Nat := p.2.1
abbrev cF (p : CF) : Nat := p.2.2.1
abbrev cS (p : CF) : Nat → Int32 := p.2.2.2.1
abbrev cW (p : CF) : List Nat := p.2.2.2.2.1
abbrev cT (p : CF) : List Nat := p.2.2.2.2.2
abbrev wY (w : WD) : Int32 := w.1
abbrev wK (w : WD) : Nat → Int32 := w.2.1
abbrev wA (w : WD) : Nat → Int32 := w.2.2.1
abbrev wP (w : WD) : Nat → Int32 := w.2.2.2.1
abbrev wR (w : WD) : Nat → Nat → Int32 := w.2.2.2.2
/-- a slope that may be -/
def CO (p : CF) : Prop := cC p ≤ 6 ∧ cR p ≤ 30 ∧ cF p ≤ 6 ∧ ∀ c, 0 ≤ cS p c ∧ cS p c ≤ 9
/-- how all may lie there -/
def WO (p : CF) (w : WD) : Prop := (0 ≤ wY w ∧ wY w ≤ 2000) ∧ (∀ f, wK w f = 0 ∨ wK w f = 1) ∧ (∀ f, 0 ≤ wA w f ∧ wA w f ≤ 99) ∧ (∀ c, 0 ≤ wP w c ∧ wP w c < 1073741824) ∧ (∀ f c, -1 ≤ wR w f c ∧ wR w f c < nI (cR p) ∨ wR w f c = -1) ∧ ∀ f c, cF p ≤ f ∨ cC p ≤ c → wR w f c = -1
/-- the slope as the reference has it -/
def CM (I : MI) (p : CF) : Prop := I 204 2 = nI (cC p) ∧ I 204 3 = nI (cR p) ∧ I 205 2 = nI (cF p) ∧ ∀ c, c < 6 → I 207 (6 + c) = cS p c
def WM (I : MI) (p : CF) (w : WD) : Prop := I 213 0 = wY w ∧ (∀ f, f < cF p → I 213 (8 + 8 * f) = wK w f) ∧ (∀ f, f < cF p → I 213 (7 + 8 * f) = wA w f) ∧ (∀ c, c < 6 → I 213 (1 + c) = wP w c) ∧ ∀ f c, f < cF p → c < cC p → I 213 (9 + 8 * f + c) = wR w f c
theorem ad_row (f c : Nat) : (((7 : Int32) + ((8 : Int32) * nI f)) + (2 : Int32)) + nI c = nI (9 + 8 * f + c) := by
  simp only [nI, ← Int32.ofNat_mul, ← Int32.ofNat_add, show (7 : Int32) = Int32.ofNat 7 from rfl, show (8 : Int32) = Int32.ofNat 8 from rfl, show (2 : Int32) = Int32.ofNat 2 from rfl]
  congr 1
  omega
theorem ad_age (f : Nat) : ((7 : Int32) + ((8 : Int32) * nI f)) = nI (7 + 8 * f) := by
  simp only [nI, ← Int32.ofNat_mul, ← Int32.ofNat_add, show (7 : Int32) = Int32.ofNat 7 from rfl, show (8 : Int32) = Int32.ofNat 8 from rfl]
theorem ad_cut (f : Nat) : ((7 : Int32) + ((8 : Int32) * nI f)) + (1 : Int32) = nI (8 + 8 * f) := by
  simp only [nI, ← Int32.ofNat_mul, ← Int32.ofNat_add, show (7 : Int32) = Int32.ofNat 7 from rfl, show (8 : Int32) = Int32.ofNat 8 from rfl, show (1 : Int32) = Int32.ofNat 1 from rfl]
  congr 1
  omega
theorem ad_1 (c : Nat) : (1 : Int32) + nI c = nI (1 + c) := nI_add 1 c
theorem ad_6 (c : Nat) : (6 : Int32) + nI c = nI (6 + c) := nI_add 6 c
theorem ad_66 (f c : Nat) : ((6 : Int32) * nI f) + nI c = nI (6 * f + c) := by
  simp only [nI, ← Int32.ofNat_mul, ← Int32.ofNat_add, show (6 : Int32) = Int32.ofNat 6 from rfl]
theorem nI_s (n : Nat) : nI n + 1 = nI (n + 1) := (nI_succ n).symm
section REF45
variable {I : MI} {p : CF} {w : WD}
theorem fm_e (h : CM I p) : F_MD_fenceMany I = some (nI (cF p)) := by unfold F_MD_fenceMany; rw [h.2.2.1]
theorem row_e (ho : CO p) (hw : WM I p w) {f c : Nat} (hf : f < cF p) (hc : c < cC p) : F_MD_rowOf I (nI f) (nI c) = some (wR w f c) := by
  have := ho.1; have := ho.2.2.1
  unfold F_MD_rowOf
  rw [ad_row, gd_n (by omega) (by decide), nI_clamp (by omega), hw.2.2.2.2 f c hf hc]
theorem age_e (ho : CO p) (hw : WM I p w) {f : Nat} (hf : f < cF p) : F_MD_ageOf I (nI f) = some (wA w f) := by
  have := ho.2.2.1
  unfold F_MD_ageOf
  rw [ad_age, gd_n (by omega) (by decide), nI_clamp (by omega), hw.2.2.1 f hf]
theorem cut_e (ho : CO p) (hw : WM I p w) {f : Nat} (hf : f < cF p) : F_MD_isCut I (nI f) = some (if wK w f = 1 then 1 else 0) := by
  have := ho.2.2.1
  unfold F_MD_isCut
  rw [ad_cut, gd_n (by omega) (by decide), nI_clamp (by omega), hw.2.1 f hf]
  split <;> rfl
theorem post_e (hw : WM I p w) {c : Nat} (hc : c < 6) (r : Int32) : F_MD_isPost I (nI c) r = some (if ((wP w c) >>> (r &&& 31)) &&& 1 = 1 then 1 else 0) := by
  unfold F_MD_isPost
  rw [ad_1, gd_n (by omega) (by decide), nI_clamp (by omega), hw.2.2.2.1 c hc]
  split <;> rfl
/-- whose a place is, by the rows g of the column's stakes -/
def a_own (g : Nat → Int32) (r : Int32) : Nat → Int32 × Int32
  | 0 => (-1, -1)
  | n + 1 => if r < g n then a_own g r n else if g n ≤ (a_own g r n).2 then a_own g r n else (nI n, g n)
theorem a_near {g : Nat → Int32} {r : Int32} (hg : ∀ f, -1 ≤ g f) : ∀ n, -1 ≤ (a_own g r n).2 := by
  intro n
  induction n with
  | zero => exact Int32.le_refl _
  | succ n ih =>
    simp only [a_own]
    split
    · exact ih
    · split
      · exact ih
      · exact hg n
theorem WO.ge {p : CF} {w : WD} (h : WO p w) (f c : Nat) : -1 ≤ wR w f c := by
  rcases h.2.2.2.2.1 f c with h | h
  · exact h.1
  · rw [h]; exact Int32.le_refl _
theorem whose_e (ho : CO p) (hs : CM I p) (hw : WM I p w) (hv : WO p w) {c : Nat} (hc : c < cC p) (r : Int32) : F_MD_whoseIs I (nI c) r = some (a_own (fun f => wR w f c) r (cF p)).1 := by
  have hF := ho.2.2.1
  unfold F_MD_whoseIs
  rw [wl_f (cF p) (fun n => ((a_own (fun f => wR w f c) r n).1, (a_own (fun f => wR w f c) r n).2, nI n)) (t := (a_own (fun f => wR w f c) r (cF p)).1)]
  · rfl
  · rfl
  · intro n hn
    simp only [F_MD_whoseIs_8]
    rw [fm_e hs]
    simp only [Option.bind_some]
    rw [if_neg (nI_ge hn (by omega)), row_e ho hw hn hc]
    simp only [Option.bind_some, nI_s, a_own]
    have h1 := a_near (r := r) (fun f => hv.ge f c) n
    have h2 := hv.ge n c
    by_cases q1 : wR w n c = -1
    · rw [if_pos q1]
      by_cases q2 : r < wR w n c
      · simp only [if_pos q2]
      · rw [if_neg q2, if_pos (by rw [q1]; exact h1)]
    · rw [if_neg q1]
      by_cases q2 : r < wR w n c
      · simp only [if_pos q2]
      · simp only [if_neg q2]
        by_cases q3 : wR w n c ≤ (a_own (fun f => wR w f c) r n).2
        · rw [if_pos q3, if_neg (by grind)]
        · rw [if_neg q3, if_pos (by grind)]
  · simp only [F_MD_whoseIs_8]
    rw [fm_e hs]
    simp only [Option.bind_some]
    rw [if_pos (Int32.le_refl _)]
/-- the fields by counting -/
def n_fld (g : Nat → Int32) (v : Int32) (F R : Nat) : Nat := sm (fun r => if (a_own g (nI r) F).1 = v then 1 else 0) R
theorem n_fld_le (g : Nat → Int32) (v : Int32) (F R : Nat) : n_fld g v F R ≤ R := by
  have := sm_le (h := fun r => if (a_own g (nI r) F).1 = v then 1 else 0) (k := 1) (n := R) (fun i _ => by split <;> omega)
  unfold n_fld; omega
theorem nI_if (a : Nat) (q : Prop) [Decidable q] : (if q then nI a + 1 else nI a) = nI (a + if q then 1 else 0) := by
  split
  · exact nI_s a
  · rfl
theorem field_e (ho : CO p) (hs : CM I p) (hw : WM I p w) (hv : WO p w) (v : Int32) : F_MD_fieldOf I v = some (nI (sm (fun c => n_fld (fun f => wR w f c) v (cF p) (cR p)) (cC p))) := by
  have hF := ho.2.2.1; have hC := ho.1; have hR := ho.2.1
  unfold F_MD_fieldOf
  rw [wl_f (cC p) (fun n => (nI (sm (fun c => n_fld (fun f => wR w f c) v (cF p) (cR p)) n), nI n)) (t := nI (sm (fun c => n_fld (fun f => wR w f c) v (cF p) (cR p)) (cC p)))]
  · rfl
  · rfl
  · intro n hn
    simp only [F_MD_fieldOf_4]
    rw [hs.1, if_neg (nI_ge hn (by omega))]
    rw [wl_f (cR p) (fun m => (nI (sm (fun c => n_fld (fun f => wR w f c) v (cF p) (cR p)) n + sm (fun r => if (a_own (fun f => wR w f n) (nI r) (cF p)).1 = v then 1 else 0) m), nI m)) (t := nI (sm (fun c => n_fld (fun f => wR w f c) v (cF p) (cR p)) (n + 1)))]
    · simp only [Option.bind_some, nI_s]
    · rfl
    · intro m hm
      simp only [F_MD_fieldOf_17]
      rw [hs.2.1, if_neg (nI_ge hm (by omega)), whose_e ho hs hw hv hn]
      simp only [Option.bind_some, nI_s, sm]
      split <;> rfl
    · simp only [F_MD_fieldOf_17]
      rw [hs.2.1, if_pos (Int32.le_refl _)]
      rfl
  · simp only [F_MD_fieldOf_4]
    rw [hs.1, if_pos (Int32.le_refl _)]
theorem left_e (ho : CO p) (hs : CM I p) (hw : WM I p w) {f : Nat} (hf : f < cF p) : F_MD_leftOf I (nI f) = some (nI (sm (fun c => if wR w f c = -1 then 0 else 1) (cC p))) := by
  have hC := ho.1
  unfold F_MD_leftOf
  rw [wl_f (cC p) (fun n => (nI (sm (fun c => if wR w f c = -1 then 0 else 1) n), nI n)) (t := nI (sm (fun c => if wR w f c = -1 then 0 else 1) (cC p)))]
  · rfl
  · rfl
  · intro n hn
    simp only [F_MD_leftOf_4]
    rw [hs.1, if_neg (nI_ge hn (by omega)), row_e ho hw hf hn]
    simp only [Option.bind_some, nI_s, sm]
    split <;> rfl
  · simp only [F_MD_leftOf_4]
    rw [hs.1, if_pos (Int32.le_refl _)]
theorem stakes_e (ho : CO p) (hs : CM I p) (hw : WM I p w) {c : Nat} (hc : c < cC p) (r : Int32) : F_MD_stakesAt I (nI c) r = some (nI (sm (fun f => if wR w f c = r then 1 else 0) (cF p))) := by
  have hF := ho.2.2.1
  unfold F_MD_stakesAt
  rw [wl_f (cF p) (fun n => (nI (sm (fun f => if wR w f c = r then 1 else 0) n), nI n)) (t := nI (sm (fun f => if wR w f c = r then 1 else 0) (cF p)))]
  · rfl
  · rfl
  · intro n hn
    simp only [F_MD_stakesAt_5]
    rw [fm_e hs]
    simp only [Option.bind_some]
    rw [if_neg (nI_ge hn (by omega)), row_e ho hw hn hc]
    simp only [Option.bind_some, nI_s, sm]
    split <;> rfl
  · simp only [F_MD_stakesAt_5]
    rw [fm_e hs]
    simp only [Option.bind_some]
    rw [if_pos (Int32.le_refl _)]
def n_bel (w : WD) (a b n : Nat) : Nat := sm (fun c => if wR w a c = -1 then 0 else if wR w b c = -1 then 0 else if wR w a c ≤ wR w b c then 0 else 1) n
theorem belows_e (ho : CO p) (hs : CM I p) (hw : WM I p w) {a b : Nat} (ha : a < cF p) (hb : b < cF p) : F_MD_belows I (nI a) (nI b) = some (nI (n_bel w a b (cC p))) := by
  have hC := ho.1
  unfold F_MD_belows
  rw [wl_f (cC p) (fun n => (nI (n_bel w a b n), nI n)) (t := nI (n_bel w a b (cC p)))]
  · rfl
  · rfl
  · intro n hn
    simp only [F_MD_belows_5]
    rw [hs.1, if_neg (nI_ge hn (by omega)), row_e ho hw ha hn, row_e ho hw hb hn]
    simp only [Option.bind_some, nI_s, n_bel, sm]
    split
    · rfl
    · split
      · rfl
      · split <;> rfl
  · simp only [F_MD_belows_5]
    rw [hs.1, if_pos (Int32.le_refl _)]
def b_meet (w : WD) (a b : Nat) : Nat → Bool
  | 0 => false
  | n + 1 => b_meet w a b n || (!(wR w a n == -1) && wR w a n == wR w b n)
theorem doMeet_e (ho : CO p) (hs : CM I p) (hw : WM I p w) {a b : Nat} (ha : a < cF p) (hb : b < cF p) : F_MD_doMeet I (nI a) (nI b) = some (bI (b_meet w a b (cC p))) := by
  have hC := ho.1
  unfold F_MD_doMeet
  have key : ∀ k, k ≤ cC p → wl (fun s : Int32 => F_MD_doMeet_2 I (nI a) (nI b) s) (nI (cC p - k)) = some (if b_meet w a b (cC p) = true ∧ b_meet w a b (cC p - k) = false then .inr 1 else .inl ()) ∨ b_meet w a b (cC p - k) = true := by
    intro k
    induction k with
    | zero =>
      intro _
      left
      rw [wl_in (t := .inl ())]
      · rw [if_neg]; intro h; simp only [Nat.sub_zero] at h; rw [h.1] at h; exact absurd h.2 (by decide)
      · simp only [F_MD_doMeet_2, Nat.sub_zero]; rw [hs.1, if_pos (Int32.le_refl _)]
    | succ k ih =>
      intro hk
      by_cases q : b_meet w a b (cC p - (k + 1)) = true
      · exact Or.inr q
      · left
        have e : cC p - k = cC p - (k + 1) + 1 := by omega
        have hn : cC p - (k + 1) < cC p := by omega
        have st : F_MD_doMeet_2 I (nI a) (nI b) (nI (cC p - (k + 1))) = some (if !(wR w a (cC p - (k + 1)) == -1) && wR w a (cC p - (k + 1)) == wR w b (cC p - (k + 1)) then .inr (.inr 1) else .inl (nI (cC p - k))) := by
          simp only [F_MD_doMeet_2]
          rw [hs.1, if_neg (nI_ge hn (by omega)), row_e ho hw ha hn, row_e ho hw hb hn, e]
          simp only [Option.bind_some, nI_s]
          by_cases q1 : wR w a (cC p - (k + 1)) = -1
          · simp [q1]
          · by_cases q2 : wR w a (cC p - (k + 1)) = wR w b (cC p - (k + 1))
            · rw [if_neg q1, if_pos q2]; rw [q2] at q1; simp [q1, q2]
            · rw [if_neg q1, if_neg q2]; simp [q2]
        have qf : b_meet w a b (cC p - (k + 1)) = false := by simpa using q
        by_cases q3 : (!(wR w a (cC p - (k + 1)) == -1) && wR w a (cC p - (k + 1)) == wR w b (cC p - (k + 1))) = true
        · rw [if_pos q3] at st
          rw [wl_in st, if_pos]
          refine ⟨?_, qf⟩
          have mono : ∀ m, cC p - k ≤ m → b_meet w a b m = true := by
            intro m hm
            induction m with
            | zero => omega
            | succ m ihm =>
              by_cases z : cC p - k = m + 1
              · rw [← z, e]; simp only [b_meet]; rw [q3]; simp
              · simp only [b_meet]; rw [ihm (by omega)]; simp
          exact mono _ (by omega)
        · rw [if_neg q3] at st
          rw [wl_st st]
          have hk1 : b_meet w a b (cC p - k) = false := by
            rw [e]; simp only [b_meet]; rw [qf]; simpa using q3
          rcases ih (by omega) with h | h
          · rw [h, hk1, qf]
          · rw [hk1] at h; cases h
  have h := key (cC p) (Nat.le_refl _)
  rw [Nat.sub_self] at h
  rcases h with h | h
  · rw [show (0 : Int32) = nI 0 from nI_0.symm, h]
    cases q : b_meet w a b (cC p) <;> simp [b_meet, bI, sel, nI_0]
  · simp [b_meet] at h
end REF45
