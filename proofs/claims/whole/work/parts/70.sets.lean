/-! sets -/
/-- fence f is set -/
def a_set (p : CF) (w : WD) (f : Nat) : WD := (wY w, wK w, fun f' => if f' = f then 0 else wA w f', wP w, fun f' c => if f' = f ∧ c < cC p then 0 else wR w f' c)
section L70
variable {I X : MI} {J JX : MJ} {k o sl sd : Nat} {p : CF} {w : WD} {kl : List NT} {un : List (WD × List NT)}
theorem set_O (ho : CO p) (hR : cF p = 0 ∨ 0 < cR p) (hv : WO p w) {f : Nat} (hf : f < cF p) : WO p (a_set p w f) := by
  have hR2 := ho.2.1
  have hF := ho.2.2.1; have hC := ho.1
  obtain ⟨h1, h2, h3, h4, h5, h6⟩ := hv
  refine ⟨h1, h2, fun g => ?_, h4, fun g c => ?_, fun g c hgc => ?_⟩
  · show 0 ≤ (if g = f then (0 : Int32) else wA w g) ∧ (if g = f then (0 : Int32) else wA w g) ≤ 99
    split
    · exact ⟨by decide, by decide⟩
    · exact h3 g
  · show -1 ≤ (if g = f ∧ c < cC p then (0 : Int32) else wR w g c) ∧ (if g = f ∧ c < cC p then (0 : Int32) else wR w g c) < nI (cR p) ∨ (if g = f ∧ c < cC p then (0 : Int32) else wR w g c) = -1
    split
    · exact Or.inl ⟨by decide, nI_lt (a := 0) (by omega) (by omega)⟩
    · exact h5 g c
  · show (if g = f ∧ c < cC p then (0 : Int32) else wR w g c) = -1
    rw [if_neg (by omega)]; exact h6 g c hgc
theorem set_c (ho : CO p) (h : WC X k w) {f : Nat} (hf : f < cF p) : WC (w_plant X k (nI f) (nI (cC p))) k (a_set p w f) := by
  have hF := ho.2.2.1; have hC := ho.1
  exact plant_c h (by omega) hC rfl rfl (fun _ _ => rfl) rfl (fun _ _ _ _ => rfl)
theorem set_m (ho : CO p) (hs : CM X p) (hw : WM X p w) {f : Nat} (hf : f < cF p) : ok (F_MD_isSet X (nI f)) (fun Y => WM Y p (a_set p w f) ∧ (∀ j, 55 ≤ j → Y 213 j = X 213 j) ∧ fsL [(213, none)] Y X) := by
  have hF := ho.2.2.1; have hC := ho.1
  refine ok_m (isSet_e ho hs hf) ?_
  rintro Y ⟨h1, h2, h3, h4⟩
  obtain ⟨g1, g2, g3, g4, g5⟩ := hw
  refine ⟨⟨?_, fun g hg => ?_, fun g hg => ?_, fun c hc => ?_, fun g c hg hc => ?_⟩, fun j hj => h3 j (by omega) (fun c hc => by omega), fs_fr (P := fun q => q = 213) (fun k hk => h4 k hk) (fun k hk => by subst hk; decide)⟩
  · rw [h3 0 (by omega) (fun c hc => by omega)]; exact g1
  · rw [h3 _ (by omega) (fun c hc => by omega)]; exact g2 g hg
  · show _ = (if g = f then (0 : Int32) else wA w g)
    by_cases e : g = f
    · rw [if_pos e, e]; exact h1
    · rw [if_neg e, h3 _ (by omega) (fun c hc => by omega)]; exact g3 g hg
  · rw [h3 _ (by omega) (fun c hc => by omega)]; exact g4 c hc
  · show _ = (if g = f ∧ c < cC p then (0 : Int32) else wR w g c)
    by_cases e : g = f
    · rw [if_pos ⟨e, hc⟩, e]; exact h2 c hc
    · rw [if_neg (fun z => e z.1), h3 _ (by omega) (fun c hc => by omega)]; exact g5 g c hg hc
theorem setT (ho : CO p) (h : TH X p w kl) {f : Nat} (hf : f < cF p) : ok (F_MD_isSet X (nI f)) (fun Y => TH Y p (a_set p w f) kl ∧ fsL [(213, none)] Y X) := by
  obtain ⟨h1, h2, h3, h4, h5⟩ := h
  refine ok_m (set_m ho h1 h3 hf) ?_
  rintro Y ⟨g1, g2, g3⟩
  refine ⟨⟨CM_c h1 (fun k hk => fs_k g3 (by rcases hk with z | z | z <;> subst z <;> decide)), CN_c h2 (fun k hk => fs_k g3 (by rcases hk with z | z | z <;> subst z <;> decide)), g1, KM_c h4 g2, ?_⟩, g3⟩
  rw [fs_k g3 (by decide)]; exact h5
/-- n years, with fence f set before the one numbered v -/
def a_lw (p : CF) (w : WD) (f : Nat) (v : Int32) : Nat → WD
  | 0 => w
  | n + 1 => a_year p (if nI n = v then a_set p (a_lw p w f v n) f else a_lw p w f v n)
/-- the least field of those years -/
def a_lf (p : CF) (w : WD) (f : Nat) (v : Int32) : Nat → Int32
  | 0 => 180
  | n + 1 => f_Math_min_II (a_lf p w f v n) (nI (a_fd p (a_lw p w f v (n + 1)) f))
theorem fd_le (ho : CO p) (w : WD) (f : Nat) : a_fd p w f ≤ 180 := by
  have hR := ho.2.1; have hC := ho.1
  have h := sm_le (h := fun c => n_fld (fun f => wR w f c) (nI f) (cF p) (cR p)) (k := 30) (n := cC p) (fun i _ => Nat.le_trans (n_fld_le _ _ _ _) hR)
  unfold a_fd
  omega
theorem lf_v (ho : CO p) (f : Nat) (v : Int32) : ∀ n, ∃ q, q ≤ 180 ∧ a_lf p w f v n = nI q := by
  intro n
  induction n with
  | zero => exact ⟨180, by omega, rfl⟩
  | succ n ih =>
    obtain ⟨q, h1, h2⟩ := ih
    simp only [a_lf]
    unfold f_Math_min_II
    split
    · exact ⟨_, fd_le ho _ f, rfl⟩
    · exact ⟨q, h1, h2⟩
theorem lw_Y (f : Nat) (v : Int32) (n : Nat) : wY (a_lw p w f v n) = wY w + nI n := by
  induction n with
  | zero => show wY w = wY w + 0; grind
  | succ n ih =>
    have e : wY (a_lw p w f v (n + 1)) = wY (a_lw p w f v n) + 1 := by
      simp only [a_lw]
      split <;> rfl
    rw [e, ih, ← nI_s]; grind
theorem lw_O (ho : CO p) (hR : cF p = 0 ∨ 0 < cR p) (hv : WO p w) {f : Nat} (hf : f < cF p) {y : Nat} (hy : wY w = nI y) (v : Int32) : ∀ n, y + n ≤ 2000 → WO p (a_lw p w f v n) ∧ (y + n < 2000 → WO p (if nI n = v then a_set p (a_lw p w f v n) f else a_lw p w f v n) ∧ wY (if nI n = v then a_set p (a_lw p w f v n) f else a_lw p w f v n) = nI (y + n)) := by
  have key : ∀ n, WO p (a_lw p w f v n) → WO p (if nI n = v then a_set p (a_lw p w f v n) f else a_lw p w f v n) ∧ wY (if nI n = v then a_set p (a_lw p w f v n) f else a_lw p w f v n) = nI (y + n) := by
    intro n h
    have e : wY (a_lw p w f v n) = nI (y + n) := by rw [lw_Y, hy, nI_add]
    split
    · exact ⟨set_O ho hR h hf, e⟩
    · exact ⟨h, e⟩
  intro n
  induction n with
  | zero => intro _; exact ⟨hv, fun _ => key 0 hv⟩
  | succ n ih =>
    intro hn
    obtain ⟨h1, h2⟩ := ih (by omega)
    obtain ⟨h3, h4⟩ := h2 (by omega)
    have : WO p (a_lw p w f v (n + 1)) := year_O ho hR h3 (by rw [h4]; exact nI_lt (b := 2000) (by omega) (by decide))
    exact ⟨this, fun _ => key _ this⟩
/-- the class -/
theorem lf_c (ho : CO p) (hQ : CQ p) (hR : cF p = 0 ∨ 0 < cR p) (hq : sl = 3 ∨ sl = 11) (hv : WO p w) (hc : CC I sl p) (hcd : CD I sl p) (hw : WC I 20 w) {f : Nat} (hf : f < cF p) {y : Nat} (hy : wY w = nI y) (v : Int32) : ∀ n, y + n ≤ 999 → (lf I sl (nI f) v n).1 = a_lf p w f v n ∧ WC (lf I sl (nI f) v n).2 31 (a_lw p w f v n) ∧ fr FT (lf I sl (nI f) v n).2 I := by
  have hF := ho.2.2.1
  intro n
  induction n with
  | zero => intro _; exact ⟨rfl, take_c hw (by omega), fr_takeT fr_refl⟩
  | succ n ih =>
    intro hn
    obtain ⟨h1, h2, h3⟩ := ih (by omega)
    obtain ⟨h4, h5⟩ := (lw_O ho hR hv hf hy v n (by omega)).2 (by omega)
    simp only [lf, a_lf, a_lw]
    rw [h1]
    generalize (lf I sl (nI f) v n).2 = Z at *
    have e1 : Z sl 1 = nI (cC p) := by rw [h3 sl (by unfold FT; omega)]; exact hc.1
    have wP : WC (lf_p Z sl (nI f) v n) 31 (if nI n = v then a_set p (a_lw p w f v n) f else a_lw p w f v n) := by
      unfold lf_p
      rw [e1]
      split
      · exact set_c ho h2 hf
      · exact h2
    have fP : fr FT (lf_p Z sl (nI f) v n) I := by
      unfold lf_p
      split
      · exact fr_plant h3 (by unfold FT; omega) (by unfold FT; omega)
      · exact h3
    generalize lf_p Z sl (nI f) v n = Y at *
    generalize (if nI n = v then a_set p (a_lw p w f v n) f else a_lw p w f v n) = u at *
    have cY : CC Y sl p := CC_c hc (fun q a b => fP q (by unfold FT; omega))
    have dY : CD Y sl p := CD_c hcd (fun q a b => fP q (by unfold FT; omega))
    have z := (year_c (kl := []) (lg := none) ho hQ hR cY dY h4 (by omega) (by omega) (fun g e => by cases e) wP trivial (by rw [h5]; exact nI_lt (b := 999) (by omega) (by decide))).1
    have fZ : fr FT (py_year none Y 31 sl) I := fr_itT (n := 1) fP
    have e2 : (py_year none Y 31 sl) sl 2 = nI (cR p) := by rw [fZ sl (by unfold FT; omega)]; exact hc.2.1
    have zO := year_O ho hR h4 (by rw [h5]; exact nI_lt (b := 2000) (by omega) (by decide))
    refine ⟨?_, z, fZ⟩
    rw [e2, field_c z zO ho (by omega)]
    rfl
/-- the reference -/
theorem lf_m (ho : CO p) (hQ : CQ p) (hR : cF p = 0 ∨ 0 < cR p) (hv : WO p w) (h : TH X p w kl) (ha : WMg (X 214) p w) (J : MJ) {f : Nat} (hf : f < cF p) {y m : Nat} (hy : wY w = nI y) (hm : y + m ≤ 1999) (hm1 : 1 ≤ m) (v : Int32) :
    ok (F_MD_leastField X J (nI f) (nI m) v) (fun t => t.1 = a_lf p w f v m ∧ TH t.2.1 p w kl ∧ WMg (t.2.1 214) p w ∧ fsL LY t.2.1 X ∧ fsL K1 t.2.2 J) := by
  have loop : ∀ d n (Y : MI) (JY : MJ) (q : Int32), n + d = m → TH Y p (a_lw p w f v n) kl → fsL LY Y X → fsL K1 JY J → q = (if n = 0 then -1 else a_lf p w f v n) → ok (wl (fun s : Int32 × Int32 × MI × MJ => F_MD_leastField_6 s.2.2.1 s.2.2.2 (nI f) (nI m) v s.1 s.2.1) (q, nI n, Y, JY)) (fun t => t.1 = a_lf p w f v m ∧ TH t.2.1 p (a_lw p w f v m) kl ∧ fsL LY t.2.1 X ∧ fsL K1 t.2.2 J) := by
    intro d
    induction d with
    | zero =>
      intro n Y JY q hn hT f1 f2 h0
      have hn : n = m := by omega
      subst hn
      refine ok_e (x := (q, Y, JY)) (wl_in ?_) ⟨?_, hT, f1, f2⟩
      · simp only [F_MD_leastField_6]
        rw [if_pos (Int32.le_refl _)]
      · show q = _
        rw [h0, if_neg (by omega)]
    | succ d ih =>
      intro n Y JY q hn hT f1 f2 h0
      obtain ⟨hO, hO2⟩ := lw_O ho hR hv hf hy v n (by omega)
      obtain ⟨h4, h5⟩ := hO2 (by omega)
      have mid : ∀ Z : MI, TH Z p (if nI n = v then a_set p (a_lw p w f v n) f else a_lw p w f v n) kl → fsL LY Z X → ok (F_MD_leastField_23 Z JY (nI f) (nI m) v q (nI n)) (fun s => ∃ Y' JY', s = .inl (a_lf p w f v (n + 1), nI (n + 1), Y', JY') ∧ TH Y' p (a_lw p w f v (n + 1)) kl ∧ fsL LY Y' X ∧ fsL K1 JY' J) := by
        intro Z hZ fZ
        obtain ⟨⟨Y', JY'⟩, ey, g1, g2, g3⟩ := yearT ho hQ hR h4 hZ JY
        have g1 : TH Y' p (a_lw p w f v (n + 1)) kl := g1
        have hO' := (lw_O ho hR hv hf hy v (n + 1) (by omega)).1
        refine ok_e (x := .inl (a_lf p w f v (n + 1), nI (n + 1), Y', JY')) ?_ ⟨Y', JY', rfl, g1, fs_tr g2 fZ, fs_tr g3 f2⟩
        unfold F_MD_leastField_23
        rw [ey]
        simp only [Option.bind_some]
        rw [field_e ho g1.1 g1.2.2.1 hO']
        simp only [Option.bind_some, nI_s]
        show (if q = -1 then _ else if q ≤ nI (a_fd p (a_lw p w f v (n + 1)) f) then _ else _) = _
        have e1 : a_lf p w f v (n + 1) = f_Math_min_II (a_lf p w f v n) (nI (a_fd p (a_lw p w f v (n + 1)) f)) := rfl
        have fb := fd_le ho (a_lw p w f v (n + 1)) f
        have efd : nI (sm (fun c => n_fld (fun f_1 => wR (a_lw p w f v (n + 1)) f_1 c) (nI f) (cF p) (cR p)) (cC p)) = nI (a_fd p (a_lw p w f v (n + 1)) f) := rfl
        rw [efd, e1]
        generalize a_fd p (a_lw p w f v (n + 1)) f = fd at *
        unfold f_Math_min_II
        by_cases n0 : n = 0
        · rw [if_pos n0] at h0
          subst h0
          rw [if_pos rfl]
          subst n0
          show _ = some (Sum.inl ((if nI fd < nI 180 then nI fd else nI 180), _, _, _))
          by_cases c : fd < 180
          · rw [if_pos (nI_lt c (by decide))]
          · rw [if_neg (nI_nlt (by omega) (by omega)), show fd = 180 by omega]
        · rw [if_neg n0] at h0
          obtain ⟨z, z1, z2⟩ := lf_v (w := w) ho f v n
          subst h0
          rw [z2, if_neg (show ¬ nI z = -1 from fun e => by have := nI_pos' (n := z) (by omega); rw [e] at this; exact absurd this (by decide))]
          by_cases c : fd < z
          · rw [if_neg (nI_ge c (by omega)), if_pos (nI_lt c (by omega))]
          · rw [if_pos (nI_le (by omega) (by omega)), if_neg (nI_nlt (by omega) (by omega))]
      have st : ok (F_MD_leastField_6 Y JY (nI f) (nI m) v q (nI n)) (fun s => ∃ Y' JY', s = .inl (a_lf p w f v (n + 1), nI (n + 1), Y', JY') ∧ TH Y' p (a_lw p w f v (n + 1)) kl ∧ fsL LY Y' X ∧ fsL K1 JY' J) := by
        unfold F_MD_leastField_6
        rw [if_neg (nI_ge (by omega) (by omega))]
        by_cases c : nI n = v
        · rw [if_pos c] at mid ⊢
          obtain ⟨Z, ez, s1, s2⟩ := setT ho hT hf
          rw [ez]
          simp only [Option.bind_some]
          exact mid Z s1 (fs_tr (fs_sub (by decide) s2) f1)
        · rw [if_neg c] at mid ⊢
          exact mid Y hT f1
      obtain ⟨s, es, Y', JY', rfl, s1, s2, s3⟩ := st
      have e1 : wl (fun s : Int32 × Int32 × MI × MJ => F_MD_leastField_6 s.2.2.1 s.2.2.2 (nI f) (nI m) v s.1 s.2.1) (q, nI n, Y, JY) = wl (fun s : Int32 × Int32 × MI × MJ => F_MD_leastField_6 s.2.2.1 s.2.2.2 (nI f) (nI m) v s.1 s.2.1) (a_lf p w f v (n + 1), nI (n + 1), Y', JY') := wl_st es
      rw [e1]
      exact ih (n + 1) Y' JY' _ (by omega) s1 s2 s3 (by rw [if_neg (by omega)])
  unfold F_MD_leastField
  refine ok_b (loop m 0 X J (-1) (by omega) h (fs_r X) (fs_r J) rfl) ?_
  rintro ⟨t1, Y, JY⟩ ⟨h1, h2, h3, h4⟩
  have h3 : fsL LY Y X := h3
  have h2 : TH Y p (a_lw p w f v m) kl := h2
  obtain ⟨Z, ez, z1, z2⟩ := anewT ho h2 (w0 := w) (by rw [fs_k h3 (by decide)]; exact ha)
  refine ok_be ez (ok_s ⟨h1, z1, ?_, fs_tr (fs_sub (by decide) z2) h3, h4⟩)
  show WMg (Z 214) p w
  rw [fs_k z2 (by decide), fs_k h3 (by decide)]; exact ha
end L70
