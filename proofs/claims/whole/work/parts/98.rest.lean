/-! rest: fences walk apart; the reference's fields -/
/-- the fences of t are cut, the others are not -/
def a_cs (p : CF) (w : WD) (t : Nat) : WD := (wY w, fun f => if f < cF p then nI (t / 2 ^ f % 2) else 0, wA w, wP w, wR w)
/-- alike as far as fence f goes -/
def sF (w v : WD) (f : Nat) : Prop := wY w = wY v ∧ wK w f = wK v f ∧ wA w f = wA v f ∧ wP w = wP v ∧ wR w f = wR v f
section L98
variable {I X Y : MI} {J JX JY : MJ} {k o sl sd : Nat} {p : CF} {w v : WD} {kl : List NT} {un : List (WD × List NT)}
theorem sF_year {f : Nat} (h : sF w v f) : sF (a_year p w) (a_year p v) f := by
  obtain ⟨h1, h2, h3, h4, h5⟩ := h
  have e1 : a_row p w f = a_row p v f := by
    funext c
    unfold a_row a_o
    rw [h5, h4, h2, h3, h1]
  have e2 : a_age w f = a_age v f := by unfold a_age; rw [h3]
  have e3 : a_rt p w f = a_rt p v f := by unfold a_rt; rw [e1, e2, h1]
  refine ⟨?_, rfl, ?_, h4, ?_⟩
  · show wY w + 1 = wY v + 1
    rw [h1]
  · show (if f < cF p then (if a_rt p w f then 0 else a_age w f) else wA w f) = (if f < cF p then (if a_rt p v f then 0 else a_age v f) else wA v f)
    rw [e3, e2, h3]
  · funext c
    show (if a_rt p w f then (if c < cC p then 0 else -1) else a_row p w f c) = (if a_rt p v f then (if c < cC p then 0 else -1) else a_row p v f c)
    rw [e3, e1]
theorem sF_it {f : Nat} (h : sF w v f) : ∀ n, sF (a_it p w n) (a_it p v n) f := by
  intro n
  induction n with
  | zero => exact h
  | succ n ih => exact sF_year ih
theorem cs_R {t u f : Nat} (n : Nat) (h : t / 2 ^ f % 2 = u / 2 ^ f % 2) : wR (a_it p (a_cs p w t) n) f = wR (a_it p (a_cs p w u) n) f := by
  refine (sF_it (p := p) (w := a_cs p w t) (v := a_cs p w u) ⟨rfl, ?_, rfl, rfl, rfl⟩ n).2.2.2.2
  show (if f < cF p then nI (t / 2 ^ f % 2) else 0) = (if f < cF p then nI (u / 2 ^ f % 2) else 0)
  rw [h]
theorem cs_O (hv : WO p w) (t : Nat) : WO p (a_cs p w t) := by
  obtain ⟨h1, h2, h3, h4, h5, h6⟩ := hv
  refine ⟨h1, fun f => ?_, h3, h4, h5, h6⟩
  show (if f < cF p then nI (t / 2 ^ f % 2) else 0) = 0 ∨ (if f < cF p then nI (t / 2 ^ f % 2) else 0) = 1
  split
  · rcases Nat.mod_two_eq_zero_or_one (t / 2 ^ f) with e | e <;> rw [e]
    · exact Or.inl rfl
    · exact Or.inr rfl
  · exact Or.inl rfl
/-- the field of f behind n years, if those of t are cut now -/
def r_fd (p : CF) (w : WD) (n t f : Nat) : Nat := a_fd p (a_it p (a_cs p w t) n) f
/-- none of the first m fences would do better otherwise -/
def r_ok (p : CF) (w : WD) (n t : Nat) : Nat → Bool
  | 0 => true
  | m + 1 => r_ok p w n t m && decide (r_fd p w n (t ^^^ 2 ^ m) m ≤ r_fd p w n t m)
def r_bs (p : CF) (w : WD) (n : Nat) : Nat → Int32
  | 0 => -1
  | t + 1 => if (r_bs p w n t = -1 ∨ pop 32 t < pop 32 (r_bs p w n t).toNatClampNeg) ∧ r_ok p w n t (cF p) = true then nI t else r_bs p w n t
theorem r_bs_v {n : Nat} : ∀ t, r_bs p w n t = -1 ∨ ∃ u, u < t ∧ r_bs p w n t = nI u := by
  intro t
  induction t with
  | zero => exact Or.inl rfl
  | succ t ih =>
    simp only [r_bs]
    split
    · exact Or.inr ⟨t, by omega, rfl⟩
    · rcases ih with h | ⟨u, h1, h2⟩
      · exact Or.inl h
      · exact Or.inr ⟨u, by omega, h2⟩
theorem r_fd_le (ho : CO p) (n t f : Nat) : r_fd p w n t f ≤ 180 := fd_le ho _ f
theorem one_shl {f : Nat} (hf : f < 31) : (1 : Int32) <<< (nI f &&& 31) = nI (2 ^ f) := by
  have := shl_n (a := 1) (s := f) (by omega)
  rw [Nat.mul_one] at this
  exact this
theorem pow_F (ho : CO p) : 2 ^ cF p ≤ 64 := Nat.pow_le_pow_right (n := 2) (by decide) ho.2.2.1
theorem xor_F {t f F : Nat} (ht : t < 2 ^ F) (hf : f < F) : t ^^^ 2 ^ f < 2 ^ F := Nat.xor_lt_two_pow ht (Nat.pow_lt_pow_right (by decide) hf)
abbrev LRst : List (Nat × Option Nat) := (216, none) :: LY
/-- the cuts of a set -/
theorem set_k (ho : CO p) (h : TH X p w kl) {t : Nat} (ht : t < 2 ^ cF p) (v1 : Int32) : ok (wl (fun s : Int32 × MI => F_MD_laysFields_18 s.2 v1 (nI t) s.1) ((0 : Int32), X)) (fun Y => TH Y p (a_cs p w t) kl ∧ fsL [(213, none)] Y X) := by
  have hF := ho.2.2.1; have hC := ho.1; have h64 := pow_F ho
  obtain ⟨h1, h2, h3, h4, h5⟩ := h
  obtain ⟨g1, g2, g3, g4, g5⟩ := h3
  refine ok_m (ok_cnt (σ := MI) (P := fun Y => (∀ f, f < cF p → Y 213 (8 + 8 * f) = nI (t / 2 ^ f % 2)) ∧ (∀ j, (∀ f, f < cF p → j ≠ 8 + 8 * f) → Y 213 j = X 213 j) ∧ ∀ k, k ≠ 213 → Y k = X k) (cF p) (fun m Y => (∀ f, f < m → Y 213 (8 + 8 * f) = nI (t / 2 ^ f % 2)) ∧ (∀ j, (∀ f, f < cF p → j ≠ 8 + 8 * f) → Y 213 j = X 213 j) ∧ ∀ k, k ≠ 213 → Y k = X k) ⟨fun f hf => by omega, fun _ _ => rfl, fun _ _ => rfl⟩ ?_ ?_) ?_
  · rintro m hm Y ⟨a1, a2, a3⟩
    simp only [F_MD_laysFields_18]
    have hsY : CM Y p := CM_c h1 (fun k hk => a3 k (by omega))
    rw [fm_e hsY]
    simp only [Option.bind_some]
    rw [if_neg (nI_ge hm (by omega)), ad_cut, gd_n (by omega) (by decide), nI_clamp (by omega), bit_n (by omega) (by omega)]
    refine ok_s ⟨nI_s m, fun f hf => ?_, fun j hj => ?_, fun k hk => ?_⟩
    · by_cases e : f = m
      · subst e; exact up_e Y 213 (8 + 8 * f) (nI (t / 2 ^ f % 2))
      · exact (up_j _ _ _ (by omega)).trans (a1 f (by omega))
    · exact (up_j _ _ _ (hj m hm)).trans (a2 j hj)
    · exact (up_k _ _ _ hk).trans (a3 k hk)
  · rintro Y ⟨a1, a2, a3⟩
    simp only [F_MD_laysFields_18]
    have hsY : CM Y p := CM_c h1 (fun k hk => a3 k (by omega))
    rw [fm_e hsY]
    simp only [Option.bind_some]
    rw [if_pos (Int32.le_refl _)]
    exact ok_s ⟨a1, a2, a3⟩
  · rintro Y ⟨a1, a2, a3⟩
    refine ⟨⟨CM_c h1 (fun k hk => a3 k (by omega)), CN_c h2 (fun k hk => a3 k (by omega)), ⟨?_, fun f hf => ?_, fun f hf => ?_, fun c hc => ?_, fun f c hf hc => ?_⟩, KM_c h4 (fun j hj => a2 j (fun f hf => by omega)), by rw [a3 177 (by decide)]; exact h5⟩, fs_fr (P := fun q => q = 213) (fun k hk => a3 k hk) (fun k hk => by subst hk; decide)⟩
    · rw [a2 0 (fun f hf => by omega)]; exact g1
    · show _ = (if f < cF p then nI (t / 2 ^ f % 2) else 0)
      rw [if_pos hf]; exact a1 f hf
    · rw [a2 _ (fun f hf => by omega)]; exact g3 f hf
    · rw [a2 _ (fun f hf => by omega)]; exact g4 c hc
    · rw [a2 _ (fun f hf => by omega)]; exact g5 f c hf hc
/-- the fields of a set -/
theorem set_f (ho : CO p) (hv : WO p v) (h : TH X p v kl) {t : Nat} (ht : t < 2 ^ cF p) (v1 : Int32) : ok (wl (fun s : Int32 × MI => F_MD_laysFields_58 s.2 v1 (nI t) s.1) ((0 : Int32), X)) (fun Y => TH Y p v kl ∧ (∀ f, f < cF p → Y 216 (6 * t + f) = nI (a_fd p v f)) ∧ (∀ j, j < 6 * t → Y 216 j = X 216 j) ∧ ∀ k, k ≠ 216 → Y k = X k) := by
  have hF := ho.2.2.1; have hC := ho.1; have h64 := pow_F ho
  obtain ⟨h1, h2, h3, h4, h5⟩ := h
  refine ok_m (ok_cnt (σ := MI) (P := fun Y => (∀ f, f < cF p → Y 216 (6 * t + f) = nI (a_fd p v f)) ∧ (∀ j, j < 6 * t → Y 216 j = X 216 j) ∧ ∀ k, k ≠ 216 → Y k = X k) (cF p) (fun m Y => (∀ f, f < m → Y 216 (6 * t + f) = nI (a_fd p v f)) ∧ (∀ j, j < 6 * t → Y 216 j = X 216 j) ∧ ∀ k, k ≠ 216 → Y k = X k) ⟨fun f hf => by omega, fun _ _ => rfl, fun _ _ => rfl⟩ ?_ ?_) ?_
  · rintro m hm Y ⟨a1, a2, a3⟩
    simp only [F_MD_laysFields_58]
    have hsY : CM Y p := CM_c h1 (fun k hk => a3 k (by omega))
    have hwY : WM Y p v := WM_c ho h3 (fun j _ => by rw [a3 213 (by decide)])
    rw [fm_e hsY]
    simp only [Option.bind_some]
    rw [if_neg (nI_ge hm (by omega)), field_e ho hsY hwY hv]
    simp only [Option.bind_some]
    rw [ad_66, gd_n (by omega) (by decide), nI_clamp (by omega)]
    refine ok_s ⟨nI_s m, fun f hf => ?_, fun j hj => ?_, fun k hk => ?_⟩
    · by_cases e : f = m
      · subst e; exact up_e Y 216 (6 * t + f) (nI (a_fd p v f))
      · exact (up_j _ _ _ (by omega)).trans (a1 f (by omega))
    · exact (up_j _ _ _ (by omega)).trans (a2 j hj)
    · exact (up_k _ _ _ hk).trans (a3 k hk)
  · rintro Y ⟨a1, a2, a3⟩
    simp only [F_MD_laysFields_58]
    have hsY : CM Y p := CM_c h1 (fun k hk => a3 k (by omega))
    rw [fm_e hsY]
    simp only [Option.bind_some]
    rw [if_pos (Int32.le_refl _)]
    exact ok_s ⟨a1, a2, a3⟩
  · rintro Y ⟨a1, a2, a3⟩
    exact ⟨⟨CM_c h1 (fun k hk => a3 k (by omega)), CN_c h2 (fun k hk => a3 k (by omega)), WM_c ho h3 (fun j _ => by rw [a3 213 (by decide)]), KM_c h4 (fun j _ => by rw [a3 213 (by decide)]), by rw [a3 177 (by decide)]; exact h5⟩, a1, a2, a3⟩
/-- all sets -/
theorem lays_m (ho : CO p) (hQ : CQ p) (hR : cF p = 0 ∨ 0 < cR p) (hv : WO p w) {n y : Nat} (hy : wY w = nI y) (hn : y + n ≤ 999) : ∀ d t (Y : MI) (JY : MJ), t + d = 2 ^ cF p → TH Y p w kl → WMg (Y 214) p w → (∀ u f, u < t → f < cF p → Y 216 (6 * u + f) = nI (r_fd p w n u f)) → fsL LRst Y X → fsL K1 JY J →
    ok (wl (fun s : Int32 × MI × MJ => F_MD_laysFields_6 s.2.1 s.2.2 (nI n) s.1) (nI t, Y, JY)) (fun r => TH r.1 p w kl ∧ WMg (r.1 214) p w ∧ (∀ u f, u < 2 ^ cF p → f < cF p → r.1 216 (6 * u + f) = nI (r_fd p w n u f)) ∧ fsL LRst r.1 X ∧ fsL K1 r.2 J) := by
  have hF := ho.2.2.1; have hC := ho.1; have hR2 := ho.2.1; have h64 := pow_F ho
  intro d
  induction d with
  | zero =>
    intro t Y JY ht hT hG h216 f1 f2
    have ht : t = 2 ^ cF p := by omega
    subst ht
    refine ok_e (x := (Y, JY)) (wl_in ?_) ⟨hT, hG, h216, f1, f2⟩
    simp only [F_MD_laysFields_6]
    rw [fm_e hT.1]
    simp only [Option.bind_some]
    rw [one_shl (by omega), if_pos (Int32.le_refl _)]
  | succ d ih =>
    intro t Y JY ht hT hG h216 f1 f2
    obtain ⟨A, ea, a1, a2⟩ := set_k ho hT (t := t) (by omega) (nI n)
    obtain ⟨⟨B, JB⟩, eb, b1, b2, b3⟩ := yearsT ho hQ hR (cs_O hv t) a1 JY (y := y) hy (n := n) (by omega)
    have b1 : TH B p (a_it p (a_cs p w t) n) kl := b1
    have b2 : fsL LY B A := b2
    have b3 : fsL K1 JB JY := b3
    have hO := it_O ho hR (cs_O hv t) (y := y) hy n (by omega)
    obtain ⟨C, ec, c1, c2, c3, c4⟩ := set_f ho hO b1 (t := t) (by omega) (nI n)
    have c5 : fsL [(216, none)] C B := fs_fr (P := fun q => q = 216) (fun k hk => c4 k hk) (fun k hk => by subst hk; decide)
    obtain ⟨D, ed, d1, d2⟩ := anewT ho (w0 := w) c1 (by rw [fs_k c5 (by decide), fs_k b2 (by decide), fs_k a2 (by decide)]; exact hG)
    have es : F_MD_laysFields_6 Y JY (nI n) (nI t) = some (.inl (nI (t + 1), D, JB)) := by
      unfold F_MD_laysFields_6
      rw [fm_e hT.1]
      simp only [Option.bind_some]
      rw [one_shl (by omega), if_neg (nI_ge (by omega) (by omega)), ea]
      simp only [Option.bind_some]
      rw [eb]
      simp only [Option.bind_some]
      rw [ec]
      simp only [Option.bind_some]
      rw [ed]
      simp only [Option.bind_some, nI_s]
    have e1 : wl (fun s : Int32 × MI × MJ => F_MD_laysFields_6 s.2.1 s.2.2 (nI n) s.1) (nI t, Y, JY) = wl (fun s : Int32 × MI × MJ => F_MD_laysFields_6 s.2.1 s.2.2 (nI n) s.1) (nI (t + 1), D, JB) := wl_st es
    rw [e1]
    refine ih (t + 1) D JB (by omega) d1 ?_ (fun u f hu hf => ?_) (fs_tr (fs_sub (by decide) d2) (fs_tr (fs_sub (by decide) c5) (fs_tr (fs_sub (by decide) b2) (fs_tr (fs_sub (by decide) a2) f1)))) (fs_tr b3 f2)
    · rw [fs_k d2 (by decide), fs_k c5 (by decide), fs_k b2 (by decide), fs_k a2 (by decide)]; exact hG
    · rw [fs_k d2 (by decide)]
      by_cases e : u = t
      · subst e; exact c2 f hf
      · rw [c3 _ (by omega), fs_k b2 (by decide), fs_k a2 (by decide)]; exact h216 u f (by omega) hf
theorem isRest_m (ho : CO p) (hs : CM X p) {n t : Nat} (ht : t < 2 ^ cF p) (h216 : ∀ u f, u < 2 ^ cF p → f < cF p → X 216 (6 * u + f) = nI (r_fd p w n u f)) : F_MD_isRest X (nI t) = some (bI (r_ok p w n t (cF p))) := by
  have hF := ho.2.2.1; have h64 := pow_F ho
  have st : ∀ m, m < cF p → F_MD_isRest_2 X (nI t) (nI m) = if r_fd p w n (t ^^^ 2 ^ m) m ≤ r_fd p w n t m then some (.inl (nI (m + 1))) else some (.inr (.inr 0)) := by
    intro m hm
    have hx := xor_F ht hm
    have l1 := r_fd_le (w := w) ho n (t ^^^ 2 ^ m) m
    have l2 := r_fd_le (w := w) ho n t m
    unfold F_MD_isRest_2
    rw [fm_e hs]
    simp only [Option.bind_some]
    rw [if_neg (nI_ge hm (by omega)), one_shl (by omega), nx_xor, ad_66, ad_66, gd_n (by omega) (by decide), gd_n (by omega) (by decide), nI_clamp (by omega), nI_clamp (by omega), h216 _ _ hx hm, h216 _ _ ht hm, nI_s]
    by_cases q : r_fd p w n (t ^^^ 2 ^ m) m ≤ r_fd p w n t m
    · rw [if_pos q, if_pos (nI_le q (by omega))]
    · rw [if_neg q, if_neg (nI_ge (by omega) (by omega))]
  have key : ∀ d m, m + d = cF p → r_ok p w n t m = true → wl (fun s : Int32 => F_MD_isRest_2 X (nI t) s) (nI m) = some (if r_ok p w n t (cF p) = true then .inl () else .inr 0) := by
    intro d
    induction d with
    | zero =>
      intro m hm hk
      have hm : m = cF p := by omega
      subst hm
      rw [if_pos hk]
      refine wl_in ?_
      unfold F_MD_isRest_2
      rw [fm_e hs]
      simp only [Option.bind_some]
      rw [if_pos (Int32.le_refl _)]
    | succ d ih =>
      intro m hm hk
      have s := st m (by omega)
      by_cases q : r_fd p w n (t ^^^ 2 ^ m) m ≤ r_fd p w n t m
      · rw [if_pos q] at s
        rw [wl_st s]
        refine ih (m + 1) (by omega) ?_
        simp only [r_ok]
        rw [hk, decide_eq_true q]; rfl
      · rw [if_neg q] at s
        have hno : ∀ j, m + 1 ≤ j → r_ok p w n t j = false := by
          intro j hj
          induction hj with
          | refl => simp only [r_ok]; rw [hk, decide_eq_false q]; rfl
          | step _ ih => simp only [r_ok]; rw [ih]; rfl
        rw [wl_in s, hno (cF p) (by omega)]
        rfl
  unfold F_MD_isRest
  have k0 := key (cF p) 0 (by omega) rfl
  rw [nI_0] at k0
  rw [k0]
  cases r_ok p w n t (cF p) <;> rfl
theorem best_m (ho : CO p) (hs : CM X p) {n : Nat} (h216 : ∀ u f, u < 2 ^ cF p → f < cF p → X 216 (6 * u + f) = nI (r_fd p w n u f)) : wl (fun s : Int32 × Int32 => F_MD_rest_22 X s.1 s.2) (((-1) : Int32), (0 : Int32)) = some (r_bs p w n (2 ^ cF p)) := by
  have hF := ho.2.2.1; have h64 := pow_F ho
  refine wl_f (2 ^ cF p) (fun t => (r_bs p w n t, nI t)) rfl (fun t ht => ?_) ?_
  · show F_MD_rest_22 X (r_bs p w n t) (nI t) = some (.inl (r_bs p w n (t + 1), nI (t + 1)))
    unfold F_MD_rest_22
    rw [fm_e hs]
    simp only [Option.bind_some]
    rw [one_shl (by omega), if_neg (nI_ge ht (by omega)), isRest_m ho hs ht h216, nI_s]
    simp only [Option.bind_some, r_bs]
    by_cases q : r_bs p w n t = -1
    · rw [if_pos q]
      cases r_ok p w n t (cF p) with
      | true => rw [if_neg (show ¬ bI true = 0 by decide), if_pos ⟨Or.inl q, rfl⟩]
      | false => rw [if_pos (show bI false = 0 from rfl), if_neg (fun z => by cases z.2)]
    · rw [if_neg q]
      rcases r_bs_v (p := p) (w := w) (n := n) t with h | ⟨u, h1, h2⟩
      · exact absurd h q
      · rw [h2, bits_e (by omega), bits_e (by omega)]
        simp only [Option.bind_some]
        have p1 := pop_le 32 t
        have p2 := pop_le 32 u
        rw [nI_clamp (by omega)]
        have qu : ¬ nI u = -1 := by rw [← h2]; exact q
        by_cases z : pop 32 t < pop 32 u
        · rw [if_neg (nI_ge z (by omega))]
          cases r_ok p w n t (cF p) with
          | true => rw [if_neg (show ¬ bI true = 0 by decide), if_pos ⟨Or.inr z, rfl⟩]
          | false => rw [if_pos (show bI false = 0 from rfl), if_neg (fun z => by cases z.2)]
        · rw [if_pos (nI_le (by omega) (by omega)), if_neg (fun y => y.1.elim qu z)]
  · show F_MD_rest_22 X (r_bs p w n (2 ^ cF p)) (nI (2 ^ cF p)) = _
    unfold F_MD_rest_22
    rw [fm_e hs]
    simp only [Option.bind_some]
    rw [one_shl (by omega), if_pos (Int32.le_refl _)]
end L98
