/-! image -/
def pst_r (w : WD) (c : Nat) : Nat → List Nat
  | 0 => []
  | r + 1 => pst_r w c r ++ (if a_pst w c r = true then [c, r] else [])
def pst_c (p : CF) (w : WD) : Nat → List Nat
  | 0 => []
  | c + 1 => pst_c p w c ++ pst_r w c (cR p)
def fen_b (w : WD) (f c : Nat) : Nat := if wR w f c = -1 then 255 else (wR w f c).toNatClampNeg
def fen_r (w : WD) (f : Nat) : Nat → List Nat
  | 0 => []
  | c + 1 => fen_r w f c ++ [fen_b w f c]
def fen_h (w : WD) (f : Nat) : List Nat := [(wA w f).toNatClampNeg] ++ [if wK w f = 1 then 1 else 0]
def fen_a (p : CF) (w : WD) : Nat → List Nat
  | 0 => []
  | f + 1 => fen_a p w f ++ (fen_h w f ++ fen_r w f (cC p))
def img_0 (w : WD) : List Nat := [(wY w).toNatClampNeg / 256] ++ [(wY w).toNatClampNeg % 256] ++ [n_pst w]
def img_a (p : CF) (w : WD) : List Nat := img_0 w ++ pst_c p w (cC p) ++ fen_a p w (cF p)
/-- the check byte -/
def chk (l : List Nat) : Nat := l.foldl (fun c b => (3 * c + b) % 251) 131
theorem chk_s {l : List Nat} {k : Nat} (h : k < l.length) : chk (l.take (k + 1)) = (3 * chk (l.take k) + l.getD k 0) % 251 := by
  unfold chk
  rw [q_tk h, List.foldl_append]; rfl
theorem chk_lt (l : List Nat) : chk l < 251 := by
  unfold chk
  have : ∀ (l : List Nat) (c : Nat), c < 251 → l.foldl (fun c b => (3 * c + b) % 251) c < 251 := by
    intro l
    induction l with
    | nil => intro c h; exact h
    | cons b l ih => intro c h; exact ih _ (Nat.mod_lt _ (by decide))
  exact this l 131 (by decide)
/-- posts of a column -/
def pn (w : WD) (c n : Nat) : Nat := sm (fun r => if a_pst w c r = true then 1 else 0) n
theorem sm_mono {h : Nat → Nat} {n m : Nat} (hm : n ≤ m) : sm h n ≤ sm h m := by
  induction hm with
  | refl => exact Nat.le_refl _
  | step _ ih => exact Nat.le_trans ih (Nat.le_add_right _ _)
theorem sm_le2 {h g : Nat → Nat} : ∀ {n : Nat}, (∀ i, i < n → h i ≤ g i) → sm h n ≤ sm g n := by
  intro n
  induction n with
  | zero => intro _; exact Nat.le_refl _
  | succ n ih => intro e; exact Nat.add_le_add (ih (fun i hi => e i (by omega))) (e n (by omega))
theorem sm_sh {h : Nat → Nat} : ∀ (n : Nat), sm h (n + 1) = h 0 + sm (fun i => h (i + 1)) n := by
  intro n
  induction n with
  | zero => simp [sm]
  | succ n ih => rw [sm, ih, sm]; omega
theorem pop_sm : ∀ k n, pop k n = sm (fun r => n / 2 ^ r % 2) k := by
  intro k
  induction k with
  | zero => intro n; rfl
  | succ k ih =>
    intro n
    rw [sm_sh]
    simp only [pop]
    rw [ih (n / 2)]
    congr 1
    · simp
    · refine sm_c fun i _ => ?_
      rw [Nat.div_div_eq_div_mul, Nat.pow_succ, Nat.mul_comm 2]
section LA1
variable {I X Y Z : MI} {J : MJ} {sl sd : Nat} {p : CF} {w : WD} {kl : List NT} {un : List (WD × List NT)} {l : List Nat}
theorem pn_le {c n : Nat} (hn : n ≤ 32) : pn w c n ≤ pop 32 (wP w c).toNatClampNeg := by
  rw [pop_sm]
  refine Nat.le_trans (sm_mono hn) (sm_le2 fun i _ => ?_)
  unfold a_pst
  have := Nat.mod_two_eq_zero_or_one ((wP w c).toNatClampNeg / 2 ^ i)
  by_cases q : (wP w c).toNatClampNeg / 2 ^ i % 2 = 1
  · rw [if_pos (decide_eq_true q)]; omega
  · rw [if_neg (fun z => q (of_decide_eq_true z))]; omega
theorem pst_len (w : WD) (c : Nat) : ∀ n, (pst_r w c n).length = 2 * pn w c n := by
  intro n
  induction n with
  | zero => rfl
  | succ n ih =>
    simp only [pst_r, pn, sm, List.length_append]
    rw [ih]
    unfold pn
    by_cases q : a_pst w c n = true
    · rw [if_pos q, if_pos q]; simp; omega
    · rw [if_neg q, if_neg q]; simp
theorem pstc_len (p : CF) (w : WD) : ∀ n, (pst_c p w n).length = 2 * sm (fun c => pn w c (cR p)) n := by
  intro n
  induction n with
  | zero => rfl
  | succ n ih =>
    simp only [pst_c, sm, List.length_append]
    rw [ih, pst_len]; omega
theorem pstc_le (ho : CO p) (hx : WX p w) {n : Nat} (hn : n ≤ 6) : sm (fun c => pn w c (cR p)) n ≤ 24 := by
  have hR := ho.2.1
  refine Nat.le_trans (sm_mono hn) (Nat.le_trans (sm_le2 (fun i _ => pn_le (by omega))) hx.2.2.2.2)
theorem fenr_len (w : WD) (f : Nat) : ∀ n, (fen_r w f n).length = n := by
  intro n
  induction n with
  | zero => rfl
  | succ n ih => simp only [fen_r, List.length_append]; rw [ih]; rfl
theorem fena_len (p : CF) (w : WD) : ∀ n, (fen_a p w n).length = n * (2 + cC p) := by
  intro n
  induction n with
  | zero => simp [fen_a]
  | succ n ih =>
    simp only [fen_a, List.length_append]
    rw [ih, fenr_len, Nat.succ_mul]; rfl
/-- what was written -/
def WI (X : MI) (l : List Nat) : Prop := (∀ b, b ∈ l → b < 256) ∧ X 174 1 = nI l.length ∧ ∀ i, i < l.length → X 175 i &&& 255 = nI (l.getD i 0)
def VI (X : MI) (l : List Nat) : Prop := X 177 102 = nI l.length ∧ ∀ i, i < l.length → X 247 i = nI (l.getD i 0)
abbrev LI : List (Nat × Option Nat) := [(174, some 1), (175, none)]
abbrev LV : List (Nat × Option Nat) := [(177, some 102), (247, none)]
theorem n255 {b : Nat} (h : b < 256) : nI b &&& 255 = nI b := by
  rw [show (255 : Int32) = nI 255 from rfl, nx_and]
  congr 1
  have := Nat.and_two_pow_sub_one_eq_mod b 8
  rw [show 2 ^ 8 - 1 = 255 from rfl] at this
  rw [this]; omega
theorem add_c (h : WI X l) (hl : l.length < 100) {b : Nat} (hb : b < 256) (hX : fsL LI X I) : ok (F_Image_add X (nI b)) (fun Y => WI Y (l ++ [b]) ∧ fsL LI Y I) := by
  obtain ⟨h1, h2, h3⟩ := h
  unfold F_Image_add
  rw [h2, if_neg (show ¬ (100 : Int32) ≤ nI l.length from nI_ge (b := 100) hl (by decide)), gd_n hl (by decide), nI_clamp (by omega), nI_s]
  refine ok_s ⟨⟨fun x hx => ?_, ?_, fun i hi => ?_⟩, fs_up (LX := LI) (by decide) (by simp [inL]) (fs_up (LX := LI) (by decide) (by simp [inL]) hX)⟩
  · rcases List.mem_append.mp hx with e | e
    · exact h1 x e
    · rw [List.mem_singleton.mp e]; exact hb
  · rw [up_e, List.length_append]; rfl
  · rw [List.length_append] at hi
    have hi : i < l.length + 1 := hi
    rw [up_k _ _ _ (by decide), getD_app]
    by_cases e : i < l.length
    · rw [if_pos e, up_j _ _ _ (by omega)]; exact h3 i e
    · have e2 : i = l.length := by omega
      subst e2
      rw [if_neg e, if_pos rfl, up_e, by_nar, n255 hb]
theorem wr_m (h : VI X l) (hl : l.length < 100) (b : Nat) (hX : fsL LV X I) : ok (F_MD_writes X (nI b)) (fun Y => VI Y (l ++ [b]) ∧ fsL LV Y I) := by
  obtain ⟨h2, h3⟩ := h
  unfold F_MD_writes
  rw [h2, gd_n hl (by decide), nI_clamp (by omega), nI_s]
  refine ok_s ⟨⟨?_, fun i hi => ?_⟩, fs_up (LX := LV) (by decide) (by simp [inL]) (fs_up (LX := LV) (by decide) (by simp [inL]) hX)⟩
  · rw [up_e, List.length_append]; rfl
  · rw [List.length_append] at hi
    have hi : i < l.length + 1 := hi
    rw [up_k _ _ _ (by decide), getD_app]
    by_cases e : i < l.length
    · rw [if_pos e, up_j _ _ _ (by omega)]; exact h3 i e
    · have e2 : i = l.length := by omega
      subst e2
      rw [if_neg e, if_pos rfl, up_e]
theorem LI_k (h : fsL LI X I) {q : Nat} (hq : q < 174) : X q = I q := fs_k h (by
  simp only [LI, List.all_cons, List.all_nil, Bool.and_true, Bool.and_eq_true, Bool.not_eq_true', beq_eq_false_iff_ne]
  omega)
theorem WI_0 {l2 : List Nat} (h : WI X l) (e : l = l2) : WI X l2 := e ▸ h
/-- the posts of a column -/
theorem wr50 (ho : CO p) (hv : WO p w) (hs : CC I sl p) (hw : WC I 20 w) (hq : sl = 3 ∨ sl = 11) {c : Nat} (hc : c < cC p) (hl : l.length + 2 * pn w c (cR p) < 100) (h : WI X l) (hX : fsL LI X I) : ok (wl (fun s : Int32 × MI => F_Image_write_50 sl s.2 (nI c) s.1) ((0 : Int32), X)) (fun Y => WI Y (l ++ pst_r w c (cR p)) ∧ fsL LI Y I) := by
  have hR := ho.2.1; have hC := ho.1
  refine ok_cnt (σ := MI) (cR p) (fun m Y => WI Y (l ++ pst_r w c m) ∧ fsL LI Y I) ⟨WI_0 h (List.append_nil l).symm, hX⟩ ?_ ?_
  · rintro m hm Y ⟨g1, g2⟩
    simp only [F_Image_write_50]
    have e2 : Y sl 2 = nI (cR p) := by rw [LI_k g2 (by omega)]; exact hs.2.1
    rw [e2, if_neg (nI_ge hm (by omega)), post_c (WC_c hw (fun q a b => LI_k g2 (by omega))) hv (by omega) (by omega)]
    have len := pst_len w c m
    have mo : pn w c (m + 1) ≤ pn w c (cR p) := sm_mono (by omega)
    cases hb : a_pst w c m with
    | false =>
      rw [if_pos (show bI false = 0 from rfl)]
      refine ok_s ⟨nI_s m, WI_0 g1 ?_, g2⟩
      simp [pst_r, hb]
    | true =>
      have mo2 : pn w c (m + 1) = pn w c m + 1 := by simp only [pn, sm]; rw [if_pos hb]
      rw [if_neg (show ¬ bI true = 0 by decide)]
      refine ok_b (add_c g1 (by rw [List.length_append, len]; omega) (by omega) g2) ?_
      rintro A ⟨a1, a2⟩
      refine ok_b (add_c a1 (by rw [List.length_append, List.length_append, len]; simp; omega) (by omega) a2) ?_
      rintro B ⟨b1, b2⟩
      refine ok_s ⟨nI_s m, WI_0 b1 ?_, b2⟩
      simp [pst_r, hb]
  · rintro Y ⟨g1, g2⟩
    simp only [F_Image_write_50]
    have e2 : Y sl 2 = nI (cR p) := by rw [LI_k g2 (by omega)]; exact hs.2.1
    rw [e2, if_pos (Int32.le_refl _)]
    exact ok_s ⟨g1, g2⟩
theorem wr39 (ho : CO p) (hv : WO p w) (hx : WX p w) (hs : CC I sl p) (hw : WC I 20 w) (hq : sl = 3 ∨ sl = 11) (hl : l.length ≤ 3) (h : WI X l) (hX : fsL LI X I) : ok (wl (fun s : Int32 × MI => F_Image_write_39 sl s.2 s.1) ((0 : Int32), X)) (fun Y => WI Y (l ++ pst_c p w (cC p)) ∧ fsL LI Y I) := by
  have hR := ho.2.1; have hC := ho.1
  refine ok_cnt (σ := MI) (cC p) (fun m Y => WI Y (l ++ pst_c p w m) ∧ fsL LI Y I) ⟨WI_0 h (List.append_nil l).symm, hX⟩ ?_ ?_
  · rintro m hm Y ⟨g1, g2⟩
    simp only [F_Image_write_39]
    have e2 : Y sl 1 = nI (cC p) := by rw [LI_k g2 (by omega)]; exact hs.1
    rw [e2, if_neg (nI_ge hm (by omega))]
    have len := pstc_len p w m
    have le := pstc_le ho hx (n := m + 1) (by omega)
    simp only [sm] at le
    refine ok_b (wr50 ho hv hs hw hq hm (by rw [List.length_append, len]; omega) g1 g2) ?_
    rintro A ⟨a1, a2⟩
    exact ok_s ⟨nI_s m, WI_0 a1 (by simp [pst_c]), a2⟩
  · rintro Y ⟨g1, g2⟩
    simp only [F_Image_write_39]
    have e2 : Y sl 1 = nI (cC p) := by rw [LI_k g2 (by omega)]; exact hs.1
    rw [e2, if_pos (Int32.le_refl _)]
    exact ok_s ⟨g1, g2⟩
theorem fen_v (hv : WO p w) (ho : CO p) (f c : Nat) : fen_b w f c < 256 := by
  have hR := ho.2.1
  unfold fen_b
  split
  · decide
  · rename_i h
    obtain ⟨r, h1, h2, h3⟩ := rowN hv ho h
    omega
theorem wr131 (ho : CO p) (hv : WO p w) (hs : CC I sl p) (hw : WC I 20 w) (hq : sl = 3 ∨ sl = 11) {f : Nat} (hf : f < cF p) (hl : l.length + cC p < 100) (h : WI X l) (hX : fsL LI X I) : ok (wl (fun s : Int32 × MI => F_Image_write_131 sl s.2 (nI f) s.1) ((0 : Int32), X)) (fun Y => WI Y (l ++ fen_r w f (cC p)) ∧ fsL LI Y I) := by
  have hR := ho.2.1; have hC := ho.1; have hF := ho.2.2.1
  refine ok_cnt (σ := MI) (cC p) (fun m Y => WI Y (l ++ fen_r w f m) ∧ fsL LI Y I) ⟨WI_0 h (List.append_nil l).symm, hX⟩ ?_ ?_
  · rintro m hm Y ⟨g1, g2⟩
    simp only [F_Image_write_131]
    have e2 : Y sl 1 = nI (cC p) := by rw [LI_k g2 (by omega)]; exact hs.1
    rw [e2, if_neg (nI_ge hm (by omega)), row_c (WC_c hw (fun q a b => LI_k g2 (by omega))) (by omega) (by omega)]
    have len := fenr_len w f m
    have fin := add_c g1 (by rw [List.length_append, len]; omega) (fen_v hv ho f m) g2
    by_cases q : wR w f m = -1
    · rw [if_pos q]
      have e : fen_b w f m = 255 := by unfold fen_b; rw [if_pos q]
      rw [e] at fin
      refine ok_b fin ?_
      rintro A ⟨a1, a2⟩
      exact ok_s ⟨nI_s m, WI_0 a1 (by simp [fen_r, e]), a2⟩
    · rw [if_neg q]
      obtain ⟨r, h1, h2, h3⟩ := rowN hv ho q
      have e : fen_b w f m = r := by unfold fen_b; rw [if_neg q]; exact h3
      rw [e] at fin
      rw [h2]
      refine ok_b fin ?_
      rintro A ⟨a1, a2⟩
      exact ok_s ⟨nI_s m, WI_0 a1 (by simp [fen_r, e]), a2⟩
  · rintro Y ⟨g1, g2⟩
    simp only [F_Image_write_131]
    have e2 : Y sl 1 = nI (cC p) := by rw [LI_k g2 (by omega)]; exact hs.1
    rw [e2, if_pos (Int32.le_refl _)]
    exact ok_s ⟨g1, g2⟩
theorem age_N (hv : WO p w) (f : Nat) : ∃ a, a ≤ 99 ∧ wA w f = nI a ∧ (wA w f).toNatClampNeg = a := by
  have h := hv.2.2.1 f
  obtain ⟨a, h1, h2⟩ := nI_of2 (M := 99) (n := 99) (by decide) (show ¬ wA w f < 0 by have := h.1; grind) h.2
  exact ⟨a, h1, h2, by rw [h2, nI_clamp (by omega)]⟩
theorem wr94 (ho : CO p) (hv : WO p w) (hs : CC I sl p) (hw : WC I 20 w) (hq : sl = 3 ∨ sl = 11) (hl : l.length ≤ 51) (h : WI X l) (hX : fsL LI X I) : ok (wl (fun s : Int32 × MI => F_Image_write_94 sl s.2 s.1) ((0 : Int32), X)) (fun Y => WI Y (l ++ fen_a p w (cF p)) ∧ fsL LI Y I) := by
  have hR := ho.2.1; have hC := ho.1; have hF := ho.2.2.1
  refine ok_cnt (σ := MI) (cF p) (fun m Y => WI Y (l ++ fen_a p w m) ∧ fsL LI Y I) ⟨WI_0 h (List.append_nil l).symm, hX⟩ ?_ ?_
  · rintro m hm Y ⟨g1, g2⟩
    simp only [F_Image_write_94]
    have e2 : Y sl 3 = nI (cF p) := by rw [LI_k g2 (by omega)]; exact hs.2.2.1
    have len := fena_len p w m
    have mul : m * (2 + cC p) ≤ 5 * 8 := Nat.mul_le_mul (by omega) (by omega)
    obtain ⟨a, n1, n2, n3⟩ := age_N hv m
    rw [e2, if_neg (nI_ge hm (by omega)), age_c (WC_c hw (fun q a b => LI_k g2 (by omega))) (by omega), n2]
    refine ok_b (add_c g1 (by rw [List.length_append, len]; omega) (show a < 256 by omega) g2) ?_
    rintro A ⟨a1, a2⟩
    rw [cut_c (WC_c hw (fun q a b => LI_k a2 (by omega))) (by omega)]
    have fin : ∀ k, k < 2 → k = (if wK w m = 1 then 1 else 0) → ok (F_Image_write_125 sl A (nI m) (nI k)) (Sum.elim (fun q => q.1 = nI (m + 1) ∧ WI q.2 (l ++ fen_a p w (m + 1)) ∧ fsL LI q.2 I) (fun _ => False)) := by
      intro k hk ek
      unfold F_Image_write_125
      refine ok_b (add_c a1 (by rw [List.length_append, List.length_append, len]; simp; omega) (show k < 256 by omega) a2) ?_
      rintro B ⟨b1, b2⟩
      refine ok_b (wr131 ho hv hs hw hq hm (by rw [List.length_append, List.length_append, List.length_append, len]; simp; omega) b1 b2) ?_
      rintro C ⟨c1, c2⟩
      refine ok_s ⟨nI_s m, WI_0 c1 ?_, c2⟩
      simp [fen_a, fen_h, n3, ek]
    by_cases q : wK w m = 1
    · rw [if_pos q, if_neg (by decide)]
      exact fin 1 (by decide) (by rw [if_pos q])
    · rw [if_neg q, if_pos rfl]
      exact fin 0 (by decide) (by rw [if_neg q])
  · rintro Y ⟨g1, g2⟩
    simp only [F_Image_write_94]
    have e2 : Y sl 3 = nI (cF p) := by rw [LI_k g2 (by omega)]; exact hs.2.2.1
    rw [e2, if_pos (Int32.le_refl _)]
    exact ok_s ⟨g1, g2⟩
theorem rem3 {a b : Nat} (ha : a < 251) (hb : b < 256) : m_rem ((3 : Int32) * nI a + nI b) 251 = nI ((3 * a + b) % 251) := by
  have e : (3 : Int32) * nI a = nI (3 * a) := nI_m3 3 a
  rw [e, nI_add]
  exact rem_n (b := 251) (by omega) (by decide) (by decide)
theorem wr186 (h : WI X l) (hl : l.length < 100) : wl (fun s : Int32 × Int32 => F_Image_write_186 sl X s.1 s.2) ((131 : Int32), (0 : Int32)) = some (nI (chk l)) := by
  obtain ⟨h1, h2, h3⟩ := h
  refine wl_f l.length (fun k => (nI (chk (l.take k)), nI k)) rfl (fun k hk => ?_) ?_
  · show F_Image_write_186 sl X (nI (chk (l.take k))) (nI k) = _
    unfold F_Image_write_186
    rw [h2, if_neg (nI_ge hk (by omega)), if_neg (show ¬ (100 : Int32) ≤ nI k from nI_ge (b := 100) (by omega) (by decide)), gd_n (by omega) (by decide), nI_clamp (by omega), h3 k hk, rem3 (chk_lt _) (h1 _ (getD_mem' hk)), nI_s, chk_s hk]
  · show F_Image_write_186 sl X (nI (chk (l.take l.length))) (nI l.length) = _
    unfold F_Image_write_186
    rw [h2, if_pos (Int32.le_refl _), List.take_length]
theorem img_len (ho : CO p) (hx : WX p w) : (img_a p w).length < 100 := by
  have hC := ho.1; have hF := ho.2.2.1
  unfold img_a
  rw [List.length_append, List.length_append, pstc_len, fena_len]
  have := pstc_le ho hx (n := cC p) hC
  have mul : cF p * (2 + cC p) ≤ 6 * 8 := Nat.mul_le_mul hF (by omega)
  have : (img_0 w).length = 3 := rfl
  omega
/-- the class writes -/
theorem write_c (ho : CO p) (hv : WO p w) (hx : WX p w) (hs : CC I sl p) (hw : WC I 20 w) (hq : sl = 3 ∨ sl = 11) {y : Nat} (hy : wY w = nI y) (y9 : y ≤ 999) : ok (F_Image_write sl I) (fun Y => WI Y (img_a p w ++ [chk (img_a p w)]) ∧ fsL LI Y I) := by
  have hC := ho.1; have hF := ho.2.2.1
  have yc : (wY w).toNatClampNeg = y := by rw [hy, nI_clamp (by omega)]
  have h0 : WI (m_up I 174 1 (0 : Int32)) [] := ⟨fun b hb => (by cases hb), up_e _ _ _ _, fun i hi => absurd hi (by simp)⟩
  have f0 : fsL LI (m_up I 174 1 (0 : Int32)) I := fs_up (LX := LI) (by decide) (by simp [inL]) (fs_r I)
  unfold F_Image_write
  rw [hw.1, hy, show (256 : Int32) = nI 256 from rfl, nDiv (by omega) (by decide)]
  refine ok_b (add_c h0 (by simp) (show y / 256 < 256 by omega) f0) ?_
  rintro A ⟨a1, a2⟩
  rw [LI_k a2 (by decide), hw.1, hy, rem_n (by omega) (by decide) (by decide)]
  refine ok_b (add_c a1 (by simp) (show y % 256 < 256 by omega) a2) ?_
  rintro B ⟨b1, b2⟩
  have n24 := hx.2.2.2.2
  rw [posts_n (WC_c hw (fun q a b => LI_k b2 (by omega))) hv]
  refine ok_b (add_c b1 (by simp) (show n_pst w < 256 by omega) b2) ?_
  rintro C ⟨c1, c2⟩
  have c1 : WI C (img_0 w) := WI_0 c1 (by simp [img_0, yc])
  refine ok_b (wr39 ho hv hx hs hw hq (show (img_0 w).length ≤ 3 from Nat.le_refl _) c1 c2) ?_
  rintro D ⟨d1, d2⟩
  refine ok_b (wr94 ho hv hs hw hq (by rw [List.length_append, pstc_len]; have := pstc_le ho hx (n := cC p) hC; have : (img_0 w).length = 3 := rfl; omega) d1 d2) ?_
  rintro E ⟨e1, e2⟩
  have e1 : WI E (img_a p w) := e1
  have il := img_len ho hx
  rw [wr186 e1 il]
  simp only [Option.bind_some]
  refine ok_b (add_c e1 il (show chk (img_a p w) < 256 by have := chk_lt (img_a p w); omega) e2) ?_
  rintro G ⟨g1, g2⟩
  exact ok_s ⟨g1, g2⟩
end LA1
