/-! reading in step: numbers, words, signs, names -/
section LD4
variable {I X Y Z V A : MI} {J : MJ} {sd n e td cn : Nat} {b : Bool} {tb : Nat → Nat} {p : CF} {w : WD} {nm : Nat → List Nat} {L : List Nat}
theorem num_j (h : RS A tb n e b) {a m : Nat} (ha : a < 20000) (hm : m < 20000) :
    (a ≤ n_val tb n e ∧ n_val tb n e ≤ m ∧ e < tke tb n e ∧ ∃ V, F_Reader_number sd A (nI a) (nI m) = some (1, V) ∧ RS V tb n (tke tb n e) true ∧ V 19 10 = nI (n_val tb n e) ∧ fsL LN V A ∧ ∀ Y, QP Y tb n e b → ∃ U, F_MD_number Y (nI a) (nI m) = some (nI (n_val tb n e), U) ∧ QP U tb n (tke tb n e) true ∧ U 177 10 = nI (sk tb n e) ∧ fsL LM U Y) ∨
    (∃ k at' V, (1 ≤ k ∧ k < 100) ∧ F_Reader_number sd A (nI a) (nI m) = some (0, V) ∧ FTt V k at' ∧ fsL LN V A ∧ ∀ Y, QP Y tb n e b → ∃ x U, F_MD_number Y (nI a) (nI m) = some (x, U) ∧ MFt U k at' ∧ fsL LM U Y) := by
  have hb : ∀ j, j < n → tb j < 256 := fun j hj => (h.1.2.2.1 j hj).1
  obtain ⟨⟨r1, V⟩, ev, v1, v2⟩ := num_c (sd := sd) h ha hm
  have v1 : fsL LN V A := v1
  rcases v2 with ⟨g1, g2, g3, g4, g5⟩ | ⟨k, at', g1, g2, g3⟩
  · left
    have g2 : r1 = 1 := g2
    obtain ⟨c1, c2, c3⟩ := nf_v g1
    obtain ⟨q2, -, -⟩ := digs hb h.2.2 c1
    have sg := sk_ge (tb := tb) (n := n) e
    refine ⟨c2, c3, by omega, V, by rw [ev, g2], g3, g4, v1, fun Y hY => ?_⟩
    obtain ⟨⟨x, U⟩, ex, x1, x2⟩ := num_m hY ha hm
    rcases x2 with ⟨-, z2, z3, z4⟩ | ⟨k, at', z1, -⟩
    · have z2 : x = nI (n_val tb n e) := z2
      exact ⟨U, by rw [ex, z2], z3, z4, x1⟩
    · rw [g1] at z1; cases z1
  · right
    have g2 : r1 = 0 := g2
    refine ⟨k, at', V, nf_k g1, by rw [ev, g2], g3, v1, fun Y hY => ?_⟩
    obtain ⟨⟨x, U⟩, ex, x1, x2⟩ := num_m hY ha hm
    rcases x2 with ⟨z1, -⟩ | ⟨k2, at2, z1, z2⟩
    · rw [g1] at z1; cases z1
    · rw [g1] at z1
      cases z1
      exact ⟨x, U, ex, z2, x1⟩
theorem needW_j (h : RS A tb n e b) {w i lw : Nat} (hw : (w, i) ∈ w_tab) (hl : (w_ds.getD i []).length = lw) :
    (e < tke tb n e ∧ ∃ V, F_Reader_needWord sd A (nI i) = some (1, V) ∧ RS V tb n (tke tb n e) true ∧ fsL LN V A ∧ ∀ Y, QP Y tb n e b → ∃ U, F_MD_asks w lw Y = some U ∧ QP U tb n (tke tb n e) true ∧ fsL LM U Y) ∨
    (∃ V, F_Reader_needWord sd A (nI i) = some (0, V) ∧ FTt V 1 (sk tb n e) ∧ fsL LN V A ∧ ∀ Y, QP Y tb n e b → ∃ U, F_MD_asks w lw Y = some U ∧ MFt U 1 (sk tb n e) ∧ fsL LM U Y) := by
  have hb : ∀ j, j < n → tb j < 256 := fun j hj => (h.1.2.2.1 j hj).1
  obtain ⟨⟨r1, V⟩, ev, v2⟩ := needW_c (sd := sd) h i
  rcases v2 with ⟨g1, g2, g3, g4⟩ | ⟨g1, g2⟩
  · left
    have g2 : r1 = 1 := g2
    have g4 : fsL LR V A := g4
    obtain ⟨ql, -⟩ := (kd_256 hb).mp (isw_i g1).1
    have tg := tke_gt ql
    have sg := sk_ge (tb := tb) (n := n) e
    refine ⟨by omega, V, by rw [ev, g2], g3, fs_sub (by decide) g4, fun Y hY => ?_⟩
    obtain ⟨U, eu, u1, u2⟩ := asks_m hY hw hl
    rcases u2 with ⟨-, u2⟩ | ⟨z, -⟩
    · exact ⟨U, eu, u2, u1⟩
    · rw [g1] at z; cases z
  · right
    have g2 : (r1, V) = (0, wrm A 1 (sk tb n e)) := g2
    rw [g2] at ev
    refine ⟨_, ev, wrm_t A 1 _, wrm_f 1 _ (by decide), fun Y hY => ?_⟩
    obtain ⟨U, eu, u1, u2⟩ := asks_m hY hw hl
    rcases u2 with ⟨z, -⟩ | ⟨-, u2⟩
    · rw [g1] at z; cases z
    · exact ⟨U, eu, u2, u1⟩
theorem need_j (h : RS A tb n e b) {c : Nat} (hc : sgn c) :
    (e < sk tb n e + 1 ∧ kd tb n e b = c ∧ ∃ V, F_Reader_need sd A (nI c) = some (1, V) ∧ RS V tb n (sk tb n e + 1) false ∧ fsL LN V A ∧ ∀ Y, QP Y tb n e b → ∃ U, F_MD_asksSign Y (nI c) = some U ∧ QP U tb n (sk tb n e + 1) false ∧ fsL LM U Y) ∨
    (∃ V, F_Reader_need sd A (nI c) = some (0, V) ∧ FTt V 1 (sk tb n e) ∧ fsL LN V A ∧ ∀ Y, QP Y tb n e b → ∃ U, F_MD_asksSign Y (nI c) = some U ∧ MFt U 1 (sk tb n e) ∧ fsL LM U Y) := by
  obtain ⟨⟨r1, V⟩, ev, v2⟩ := need_c (sd := sd) h hc.1
  have sg := sk_ge (tb := tb) (n := n) e
  rcases v2 with ⟨g1, g2, g3, g4⟩ | ⟨g1, g2⟩
  · left
    have g2 : r1 = 1 := g2
    have g4 : fsL LR V A := g4
    refine ⟨by omega, g1, V, by rw [ev, g2], g3, fs_sub (by decide) g4, fun Y hY => ?_⟩
    obtain ⟨U, eu, u1, u2⟩ := asign_m hY hc
    rcases u2 with ⟨-, u2⟩ | ⟨z, -⟩
    · exact ⟨U, eu, u2, u1⟩
    · exact absurd g1 z
  · right
    have g2 : (r1, V) = (0, wrm A 1 (sk tb n e)) := g2
    rw [g2] at ev
    refine ⟨_, ev, wrm_t A 1 _, wrm_f 1 _ (by decide), fun Y hY => ?_⟩
    obtain ⟨U, eu, u1, u2⟩ := asign_m hY hc
    rcases u2 with ⟨z, -⟩ | ⟨-, u2⟩
    · exact absurd z g1
    · exact ⟨U, eu, u2, u1⟩
theorem name_j (h : RS A tb n e b) :
    (e < tke tb n e ∧ kd tb n e b = 256 ∧ tke tb n e - sk tb n e ≤ 6 ∧ F_Reader_name sd A = some (1, A) ∧ ∀ Y, QP Y tb n e b → ∃ U, F_MD_name Y = some (lN (n27 (nam tb n e) 0), U) ∧ QP U tb n (tke tb n e) true ∧ U 177 35 = nI (sk tb n e) ∧ fsL LM5 U Y) ∨
    (∃ k at' V, (1 ≤ k ∧ k < 100) ∧ F_Reader_name sd A = some (0, V) ∧ FTt V k at' ∧ fsL LN V A ∧ ∀ Y, QP Y tb n e b → ∃ x U, F_MD_name Y = some (x, U) ∧ MFt U k at' ∧ fsL LM5 U Y) := by
  have hb : ∀ j, j < n → tb j < 256 := fun j hj => (h.1.2.2.1 j hj).1
  obtain ⟨r, ev, v2⟩ := name_c (sd := sd) h
  rcases v2 with ⟨g1, g2, g3⟩ | ⟨k, at', g1, g2⟩
  · left
    obtain ⟨ql, -⟩ := (kd_256 hb).mp g3
    have tg := tke_gt ql
    have sg := sk_ge (tb := tb) (n := n) e
    have l6 : tke tb n e - sk tb n e ≤ 6 := by
      unfold mf at g1
      split at g1
      · split at g1
        · rename_i z; exact z
        · cases g1
      · cases g1
    refine ⟨by omega, g3, l6, by rw [ev, g2], fun Y hY => ?_⟩
    obtain ⟨⟨x, U⟩, eu, u1, u2⟩ := name_m hY
    rcases u2 with ⟨-, -, u2, u3, u4⟩ | ⟨k, at', z, -⟩
    · have u2 : x = lN (n27 (nam tb n e) 0) := u2
      exact ⟨U, by rw [eu, u2], u3, u4, u1⟩
    · rw [g1] at z; cases z
  · right
    refine ⟨k, at', wrm A k at', mf_k g1, by rw [ev, g2], wrm_t A k _, wrm_f k _ (by decide), fun Y hY => ?_⟩
    obtain ⟨⟨x, U⟩, eu, u1, u2⟩ := name_m hY
    rcases u2 with ⟨z, -⟩ | ⟨k2, at2, z, u2⟩
    · rw [g1] at z; cases z
    · rw [g1] at z
      cases z
      exact ⟨x, U, eu, u2, u1⟩
/-- which fence has this name -/
def fdn (nm : Nat → List Nat) (l : List Nat) : Nat → Nat → Int32
  | 0, _ => -1
  | d + 1, k => if nm k = l then nI k else fdn nm l d (k + 1)
theorem fdn_v (nm : Nat → List Nat) (l : List Nat) : ∀ d k, fdn nm l d k = -1 ∨ ∃ f, f < k + d ∧ fdn nm l d k = nI f := by
  intro d
  induction d with
  | zero => intro k; exact Or.inl rfl
  | succ d ih =>
    intro k
    simp only [fdn]
    split
    · exact Or.inr ⟨k, by omega, rfl⟩
    · rcases ih (k + 1) with z | ⟨f, h1, h2⟩
      · exact Or.inl z
      · exact Or.inr ⟨f, by omega, h2⟩
def eqs (l1 l2 : List Nat) : Nat → Bool
  | 0 => true
  | t + 1 => eqs l1 l2 t && decide (l1.getD t 0 = l2.getD t 0)
theorem eqs_i (l1 l2 : List Nat) : ∀ t, eqs l1 l2 t = true ↔ ∀ k, k < t → l1.getD k 0 = l2.getD k 0 := by
  intro t
  induction t with
  | zero => exact ⟨fun _ k hk => by omega, fun _ => rfl⟩
  | succ t ih =>
    show (eqs l1 l2 t && decide (l1.getD t 0 = l2.getD t 0)) = true ↔ _
    rw [Bool.and_eq_true, ih, decide_eq_true_iff]
    refine ⟨fun z k hk => ?_, fun z => ⟨fun k hk => z k (by omega), z t (by omega)⟩⟩
    by_cases y : k = t
    · rw [y]; exact z.2
    · exact z.1 k (by omega)
def nmo (l : List Nat) : Prop := l.length ≤ 6 ∧ 1 ≤ l.length ∧ ∀ a, a ∈ l → 1 ≤ a ∧ a ≤ 26
theorem n27_i : ∀ d (l1 l2 : List Nat), l1.length ≤ d → (∀ a, a ∈ l1 → 1 ≤ a ∧ a ≤ 26) → (∀ a, a ∈ l2 → 1 ≤ a ∧ a ≤ 26) → n27 l1 0 = n27 l2 0 → l1 = l2 := by
  intro d
  induction d with
  | zero =>
    intro l1 l2 hd h1 h2 he
    have : l1 = [] := List.length_eq_zero_iff.mp (by omega)
    subst this
    rcases List.eq_nil_or_concat l2 with e0 | ⟨l, x, e0⟩
    · exact e0.symm
    · rw [List.concat_eq_append] at e0
      subst e0
      rw [n27_a] at he
      have := h2 x (List.mem_append_right _ (List.mem_singleton.mpr rfl))
      simp [n27] at he
      omega
  | succ d ih =>
    intro l1 l2 hd h1 h2 he
    rcases List.eq_nil_or_concat l1 with e0 | ⟨m1, x, e0⟩
    · subst e0
      exact ih [] l2 (by simp) h1 h2 he
    · rw [List.concat_eq_append] at e0
      subst e0
      have hx := h1 x (List.mem_append_right _ (List.mem_singleton.mpr rfl))
      rcases List.eq_nil_or_concat l2 with e2 | ⟨m2, y, e2⟩
      · subst e2
        rw [n27_a] at he
        simp [n27] at he
        omega
      · rw [List.concat_eq_append] at e2
        subst e2
        have hy := h2 y (List.mem_append_right _ (List.mem_singleton.mpr rfl))
        rw [n27_a, n27_a] at he
        have e3 : x = y := by omega
        have e4 : n27 m1 0 = n27 m2 0 := by omega
        rw [List.length_append] at hd
        rw [ih m1 m2 (by simp at hd; omega) (fun a ha => h1 a (List.mem_append_left _ ha)) (fun a ha => h2 a (List.mem_append_left _ ha)) e4, e3]
theorem n27_l {l : List Nat} (h : nmo l) : n27 l 0 < 2 ^ 31 := by
  have := (v27_b h.2.2 l.length (Nat.le_refl _)).1
  rw [v27_f] at this
  have : 27 ^ l.length ≤ 27 ^ 6 := Nat.pow_le_pow_right (by decide) h.1
  have : (27 : Nat) ^ 6 < 2 ^ 31 := by decide
  omega
theorem lst_e {l1 l2 : List Nat} (h1 : nmo l1) (h2 : nmo l2) (h : ∀ k, k < 6 → l1.getD k 0 = l2.getD k 0) : l1 = l2 := by
  have key : ∀ {a c : List Nat}, nmo a → nmo c → (∀ k, k < 6 → a.getD k 0 = c.getD k 0) → ∀ k, k < a.length → k < c.length := fun {a c} ha hc hh k hk => by
    have g1 := ha.2.2 _ (getD_mem' hk)
    rw [hh k (by have := ha.1; omega)] at g1
    by_cases z : k < c.length
    · exact z
    · rw [List.getD_eq_getElem?_getD, List.getElem?_eq_none (by omega)] at g1
      have : (none : Option Nat).getD 0 = 0 := rfl
      omega
  have k1 := key h1 h2 h
  have k2 := key h2 h1 (fun k hk => (h k hk).symm)
  refine List.ext_getElem? (fun k => ?_)
  by_cases z : k < l1.length
  · have z2 := k1 k z
    have e := h k (by have := h1.1; omega)
    rw [List.getD_eq_getElem?_getD, List.getD_eq_getElem?_getD, List.getElem?_eq_getElem z, List.getElem?_eq_getElem z2] at e
    rw [List.getElem?_eq_getElem z, List.getElem?_eq_getElem z2]
    exact congrArg some e
  · have z2 : ¬ k < l2.length := fun y => z (k2 k y)
    rw [List.getElem?_eq_none (by omega), List.getElem?_eq_none (by omega)]
/-- the reference finds it -/
theorem nameOf_m (hF : cF p ≤ 6) (h0 : Y 205 0 = nI (cF p)) (hJ : ∀ f, f < cF p → J 206 f = lN (n27 (nm f) 0)) (hn : ∀ f, f < cF p → nmo (nm f)) {l : List Nat} (hl : nmo l) : F_MD_nameOf Y J (lN (n27 l 0)) = some (fdn nm l (cF p) 0) := by
  have lp : ∀ d k, k + d = cF p → wl (fun s : Int32 => F_MD_nameOf_2 Y J (lN (n27 l 0)) s) (nI k) = some (if fdn nm l d k = -1 then Sum.inl () else Sum.inr (fdn nm l d k)) := by
    intro d
    induction d with
    | zero =>
      intro k hk
      have : F_MD_nameOf_2 Y J (lN (n27 l 0)) (nI k) = some (.inr (.inl ())) := by
        unfold F_MD_nameOf_2
        rw [h0, if_pos (nI_le (by omega) (by omega))]
      rw [wl_in this]; rfl
    | succ d ih =>
      intro k hk
      have st : F_MD_nameOf_2 Y J (lN (n27 l 0)) (nI k) = if nm k = l then some (.inr (.inr (nI k))) else some (.inl (nI (k + 1))) := by
        unfold F_MD_nameOf_2
        rw [h0, if_neg (nI_ge (by omega) (by omega)), gd_n (by omega) (by decide), nI_clamp (by omega), hJ k (by omega), nI_s]
        have hk2 := hn k (by omega)
        by_cases z : nm k = l
        · rw [z, if_pos rfl, if_pos (by rw [lg_cmp_eq])]
        · rw [if_neg z, if_neg (fun y => z (n27_i _ _ _ (Nat.le_refl _) hk2.2.2 hl.2.2 ((lN_eq (n27_l hk2) (n27_l hl)).mp ((lg_cmp_eq _ _).mp y))))]
      have e0 : fdn nm l (d + 1) k = if nm k = l then nI k else fdn nm l d (k + 1) := rfl
      by_cases z : nm k = l
      · rw [if_pos z] at st e0
        rw [e0]
        have ne : ¬ nI k = -1 := fun y => by have := nI_pos' (n := k) (by omega); rw [y] at this; exact absurd this (by decide)
        rw [wl_in st, if_neg ne]
      · rw [if_neg z] at st e0
        rw [e0]
        have e1 : wl (fun s : Int32 => F_MD_nameOf_2 Y J (lN (n27 l 0)) s) (nI k) = wl (fun s : Int32 => F_MD_nameOf_2 Y J (lN (n27 l 0)) s) (nI (k + 1)) := wl_st st
        rw [e1]
        exact ih (k + 1) (by omega)
  unfold F_MD_nameOf
  have l0 : wl (fun s : Int32 => F_MD_nameOf_2 Y J (lN (n27 l 0)) s) 0 = _ := lp (cF p) 0 (by omega)
  rw [l0]
  by_cases z : fdn nm l (cF p) 0 = -1
  · rw [if_pos z, z]; rfl
  · rw [if_neg z]; rfl
theorem lettA (h : RS A tb n e b) (hk : kd tb n e b = 256) {k : Nat} (hk6 : k < 6) : F_Reader_letterAt sd A (nI k) = some (nI ((nam tb n e).getD k 0)) := by
  have hb : ∀ j, j < n → tb j < 256 := fun j hj => (h.1.2.2.1 j hj).1
  obtain ⟨q, -, wi⟩ := word_in hb hk
  have n16 := h.1.2.1
  have tl := tke_le (tb := tb) h.2.2
  have tg := tke_gt q
  unfold F_Reader_letterAt
  have e1 : nI (sk tb n e) + nI k = nI (sk tb n e + k) := nI_add _ _
  rw [h.2.1.2.2.1, h.2.1.2.1, e1]
  by_cases c : k < tke tb n e - sk tb n e
  · rw [if_neg (nI_ge (by omega) (by omega)), byte_k h.1 (by omega), nam_get c, if_pos (by omega)]
    simp only [Option.bind_some]
    have lt := wi (sk tb n e + k) (by omega) (by omega)
    have e2 : nI (tb (sk tb n e + k)) - (97 : Int32) = nI (tb (sk tb n e + k) - 97) := nI_subN (a := tb (sk tb n e + k)) (b := 97) (by omega)
    rw [e2, nI_s, show tb (sk tb n e + k) - 97 + 1 = tb (sk tb n e + k) - 96 by omega]
  · rw [if_pos (nI_le (by omega) (by omega)), List.getD_eq_getElem?_getD, List.getElem?_eq_none (by rw [nam_len]; omega)]; rfl
/-- the class finds it -/
theorem named_c (h : RS A tb n e b) (hk : kd tb n e b = 256) (hF : cF p ≤ 6) (h0 : A sd 3 = nI (cF p)) (hr : ∀ f, f < cF p → ∀ k, k < 6 → A (sd + 2) (6 * f + k) = nI ((nm f).getD k 0)) (hn : ∀ f, f < cF p → nmo (nm f)) (hl : nmo (nam tb n e)) : F_Reader_named sd A = some (fdn nm (nam tb n e) (cF p) 0) := by
  have inner : ∀ f, f < cF p → wl (fun s : Int32 × Int32 => F_Reader_named_23 sd A (nI f) s.1 s.2) ((1 : Int32), (0 : Int32)) = some (bI (decide (nm f = nam tb n e))) := by
    intro f hf
    have val : ∀ l : List Nat, nmo l → ∀ k, l.getD k 0 < 2 ^ 31 := fun l hl k => by
      by_cases z : k < l.length
      · have := hl.2.2 _ (getD_mem' z); omega
      · rw [List.getD_eq_getElem?_getD, List.getElem?_eq_none (by omega)]; decide
    have st : ∀ t (b0 : Bool), t < 6 → F_Reader_named_23 sd A (nI f) (bI b0) (nI t) = some (.inl (bI (b0 && decide ((nm f).getD t 0 = (nam tb n e).getD t 0)), nI (t + 1))) := by
      intro t b0 ht
      unfold F_Reader_named_23
      rw [if_neg (show ¬ (6 : Int32) ≤ nI t from nI_ge (b := 6) (by omega) (by decide)), nI_s]
      cases b0 with
      | false => rw [if_pos (show bI false = 0 from rfl)]; rfl
      | true =>
        rw [if_neg (show ¬ bI true = 0 by decide), ad_76, gd_n (by omega) (by decide), nI_clamp (by omega), lettA h hk ht, hr f hf t ht]
        simp only [Option.bind_some]
        by_cases z : (nm f).getD t 0 = (nam tb n e).getD t 0
        · rw [z, if_pos rfl, decide_eq_true rfl]; rfl
        · rw [if_neg (fun y => z ((nI_inj (val _ (hn f hf) t) (val _ hl t)).mp y)), decide_eq_false z]; rfl
    have lp := wl_f (b := fun s : Int32 × Int32 => F_Reader_named_23 sd A (nI f) s.1 s.2) 6 (fun t => (bI (eqs (nm f) (nam tb n e) t), nI t)) (s := ((1 : Int32), (0 : Int32))) (t := bI (eqs (nm f) (nam tb n e) 6)) rfl (fun t ht => by
        show F_Reader_named_23 sd A (nI f) (bI _) (nI t) = _
        rw [st t _ ht]; rfl) (by
        show F_Reader_named_23 sd A (nI f) (bI _) (nI 6) = _
        unfold F_Reader_named_23
        rw [if_pos (by decide)])
    rw [lp]
    congr 2
    rw [Bool.eq_iff_iff, eqs_i, decide_eq_true_iff]
    exact ⟨fun z => lst_e (hn f hf) hl z, fun z => by rw [z]; exact fun _ _ => rfl⟩
  have lp : ∀ d k, k + d = cF p → wl (fun s : Int32 => F_Reader_named_2 sd A s) (nI k) = some (if fdn nm (nam tb n e) d k = -1 then Sum.inl () else Sum.inr (fdn nm (nam tb n e) d k)) := by
    intro d
    induction d with
    | zero =>
      intro k hk
      have : F_Reader_named_2 sd A (nI k) = some (.inr (.inl ())) := by
        unfold F_Reader_named_2
        rw [h0, if_pos (nI_le (by omega) (by omega))]
      rw [wl_in this]; rfl
    | succ d ih =>
      intro k hk
      have st : F_Reader_named_2 sd A (nI k) = if nm k = nam tb n e then some (.inr (.inr (nI k))) else some (.inl (nI (k + 1))) := by
        unfold F_Reader_named_2
        rw [h0, if_neg (nI_ge (by omega) (by omega)), if_neg (show ¬ (6 : Int32) ≤ nI k from nI_ge (b := 6) (by omega) (by decide)), inner k (by omega), nI_s]
        simp only [Option.bind_some, bI_if]
      have e0 : fdn nm (nam tb n e) (d + 1) k = if nm k = nam tb n e then nI k else fdn nm (nam tb n e) d (k + 1) := rfl
      by_cases z : nm k = nam tb n e
      · rw [if_pos z] at st e0
        rw [e0]
        have ne : ¬ nI k = -1 := fun y => by have := nI_pos' (n := k) (by omega); rw [y] at this; exact absurd this (by decide)
        rw [wl_in st, if_neg ne]
      · rw [if_neg z] at st e0
        rw [e0]
        have e1 : wl (fun s : Int32 => F_Reader_named_2 sd A s) (nI k) = wl (fun s : Int32 => F_Reader_named_2 sd A s) (nI (k + 1)) := wl_st st
        rw [e1]
        exact ih (k + 1) (by omega)
  unfold F_Reader_named
  have l0 : wl (fun s : Int32 => F_Reader_named_2 sd A s) 0 = _ := lp (cF p) 0 (by omega)
  rw [l0]
  by_cases z : fdn nm (nam tb n e) (cF p) 0 = -1
  · rw [if_pos z, z]; rfl
  · rw [if_neg z]; rfl
end LD4
