/-! the text as the reference reads it -/
def w_tab : List (Nat × Nat) := [(180, 0), (181, 1), (182, 2), (183, 3), (184, 4), (185, 5), (186, 6), (187, 7), (188, 8), (189, 9), (190, 10), (191, 11), (192, 12), (193, 13), (194, 14), (195, 15), (196, 16), (197, 17), (198, 18), (199, 19), (200, 20), (201, 21), (202, 22), (203, 23), (222, 16), (223, 24), (224, 25), (225, 26), (226, 27), (227, 28), (228, 20), (229, 19), (230, 18), (231, 21), (232, 22), (233, 23), (234, 6), (235, 2), (236, 11), (237, 5), (238, 12), (239, 13), (240, 14), (241, 15), (242, 5), (243, 17)]
theorem w_tab_m : ∀ q, q ∈ w_tab → (q.1, (w_ds.getD q.2 []).map nI) ∈ m_wds := by decide +kernel
theorem w_tab_29 : ∀ q, q ∈ w_tab → q.2 < 29 := by decide +kernel
def gWds (I : MI) : Prop := ∀ q, q ∈ m_wds → ∀ j, j < q.2.length → I q.1 j = q.2.getD j 0
def MT (Y : MI) (tb : Nat → Nat) (n : Nat) : Prop := n ≤ 1600 ∧ (∀ j, j < n → tb j < 256 ∧ Y 178 j = nI (tb j)) ∧ gWds Y ∧ Y 177 6 = -1
/-- the reference stands behind e -/
def QP (Y : MI) (tb : Nat → Nat) (n e : Nat) (b : Bool) : Prop := (Y 177 5 = 0 ∧ Y 177 3 = nI n ∧ e ≤ n) ∧ (∃ a, Y 177 2 = nI a ∧ e ≤ a ∧ a ≤ sk tb n e) ∧ (if b = true then Y 177 4 = nI e else Y 177 4 = -1 ∨ ∃ x, x < e ∧ Y 177 4 = nI x) ∧ MT Y tb n
def MFt (Y : MI) (k at' : Nat) : Prop := Y 177 5 = nI k ∧ Y 177 6 = nI at'
def LK' (Y : MI) (tb : Nat → Nat) (n e : Nat) : MI := m_up Y 177 2 (nI (sk tb n e))
/-- the sign that stands next -/
def ch (tb : Nat → Nat) (n e : Nat) : Int32 := if sk tb n e < n then nI (tb (sk tb n e)) else -1
abbrev LM : List (Nat × Option Nat) := [(177, some 2), (177, some 4), (177, some 5), (177, some 6), (177, some 10)]
theorem MT_c {X Y : MI} {tb : Nat → Nat} {n : Nat} (h : MT Y tb n) (e : ∀ q, q ≠ 177 → X q = Y q) (e6 : X 177 6 = Y 177 6) (hw : ∀ q, q ∈ m_wds → q.1 ≠ 177 := by decide +kernel) : MT X tb n := by
  obtain ⟨h1, h2, h3, h6⟩ := h
  refine ⟨h1, fun j hj => ?_, fun q hq j hj => ?_, e6.trans h6⟩
  · rw [e 178 (by decide)]; exact h2 j hj
  · rw [e q.1 (hw q hq)]; exact h3 q hq j hj
theorem wds_177 : ∀ q, q ∈ m_wds → q.1 ≠ 177 := by decide +kernel
theorem MT_f {X Y : MI} {tb : Nat → Nat} {n : Nat} {L : List (Nat × Option Nat)} (h : MT Y tb n) (hx : fsL L X Y) (d : disL L ((178, none) :: m_wds.map (fun q => (q.1, none))) = true) (e6 : X 177 6 = Y 177 6) : MT X tb n := by
  obtain ⟨h1, h2, h3, h6⟩ := h
  have a := ag_of d hx
  refine ⟨h1, fun j hj => ?_, fun q hq j hj => ?_, e6.trans h6⟩
  · have : X 178 = Y 178 := a (178, none) (List.mem_cons_self ..)
    rw [this]; exact h2 j hj
  · have : X q.1 = Y q.1 := a (q.1, none) (List.mem_cons_of_mem _ (List.mem_map.mpr ⟨q, hq, rfl⟩))
    rw [this]; exact h3 q hq j hj
theorem run_loop2 {b : Int32 → Option (Int32 ⊕ Int32)} {P : Nat → Bool} {tb : Nat → Nat} {n : Nat} (hs : ∀ pos, pos ≤ n → b (nI pos) = if pos < n ∧ P (tb pos) = true then some (.inl (nI (pos + 1))) else some (.inr (nI pos))) : ∀ d e, n - e = d → e ≤ n → wl b (nI e) = some (nI (t_e P tb n e)) := by
  intro d
  induction d with
  | zero =>
    intro e h he
    have s := hs e he
    rw [if_neg (by omega)] at s
    rw [wl_in s, te_n (by omega)]
  | succ d ih =>
    intro e h he
    have s := hs e he
    cases hp : P (tb e) with
    | true =>
      rw [if_pos ⟨by omega, hp⟩] at s
      rw [wl_st s, ih (e + 1) (by omega) (by omega), te_s (by omega) hp]
    | false =>
      rw [if_neg (fun z => by rw [hp] at z; cases z.2)] at s
      rw [wl_in s, te_0 hp]
theorem map_getD (l : List Nat) {j : Nat} (h : j < l.length) : (l.map nI).getD j 0 = nI (l.getD j 0) := by
  rw [List.getD_eq_getElem?_getD, List.getD_eq_getElem?_getD, List.getElem?_map, List.getElem?_eq_getElem h]; rfl
section LB4
variable {I X Y Z : MI} {n e : Nat} {b : Bool} {tb : Nat → Nat}
theorem LK_s (h : QP Y tb n e b) : QP (LK' Y tb n e) tb n e b ∧ LK' Y tb n e 177 2 = nI (sk tb n e) ∧ fsL LM (LK' Y tb n e) Y := by
  obtain ⟨⟨h1, h2, h3⟩, -, h5, h6⟩ := h
  unfold LK'
  refine ⟨⟨⟨?_, ?_, h3⟩, ⟨sk tb n e, up_e _ _ _ _, sk_ge e, Nat.le_refl _⟩, ?_, MT_c h6 (fun q hq => up_k _ _ _ hq) (up_j _ _ _ (by decide)) wds_177⟩, up_e _ _ _ _, fs_up (LX := LM) (by decide) (by decide) (fs_r Y)⟩
  · rw [up_j _ _ _ (by decide)]; exact h1
  · rw [up_j _ _ _ (by decide)]; exact h2
  · rw [up_j _ _ _ (by decide)]; exact h5
theorem look_m (h : QP Y tb n e b) : F_MD_look Y = some (ch tb n e, LK' Y tb n e) := by
  obtain ⟨⟨h1, h2, h3⟩, ⟨a, ha, ha1, ha2⟩, -, n16, hT, -⟩ := h
  have sl := sk_le (tb := tb) h3
  have lp : wl (fun s : MI => F_MD_look_0 s) Y = some (LK' Y tb n e) := by
    have e0 : Y = m_up Y 177 2 (nI a) := (up_same ha).symm
    have := run_loop (b := fun s : MI => F_MD_look_0 s) (P := cB) (tb := tb) (n := n) (k := 177) (j := 2) (X := Y) (fun pos hp => ?_) _ a rfl (by omega)
    · rw [← e0] at this
      rw [this]
      have : t_e cB tb n a = sk tb n e := sk_mid ha1 ha2
      rw [this]; rfl
    · unfold F_MD_look_0
      have e3 : m_up Y 177 2 (nI pos) 177 3 = nI n := by rw [up_j _ _ _ (by decide)]; exact h2
      have e178 : m_up Y 177 2 (nI pos) 178 = Y 178 := up_k _ _ _ (by decide)
      rw [e3, up_e, e178]
      by_cases q : pos < n
      · obtain ⟨t1, t2⟩ := hT pos q
        rw [if_neg (nI_ge q (by omega)), gd_n (by omega) (by decide), gd_n (by omega) (by decide), nI_clamp (by omega), t2, nI_s, up_up]
        unfold cB
        by_cases c1 : tb pos = 10
        · rw [if_pos ((n_eq (by omega) (by decide) (show (10 : Int32) = nI 10 from rfl)).mpr c1), if_pos ⟨q, by simp [c1]⟩]
        · rw [if_neg (fun z => c1 ((n_eq (by omega) (by decide) (show (10 : Int32) = nI 10 from rfl)).mp z))]
          by_cases c2 : tb pos = 32
          · rw [if_pos ((n_eq (by omega) (by decide) (show (32 : Int32) = nI 32 from rfl)).mpr c2), if_pos ⟨q, by simp [c2]⟩]
          · rw [if_neg (fun z => c2 ((n_eq (by omega) (by decide) (show (32 : Int32) = nI 32 from rfl)).mp z)), if_neg (fun z => by have := z.2; simp [c1, c2] at this)]
      · rw [if_pos (nI_le (by omega) (by omega)), if_neg (fun z => q z.1)]
  unfold F_MD_look
  rw [lp]
  simp only [Option.bind_some]
  unfold F_MD_look_52 LK' ch
  rw [up_e, up_j _ _ _ (by decide), h2, up_k _ _ _ (show (178 : Nat) ≠ 177 by decide)]
  by_cases q : sk tb n e < n
  · rw [if_neg (nI_ge q (by omega)), gd_n (by omega) (by decide), nI_clamp (by omega), (hT _ q).2, if_pos q]
  · rw [if_pos (nI_le (by omega) (by omega)), if_neg q]
/-- a sign that is no letter, digit -/
def sgn (c : Nat) : Prop := c < 256 ∧ cL c = false ∧ cD c = false
theorem ch_is (hb : ∀ j, j < n → tb j < 256) {c : Nat} (hc : sgn c) : ch tb n e = nI c ↔ kd tb n e b = c := by
  obtain ⟨c1, c2, c3⟩ := hc
  unfold ch
  constructor
  · intro h
    by_cases q : sk tb n e < n
    · rw [if_pos q] at h
      have e1 : tb (sk tb n e) = c := (nI_inj (by have := hb _ q; omega) (by omega)).mp h
      rw [kd_oth q (by rw [e1]; exact c2) (by rw [e1]; exact c3), e1]
    · rw [if_neg q] at h
      have := nI_pos' (n := c) (by omega)
      rw [← h] at this
      exact absurd this (by decide)
  · intro h
    obtain ⟨q, q1, -⟩ := kd_sign (e := e) (b := b) (show kd tb n e b < 256 by omega)
    rw [if_pos q, q1, h]
theorem QP_b (h : QP Y tb n e b) : ∀ j, j < n → tb j < 256 := fun j hj => (h.2.2.2.2.1 j hj).1
theorem end_is (h : QP Y tb n e b) : (nI (sk tb n e) = Y 177 4) ↔ (b = true ∧ sk tb n e = e) := by
  have h5 := h.2.2.1
  have hn := h.1.2.2
  have n16 := h.2.2.2.1
  have s1 := sk_le (tb := tb) hn
  have s2 := sk_ge (tb := tb) (n := n) e
  cases b with
  | true =>
    rw [if_pos rfl] at h5
    rw [h5, nI_inj (by omega) (by omega)]
    exact ⟨fun z => ⟨rfl, z⟩, fun z => z.2⟩
  | false =>
    rw [if_neg (by decide)] at h5
    refine ⟨fun z => ?_, fun z => by cases z.1⟩
    exfalso
    rcases h5 with h5 | ⟨x, x1, x2⟩
    · have := nI_pos' (n := sk tb n e) (by omega)
      rw [z, h5] at this
      exact absurd this (by decide)
    · rw [x2, nI_inj (by omega) (by omega)] at z
      omega
theorem here_m (h : QP Y tb n e b) {w i lw : Nat} (hw : (w, i) ∈ w_tab) (hl : (w_ds.getD i []).length = lw) : F_MD_isHere w lw Y = some (bI (isw tb n e b i), LK' Y tb n e) := by
  obtain ⟨k1, k2, k3⟩ := LK_s h
  have hb := QP_b h
  obtain ⟨⟨h1, h2, h3⟩, -, -, n16, hT, hW, -⟩ := k1
  have sl := sk_le (tb := tb) h3
  have e4 := end_is h
  have i29 := w_tab_29 _ hw
  have wm := w_tab_m _ hw
  unfold F_MD_isHere
  rw [h.1.1, if_pos rfl, look_m h]
  simp only [Option.bind_some]
  rw [k2, show LK' Y tb n e 177 4 = Y 177 4 by unfold LK'; rw [up_j _ _ _ (by decide)]]
  unfold ch
  by_cases q : sk tb n e < n
  · have cb := hb _ q
    rw [if_pos q, letter_m cb]
    simp only [Option.bind_some]
    rcases Bool.eq_false_or_eq_true (cL (tb (sk tb n e))) with q1 | q1
    · rw [q1, if_neg (show ¬ bI true = 0 by decide)]
      by_cases q2 : b = true ∧ sk tb n e = e
      · rw [if_pos (e4.mpr q2)]
        have : isw tb n e b i = false := decide_eq_false (fun z => ((kd_256 hb).mp z.1).2.2 q2)
        rw [this]; rfl
      · rw [if_neg (fun z => q2 (e4.mp z))]
        have k256 : kd tb n e b = 256 := (kd_256 hb).mpr ⟨q, q1, q2⟩
        have te1 : tke tb n e = t_e cL tb n (sk tb n e) := by unfold tke; rw [if_pos q, if_pos q1]
        have tl := tke_le (tb := tb) h3
        have tg := tke_gt q
        generalize LK' Y tb n e = V at *
        have lp : wl (fun s : Int32 => F_MD_isHere_35 w lw V s) (nI (sk tb n e)) = some (nI (tke tb n e)) := by
          rw [te1]
          refine run_loop2 (P := cL) (tb := tb) (n := n) (fun pos hp => ?_) _ _ rfl sl
          unfold F_MD_isHere_35
          rw [h2]
          by_cases c : pos < n
          · obtain ⟨t1, t2⟩ := hT pos c
            rw [if_neg (nI_ge c (by omega)), gd_n (by omega) (by decide), nI_clamp (by omega), t2, letter_m t1, nI_s]
            simp only [Option.bind_some]
            cases hl : cL (tb pos) with
            | true => rw [if_neg (show ¬ bI true = 0 by decide), if_pos ⟨c, rfl⟩]
            | false => rw [if_pos (show bI false = 0 from rfl), if_neg (fun z => by cases z.2)]
          · rw [if_pos (nI_le (by omega) (by omega)), if_neg (fun z => c z.1)]
        rw [lp]
        simp only [Option.bind_some]
        unfold F_MD_isHere_61
        rw [k2, nI_subN (by omega)]
        have isw_e : isw tb n e b i = decide (lets tb n e = w_ds.getD i []) := by
          unfold isw
          by_cases z : lets tb n e = w_ds.getD i []
          · rw [decide_eq_true z, decide_eq_true ⟨k256, (w_no_e i29 _).mpr z⟩]
          · rw [decide_eq_false z, decide_eq_false (fun y => z ((w_no_e i29 _).mp y.2))]
        by_cases c : tke tb n e - sk tb n e = lw
        · rw [if_pos (show nI (tke tb n e - sk tb n e) = Int32.ofNat lw by rw [c]; rfl)]
          have wj : ∀ j, j < lw → V w j = nI ((w_ds.getD i []).getD j 0) := fun j hj => by
            have := hW _ wm j (by simp only [List.length_map]; omega)
            have this : V w j = ((w_ds.getD i []).map nI).getD j 0 := this
            rw [this]; exact map_getD _ (by omega)
          have wl128 : ∀ j, (w_ds.getD i []).getD j 0 < 256 := by
            have : ∀ i, i < 29 → ∀ j, j < 7 → (w_ds.getD i []).getD j 0 < 256 := by decide +kernel
            intro j
            by_cases z : j < 7
            · exact this i i29 j z
            · have l7 : ∀ i, i < 29 → (w_ds.getD i []).length ≤ 7 := by decide +kernel
              rw [List.getD_eq_getElem?_getD, List.getElem?_eq_none (by have := l7 i i29; omega)]; decide
          have key : ∀ d k, k + d = lw → (∀ j, j < k → tb (sk tb n e + j) = (w_ds.getD i []).getD j 0) → wl (fun s : Int32 => F_MD_isHere_76 w lw V s) (nI k) = some (@ite _ (∀ j, j < lw → tb (sk tb n e + j) = (w_ds.getD i []).getD j 0) (Classical.propDecidable _) (.inl ()) (.inr (0, V))) := by
            intro d
            induction d with
            | zero =>
              intro k hk hs
              have hk : k = lw := by omega
              subst hk
              rw [if_pos hs]
              refine wl_in ?_
              unfold F_MD_isHere_76
              rw [if_pos (show Int32.ofNat k ≤ nI k from Int32.le_refl _)]
            | succ d ih =>
              intro k hk hs
              obtain ⟨t1, t2⟩ := hT (sk tb n e + k) (by omega)
              have s1 : F_MD_isHere_76 w lw V (nI k) = if tb (sk tb n e + k) = (w_ds.getD i []).getD k 0 then some (.inl (nI (k + 1))) else some (.inr (.inr (0, V))) := by
                unfold F_MD_isHere_76
                rw [if_neg (show ¬ Int32.ofNat lw ≤ nI k from nI_ge (by omega) (by omega)), k2, nI_add, gd_n (by omega) (by decide), gd_n (by omega) (by omega), nI_clamp (by omega), nI_clamp (by omega), t2, wj k (by omega), nI_s]
                by_cases z : tb (sk tb n e + k) = (w_ds.getD i []).getD k 0
                · rw [if_pos (by rw [z]), if_pos z]
                · rw [if_neg (fun y => z ((nI_inj (by omega) (by have := wl128 k; omega)).mp y)), if_neg z]
              by_cases z : tb (sk tb n e + k) = (w_ds.getD i []).getD k 0
              · rw [if_pos z] at s1
                rw [wl_st s1]
                refine ih (k + 1) (by omega) (fun j hj => ?_)
                by_cases y : j = k
                · subst y; exact z
                · exact hs j (by omega)
              · rw [if_neg z] at s1
                rw [wl_in s1, if_neg (fun y => z (y k (by omega)))]
          have k0 := key lw 0 (by omega) (fun j hj => by omega)
          rw [nI_0] at k0
          rw [k0, isw_e]
          have eqv : (∀ j, j < lw → tb (sk tb n e + j) = (w_ds.getD i []).getD j 0) ↔ lets tb n e = w_ds.getD i [] := by
            unfold lets
            constructor
            · intro z
              refine List.ext_getElem? fun k => ?_
              by_cases hk : k < lw
              · have a := z k hk
                rw [List.getD_eq_getElem?_getD, List.getElem?_eq_getElem (show k < (w_ds.getD i []).length by omega)] at a
                have a : tb (sk tb n e + k) = (w_ds.getD i [])[k]'(by omega) := a
                rw [List.getElem?_eq_getElem (show k < (w_ds.getD i []).length by omega)]
                unfold o_bs
                rw [List.getElem?_map, List.getElem?_range (by omega)]
                simp only [Option.map_some]
                rw [a]
              · rw [List.getElem?_eq_none (by rw [bs_len]; omega), List.getElem?_eq_none (by omega)]
            · intro z j hj
              rw [← z, bs_get _ (by omega)]
          by_cases z : ∀ j, j < lw → tb (sk tb n e + j) = (w_ds.getD i []).getD j 0
          · rw [if_pos z, decide_eq_true (eqv.mp z)]; rfl
          · rw [if_neg z, decide_eq_false (fun y => z (eqv.mpr y))]; rfl
        · have l7 : ∀ i, i < 29 → (w_ds.getD i []).length ≤ 7 := by decide +kernel
          have := l7 i i29
          rw [if_neg (show ¬ nI (tke tb n e - sk tb n e) = Int32.ofNat lw from fun z => c ((nI_inj (by omega) (by omega)).mp z)), isw_e, decide_eq_false (fun z => c (by rw [← hl, ← z]; unfold lets; rw [bs_len]))]; rfl
    · rw [q1, if_pos (show bI false = 0 from rfl)]
      have : isw tb n e b i = false := decide_eq_false (fun z => by have := ((kd_256 hb).mp z.1).2.1; rw [q1] at this; cases this)
      rw [this]; rfl
  · rw [if_neg q]
    have l1 : F_MD_isLetter (-1) = some 0 := by unfold F_MD_isLetter; rw [if_pos (by decide)]
    rw [l1]
    simp only [Option.bind_some]
    have : isw tb n e b i = false := decide_eq_false (fun z => q ((kd_256 hb).mp z.1).1)
    rw [this, if_pos trivial]; rfl
end LB4
