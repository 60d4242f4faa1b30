/-! tells -/
/-- the place that tells most, so far -/
abbrev TS : Type := Option (Nat × Nat × Nat)
def t_st (s : TS) (c r g : Nat) : TS :=
  match s with
  | none => some (c, r, g)
  | some t => if t.2.2 ≤ g then some t else some (c, r, g)
def t_r (g : Nat → Nat) (c : Nat) (s : TS) : Nat → TS
  | 0 => s
  | q + 1 => t_st (t_r g c s q) c q (g q)
def t_c (G : Nat → Nat → Nat) (R : Nat) : Nat → TS
  | 0 => none
  | n + 1 => t_r (G n) n (t_c G R n) R
def tC (N : Nat) : TS → Int32 × Int32 × Int32
  | none => (-1, -1, nI (N + 1))
  | some t => (nI t.1, nI t.2.1, nI t.2.2)
def tM : TS → Int32 × Int32 × Int32
  | none => (-1, -1, 0)
  | some t => (nI t.1, nI t.2.1, nI t.2.2)
def TB (N : Nat) (s : TS) : Prop := ∀ t, s = some t → t.2.2 ≤ N ∧ t.1 < 6
theorem TB_st {N c r g : Nat} {s : TS} (h : TB N s) (hc : c < 6) (hg : g ≤ N) : TB N (t_st s c r g) := by
  intro t e
  cases s with
  | none => cases e; exact ⟨hg, hc⟩
  | some t0 =>
    simp only [t_st] at e
    by_cases q : t0.2.2 ≤ g
    · rw [if_pos q] at e; exact h t e
    · rw [if_neg q] at e; cases e; exact ⟨hg, hc⟩
theorem TB_r {N c : Nat} {g : Nat → Nat} {s : TS} (h : TB N s) (hc : c < 6) (hg : ∀ r, g r ≤ N) : ∀ q, TB N (t_r g c s q) := by
  intro q
  induction q with
  | zero => exact h
  | succ q ih => exact TB_st ih hc (hg q)
theorem TB_c {N R : Nat} {G : Nat → Nat → Nat} (hg : ∀ c r, G c r ≤ N) : ∀ n, n ≤ 6 → TB N (t_c G R n) := by
  intro n
  induction n with
  | zero => intro _ t e; cases e
  | succ n ih => intro hn; exact TB_r (ih (by omega)) (by omega) (hg n) R
section L76
variable {I X : MI} {J JX : MJ} {k o sl sd : Nat} {p : CF} {w : WD} {kl : List NT} {un : List (WD × List NT)}
/-- a_mx: in how many of the years that fit the place looks most alike -/
def a_mx (p : CF) (w : WD) (φ : Nat → Bool) (c r n : Nat) : Nat := mx7 (fun k => fo φ (fun i => a_k p (a_it p w i) c (nI r)) k n) 7
theorem mx_N (φ : Nat → Bool) (c r n : Nat) : a_mx p w φ c r n ≤ fc φ n := mx_le (fun k => fo_le _ _ _ _) 7
theorem lb_e {c r : Nat} {g : Nat → Nat} (hc : c < 6) (hr : r < 30) (hg : ∀ k, k < 7 → X 44 ((c * 30 + r) * 7 + k) = nI (g k)) (hb : ∀ k, g k ≤ 31) : ∀ n, n ≤ 7 → lb X (nI c) (nI r) n = nI (mx7 g n) := by
  intro n
  induction n with
  | zero => intro _; rfl
  | succ n ih =>
    intro hn
    have a1 : nI c * (30 : Int32) = nI (c * 30) := nI_m3 c 30
    have a2 : nI (c * 30 + r) * (7 : Int32) = nI ((c * 30 + r) * 7) := nI_m3 _ 7
    simp only [lb, mx7]
    rw [ih (by omega), a1, nI_add, a2, nI_add, if_neg (nI_pos (by omega)), if_neg (show ¬ Int32.ofNat 1260 ≤ nI ((c * 30 + r) * 7 + n) from nI_ge (b := 1260) (by omega) (by omega)), nI_clamp (by omega), hg n (by omega)]
    have h1 := mx_le hb n
    have h2 := hb n
    unfold f_Math_max_II
    by_cases q : mx7 g n < g n
    · rw [if_pos (nI_lt q (by omega)), show max (mx7 g n) (g n) = g n by omega]
    · rw [if_neg (nI_nlt (by omega) (by omega)), show max (mx7 g n) (g n) = mx7 g n by omega]
theorem ft_r_e {φ : Nat → Bool} (hN : fc φ 31 ≤ 31) {c : Nat} (hc : c < 6) {R : Nat} (hR : R ≤ 30) (h44 : ∀ r k, r < R → k < 7 → X 44 ((c * 30 + r) * 7 + k) = nI (fo φ (fun i => a_k p (a_it p w i) c (nI r)) k 31)) {s : TS} (hs : TB (fc φ 31) s) (e0 : (X 30 15, X 30 16, X 30 17) = tC (fc φ 31) s) :
    ∀ q, q ≤ R → (ft_r X (nI c) q 30 15, ft_r X (nI c) q 30 16, ft_r X (nI c) q 30 17) = tC (fc φ 31) (t_r (fun r => a_mx p w φ c r 31) c s q) ∧ fsL [(30, some 15), (30, some 16), (30, some 17)] (ft_r X (nI c) q) X := by
  intro q
  induction q with
  | zero => intro _; exact ⟨e0, fs_r X⟩
  | succ q ih =>
    intro hq
    obtain ⟨h1, h2⟩ := ih (by omega)
    have hB := TB_r hs hc (fun r => mx_N (p := p) (w := w) φ c r 31) q
    simp only [ft_r, t_r]
    generalize ft_r X (nI c) q = Y at *
    have e44 : Y 44 = X 44 := fs_k h2 (by decide)
    have el : lb Y (nI c) (nI q) 7 = nI (a_mx p w φ c q 31) := lb_e hc (by omega) (fun k hk => by rw [e44]; exact h44 q k (by omega) hk) (fun k => Nat.le_trans (fo_le _ _ _ _) hN) 7 (by omega)
    have hm := mx_N (p := p) (w := w) φ c q 31
    rw [el]
    have e17 : Y 30 17 = (tC (fc φ 31) (t_r (fun r => a_mx p w φ c r 31) c s q)).2.2 := by rw [← h1]
    have tk : fsL [(30, some 15), (30, some 16), (30, some 17)] (m_up (m_up (m_up Y 30 17 (nI (a_mx p w φ c q 31))) 30 15 (nI c)) 30 16 (nI q)) X := fs_up (LX := [(30, some 15), (30, some 16), (30, some 17)]) (by decide) (by decide) (fs_up (LX := [(30, some 15), (30, some 16), (30, some 17)]) (by decide) (by decide) (fs_up (LX := [(30, some 15), (30, some 16), (30, some 17)]) (by decide) (by decide) h2))
    have tv : ((m_up (m_up (m_up Y 30 17 (nI (a_mx p w φ c q 31))) 30 15 (nI c)) 30 16 (nI q)) 30 15, (m_up (m_up (m_up Y 30 17 (nI (a_mx p w φ c q 31))) 30 15 (nI c)) 30 16 (nI q)) 30 16, (m_up (m_up (m_up Y 30 17 (nI (a_mx p w φ c q 31))) 30 15 (nI c)) 30 16 (nI q)) 30 17) = (nI c, nI q, nI (a_mx p w φ c q 31)) := by
      rw [up_j _ _ _ (by decide), up_e, up_e, up_j _ _ _ (by decide), up_j _ _ _ (by decide), up_e]
    cases hs : t_r (fun r => a_mx p w φ c r 31) c s q with
    | none =>
      rw [hs] at e17
      have e17 : Y 30 17 = nI (fc φ 31 + 1) := e17
      rw [e17, if_neg (nI_ge (by omega) (by omega))]
      exact ⟨tv, tk⟩
    | some t =>
      rw [hs] at e17 h1
      have hb := (hB t hs).1
      have e17 : Y 30 17 = nI t.2.2 := e17
      simp only [t_st]
      rw [e17]
      by_cases z : t.2.2 ≤ a_mx p w φ c q 31
      · rw [if_pos (nI_le z (by omega)), if_pos z]; exact ⟨h1, h2⟩
      · rw [if_neg (nI_ge (by omega) (by omega)), if_neg z]; exact ⟨tv, tk⟩
theorem ft_c_e {φ : Nat → Bool} (hN : fc φ 31 ≤ 31) {C R : Nat} (hC : C ≤ 6) (hR : R ≤ 30) (hsl : sl = 3 ∨ sl = 11) (h2 : X sl 2 = nI R) (h44 : ∀ c r k, c < C → r < R → k < 7 → X 44 ((c * 30 + r) * 7 + k) = nI (fo φ (fun i => a_k p (a_it p w i) c (nI r)) k 31)) (e0 : (X 30 15, X 30 16, X 30 17) = tC (fc φ 31) none) :
    ∀ n, n ≤ C → (ft_c X sl n 30 15, ft_c X sl n 30 16, ft_c X sl n 30 17) = tC (fc φ 31) (t_c (fun c r => a_mx p w φ c r 31) R n) ∧ fsL [(30, some 15), (30, some 16), (30, some 17)] (ft_c X sl n) X := by
  intro n
  induction n with
  | zero => intro _; exact ⟨e0, fs_r X⟩
  | succ n ih =>
    intro hn
    obtain ⟨g1, g2⟩ := ih (by omega)
    have e44 : ft_c X sl n 44 = X 44 := fs_k g2 (by decide)
    obtain ⟨g3, g4⟩ := ft_r_e (X := ft_c X sl n) hN (c := n) (by omega) hR (fun r k a b => by rw [e44]; exact h44 n r k (by omega) a b) (TB_c (fun c r => mx_N (p := p) (w := w) φ c r 31) n (by omega)) g1 R (Nat.le_refl _)
    have e : ft_c X sl (n + 1) = ft_r (ft_c X sl n) (nI n) R := by
      show ft_r (ft_c X sl n) (nI n) (X sl 2).toNatClampNeg = _
      rw [h2, nI_clamp (by omega)]
    rw [e]
    exact ⟨g3, fs_tr g4 g2⟩
end L76
