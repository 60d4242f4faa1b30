/-! fits: what is counted, and the reference -/
/-- how many of the first n are so, the first and the last of them -/
def fc (φ : Nat → Bool) : Nat → Nat
  | 0 => 0
  | n + 1 => if φ n = true then fc φ n + 1 else fc φ n
def f1 (φ : Nat → Bool) : Nat → Int32
  | 0 => -1
  | n + 1 => if φ n = true then (if fc φ n = 0 then nI n else f1 φ n) else f1 φ n
def f2 (φ : Nat → Bool) : Nat → Int32
  | 0 => -1
  | n + 1 => if φ n = true then nI n else f2 φ n
def fo (φ : Nat → Bool) (κ : Nat → Nat) (k : Nat) : Nat → Nat
  | 0 => 0
  | n + 1 => if φ n = true ∧ κ n = k then fo φ κ k n + 1 else fo φ κ k n
def mx7 (g : Nat → Nat) : Nat → Nat
  | 0 => 0
  | n + 1 => max (mx7 g n) (g n)
theorem fc_le (φ : Nat → Bool) (n : Nat) : fc φ n ≤ n := by
  induction n with
  | zero => exact Nat.le_refl 0
  | succ n ih => simp only [fc]; split <;> omega
theorem fo_le (φ : Nat → Bool) (κ : Nat → Nat) (k n : Nat) : fo φ κ k n ≤ fc φ n := by
  induction n with
  | zero => exact Nat.le_refl 0
  | succ n ih =>
    simp only [fc, fo]
    by_cases h : φ n = true
    · rw [if_pos h]
      split <;> omega
    · rw [if_neg h, if_neg (fun z => h z.1)]; exact ih
theorem mx_le {g : Nat → Nat} {N : Nat} (h : ∀ k, g k ≤ N) (n : Nat) : mx7 g n ≤ N := by
  induction n with
  | zero => exact Nat.zero_le _
  | succ n ih => have := h n; simp only [mx7]; omega
theorem mx_c {g h : Nat → Nat} (n : Nat) (e : ∀ k, k < n → g k = h k) : mx7 g n = mx7 h n := by
  induction n with
  | zero => rfl
  | succ n ih => simp only [mx7]; rw [ih (fun k hk => e k (by omega)), e n (by omega)]
theorem mx_up (g : Nat → Nat) {k0 : Nat} : ∀ n, mx7 (fun k => if k = k0 then g k + 1 else g k) n = if k0 < n then max (mx7 g n) (g k0 + 1) else mx7 g n := by
  intro n
  induction n with
  | zero => rw [if_neg (by omega)]; rfl
  | succ n ih =>
    simp only [mx7]
    rw [ih]
    by_cases h : n = k0
    · subst h
      rw [if_neg (Nat.lt_irrefl n), if_pos rfl, if_pos (Nat.lt_succ_self n)]; omega
    · rw [if_neg h]
      by_cases h2 : k0 < n
      · rw [if_pos h2, if_pos (by omega)]; omega
      · rw [if_neg h2, if_neg (by omega)]
theorem fx_ext {φ : Nat → Bool} {N M : Nat} (h : N ≤ M) (h0 : ∀ i, N ≤ i → i < M → φ i = false) : fc φ M = fc φ N ∧ f1 φ M = f1 φ N ∧ f2 φ M = f2 φ N ∧ ∀ κ k, fo φ κ k M = fo φ κ k N := by
  induction h with
  | refl => exact ⟨rfl, rfl, rfl, fun _ _ => rfl⟩
  | @step m hm ih =>
    obtain ⟨i1, i2, i3, i4⟩ := ih (fun i a b => h0 i a (by omega))
    have e := h0 m hm (by omega)
    refine ⟨?_, ?_, ?_, fun κ k => ?_⟩
    · simp only [fc]; rw [e, if_neg (by decide)]; exact i1
    · simp only [f1]; rw [e, if_neg (by decide)]; exact i2
    · simp only [f2]; rw [e, if_neg (by decide)]; exact i3
    · simp only [fo]; rw [e, if_neg (fun z => by cases z.1)]; exact i4 κ k
theorem f1_v (φ : Nat → Bool) (n : Nat) : (fc φ n = 0 → f1 φ n = -1) ∧ (fc φ n ≠ 0 → ∃ k, k < n ∧ f1 φ n = nI k) := by
  induction n with
  | zero => exact ⟨fun _ => rfl, fun h => absurd rfl h⟩
  | succ n ih =>
    simp only [fc, f1]
    by_cases h : φ n = true
    · rw [if_pos h, if_pos h]
      refine ⟨fun z => by omega, fun _ => ?_⟩
      by_cases q : fc φ n = 0
      · rw [if_pos q]; exact ⟨n, by omega, rfl⟩
      · rw [if_neg q]
        obtain ⟨k, a, b⟩ := ih.2 q
        exact ⟨k, by omega, b⟩
    · rw [if_neg h, if_neg h]
      refine ⟨ih.1, fun z => ?_⟩
      obtain ⟨k, a, b⟩ := ih.2 z
      exact ⟨k, by omega, b⟩
theorem nI_m3 (a n : Nat) : nI a * nI n = nI (a * n) := by simp only [nI, ← Int32.ofNat_mul]
/-- who stands where, from 0 -/
def a_k (p : CF) (w : WD) (c : Nat) (r : Int32) : Nat := ((a_own (fun f => wR w f c) r (cF p)).1 + 1).toNatClampNeg
theorem own_v (g : Nat → Int32) (r : Int32) (n : Nat) : ∃ k, k ≤ n ∧ (a_own g r n).1 + 1 = nI k := by
  induction n with
  | zero => exact ⟨0, Nat.le_refl 0, by show (-1 : Int32) + 1 = 0; decide⟩
  | succ n ih =>
    obtain ⟨k, h1, h2⟩ := ih
    simp only [a_own]
    split
    · exact ⟨k, by omega, h2⟩
    · split
      · exact ⟨k, by omega, h2⟩
      · exact ⟨n + 1, by omega, nI_s n⟩
section L72
variable {I X : MI} {J JX : MJ} {k o sl sd : Nat} {p : CF} {w : WD} {kl : List NT} {un : List (WD × List NT)}
theorem a_k_e (ho : CO p) (w : WD) (c : Nat) (r : Int32) : (a_own (fun f => wR w f c) r (cF p)).1 + 1 = nI (a_k p w c r) ∧ a_k p w c r ≤ 6 := by
  have hF := ho.2.2.1
  obtain ⟨k, h1, h2⟩ := own_v (fun f => wR w f c) r (cF p)
  unfold a_k
  rw [h2, nI_clamp (by omega)]
  exact ⟨rfl, by omega⟩
/-- as it was seen, the first n of what was seen -/
def a_seen (p : CF) (w : WD) (sn : List NT) : Nat → Bool
  | 0 => true
  | n + 1 => a_seen p w sn n && decide ((a_own (fun f => wR w f (sn.getD n (0, 0, 0)).1.toNatClampNeg) (sn.getD n (0, 0, 0)).2.1 (cF p)).1 = (sn.getD n (0, 0, 0)).2.2)
def SN (p : CF) (sn : List NT) : Prop := sn.length ≤ 16 ∧ ∀ i, i < sn.length → ∃ c r, c < cC p ∧ r < cR p ∧ (sn.getD i (0, 0, 0)).1 = nI c ∧ (sn.getD i (0, 0, 0)).2.1 = nI r
def SM (I : MI) (sn : List NT) : Prop := I 177 59 = nI sn.length ∧ ∀ i, i < sn.length → (I 217 (3 * i), I 217 (3 * i + 1), I 217 (3 * i + 2)) = sn.getD i (0, 0, 0)
def SC (I : MI) (sn : List NT) : Prop := I 170 3 = nI sn.length ∧ ∀ i, i < sn.length → (I 171 i, I 172 i, I 173 i) = sn.getD i (0, 0, 0)
theorem seen_up {sn : List NT} {n m : Nat} (h : a_seen p w sn n = false) (hm : n ≤ m) : a_seen p w sn m = false := by
  induction hm with
  | refl => exact h
  | step _ ih => simp only [a_seen]; rw [ih]; rfl
theorem seen_e (ho : CO p) (hs : CM I p) (hw : WM I p w) (hv : WO p w) {sn : List NT} (hn : SN p sn) (hS : SM I sn) : F_MD_isAsSeen I = some (bI (a_seen p w sn sn.length)) := by
  have hF := ho.2.2.1; have hC := ho.1; have hL := hn.1
  have loop : ∀ d n, n + d = sn.length → a_seen p w sn n = true → wl (fun s : Int32 => F_MD_isAsSeen_2 I s) (nI n) = some (if a_seen p w sn sn.length = true then .inl () else .inr 0) := by
    intro d
    induction d with
    | zero =>
      intro n hd h
      have hd : n = sn.length := by omega
      refine wl_in ?_
      unfold F_MD_isAsSeen_2
      rw [hS.1, hd, if_pos (Int32.le_refl _), ← hd, if_pos h]
    | succ d ih =>
      intro n hd h
      obtain ⟨c, r, c1, r1, e1, e2⟩ := hn.2 n (by omega)
      have e3 := hS.2 n (by omega)
      have e4 : I 217 (3 * n) = nI c := by rw [← e1, ← e3]
      have e5 : I 217 (3 * n + 1) = nI r := by rw [← e2, ← e3]
      have e6 : I 217 (3 * n + 2) = (sn.getD n (0, 0, 0)).2.2 := by rw [← e3]
      have a1 : (3 : Int32) * nI n = nI (3 * n) := nI_m3 3 n
      have a2 : nI (3 * n) + (1 : Int32) = nI (3 * n + 1) := nI_add (3 * n) 1
      have a3 : nI (3 * n) + (2 : Int32) = nI (3 * n + 2) := nI_add (3 * n) 2
      have st : F_MD_isAsSeen_2 I (nI n) = if (a_own (fun f => wR w f c) (nI r) (cF p)).1 = (sn.getD n (0, 0, 0)).2.2 then some (.inl (nI (n + 1))) else some (.inr (.inr 0)) := by
        unfold F_MD_isAsSeen_2
        rw [hS.1, if_neg (nI_ge (by omega) (by omega)), a1, a2, a3, gd_n (by omega) (by decide), gd_n (by omega) (by decide), nI_clamp (by omega), nI_clamp (by omega), nI_clamp (by omega), e4, e5, e6, whose_e ho hs hw hv c1]
        simp only [Option.bind_some]
        rw [gd_n (by omega) (by decide), nI_s]
      have es : a_seen p w sn (n + 1) = decide ((a_own (fun f => wR w f c) (nI r) (cF p)).1 = (sn.getD n (0, 0, 0)).2.2) := by
        simp only [a_seen]
        rw [h, e1, e2, nI_clamp (by omega), Bool.true_and]
      by_cases q : (a_own (fun f => wR w f c) (nI r) (cF p)).1 = (sn.getD n (0, 0, 0)).2.2
      · rw [if_pos q] at st
        rw [wl_st st]
        exact ih (n + 1) (by omega) (by rw [es]; exact decide_eq_true q)
      · rw [if_neg q] at st
        rw [wl_in st, seen_up (n := n + 1) (by rw [es]; exact decide_eq_false q) (by omega)]
        rfl
  unfold F_MD_isAsSeen
  have h0 := loop sn.length 0 (by omega) rfl
  rw [nI_0] at h0
  rw [h0]
  cases a_seen p w sn sn.length <;> rfl
theorem so_c (ho : CO p) (hw : WC I 31 w) (hv : WO p w) {sn : List NT} (hn : SN p sn) (hS : SC I sn) : so I 31 (m2 (I 170 3) 16) = a_seen p w sn sn.length := by
  have hL := hn.1
  have hC := ho.1
  have e : m2 (I 170 3) 16 = sn.length := by unfold m2; rw [hS.1, nI_clamp (by omega)]; omega
  rw [e]
  have key : ∀ n, n ≤ sn.length → so I 31 n = a_seen p w sn n := by
    intro n
    induction n with
    | zero => intro _; rfl
    | succ n ih =>
      intro hn1
      simp only [so, a_seen]
      obtain ⟨c, r, c1, r1, e1, e2⟩ := hn.2 n (by omega)
      have e3 := hS.2 n (by omega)
      have e4 : I 171 n = nI c := by rw [← e1, ← e3]
      have e5 : I 172 n = nI r := by rw [← e2, ← e3]
      have e6 : I 173 n = (sn.getD n (0, 0, 0)).2.2 := by rw [← e3]
      rw [ih (by omega), nI_clamp (by omega), e4, e5, e6, owner_c hw hv ho (by omega), e1, e2, nI_clamp (by omega)]
  exact key _ (Nat.le_refl _)
/-- a year that fits -/
def a_fit (p : CF) (w : WD) (sn : List NT) (y n : Nat) : Bool := decide (y + n ≤ 999) && a_seen p (a_it p w n) sn sn.length
end L72
