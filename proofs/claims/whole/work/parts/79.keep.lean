/-! acts: what is kept of what was -/
section L79
variable {I X I1 I2 : MI} {J JX J2 : MJ} {k o sl sd : Nat} {p : CF} {w w' : WD} {kl kl' : List NT} {un un' : List (WD × List NT)}
def HC (I : MI) (un : List (WD × List NT)) : Prop := I 47 3 = nI un.length ∧ ∃ nx, nx < 20 ∧ I 47 2 = nI nx ∧ ∀ i, i < un.length → ∀ q, un[i]? = some q → WC I (50 + 6 * ((nx + 19 - i) % 20)) q.1 ∧ KC I (54 + 6 * ((nx + 19 - i) % 20)) q.2
def HM (I : MI) (p : CF) (un : List (WD × List NT)) : Prop := I 177 66 = nI un.length ∧ ∃ ne, ne < 20 ∧ I 177 67 = nI ne ∧ ∀ i, i < un.length → ∀ q, un[i]? = some q → WMg (fun j => I 221 (176 * ((ne + 20 - i) % 20) + j)) p q.1 ∧ KMg (fun j => I 221 (176 * ((ne + 20 - i) % 20) + j)) q.2
def HO (p : CF) (un : List (WD × List NT)) : Prop := un.length ≤ 20 ∧ ∀ q, q ∈ un → WO p q.1 ∧ WX p q.1 ∧ KN q.2
theorem gHist_i : gHist I p un ↔ HO p un ∧ HC I un ∧ HM I p un := by
  constructor
  · rintro ⟨h1, h2, h3, h4, h5, h6⟩; exact ⟨⟨h1, h2⟩, ⟨h3, h5⟩, ⟨h4, h6⟩⟩
  · rintro ⟨⟨h1, h2⟩, ⟨h3, h5⟩, ⟨h4, h6⟩⟩; exact ⟨h1, h2, h3, h4, h5, h6⟩
/-- one more is kept -/
def u_add (x : WD × List NT) (un : List (WD × List NT)) : List (WD × List NT) := (x :: un).take 20
theorem u_len (x : WD × List NT) : (u_add x un).length = min 20 (un.length + 1) := by unfold u_add; rw [List.length_take, List.length_cons]
theorem u_0 (x : WD × List NT) : (u_add x un)[0]? = some x := by unfold u_add; rw [List.getElem?_take]; rfl
theorem u_s (x : WD × List NT) {i : Nat} (h : i + 1 < 20) : (u_add x un)[i + 1]? = un[i]? := by unfold u_add; rw [List.getElem?_take, if_pos h]; rfl
theorem u_O (h : HO p un) (hw : WO p w ∧ WX p w ∧ KN kl) : HO p (u_add (w, kl) un) := by
  refine ⟨by rw [u_len]; omega, fun q hq => ?_⟩
  rcases List.mem_cons.mp (List.mem_of_mem_take hq) with e | e
  · subst e; exact hw
  · exact h.2 q e
abbrev DH : List (Nat × Option Nat) := (47, some 2) :: (47, some 3) :: (List.range 120).map (fun i => (50 + i, none))
theorem DH_i {q : Nat} (h : 50 ≤ q) (h2 : q < 170) : (q, (none : Option Nat)) ∈ DH := List.mem_cons_of_mem _ (List.mem_cons_of_mem _ (List.mem_map.mpr ⟨q - 50, List.mem_range.mpr (by omega), by rw [show 50 + (q - 50) = q by omega]⟩))
theorem keep_c (h : HC I un) (hu : un.length ≤ 20) (hw : WC I 20 w) (hk : KC I 45 kl) : ok (F_History_keep I) (fun X => HC X (u_add (w, kl) un) ∧ fsL DH X I) := by
  obtain ⟨h3, nx, h1, h2, h4⟩ := h
  unfold F_History_keep
  have e1 : F_History_hasRing (I 47 2) = some 1 := by
    unfold F_History_hasRing
    rw [h2, if_neg (nI_pos (by omega)), if_neg (show ¬ (20 : Int32) ≤ nI nx from nI_ge (b := 20) h1 (by decide)), gd_n h1 (by decide), gd_n h1 (by decide)]
  refine ok_be e1 (ok_f (by decide) ?_)
  have e2 : w_take I (50 + 6 * ((I 47 2).toNatClampNeg)) 20 47 = I 47 := take_k _ _ _ (by omega)
  rw [e2, h2, nI_clamp (by omega)]
  refine ok_gd rfl h1 (by decide) (ok_gd rfl h1 (by decide) (ok_bnd ?_))
  have t1 : ∀ q, q < 50 + 6 * nx ∨ 50 + 6 * nx + 3 < q → w_take I (50 + 6 * nx) 20 q = I q := fun q hq => take_k _ _ _ hq
  have tW : WC (w_take I (50 + 6 * nx) 20) (50 + 6 * nx) w := take_c hw (by omega)
  have t45 : w_take I (50 + 6 * nx) 20 45 = I 45 := t1 45 (by omega)
  have t46 : w_take I (50 + 6 * nx) 20 46 = I 46 := t1 46 (by omega)
  generalize w_take I (50 + 6 * nx) 20 = T at *
  rw [up_k _ _ _ (by omega)]
  have u1 : ∀ q, q ≠ 54 + 6 * nx → (m_up (m_up T (54 + 6 * nx) 1 (T 45 1)) (54 + 6 * nx) 2 (T 45 2)) q = T q := fun q hq => by rw [up_k _ _ _ hq, up_k _ _ _ hq]
  have u2 : (m_up (m_up T (54 + 6 * nx) 1 (T 45 1)) (54 + 6 * nx) 2 (T 45 2)) (54 + 6 * nx) 1 = T 45 1 := by rw [up_j _ _ _ (by decide), up_e]
  have u3 : (m_up (m_up T (54 + 6 * nx) 1 (T 45 1)) (54 + 6 * nx) 2 (T 45 2)) (54 + 6 * nx) 2 = T 45 2 := up_e _ _ _ _
  generalize m_up (m_up T (54 + 6 * nx) 1 (T 45 1)) (54 + 6 * nx) 2 (T 45 2) = U at *
  have v1 : ∀ q, q ≠ 54 + 6 * nx + 1 → m_cpI U (45 + 1) (54 + 6 * nx + 1) 0 0 40 q = U q := fun q hq => cp_k _ hq
  have v2 : ∀ j, j < 40 → m_cpI U (45 + 1) (54 + 6 * nx + 1) 0 0 40 (54 + 6 * nx + 1) j = U 46 j := fun j hj => cp_e _ hj
  generalize m_cpI U (45 + 1) (54 + 6 * nx + 1) 0 0 40 = V at *
  -- the slot, and all else
  have kV : ∀ q, q < 50 + 6 * nx ∨ 55 + 6 * nx < q → V q = I q := fun q hq => by rw [v1 q (by omega), u1 q (by omega), t1 q (by omega)]
  have wV : WC V (50 + 6 * nx) w := WC_c tW (fun q a b => by rw [v1 q (by omega), u1 q (by omega)])
  have cV : KC V (54 + 6 * nx) kl := by
    obtain ⟨k1, k2, o, k3, k4, k5⟩ := hk
    refine ⟨k1, ?_, o, k3, ?_, fun i hi => ?_⟩
    · rw [v1 _ (by omega), u3, t45]; exact k2
    · rw [v1 _ (by omega), u2, t45]; exact k4
    · rw [v2 _ (Nat.mod_lt _ (by decide)), u1 46 (by omega), t46]; exact k5 i hi
  have a1 : V 47 2 + 1 = nI (nx + 1) := by rw [kV 47 (by omega), h2, nI_s]
  have a2 : V 47 3 + 1 = nI (un.length + 1) := by rw [kV 47 (by omega), h3, nI_s]
  have a3 : m_rem (nI (nx + 1)) 20 = nI ((nx + 1) % 20) := rem_n (b := 20) (by omega) (by decide) (by decide)
  have a4 : f_Math_min_II 20 (nI (un.length + 1)) = nI (min 20 (un.length + 1)) := by
    unfold f_Math_min_II
    by_cases q : un.length + 1 < 20
    · rw [if_pos (show nI (un.length + 1) < 20 from nI_lt (b := 20) q (by decide)), Nat.min_eq_right (by omega)]
    · rw [if_neg (show ¬ nI (un.length + 1) < 20 from nI_nlt (b := 20) (by omega) (by omega)), Nat.min_eq_left (by omega)]; rfl
  refine ok_bnd (ok_s ?_)
  rw [a1, a2, a3, a4]
  have kZ : ∀ q, q ≠ 47 → (m_up (m_up V 47 2 (nI ((nx + 1) % 20))) 47 3 (nI (min 20 (un.length + 1)))) q = V q := fun q hq => by rw [up_k _ _ _ hq, up_k _ _ _ hq]
  have z2 : (m_up (m_up V 47 2 (nI ((nx + 1) % 20))) 47 3 (nI (min 20 (un.length + 1)))) 47 2 = nI ((nx + 1) % 20) := by rw [up_j _ _ _ (by decide), up_e]
  have z3 : (m_up (m_up V 47 2 (nI ((nx + 1) % 20))) 47 3 (nI (min 20 (un.length + 1)))) 47 3 = nI (min 20 (un.length + 1)) := up_e _ _ _ _
  have z0 : ∀ j, j ≠ 2 → j ≠ 3 → (m_up (m_up V 47 2 (nI ((nx + 1) % 20))) 47 3 (nI (min 20 (un.length + 1)))) 47 j = V 47 j := fun j a b => by rw [up_j _ _ _ b, up_j _ _ _ a]
  generalize m_up (m_up V 47 2 (nI ((nx + 1) % 20))) 47 3 (nI (min 20 (un.length + 1))) = Z at *
  refine ⟨⟨by rw [z3, u_len], (nx + 1) % 20, Nat.mod_lt _ (by decide), z2, fun i hi q hq => ?_⟩, fun q j hq => ?_⟩
  · rw [u_len] at hi
    cases i with
    | zero =>
      rw [u_0] at hq
      cases hq
      rw [show ((nx + 1) % 20 + 19 - 0) % 20 = nx by omega]
      exact ⟨WC_c wV (fun q a b => kZ q (by omega)), KC_c cV (fun q hq => kZ q (by omega))⟩
    | succ i =>
      rw [u_s _ (by omega)] at hq
      obtain ⟨g1, g2⟩ := h4 i (by omega) q hq
      have e : ((nx + 1) % 20 + 19 - (i + 1)) % 20 = (nx + 19 - i) % 20 := by omega
      have ne : (nx + 19 - i) % 20 ≠ nx := by omega
      rw [e]
      refine ⟨WC_c g1 (fun q a b => ?_), KC_c g2 (fun q hq => ?_)⟩
      · rw [kZ q (by omega), kV q (by omega)]
      · rw [kZ q (by omega), kV q (by omega)]
  · by_cases z : q = 47
    · subst z
      rw [z0 j (fun e => by subst e; revert hq; simp [inL]) (fun e => by subst e; revert hq; simp [inL]), kV 47 (by omega)]
    · rw [kZ q z, kV q ?_]
      by_cases z2 : 50 ≤ q ∧ q < 170
      · exfalso
        have : inL DH q j = true := List.any_eq_true.mpr ⟨(q, none), DH_i z2.1 z2.2, by simp⟩
        rw [this] at hq; cases hq
      · omega
end L79
