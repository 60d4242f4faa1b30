/-! lines of a slope: fence -/
def p_fn (p : CF) : CF := (cC p, cR p, cF p + 1, cS p, cW p, cT p)
def a_fen (p : CF) (w : WD) (r a : Int32) : WD := (wY w, wK w, (fun f => if f = cF p then a else wA w f), wP w, fun f c => if f = cF p ∧ c < cC p then r else wR w f c)
def nm_f (p : CF) (nm : Nat → List Nat) (l : List Nat) : Nat → List Nat := fun f => if f = cF p then l else nm f
section LD7
variable {I X Y Z V A : MI} {J : MJ} {sd n e td cn : Nat} {b : Bool} {tb : Nat → Nat} {p : CF} {w : WD} {nm : Nat → List Nat} {L : List Nat}
theorem fe62_b (h : ¬ Y 177 5 = 0) (v : Int64) : F_MD_fenceTold_62 Y J v = some (Y, J) := by
  unfold F_MD_fenceTold_62
  rw [asks_b h]
  simp only [Option.bind_some]
  rw [num_b h]
  simp only [Option.bind_some]
  rw [asks_b h]
  simp only [Option.bind_some]
  rw [num_b h]
  simp only [Option.bind_some]
  rw [if_neg h]
/-- the class writes the name -/
theorem fe61 (h : RS A tb n e b) (hk : kd tb n e b = 256) (hq : sd = 3 ∨ sd = 11) {f : Nat} (hf : f < 6) : ∃ Z, wl (fun s : Int32 × MI => F_Reader_fenceLine_61 sd s.2 (nI f) s.1) ((0 : Int32), A) = some Z ∧ (∀ q, q ≠ sd + 2 → Z q = A q) ∧ (∀ i, i < 6 → Z (sd + 2) (6 * f + i) = nI ((nam tb n e).getD i 0)) ∧ ∀ j, j < 6 * f → Z (sd + 2) j = A (sd + 2) j := by
  have lp : ∀ d k (B : MI), k + d = 6 → (∀ q, q ≠ sd + 2 → B q = A q) → (∀ i, i < k → B (sd + 2) (6 * f + i) = nI ((nam tb n e).getD i 0)) → (∀ j, j < 6 * f → B (sd + 2) j = A (sd + 2) j) → ∃ Z, wl (fun s : Int32 × MI => F_Reader_fenceLine_61 sd s.2 (nI f) s.1) (nI k, B) = some Z ∧ (∀ q, q ≠ sd + 2 → Z q = A q) ∧ (∀ i, i < 6 → Z (sd + 2) (6 * f + i) = nI ((nam tb n e).getD i 0)) ∧ ∀ j, j < 6 * f → Z (sd + 2) j = A (sd + 2) j := by
    intro d
    induction d with
    | zero =>
      intro k B hk6 b1 b2 b3
      have e6 : k = 6 := by omega
      subst e6
      refine ⟨B, wl_in ?_, b1, b2, b3⟩
      show F_Reader_fenceLine_61 sd B (nI f) (nI 6) = _
      unfold F_Reader_fenceLine_61
      rw [if_pos (by decide)]
    | succ d ih =>
      intro k B hk6 b1 b2 b3
      have rB : RS B tb n e b := by
        refine ⟨CTp_c h.1 (by rw [b1 1 (by omega)]) (b1 2 (by omega)) (by rw [b1 19 (by omega)]) (by rw [b1 19 (by omega)]), ?_, h.2.2⟩
        have := h.2.1
        unfold TK at this ⊢
        rw [b1 19 (by omega)]; exact this
      have st : F_Reader_fenceLine_61 sd B (nI f) (nI k) = some (.inl (nI (k + 1), m_up B (sd + 2) (6 * f + k) (nI ((nam tb n e).getD k 0)))) := by
        unfold F_Reader_fenceLine_61
        rw [if_neg (show ¬ (6 : Int32) ≤ nI k from nI_ge (b := 6) (by omega) (by decide)), lettA rB hk (by omega)]
        simp only [Option.bind_some]
        rw [ad_76, gd_n (by omega) (by decide), nI_clamp (by omega), nI_s]
      obtain ⟨Z, z1, z2⟩ := ih (k + 1) (m_up B (sd + 2) (6 * f + k) (nI ((nam tb n e).getD k 0))) (by omega) (fun q hq => by rw [up_k _ _ _ hq]; exact b1 q hq) (fun i hi => by
        by_cases z : i = k
        · subst z; rw [up_e]
        · rw [up_j _ _ _ (by omega)]; exact b2 i (by omega)) (fun j hj => by rw [up_j _ _ _ (by omega)]; exact b3 j hj)
      exact ⟨Z, (wl_st st).trans z1, z2⟩
  exact lp 6 0 A (by omega) (fun _ _ => rfl) (fun i hi => by omega) (fun _ _ => rfl)
/-- the class sets the stakes -/
theorem fe125 (hq : sd = 3 ∨ sd = 11) {f C r : Nat} (hf : f < 6) (hC : C ≤ 6) (h1 : A sd 1 = nI C) (h10 : A 19 10 = nI r) : ∃ Z, wl (fun s : Int32 × MI => F_Reader_fenceLine_125 sd s.2 (nI f) s.1) ((0 : Int32), A) = some Z ∧ (∀ q, q ≠ sd + 6 → Z q = A q) ∧ ∀ j, Z (sd + 6) j = if 6 * f ≤ j ∧ j < 6 * f + C then nI r else A (sd + 6) j := by
  have lp : ∀ d k (B : MI), k + d = C → (∀ q, q ≠ sd + 6 → B q = A q) → (∀ j, B (sd + 6) j = if 6 * f ≤ j ∧ j < 6 * f + k then nI r else A (sd + 6) j) → ∃ Z, wl (fun s : Int32 × MI => F_Reader_fenceLine_125 sd s.2 (nI f) s.1) (nI k, B) = some Z ∧ (∀ q, q ≠ sd + 6 → Z q = A q) ∧ ∀ j, Z (sd + 6) j = if 6 * f ≤ j ∧ j < 6 * f + C then nI r else A (sd + 6) j := by
    intro d
    induction d with
    | zero =>
      intro k B hk6 b1 b2
      have e6 : k = C := by omega
      subst e6
      refine ⟨B, wl_in ?_, b1, b2⟩
      show F_Reader_fenceLine_125 sd B (nI f) (nI k) = _
      unfold F_Reader_fenceLine_125
      rw [b1 sd (by omega), h1, if_pos (nI_le (by omega) (by omega))]
    | succ d ih =>
      intro k B hk6 b1 b2
      have st : F_Reader_fenceLine_125 sd B (nI f) (nI k) = some (.inl (nI (k + 1), m_up B (sd + 6) (6 * f + k) (nI r))) := by
        unfold F_Reader_fenceLine_125
        rw [b1 sd (by omega), h1, if_neg (nI_ge (by omega) (by omega)), b1 19 (by omega), h10, nI_s]
        unfold w_putStake
        rw [if_pos (is_st (by omega) (by omega)), ad_76, nI_clamp (by omega)]
      obtain ⟨Z, z1, z2⟩ := ih (k + 1) (m_up B (sd + 6) (6 * f + k) (nI r)) (by omega) (fun q hq => by rw [up_k _ _ _ hq]; exact b1 q hq) (fun j => by
        by_cases z : j = 6 * f + k
        · subst z; rw [up_e, if_pos (by omega)]
        · rw [up_j _ _ _ z, b2 j]
          by_cases y : 6 * f ≤ j ∧ j < 6 * f + k
          · rw [if_pos y, if_pos (by omega)]
          · rw [if_neg y, if_neg (by omega)])
      exact ⟨Z, (wl_st st).trans z1, z2⟩
  exact lp C 0 A (by omega) (fun _ _ => rfl) (fun j => by rw [if_neg (by omega)])
/-- the reference sets the stakes -/
theorem fe145 {f r : Nat} (hf : f < 6) (B0 : MI) : ∃ Z, wl (fun s : Int32 × MI => F_MD_fenceTold_145 s.2 (nI r) (nI (7 * f)) s.1) ((0 : Int32), B0) = some Z ∧ (∀ q, q ≠ 209 → Z q = B0 q) ∧ ∀ j, Z 209 j = if 7 * f + 1 ≤ j ∧ j < 7 * f + 7 then nI r else B0 209 j := by
  have lp : ∀ d k (B : MI), k + d = 6 → (∀ q, q ≠ 209 → B q = B0 q) → (∀ j, B 209 j = if 7 * f + 1 ≤ j ∧ j < 7 * f + 1 + k then nI r else B0 209 j) → ∃ Z, wl (fun s : Int32 × MI => F_MD_fenceTold_145 s.2 (nI r) (nI (7 * f)) s.1) (nI k, B) = some Z ∧ (∀ q, q ≠ 209 → Z q = B0 q) ∧ ∀ j, Z 209 j = if 7 * f + 1 ≤ j ∧ j < 7 * f + 7 then nI r else B0 209 j := by
    intro d
    induction d with
    | zero =>
      intro k B hk6 b1 b2
      have e6 : k = 6 := by omega
      subst e6
      refine ⟨B, wl_in ?_, b1, b2⟩
      show F_MD_fenceTold_145 B (nI r) (nI (7 * f)) (nI 6) = _
      unfold F_MD_fenceTold_145
      rw [if_pos (by decide)]
    | succ d ih =>
      intro k B hk6 b1 b2
      have st : F_MD_fenceTold_145 B (nI r) (nI (7 * f)) (nI k) = some (.inl (nI (k + 1), m_up B 209 (7 * f + 1 + k) (nI r))) := by
        unfold F_MD_fenceTold_145
        have ix : (nI (7 * f) + 1) + nI k = nI (7 * f + 1 + k) := by rw [nI_s]; exact nI_add _ _
        rw [if_neg (show ¬ (6 : Int32) ≤ nI k from nI_ge (b := 6) (by omega) (by decide)), ix, gd_n (by omega) (by decide), nI_clamp (by omega), nI_s]
      obtain ⟨Z, z1, z2⟩ := ih (k + 1) (m_up B 209 (7 * f + 1 + k) (nI r)) (by omega) (fun q hq => by rw [up_k _ _ _ hq]; exact b1 q hq) (fun j => by
        by_cases z : j = 7 * f + 1 + k
        · subst z; rw [up_e, if_pos (by omega)]
        · rw [up_j _ _ _ z, b2 j]
          by_cases y : 7 * f + 1 ≤ j ∧ j < 7 * f + 1 + k
          · rw [if_pos y, if_pos (by omega)]
          · rw [if_neg y, if_neg (by omega)])
      exact ⟨Z, (wl_st st).trans z1, z2⟩
  exact lp 6 0 B0 (by omega) (fun _ _ => rfl) (fun j => by rw [if_neg (by omega)])
theorem RS_c {B : MI} (h : RS A tb n e b) (e1 : B 1 = A 1) (e2 : B 2 = A 2) (e19 : B 19 = A 19) : RS B tb n e b := by
  refine ⟨CTp_c h.1 (by rw [e1]) e2 (by rw [e19]) (by rw [e19]), ?_, h.2.2⟩
  have := h.2.1
  unfold TK at this ⊢
  rw [e19]; exact this
end LD7
