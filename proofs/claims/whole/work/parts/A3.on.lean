/-! on: what AN IMAGE is, and what it tells -/
def o_at (p : CF) (tb : Nat → Nat) (f : Nat) : Nat := 3 + 2 * tb 2 + (2 + cC p) * f
def o_pl (p : CF) (tb : Nat → Nat) (k : Nat) : Prop := tb (3 + 2 * k) < cC p ∧ tb (4 + 2 * k) < cR p
def o_or (tb : Nat → Nat) (k : Nat) : Nat := 30 * tb (3 + 2 * k) + tb (4 + 2 * k)
def o_p1 (p : CF) (tb : Nat → Nat) (k : Nat) : Prop := o_pl p tb k ∧ (k = 0 ∨ o_or tb (k - 1) < o_or tb k)
def o_ps (p : CF) (tb : Nat → Nat) (n : Nat) : Prop := ∀ k, k < n → o_p1 p tb k
def o_st (p : CF) (tb : Nat → Nat) (f c : Nat) : Prop := tb (o_at p tb f + 2 + c) < cR p ∨ tb (o_at p tb f + 2 + c) = 255
def o_f1 (p : CF) (tb : Nat → Nat) (f : Nat) : Prop := tb (o_at p tb f) ≤ 99 ∧ tb (o_at p tb f + 1) ≤ 1 ∧ ∀ c, c < cC p → o_st p tb f c
def o_fs (p : CF) (tb : Nat → Nat) (n : Nat) : Prop := ∀ f, f < n → o_f1 p tb f
def o_bs (tb : Nat → Nat) (n : Nat) : List Nat := (List.range n).map tb
def o_G (p : CF) (tb : Nat → Nat) (n : Nat) : Prop := (3 ≤ n ∧ tb 2 ≤ 24 ∧ n = o_at p tb (cF p) + 1) ∧ chk (o_bs tb (n - 1)) = tb (n - 1) ∧ 256 * tb 0 + tb 1 ≤ 999 ∧ o_ps p tb (tb 2) ∧ o_fs p tb (cF p)
/-- the posts of column c, when k are read -/
def o_P (tb : Nat → Nat) : Nat → Nat → Nat
  | 0, _ => 0
  | k + 1, c => if c = tb (3 + 2 * k) then o_P tb k c ||| 2 ^ tb (4 + 2 * k) else o_P tb k c
/-- a fences' ages and cuts are read, stakes of k fences and m of the next -/
def o_v (p : CF) (tb : Nat → Nat) (a k m : Nat) : WD := (nI (256 * tb 0 + tb 1), fun f => if f < a then nI (tb (o_at p tb f + 1)) else 0, fun f => if f < a then nI (tb (o_at p tb f)) else 0, fun c => nI (o_P tb (tb 2) c), fun f c => if (f < k ∨ (f = k ∧ c < m)) ∧ c < cC p then s_v (tb (o_at p tb f + 2 + c)) else -1)
def o_w (p : CF) (tb : Nat → Nat) : WD := o_v p tb (cF p) (cF p) 0
theorem bs_len (tb : Nat → Nat) (n : Nat) : (o_bs tb n).length = n := by unfold o_bs; rw [List.length_map, List.length_range]
theorem bs_get (tb : Nat → Nat) {n i : Nat} (h : i < n) : (o_bs tb n).getD i 0 = tb i := by
  unfold o_bs
  rw [List.getD_eq_getElem?_getD, List.getElem?_map, List.getElem?_range h]; rfl
theorem bs_take (tb : Nat → Nat) {n k : Nat} (h : k ≤ n) : (o_bs tb n).take k = o_bs tb k := by
  unfold o_bs
  rw [← List.map_take, List.take_range, Nat.min_eq_left h]
theorem chk_bs (tb : Nat → Nat) (k : Nat) : chk (o_bs tb (k + 1)) = (3 * chk (o_bs tb k) + tb k) % 251 := by
  have := chk_s (l := o_bs tb (k + 1)) (k := k) (by rw [bs_len]; omega)
  rw [bs_take tb (Nat.le_refl _), bs_take tb (by omega), bs_get tb (by omega)] at this
  exact this
theorem pop_or_le (k x r : Nat) (hr : r < k) : pop k (x ||| 2 ^ r) ≤ pop k x + 1 := by
  rcases Nat.mod_two_eq_zero_or_one (x / 2 ^ r) with h | h
  · rw [pop_or k x r hr h]; omega
  · have e : x ||| 2 ^ r = x := by
      refine Nat.eq_of_testBit_eq fun i => ?_
      rw [Nat.testBit_or]
      by_cases q : i = r
      · subst q
        rw [Nat.testBit_two_pow_self, Bool.or_true, Nat.testBit_eq_decide_div_mod_eq, decide_eq_true h]
      · rw [Nat.testBit_two_pow_of_ne (fun z => q z.symm), Bool.or_false]
    rw [e]; omega
section LA3
variable {I X Y Z : MI} {J : MJ} {sl sd : Nat} {p : CF} {tb : Nat → Nat} {n : Nat}
theorem oP_lt (ho : CO p) : ∀ k, o_ps p tb k → ∀ c, o_P tb k c < 2 ^ cR p ∧ (cC p ≤ c → o_P tb k c = 0) := by
  intro k
  induction k with
  | zero => intro _ c; exact ⟨Nat.two_pow_pos _, fun _ => rfl⟩
  | succ k ih =>
    intro h c
    obtain ⟨h1, h2⟩ := ih (fun j hj => h j (by omega)) c
    have g := (h k (by omega)).1
    simp only [o_P]
    by_cases e : c = tb (3 + 2 * k)
    · rw [if_pos e]
      refine ⟨Nat.or_lt_two_pow h1 (Nat.pow_lt_pow_right (by decide) g.2), fun hc => ?_⟩
      have := g.1
      omega
    · rw [if_neg e]; exact ⟨h1, h2⟩
theorem oP_sum (ho : CO p) : ∀ k, o_ps p tb k → sm (fun c => pop 32 (o_P tb k c)) 6 ≤ k := by
  have hC := ho.1; have hR := ho.2.1
  intro k
  induction k with
  | zero => intro _; show sm (fun _ => pop 32 0) 6 ≤ 0; decide
  | succ k ih =>
    intro h
    have h1 := ih (fun j hj => h j (by omega))
    have g := (h k (by omega)).1
    have g1 := g.1; have g2 := g.2
    have le : sm (fun c => pop 32 (o_P tb (k + 1) c)) 6 ≤ sm (fun c => pop 32 (o_P tb k c) + if c = tb (3 + 2 * k) then 1 else 0) 6 := by
      refine sm_le2 fun c _ => ?_
      simp only [o_P]
      by_cases e : c = tb (3 + 2 * k)
      · rw [if_pos e, if_pos e]; exact pop_or_le 32 _ _ (by omega)
      · rw [if_neg e, if_neg e]; omega
    rw [sm_a, sm_one (by omega)] at le
    omega
theorem o_O (ho : CO p) (hb : ∀ j, j < n → tb j < 256) (g : o_G p tb n) (hR4 : 0 < cR p) : WO p (o_w p tb) ∧ WX p (o_w p tb) := by
  have hC := ho.1; have hR := ho.2.1; have hF := ho.2.2.1
  obtain ⟨⟨g0, g1, g2⟩, g3, g4, g5, g6⟩ := g
  have h30 : 2 ^ cR p ≤ 2 ^ 30 := Nat.pow_le_pow_right (by decide) hR
  have hP := oP_lt ho (tb 2) g5
  have eN : n_pst (o_w p tb) = sm (fun c => pop 32 (o_P tb (tb 2) c)) 6 := by
    unfold n_pst
    refine sm_c fun c _ => ?_
    show pop 32 (nI (o_P tb (tb 2) c)).toNatClampNeg = _
    rw [nI_clamp (by have := (hP c).1; omega)]
  refine ⟨⟨⟨nI_pos' (by omega), nI_le (b := 2000) (by omega) (by decide)⟩, fun f => ?_, fun f => ?_, fun c => ?_, fun f c => ?_, fun f c h => ?_⟩, ⟨fun f hf => ?_, fun c hc => ?_, fun c => ?_, nI_le (b := 999) g4 (by decide), ?_⟩⟩
  · show (if f < cF p then nI (tb (o_at p tb f + 1)) else 0) = 0 ∨ (if f < cF p then nI (tb (o_at p tb f + 1)) else 0) = 1
    split
    · rename_i hf
      have := (g6 f hf).2.1
      rcases (by omega : tb (o_at p tb f + 1) = 0 ∨ tb (o_at p tb f + 1) = 1) with e | e <;> rw [e]
      · exact Or.inl rfl
      · exact Or.inr rfl
    · exact Or.inl rfl
  · show 0 ≤ (if f < cF p then nI (tb (o_at p tb f)) else 0) ∧ (if f < cF p then nI (tb (o_at p tb f)) else 0) ≤ 99
    split
    · rename_i hf
      have := (g6 f hf).1
      exact ⟨nI_pos' (by omega), nI_le (b := 99) this (by decide)⟩
    · exact ⟨by decide, by decide⟩
  · have := (hP c).1
    exact ⟨nI_pos' (by omega), nI_lt (b := 1073741824) (by omega) (by decide)⟩
  · show -1 ≤ (if (f < cF p ∨ (f = cF p ∧ c < 0)) ∧ c < cC p then s_v (tb (o_at p tb f + 2 + c)) else -1) ∧ (if (f < cF p ∨ (f = cF p ∧ c < 0)) ∧ c < cC p then s_v (tb (o_at p tb f + 2 + c)) else -1) < nI (cR p) ∨ (if (f < cF p ∨ (f = cF p ∧ c < 0)) ∧ c < cC p then s_v (tb (o_at p tb f + 2 + c)) else -1) = -1
    split
    · rename_i h
      unfold s_v
      split
      · exact Or.inr rfl
      · rename_i h255
        rcases (g6 f (by omega)).2.2 c h.2 with e | e
        · refine Or.inl ⟨?_, nI_lt e (by omega)⟩
          have := nI_pos' (n := tb (o_at p tb f + 2 + c)) (by omega)
          grind
        · exact absurd e h255
    · exact Or.inr rfl
  · show (if (f < cF p ∨ (f = cF p ∧ c < 0)) ∧ c < cC p then s_v (tb (o_at p tb f + 2 + c)) else -1) = -1
    rw [if_neg (by omega)]
  · show (if f < cF p then nI (tb (o_at p tb f + 1)) else 0) = 0
    rw [if_neg (by omega)]
  · show nI (o_P tb (tb 2) c) = 0
    rw [(hP c).2 hc]; rfl
  · exact nI_lt (hP c).1 (by omega)
  · rw [eN]
    exact Nat.le_trans (oP_sum ho (tb 2) g5) g1
theorem plc_n (ho : CO p) {a b : Nat} (ha : a < 256) (hb : b < 256) : b_plc p (nI a) (nI b) ↔ a < cC p ∧ b < cR p := by
  have hC := ho.1; have hR := ho.2.1
  unfold b_plc
  rw [nI_ltI (by omega) (by omega), nI_ltI (by omega) (by omega)]
  exact ⟨fun h => ⟨h.1.2, h.2.2⟩, fun h => ⟨⟨nI_pos' (by omega), h.1⟩, nI_pos' (by omega), h.2⟩⟩
theorem TP_c (h : TP I n tb) (e1 : X 178 = I 178) (e2 : X 2 = I 2) : TP X n tb := by
  unfold TP; rw [e1, e2]; exact h
theorem ad2 (a k : Nat) : nI a + (2 : Int32) * nI k = nI (a + 2 * k) := by
  have : (2 : Int32) * nI k = nI (2 * k) := nI_m3 2 k
  rw [this, nI_add]
/-- the class reads the posts -/
theorem posts_r (ho : CO p) (hc : CC X sl p) (hq : sl = 3 ∨ sl = 11) (hT : TP X n tb) (h1 : X 1 1 = nI n) {P : Nat} (hP : P ≤ 24) (hn : 4 + 2 * P ≤ n) (h33 : ∀ c, c < 6 → X 33 c = 0) : ok (F_Image_readPosts sl X (nI P)) (fun r => (∀ q, q ≠ 33 → r.2 q = X q) ∧ ((o_ps p tb P ∧ r.1 = 1 ∧ ∀ c, c < 6 → r.2 33 c = nI (o_P tb P c)) ∨ (¬ o_ps p tb P ∧ r.1 = 0))) := by
  have hC := ho.1; have hR := ho.2.1
  have loop : ∀ d k (Y : MI) (v : Int32), k + d = P → o_ps p tb k → v = (if k = 0 then -1 else nI (o_or tb (k - 1))) → (∀ c, c < 6 → Y 33 c = nI (o_P tb k c)) → (∀ q, q ≠ 33 → Y q = X q) → ok (wl (fun s : Int32 × Int32 × MI => F_Image_readPosts_6 sl s.2.2 (nI P) s.1 s.2.1) (v, nI k, Y)) (Sum.elim (fun Z : MI => (∀ q, q ≠ 33 → Z q = X q) ∧ o_ps p tb P ∧ ∀ c, c < 6 → Z 33 c = nI (o_P tb P c)) (fun r : Int32 × MI => (∀ q, q ≠ 33 → r.2 q = X q) ∧ ¬ o_ps p tb P ∧ r.1 = 0)) := by
    intro d
    induction d with
    | zero =>
      intro k Y v hk hps hv h3 hy
      have hk : k = P := by omega
      subst hk
      refine ok_e (x := (Sum.inl Y : MI ⊕ (Int32 × MI))) (wl_in ?_) ⟨hy, hps, h3⟩
      simp only [F_Image_readPosts_6]
      rw [if_pos (Int32.le_refl _)]
    | succ d ih =>
      intro k Y v hk hps hv h3 hy
      have tY : TP Y n tb := TP_c hT (hy 178 (by decide)) (hy 2 (by decide))
      have e1 : Y 1 1 = nI n := by rw [hy 1 (by decide)]; exact h1
      have cY : CC Y sl p := CC_c hc (fun q a b => hy q (by omega))
      have b1 := (hT.2 (3 + 2 * k) (by omega)).1
      have b2 := (hT.2 (4 + 2 * k) (by omega)).1
      have a3 : (3 : Int32) + (2 : Int32) * nI k = nI (3 + 2 * k) := ad2 3 k
      have a4 : (4 : Int32) + (2 : Int32) * nI k = nI (4 + 2 * k) := ad2 4 k
      have a30 : nI (tb (3 + 2 * k)) * (30 : Int32) + nI (tb (4 + 2 * k)) = nI (o_or tb k) := by
        have : nI (tb (3 + 2 * k)) * (30 : Int32) = nI (tb (3 + 2 * k) * 30) := nI_m3 _ 30
        rw [this, nI_add]
        unfold o_or
        congr 1; omega
      have st : F_Image_readPosts_6 sl Y (nI P) v (nI k) = @ite _ (o_pl p tb k) (Classical.propDecidable _) (if v < nI (o_or tb k) then some (.inl (nI (o_or tb k), nI (k + 1), gI_Lay_drive Y 31 (nI (tb (3 + 2 * k))) (nI (tb (4 + 2 * k))))) else some (.inr (.inr (0, Y)))) (some (.inr (.inr (0, Y)))) := by
        unfold F_Image_readPosts_6
        rw [if_neg (nI_ge (by omega) (by omega)), a3, a4, byte_c tY e1 (by omega), byte_c tY e1 (by omega)]
        simp only [Option.bind_some]
        rw [hasPlace_c cY, a30, nI_s]
        by_cases q : o_pl p tb k
        · rw [if_pos ((plc_n ho b1 b2).mpr q), if_neg (by decide), if_pos q]
        · rw [if_neg (fun z => q ((plc_n ho b1 b2).mp z)), if_pos rfl, if_neg q]
      by_cases q : o_pl p tb k
      · rw [if_pos q] at st
        have q1 := q.1; have q2 := q.2
        have or_le : o_or tb k < 2 ^ 31 := by unfold o_or; omega
        have vlt : v < nI (o_or tb k) ↔ (k = 0 ∨ o_or tb (k - 1) < o_or tb k) := by
          rw [hv]
          by_cases k0 : k = 0
          · rw [if_pos k0]
            refine ⟨fun _ => Or.inl k0, fun _ => ?_⟩
            have := nI_pos' or_le
            grind
          · rw [if_neg k0, nI_ltI (by unfold o_or; have := (hT.2 (3 + 2 * (k - 1)) (by omega)).1; have := (hT.2 (4 + 2 * (k - 1)) (by omega)).1; omega) or_le]
            exact ⟨fun h => Or.inr h, fun h => h.resolve_left k0⟩
        by_cases q3 : v < nI (o_or tb k)
        · rw [if_pos q3] at st
          have eD : gI_Lay_drive Y 31 (nI (tb (3 + 2 * k))) (nI (tb (4 + 2 * k))) = m_up Y 33 (tb (3 + 2 * k)) ((Y 33 (tb (3 + 2 * k))) ||| ((1 : Int32) <<< (nI (tb (4 + 2 * k)) &&& 31))) := by
            unfold gI_Lay_drive
            rw [if_neg (nI_pos (by omega)), if_neg (show ¬ (6 : Int32) ≤ nI _ from nI_ge (b := 6) (by omega) (by decide)), if_neg (nI_pos (by omega)), if_neg (show ¬ (30 : Int32) ≤ nI _ from nI_ge (b := 30) (by omega) (by decide)), nI_clamp (by omega)]
          rw [eD] at st
          have e2 : wl (fun s : Int32 × Int32 × MI => F_Image_readPosts_6 sl s.2.2 (nI P) s.1 s.2.1) (v, nI k, Y) = wl (fun s : Int32 × Int32 × MI => F_Image_readPosts_6 sl s.2.2 (nI P) s.1 s.2.1) (nI (o_or tb k), nI (k + 1), m_up Y 33 (tb (3 + 2 * k)) ((Y 33 (tb (3 + 2 * k))) ||| ((1 : Int32) <<< (nI (tb (4 + 2 * k)) &&& 31)))) := wl_st st
          rw [e2]
          refine ih (k + 1) _ _ (by omega) (fun j hj => ?_) (by rw [if_neg (by omega)]; rfl) (fun c hc2 => ?_) (fun z hz => (up_k _ _ _ hz).trans (hy z hz))
          · by_cases e : j = k
            · subst e; exact ⟨q, vlt.mp q3⟩
            · exact hps j (by omega)
          · simp only [o_P]
            by_cases e : c = tb (3 + 2 * k)
            · rw [if_pos e, ← e, up_e, h3 c hc2, one_shl (by omega), nx_or]
            · rw [if_neg e, up_j _ _ _ e]; exact h3 c hc2
        · rw [if_neg q3] at st
          exact ok_e (x := (Sum.inr (0, Y) : MI ⊕ (Int32 × MI))) (wl_in st) ⟨hy, fun z => q3 (vlt.mpr (z k (by omega)).2), rfl⟩
      · rw [if_neg q] at st
        exact ok_e (x := (Sum.inr (0, Y) : MI ⊕ (Int32 × MI))) (wl_in st) ⟨hy, fun z => q (z k (by omega)).1, rfl⟩
  unfold F_Image_readPosts
  refine ok_b (loop P 0 X (-1) (by omega) (fun j hj => by omega) rfl (fun c hc2 => by rw [h33 c hc2]; rfl) (fun _ _ => rfl)) ?_
  rintro (Z | ⟨r1, Z⟩) h
  · exact ok_s ⟨h.1, Or.inl ⟨h.2.1, rfl, h.2.2⟩⟩
  · exact ok_s ⟨h.1, Or.inr ⟨h.2.1, h.2.2⟩⟩
end LA3
