/-! lines of a slope: walks, roots -/
def p_c (p : CF) (v : Nat) (cs : List Nat) : CF := (cC p, cR p, cF p, cS p, if v = 0 then cs else cW p, if v = 0 then cT p else cs)
section LD9
variable {I X Y Z V A : MI} {J : MJ} {sd n e td cn : Nat} {b : Bool} {tb : Nat → Nat} {p : CF} {w : WD} {nm : Nat → List Nat} {L : List Nat} {F : Option (Int32 × MI)} {G : MI → Option MI}
theorem rgC_m {a b : Nat} {cs ds : List Nat} (h : rgC X sd a b L cs) (ea : Y sd a = X sd a) (eb : Y sd b = X sd b) : rgC Y sd a b (L ++ ds) cs := by
  unfold rgC at h ⊢
  rw [ea, eb]
  split at h
  · rename_i z; rw [if_pos z]; exact h
  · rename_i z
    rw [if_neg z]
    obtain ⟨i, h1, h2, h3, h4⟩ := h
    refine ⟨i, h1, h2, by rw [List.length_append]; omega, fun j hj => ?_⟩
    rw [getD_l (by omega)]; exact h4 j hj
theorem rgM_m {v : Nat} {cs ds : List Nat} (h : rgM X v L cs) (ea : Y 210 v = X 210 v) (eb : Y 211 v = X 211 v) : rgM Y v (L ++ ds) cs := by
  unfold rgM at h ⊢
  rw [ea, eb]
  split at h
  · rename_i z; rw [if_pos z]; exact h
  · rename_i z
    rw [if_neg z]
    obtain ⟨i, h1, h2, h3, h4⟩ := h
    refine ⟨i, h1, h2, by rw [List.length_append]; omega, fun j hj => ?_⟩
    rw [getD_l (by omega)]; exact h4 j hj
theorem blt_d (k m : Nat) : Nat.blt k m = decide (k < m) := by
  rw [Bool.eq_iff_iff, decide_eq_true_iff]
  exact ⟨fun z => by simpa using z, fun z => by simpa using z⟩
theorem al_w_e : al_w = q_a 0 := by
  funext k
  unfold al_w q_a
  rw [if_pos rfl]
  exact blt_d k 4
theorem al_r_e : al_r = q_a 1 := by
  funext k
  unfold al_r q_a
  rw [if_neg (by decide), if_pos rfl]
  have e1 := blt_d k 3
  have e2 : (k == 4) = decide (k = 4) := rfl
  rw [e1, e2]
/-- a row of codes, read on both sides -/
def codR (F : Option (Int32 × MI)) (G : MI → Option MI) (X : MI) (sd : Nat) (tb : Nat → Nat) (n e : Nat) (b : Bool) (L : List Nat) (v : Nat) : Prop :=
  (∃ e' b' cs X', F = some (1, X') ∧ CE X' sd tb n e' b' (L ++ cs) v ∧ FX sd X' X ∧ e < e' ∧ q_ty cs [] = some [decide (v = 1)] ∧ alk v cs ∧ ∀ Y, RE Y tb n e b [] [] 0 0 v → ∃ Y', G Y = some Y' ∧ RE Y' tb n e' b' [] cs 0 0 v ∧ fsL LQ2 Y' Y) ∨
  (∃ k at' X', F = some (0, X') ∧ FTt X' k at' ∧ FX sd X' X ∧ (1 ≤ k ∧ k < 100) ∧ ∀ Y, RE Y tb n e b [] [] 0 0 v → ∃ Y', G Y = some Y' ∧ MFt Y' k at' ∧ fsL LQ2 Y' Y)
theorem codR_s (hq : sd = 3 ∨ sd = 11) (h : CE X sd tb n e b L 0) : codR (F_Reader_sum0 sd X 0) F_MD_qSums X sd tb n e b L 0 := by
  rcases sum0_j hq (by decide) h with ⟨e1, b1, cs, X1, s1, s2, s3, s4, s5, s6, s7, s8, s9⟩ | ⟨k, at', X1, s1, s2, s3, s4, s5⟩
  · left
    refine ⟨e1, b1, cs, X1, s1, s2, s3, s5, s6 [] (by simp), s7, fun Y hY => ?_⟩
    exact s9 Y [] [] 0 hY tp_0
  · right
    refine ⟨k, at', X1, s1, s2, s3, s4, fun Y hY => ?_⟩
    obtain ⟨Y', y1, y2, y3⟩ := s5 Y [] [] 0 hY tp_0
    exact ⟨Y', y1, y2.1, y3⟩
theorem codR_t (hq : sd = 3 ∨ sd = 11) (h : CE X sd tb n e b L 1) : codR (F_Reader_test0 sd X 0) F_MD_qTest X sd tb n e b L 1 := by
  rcases test0_j hq (by decide) h with ⟨e1, b1, cs, X1, s1, s2, s3, s4, s5, s6, s7, s9⟩ | ⟨k, at', X1, s1, s2, s3, s4, s5⟩
  · left
    exact ⟨e1, b1, cs, X1, s1, s2, s3, s5, s6 [] (by simp), s7, fun Y hY => s9 Y [] hY⟩
  · right
    exact ⟨k, at', X1, s1, s2, s3, s4, fun Y hY => s5 Y [] hY⟩
/-- the reference puts the codes away -/
theorem cod92 {cs : List Nat} {l v : Nat} (hl : l + cs.length ≤ 1600) (B0 : MI) (h47 : B0 177 47 = nI l) (h92 : B0 177 92 = nI cs.length) (h244 : ∀ i, i < cs.length → B0 244 i = nI (cs.getD i 0)) : ∃ Z, wl (fun s : Int32 × MI => F_MD_codesTold_92 s.2 (nI v) s.1) ((0 : Int32), B0) = some Z ∧ fsL [(177, some 47), (212, none)] Z B0 ∧ Z 177 47 = nI (l + cs.length) ∧ ∀ j, Z 212 j = if l ≤ j ∧ j < l + cs.length then nI (cs.getD (j - l) 0) else B0 212 j := by
  have lp : ∀ d k (B : MI), k + d = cs.length → fsL [(177, some 47), (212, none)] B B0 → B 177 47 = nI (l + k) → (∀ j, B 212 j = if l ≤ j ∧ j < l + k then nI (cs.getD (j - l) 0) else B0 212 j) → ∃ Z, wl (fun s : Int32 × MI => F_MD_codesTold_92 s.2 (nI v) s.1) (nI k, B) = some Z ∧ fsL [(177, some 47), (212, none)] Z B0 ∧ Z 177 47 = nI (l + cs.length) ∧ ∀ j, Z 212 j = if l ≤ j ∧ j < l + cs.length then nI (cs.getD (j - l) 0) else B0 212 j := by
    intro d
    induction d with
    | zero =>
      intro k B hk b1 b2 b3
      have e6 : k = cs.length := by omega
      subst e6
      refine ⟨B, wl_in ?_, b1, b2, b3⟩
      show F_MD_codesTold_92 B (nI v) (nI cs.length) = _
      unfold F_MD_codesTold_92
      rw [b1 177 92 (by decide), h92, if_pos (Int32.le_refl _)]
    | succ d ih =>
      intro k B hk b1 b2 b3
      have st : F_MD_codesTold_92 B (nI v) (nI k) = some (.inl (nI (k + 1), m_up (m_up B 212 (l + k) (nI (cs.getD k 0))) 177 47 (nI (l + (k + 1))))) := by
        unfold F_MD_codesTold_92
        rw [b1 177 92 (by decide), h92, if_neg (nI_ge (by omega) (by omega)), b2, gd_n (by omega) (by decide), gd_n (by omega) (by decide), nI_clamp (by omega), nI_clamp (by omega), fs_k b1 (k := 244) (by decide), h244 k (by omega), nI_s, nI_s]; rfl
      obtain ⟨Z, z1, z2⟩ := ih (k + 1) (m_up (m_up B 212 (l + k) (nI (cs.getD k 0))) 177 47 (nI (l + (k + 1)))) (by omega) (fs_up (LX := [(177, some 47), (212, none)]) (by decide) (by decide) (fs_up (LX := [(212, none)]) (by decide) (by simp [inL]) b1)) (up_e _ _ _ _) (fun j => by
        rw [up_k _ _ _ (show (212 : Nat) ≠ 177 by decide)]
        by_cases z : j = l + k
        · subst z; rw [up_e, if_pos (by omega), show l + k - l = k by omega]
        · rw [up_j _ _ _ z, b3 j]
          by_cases y : l ≤ j ∧ j < l + k
          · rw [if_pos y, if_pos (by omega)]
          · rw [if_neg y, if_neg (by omega)])
      exact ⟨Z, (wl_st st).trans z1, z2⟩
  exact lp cs.length 0 B0 (by omega) (fs_r B0) h47 (fun j => by rw [if_neg (by omega)])
theorem ne_0 {cs : List Nat} {t : Bool} (h : q_ty cs [] = some [t]) : cs ≠ [] := fun z => by rw [z] at h; cases h
theorem cod72 {cs : List Nat} {v e' : Nat} {b' : Bool} (hv : v = 0 ∨ v = 1) (hY : RE Y tb n e' b' [] cs 0 0 v) (hD : DrM Y J p w td nm L cn) (hn : cs ≠ []) (hl : L.length + cs.length ≤ 1600) : ∃ Y', F_MD_codesTold_72 Y (nI v) = some Y' ∧ QP Y' tb n e' b' ∧ DrM Y' J (p_c p v cs) w td nm (L ++ cs) cn ∧ FS Y' Y := by
  have c4 : (nI v).toNatClampNeg = v := nI_clamp (by omega)
  have fB : fsL [(210, some 0), (210, some 1)] (m_up Y 210 v (nI L.length)) Y := by rcases hv with z | z <;> subst z <;> exact fs_up (LX := [(210, some 0), (210, some 1)]) (by decide) (by decide) (fs_r Y)
  obtain ⟨Z, z1, z2, z3, z4⟩ := cod92 (v := v) hl (m_up Y 210 v (nI L.length)) (by rw [up_k _ _ _ (by decide)]; exact hD.2.2.2.2.2.1) (by rw [up_k _ _ _ (by decide)]; exact hY.2.1.2.1.1) (fun i hi => by rw [up_k _ _ _ (by decide)]; exact hY.2.1.2.1.2 i hi)
  have fZ : fsL [(211, some 0), (211, some 1), (210, some 0), (210, some 1), (177, some 47), (212, none)] (m_up Z 211 v (nI (L.length + cs.length))) Y := by rcases hv with z | z <;> subst z <;> exact fs_up (LX := [(211, some 0), (211, some 1), (210, some 0), (210, some 1), (177, some 47), (212, none)]) (by decide) (by decide) (fs_tr (fs_sub (by decide) z2) (fs_sub (by decide) fB))
  have f212 : ∀ j, (m_up Z 211 v (nI (L.length + cs.length))) 212 j = if L.length ≤ j ∧ j < L.length + cs.length then nI (cs.getD (j - L.length) 0) else Y 212 j := fun j => by
    rw [up_k _ _ _ (by decide), z4 j, up_k _ _ _ (show (212 : Nat) ≠ 210 by decide)]
  refine ⟨m_up Z 211 v (nI (L.length + cs.length)), ?_, QP_f hY.1 fZ (by decide) (by decide +kernel), ?_, ⟨fs_sub (by decide) fZ, fun j hj => by rw [f212, if_neg (by omega)]⟩⟩
  · unfold F_MD_codesTold_72
    rw [if_pos hY.1.1.1, gd_n (by omega) (by decide), c4, hD.2.2.2.2.2.1, z1]
    simp only [Option.bind_some]
    rw [gd_n (by omega) (by decide), z3]
  · have k210 : ∀ u, u ≠ v → (m_up Z 211 v (nI (L.length + cs.length))) 210 u = Y 210 u := fun u hu => by rw [up_k _ _ _ (by decide), fs_k z2 (k := 210) (by decide), up_j _ _ _ hu]
    have k211 : ∀ u, u ≠ v → (m_up Z 211 v (nI (L.length + cs.length))) 211 u = Y 211 u := fun u hu => by rw [up_j _ _ _ hu, fs_k z2 (k := 211) (by decide), up_k _ _ _ (by decide)]
    have v210 : (m_up Z 211 v (nI (L.length + cs.length))) 210 v = nI L.length := by rw [up_k _ _ _ (by decide), fs_k z2 (k := 210) (by decide), up_e]
    have rgv : rgM (m_up Z 211 v (nI (L.length + cs.length))) v (L ++ cs) cs := by
      unfold rgM
      rw [if_neg hn]
      exact ⟨L.length, v210, up_e _ _ _ _, by rw [List.length_append]; exact Nat.le_refl _, fun j hj => getD_r j⟩
    refine ⟨?_, ?_, ?_, hD.2.2.2.1, ?_, ?_, fun i hi => ?_⟩
    · rw [fs_k fZ (k := 204) (by decide), fs_k fZ (k := 205) (by decide)]; exact hD.1
    · rw [fs_k fZ (k := 207) (by decide), fs_k fZ (k := 208) (by decide), fs_k fZ (k := 209) (by decide)]; exact hD.2.1
    · rw [fZ 177 42 (by decide), fZ 177 48 (by decide)]; exact hD.2.2.1
    · rcases hv with z | z
      · subst z
        exact ⟨rgv, rgM_m hD.2.2.2.2.1.2 (k210 1 (by decide)) (k211 1 (by decide))⟩
      · subst z
        exact ⟨rgM_m hD.2.2.2.2.1.1 (k210 0 (by decide)) (k211 0 (by decide)), rgv⟩
    · rw [up_k _ _ _ (by decide), z3, List.length_append]
    · rw [List.length_append] at hi
      rw [f212]
      by_cases z : i < L.length
      · rw [if_neg (by omega), getD_l z]; exact hD.2.2.2.2.2.2 i z
      · rw [if_pos (by omega)]
        have := getD_r (W := L) (W2 := cs) (i - L.length)
        rw [show L.length + (i - L.length) = i by omega] at this
        rw [this]
/-- the line -/
theorem code_j (hq : sd = 3 ∨ sd = 11) (h : RS X tb n e b) (hk : kd tb n e b = 256) (hd : DrC X sd p w td nm L cn) (hi : DrI p w td nm L) (hl : L.length ≤ e) {v : Nat} (hv : v = 0 ∨ v = 1) {S : MI → Option (Int32 × MI)} (hG : G = if v = 1 then F_MD_qTest else F_MD_qSums) (hS : ∀ X e b L, CE X sd tb n e b L v → codR (S X) G X sd tb n e b L v)
    (hF : F = if (X sd (10 + 2 * v)) ≤ (X sd (9 + 2 * v)) then ((F_Reader_advance sd X).bind fun r2 => (S (m_up (m_up (m_up r2 19 11 (nI (pmk v))) 19 12 (0 : Int32)) sd (9 + 2 * v) (r2 19 5))).bind fun r3 => gq (r3.1 = 0 ∨ r3.1 = 1) <| some ((r3.1 : Int32), m_up r3.2 sd (10 + 2 * v) (r3.2 19 5))) else ((F_Reader_wrong sd X (5 : Int32) (X 19 7)).bind fun r5 => gq (r5.1 = 0 ∨ r5.1 = 1) <| some ((r5.1 : Int32), r5.2))) :
    JL F (fun Y J => (F_MD_codesTold Y (nI v) (nI (sk tb n e))).bind fun r => some (r, J)) X sd tb n e (tke tb n e) true p w td nm L cn := by
  have hb : ∀ j, j < n → tb j < 256 := fun j hj => (h.1.2.2.1 j hj).1
  obtain ⟨ql, -⟩ := (kd_256 hb).mp hk
  have tg := tke_gt ql
  have sg := sk_ge (tb := tb) (n := n) e
  have n16 := h.1.2.1
  obtain ⟨⟨ho, hC1, hR4, hQ⟩, hi2, hi3, hi4, hi5⟩ := hi
  have c4 : (nI v).toNatClampNeg = v := nI_clamp (by omega)
  -- what was told before
  have old : ∃ cs, rgC X sd (9 + 2 * v) (10 + 2 * v) L cs ∧ (∀ Y J, DrM Y J p w td nm L cn → rgM Y v L cs) := by
    rcases hv with z | z
    · subst z; exact ⟨cW p, hd.2.2.2.1.1, fun Y J hD => hD.2.2.2.2.1.1⟩
    · subst z; exact ⟨cT p, hd.2.2.2.1.2, fun Y J hD => hD.2.2.2.2.1.2⟩
  obtain ⟨c0, o1, o2⟩ := old
  by_cases cz : c0 = []
  · unfold rgC at o1
    rw [if_pos cz] at o1
    rw [if_pos o1] at hF
    obtain ⟨A, ea, a1, a2⟩ := word_x (sd := sd) h hk
    have dA := DrC_R hq hd a2
    rw [ea] at hF
    simp only [Option.bind_some] at hF
    rw [dA.2.2.2.2.1] at hF
    have kA : ∀ q, q ≠ 19 → q ≠ sd → m_up (m_up (m_up A 19 11 (nI (pmk v))) 19 12 0) sd (9 + 2 * v) (nI L.length) q = A q := fun q x y => by rw [up_k _ _ _ y, up_k _ _ _ x, up_k _ _ _ x]
    have k19 : ∀ j, j ≠ 11 → j ≠ 12 → m_up (m_up (m_up A 19 11 (nI (pmk v))) 19 12 0) sd (9 + 2 * v) (nI L.length) 19 j = A 19 j := fun j x y => by rw [up_k _ _ _ (by omega), up_j _ _ _ y, up_j _ _ _ x]
    have ksd : ∀ j, j ≠ 9 + 2 * v → m_up (m_up (m_up A 19 11 (nI (pmk v))) 19 12 0) sd (9 + 2 * v) (nI L.length) sd j = A sd j := fun j x => by rw [up_j _ _ _ x, up_k _ _ _ (by omega), up_k _ _ _ (by omega)]
    have cE : CE (m_up (m_up (m_up A 19 11 (nI (pmk v))) 19 12 0) sd (9 + 2 * v) (nI L.length)) sd tb n (tke tb n e) true L v := by
      refine ⟨⟨CTp_c a1.1 (by rw [kA 1 (by decide) (by omega)]) (kA 2 (by decide) (by omega)) (k19 1 (by decide) (by decide)) (k19 2 (by decide) (by decide)), ?_, a1.2.2⟩, ⟨?_, fun i hi => ?_, by omega⟩, ?_, ?_⟩
      · have := a1.2.1
        unfold TK at this ⊢
        rw [k19 6 (by decide) (by decide), k19 7 (by decide) (by decide), k19 8 (by decide) (by decide), k19 9 (by decide) (by decide)]; exact this
      · rw [k19 5 (by decide) (by decide)]; exact dA.2.2.2.2.1
      · rw [kA (sd + 7) (by omega) (by omega)]; exact dA.2.2.2.2.2 i hi
      · rw [up_k _ _ _ (by omega), up_j _ _ _ (by decide), up_e]
      · rw [up_k _ _ _ (by omega), up_e]
        rcases hv with z | z <;> subst z <;> rfl
    have v9 : m_up (m_up (m_up A 19 11 (nI (pmk v))) 19 12 0) sd (9 + 2 * v) (nI L.length) sd (9 + 2 * v) = nI L.length := up_e _ _ _ _
    have fA : FC sd (m_up (m_up (m_up A 19 11 (nI (pmk v))) 19 12 0) sd (9 + 2 * v) (nI L.length)) X := fun q x y => by rw [kA q x (by omega)]; exact FC_R a2 q x y
    generalize m_up (m_up (m_up A 19 11 (nI (pmk v))) 19 12 0) sd (9 + 2 * v) (nI L.length) = B at *
    -- the reference begins
    have mY : ∀ Y J, QP Y tb n (tke tb n e) true → DrM Y J p w td nm L cn → ∃ U, RE U tb n (tke tb n e) true [] [] 0 0 v ∧ DrM U J p w td nm L cn ∧ FS U Y ∧ F_MD_codesTold Y (nI v) (nI (sk tb n e)) = (G U).bind fun r => F_MD_codesTold_72 r (nI v) := by
      intro Y J hY hD
      have o3 := o2 Y J hD
      unfold rgM at o3
      rw [if_pos cz] at o3
      have f5 : fsL LQ5 (m_up (m_up (m_up (m_up (m_up Y 177 50 (nI v)) 177 92 0) 177 94 0) 177 95 0) 177 96 0) Y := fs_up (LX := LQ5) (by decide) (by decide) (fs_up (LX := LQ5) (by decide) (by decide) (fs_up (LX := LQ5) (by decide) (by decide) (fs_up (LX := LQ5) (by decide) (by decide) (fs_up (LX := LQ5) (by decide) (by decide) (fs_r Y)))))
      have f6 : fsL [(177, some 50), (177, some 92), (177, some 94), (177, some 95), (177, some 96)] (m_up (m_up (m_up (m_up (m_up Y 177 50 (nI v)) 177 92 0) 177 94 0) 177 95 0) 177 96 0) Y := fs_up (LX := [(177, some 50), (177, some 92), (177, some 94), (177, some 95), (177, some 96)]) (by decide) (by decide) (fs_up (LX := [(177, some 50), (177, some 92), (177, some 94), (177, some 95), (177, some 96)]) (by decide) (by decide) (fs_up (LX := [(177, some 50), (177, some 92), (177, some 94), (177, some 95), (177, some 96)]) (by decide) (by decide) (fs_up (LX := [(177, some 50), (177, some 92), (177, some 94), (177, some 95), (177, some 96)]) (by decide) (by decide) (fs_up (LX := [(177, some 50), (177, some 92), (177, some 94), (177, some 95), (177, some 96)]) (by decide) (by decide) (fs_r Y)))))
      refine ⟨_, ⟨QP_f hY f6 (by decide) (by decide +kernel), ⟨⟨?_, fun i hi => absurd hi (by simp)⟩, ⟨?_, fun i hi => absurd hi (by simp)⟩, ?_, ?_⟩, ?_, by omega, by simp, by simp, fun x hx => (by cases hx), by decide⟩, DrM_q hD f5, FS_5 f5, ?_⟩
      · rw [up_j _ _ _ (by decide), up_j _ _ _ (by decide), up_e]; rfl
      · rw [up_j _ _ _ (by decide), up_j _ _ _ (by decide), up_j _ _ _ (by decide), up_e]; rfl
      · rw [up_j _ _ _ (by decide), up_e]; rfl
      · rw [up_e]; rfl
      · rw [up_j _ _ _ (by decide), up_j _ _ _ (by decide), up_j _ _ _ (by decide), up_j _ _ _ (by decide), up_e]
      · unfold F_MD_codesTold
        rw [if_pos hY.1.1, gd_n (by omega) (by decide), c4, if_pos o3]
        unfold F_MD_codesTold_23
        rw [if_pos hY.1.1, hG]
        rcases hv with z | z
        · subst z
          rw [if_neg (show ¬ (0 : Nat) = 1 by decide)]
          simp only [bnd]
          rw [if_neg (show ¬ nI 0 = (1 : Int32) by decide)]
        · subst z
          rw [if_pos (show (1 : Nat) = 1 from rfl)]
          simp only [bnd]
          rw [if_pos (show nI 1 = (1 : Int32) from rfl)]
    rcases hS B _ _ _ cE with ⟨e1, b1, cs, X1, s1, s2, s3, s5, s6, s7, s9⟩ | ⟨k, at', X1, s1, s2, s3, s4, s5⟩
    · rw [s1] at hF
      simp only [Option.bind_some] at hF
      rw [gq_e (Or.inr trivial), s2.2.1.1] at hF
      have hn := ne_0 s6
      have le : (L ++ cs).length ≤ e1 := s2.2.1.2.2
      have en := s2.1.2.2
      have le2 : L.length + cs.length ≤ e1 := by rw [← List.length_append]; exact le
      have kx : ∀ q, q ≠ 19 → q ≠ sd + 7 → q ≠ sd → m_up X1 sd (10 + 2 * v) (nI (L ++ cs).length) q = A q := fun q x y z => by rw [up_k _ _ _ z, s3.1 q x y, kA q x z]
      have kxs : ∀ j, j ≠ 9 + 2 * v → j ≠ 10 + 2 * v → m_up X1 sd (10 + 2 * v) (nI (L ++ cs).length) sd j = A sd j := fun j x y => by rw [up_j _ _ _ y, s3.1 sd (by omega) (by omega), ksd j x]
      have v9' : m_up X1 sd (10 + 2 * v) (nI (L ++ cs).length) sd (9 + 2 * v) = nI L.length := by rw [up_j _ _ _ (by omega), s3.1 sd (by omega) (by omega)]; exact v9
      left
      refine ⟨e1, b1, p_c p v cs, w, td, nm, L ++ cs, _, hF, RS_u s2.1 (by omega), le, ⟨⟨⟨?_, ?_, ?_, fun c hc => ?_⟩, ?_⟩, ⟨?_, ?_⟩, fun f hf i hi => ?_, ?_, ?_, fun i hi => ?_⟩, ⟨⟨ho, hC1, hR4, ?_⟩, hi2, hi3, hi4, by omega⟩, FC_up (by omega) (FC_t (FC_X s3) fA), by omega, fun Y J hY hD => ?_⟩
      · rw [kxs 1 (by omega) (by omega)]; exact dA.1.1.1
      · rw [kxs 2 (by omega) (by omega)]; exact dA.1.1.2.1
      · rw [kxs 3 (by omega) (by omega)]; exact dA.1.1.2.2.1
      · rw [kx (sd + 1) (by omega) (by omega) (by omega)]; exact dA.1.1.2.2.2 c hc
      · have := dA.1.2
        unfold WC at this ⊢
        rw [kx (sd + 3) (by omega) (by omega) (by omega), kx (sd + 3 + 1) (by omega) (by omega) (by omega), kx (sd + 3 + 2) (by omega) (by omega) (by omega), kx (sd + 3 + 3) (by omega) (by omega) (by omega)]; exact this
      · rw [kxs 0 (by omega) (by omega)]; exact dA.2.1.1
      · rw [kxs 4 (by omega) (by omega)]; exact dA.2.1.2
      · rw [kx (sd + 2) (by omega) (by omega) (by omega)]; exact dA.2.2.1 f hf i hi
      · have rgv : rgC (m_up X1 sd (10 + 2 * v) (nI (L ++ cs).length)) sd (9 + 2 * v) (10 + 2 * v) (L ++ cs) cs := by
          unfold rgC
          rw [if_neg hn]
          exact ⟨L.length, v9', by rw [up_e, List.length_append], by rw [List.length_append]; exact Nat.le_refl _, fun j hj => getD_r j⟩
        rcases hv with z | z
        · subst z
          exact ⟨rgv, rgC_m dA.2.2.2.1.2 (kxs 11 (by decide) (by decide)) (kxs 12 (by decide) (by decide))⟩
        · subst z
          exact ⟨rgC_m dA.2.2.2.1.1 (kxs 9 (by decide) (by decide)) (kxs 10 (by decide) (by decide)), rgv⟩
      · rw [up_k _ _ _ (by omega)]; exact s2.2.1.1
      · rw [up_k _ _ _ (by omega)]; exact s2.2.1.2.1 i hi
      · rcases hv with z | z
        · subst z
          refine ⟨Or.inr ⟨s6, ?_⟩, hQ.2⟩
          rw [al_w_e]; exact s7
        · subst z
          refine ⟨hQ.1, Or.inr ⟨s6, ?_⟩⟩
          rw [al_r_e]; exact s7
      · obtain ⟨U, y1, y2, y3, y4⟩ := mY Y J hY hD
        obtain ⟨Y1, x1, x2, x3⟩ := s9 U y1
        have f5 : fsL LQ5 Y1 U := fs_sub (by decide) x3
        obtain ⟨Y2, z1, z2, z3, z4⟩ := cod72 hv x2 (DrM_q y2 f5) hn (by omega)
        rw [x1] at y4
        simp only [Option.bind_some] at y4
        rw [z1] at y4
        exact ⟨Y2, J, by show (F_MD_codesTold Y (nI v) (nI (sk tb n e))).bind _ = _; rw [y4]; rfl, z2, z3, FS_t z4 (FS_t (FS_5 f5) y3), FJ_r J⟩
    · rw [s1] at hF
      simp only [Option.bind_some] at hF
      rw [gq_e (Or.inl trivial)] at hF
      right
      refine ⟨k, at', _, hF, ⟨by rw [up_k _ _ _ (by omega)]; exact s2.1, by rw [up_k _ _ _ (by omega)]; exact s2.2⟩, FC_up (by omega) (FC_t (FC_X s3) fA), s4, fun Y J hY hD => ?_⟩
      obtain ⟨U, y1, y2, y3, y4⟩ := mY Y J hY hD
      obtain ⟨Y1, x1, x2, x3⟩ := s5 U y1
      have f5 : fsL LQ5 Y1 U := fs_sub (by decide) x3
      rw [x1] at y4
      simp only [Option.bind_some] at y4
      unfold F_MD_codesTold_72 at y4
      rw [if_neg (mf_ne x2 s4.1 s4.2)] at y4
      exact ⟨Y1, J, by show (F_MD_codesTold Y (nI v) (nI (sk tb n e))).bind _ = _; rw [y4]; rfl, x2, FS_t (FS_5 f5) y3, FJ_r J⟩
  · unfold rgC at o1
    rw [if_neg cz] at o1
    obtain ⟨i, i1, i2, i3, -⟩ := o1
    have cl : 1 ≤ c0.length := by
      cases c0 with
      | nil => exact absurd rfl cz
      | cons a l => simp
    rw [i1, i2, if_neg (nI_ge (by omega) (by omega)), h.2.1.2.1, show (5 : Int32) = nI 5 from rfl, wrong_e] at hF
    simp only [Option.bind_some] at hF
    rw [gq_e (Or.inl trivial)] at hF
    right
    refine ⟨5, sk tb n e, wrm X 5 (sk tb n e), hF, wrm_t X 5 _, FC_N (wrm_f 5 _ (by decide)), ⟨by decide, by decide⟩, fun Y J hY hD => ?_⟩
    have o3 := o2 Y J hD
    unfold rgM at o3
    rw [if_neg cz] at o3
    obtain ⟨i', j1, -, j3, -⟩ := o3
    have ne : ¬ nI i' = -1 := fun y => by have := nI_pos' (n := i') (by omega); rw [y] at this; exact absurd this (by decide)
    have ff : F_MD_fail Y 5 (nI (sk tb n e)) = _ := fail_m hY.1.1 5 _
    have bt := fail_t Y 5 (sk tb n e)
    refine ⟨_, J, ?_, bt, FS_M (fail_f Y 5 _), FJ_r J⟩
    show (F_MD_codesTold Y (nI v) (nI (sk tb n e))).bind _ = _
    unfold F_MD_codesTold
    rw [if_pos hY.1.1, gd_n (by omega) (by decide), c4, j1, if_neg ne, ff]
    simp only [Option.bind_some]
    unfold F_MD_codesTold_23
    rw [if_neg (mf_ne bt (by decide) (by decide))]; rfl
end LD9
