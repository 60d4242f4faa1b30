/-! lines of a slope -/
section LD3
variable {I X Y Z V : MI} {J : MJ} {sd n e td cn : Nat} {b : Bool} {tb : Nat → Nat} {p : CF} {w : WD} {nm : Nat → List Nat} {L : List Nat}
theorem RS_u (h : RS X tb n e b) {k j : Nat} {v : Int32} (hk : k ≠ 1 ∧ k ≠ 2 ∧ k ≠ 19) : RS (m_up X k j v) tb n e b := by
  refine ⟨CTp_c h.1 (by rw [up_k _ _ _ (by omega)]) (by rw [up_k _ _ _ (by omega)]) (by rw [up_k _ _ _ (by omega)]) (by rw [up_k _ _ _ (by omega)]), ?_, h.2.2⟩
  have := h.2.1
  unfold TK at this ⊢
  rw [up_k _ _ _ (show (19 : Nat) ≠ k by omega)]; exact this
theorem DrC_u (hq : sd = 3 ∨ sd = 11) {p' : CF} {w' : WD} {nm' : Nat → List Nat} (h : DrC X sd p w td nm L cn) {k j : Nat} {v : Int32} (hk : sd < k ∧ k < sd + 7) (hc : CC (m_up X k j v) sd p') (hw : WC (m_up X k j v) (sd + 3) w') (hn : ∀ f, f < cF p' → ∀ i, i < 6 → (m_up X k j v) (sd + 2) (6 * f + i) = nI ((nm' f).getD i 0)) (hW : cW p' = cW p) (hT : cT p' = cT p) : DrC (m_up X k j v) sd p' w' td nm' L cn := by
  obtain ⟨-, h2, -, h4, h5⟩ := h
  refine ⟨⟨hc, hw⟩, ?_, hn, ?_, ?_⟩
  · rw [up_k _ _ _ (show sd ≠ k by omega)]; exact h2
  · rw [hW, hT]
    unfold rgC at h4 ⊢
    rw [up_k _ _ _ (show sd ≠ k by omega)]; exact h4
  · rw [up_k _ _ _ (show 19 ≠ k by omega), up_k _ _ _ (show sd + 7 ≠ k by omega)]; exact h5
theorem CC_u (h : CC X sd p) {k j : Nat} {v : Int32} (h1 : sd ≠ k) (h2 : sd + 1 ≠ k) : CC (m_up X k j v) sd p := by
  unfold CC at h ⊢
  rw [up_k _ _ _ h1, up_k _ _ _ h2]; exact h
theorem WC_u (h : WC X (sd + 3) w) {k j : Nat} {v : Int32} (h1 : k < sd + 3 ∨ sd + 6 < k) : WC (m_up X k j v) (sd + 3) w := by
  unfold WC at h ⊢
  rw [up_k _ _ _ (show sd + 3 ≠ k by omega), up_k _ _ _ (show sd + 3 + 1 ≠ k by omega), up_k _ _ _ (show sd + 3 + 2 ≠ k by omega), up_k _ _ _ (show sd + 3 + 3 ≠ k by omega)]; exact h
def p_st (p : CF) (c : Nat) (v : Int32) : CF := (cC p, cR p, cF p, fun c' => if c' = c then v else cS p c', cW p, cT p)
/-- a number, both sides; the reference may have failed before -/
theorem numF {k at' : Nat} (h : MFt Y k at') (hk : 1 ≤ k ∧ k < 100) (x y : Int32) : F_MD_number Y x y = some (0, Y) := num_b (mf_ne h hk.1 hk.2)
theorem steep_j (hq : sd = 3 ∨ sd = 11) (h : RS X tb n e b) (hk : kd tb n e b = 256) (hd : DrC X sd p w td nm L cn) (hi : DrI p w td nm L) (hl : L.length ≤ e) : JL (F_Reader_steepLine sd X) (fun Y J => (F_MD_steepTold Y).bind fun r => some (r, J)) X sd tb n e (tke tb n e) true p w td nm L cn := by
  have hb : ∀ j, j < n → tb j < 256 := fun j hj => (h.1.2.2.1 j hj).1
  obtain ⟨ql, -⟩ := (kd_256 hb).mp hk
  have tg := tke_gt ql
  have sg := sk_ge (tb := tb) (n := n) e
  obtain ⟨⟨ho, hC1, hR4, hQ⟩, hi2, hi3, hi4, hi5⟩ := hi
  have hC := ho.1
  obtain ⟨A, ea, a1, a2⟩ := word_x (sd := sd) h hk
  have dA := DrC_R hq hd a2
  have eC : A sd 1 - 1 = nI (cC p - 1) := by rw [dA.1.1.1]; exact nI_subN (a := cC p) (b := 1) hC1
  have eM : ∀ {Y : MI} {J : MJ}, DrM Y J p w td nm L cn → Y 204 0 - 1 = nI (cC p - 1) := fun hD => by rw [hD.1.1]; exact nI_subN (a := cC p) (b := 1) hC1
  obtain ⟨⟨r1, V⟩, ev, v1, v2⟩ := num_c (sd := sd) a1 (a := 0) (m := cC p - 1) (by decide) (by omega)
  have ev : F_Reader_number sd A 0 (nI (cC p - 1)) = some (r1, V) := ev
  have v1 : fsL LN V A := v1
  unfold F_Reader_steepLine
  rw [ea]
  simp only [Option.bind_some]
  rw [eC, ev]
  simp only [Option.bind_some]
  have fV : FC sd V X := FC_t (FC_N v1) (FC_R a2)
  have dV : DrC V sd p w td nm L cn := DrC_N hq dA v1
  rcases v2 with ⟨g1, g2, g3, g4, g5⟩ | ⟨k, at', g1, g2, g3⟩
  · have g2 : r1 = 1 := g2
    have g3 : RS V tb n (tke tb n (tke tb n e)) true := g3
    have g4 : V 19 10 = nI (n_val tb n (tke tb n e)) := g4
    obtain ⟨c1, c2, c3⟩ := nf_v g1
    obtain ⟨q2, -, -⟩ := digs hb a1.2.2 c1
    have sg2 := sk_ge (tb := tb) (n := n) (tke tb n e)
    rw [g2, if_neg (by decide), g4]
    obtain ⟨⟨r3, U⟩, eu, u1, u2⟩ := num_c (sd := sd) g3 (a := 0) (m := 9) (by decide) (by decide)
    have eu : F_Reader_number sd V 0 9 = some (r3, U) := eu
    have u1 : fsL LN U V := u1
    rw [eu]
    simp only [Option.bind_some]
    have fU : FC sd U X := FC_t (FC_N u1) fV
    have dU : DrC U sd p w td nm L cn := DrC_N hq dV u1
    -- the reference's first number
    have mY : ∀ Y J, QP Y tb n (tke tb n e) true → DrM Y J p w td nm L cn → ∃ U1, F_MD_number Y 0 (Y 204 0 - 1) = some (nI (n_val tb n (tke tb n e)), U1) ∧ QP U1 tb n (tke tb n (tke tb n e)) true ∧ fsL LM U1 Y := by
      intro Y J hY hD
      obtain ⟨⟨x, U1⟩, ex, x1, x2⟩ := num_m hY (a := 0) (m := cC p - 1) (by decide) (by omega)
      have ex : F_MD_number Y 0 (nI (cC p - 1)) = some (x, U1) := ex
      rcases x2 with ⟨-, z2, z3, -⟩ | ⟨k, at', z1, -⟩
      · have z2 : x = nI (n_val tb n (tke tb n e)) := z2
        exact ⟨U1, by rw [eM hD, ex, z2], z3, x1⟩
      · rw [g1] at z1; cases z1
    rcases u2 with ⟨w1, w2, w3, w4, w5⟩ | ⟨k, at', w1, w2, w3⟩
    · have w2 : r3 = 1 := w2
      have w3 : RS U tb n (tke tb n (tke tb n (tke tb n e))) true := w3
      have w4 : U 19 10 = nI (n_val tb n (tke tb n (tke tb n e))) := w4
      obtain ⟨c4, c5, c6⟩ := nf_v w1
      obtain ⟨q3, -, -⟩ := digs hb g3.2.2 c4
      have sg3 := sk_ge (tb := tb) (n := n) (tke tb n (tke tb n e))
      rw [w2, if_neg (by decide), if_neg (nI_pos (by omega)), if_neg (show ¬ (6 : Int32) ≤ nI (n_val tb n (tke tb n e)) from nI_ge (b := 6) (by omega) (by decide)), gd_n (by omega) (by decide), nI_clamp (by omega), w4]
      left
      refine ⟨_, true, p_st p (n_val tb n (tke tb n e)) (nI (n_val tb n (tke tb n (tke tb n e)))), w, td, nm, L, _, rfl, RS_u w3 (by omega), by omega, DrC_u hq dU (by omega) ?_ (WC_u dU.1.2 (by omega)) (fun f hf i hi => by rw [up_k _ _ _ (by omega)]; exact dU.2.2.1 f hf i hi) rfl rfl, ⟨⟨⟨ho.1, ho.2.1, ho.2.2.1, fun c => ?_⟩, hC1, hR4, hQ⟩, hi2, hi3, hi4, hi5⟩, FC_up (by omega) fU, by omega, fun Y J hY hD => ?_⟩
      · obtain ⟨k1, k2, k3, k4⟩ := dU.1.1
        refine ⟨by rw [up_k _ _ _ (by omega)]; exact k1, by rw [up_k _ _ _ (by omega)]; exact k2, by rw [up_k _ _ _ (by omega)]; exact k3, fun c hc => ?_⟩
        show m_up U (sd + 1) _ _ (sd + 1) c = if c = n_val tb n (tke tb n e) then _ else cS p c
        by_cases z : c = n_val tb n (tke tb n e)
        · subst z; rw [if_pos rfl, up_e]
        · rw [if_neg z, up_j _ _ _ z]; exact k4 c hc
      · show 0 ≤ (if c = n_val tb n (tke tb n e) then _ else cS p c) ∧ (if c = n_val tb n (tke tb n e) then _ else cS p c) ≤ 9
        split
        · exact ⟨nI_pos' (by omega), nI_le (b := 9) c6 (by decide)⟩
        · exact ho.2.2.2 c
      · obtain ⟨U1, y1, y2, y3⟩ := mY Y J hY hD
        obtain ⟨⟨x, U2⟩, ex, x1, x2⟩ := num_m y2 (a := 0) (m := 9) (by decide) (by decide)
        have ex : F_MD_number U1 0 9 = some (x, U2) := ex
        have x1 : fsL LM U2 U1 := x1
        rcases x2 with ⟨-, z2, z3, -⟩ | ⟨k, at', z1, -⟩
        · have z2 : x = nI (n_val tb n (tke tb n (tke tb n e))) := z2
          have z3 : QP U2 tb n (tke tb n (tke tb n (tke tb n e))) true := z3
          have d2 := DrM_M (DrM_M hD y3) x1
          have f3 : fsL [(207, none)] (m_up U2 207 (n_val tb n (tke tb n e)) x) U2 := fs_up (LX := [(207, none)]) (by decide) (by simp [inL]) (fs_r U2)
          have f4 : FS U2 Y := FS_t (FS_M x1) (FS_M y3)
          refine ⟨m_up U2 207 (n_val tb n (tke tb n e)) x, J, ?_, QP_f z3 f3 (by decide) (by decide +kernel), ?_, ⟨?_, fun j hj => by rw [up_k _ _ _ (by decide)]; exact f4.2 j hj⟩, FJ_r J⟩
          · show (F_MD_steepTold Y).bind _ = _
            unfold F_MD_steepTold
            rw [y1]
            simp only [Option.bind_some]
            rw [ex]
            simp only [Option.bind_some]
            rw [if_pos z3.1.1, gd_n (by omega) (by decide), nI_clamp (by omega)]; rfl
          · unfold DrM rgM at d2 ⊢
            rw [fs_k f3 (k := 204) (by decide), fs_k f3 (k := 205) (by decide), fs_k f3 (k := 208) (by decide), fs_k f3 (k := 209) (by decide), fs_k f3 (k := 210) (by decide), fs_k f3 (k := 211) (by decide), fs_k f3 (k := 212) (by decide), fs_k f3 (k := 177) (by decide)]
            refine ⟨d2.1, ⟨fun c hc => ?_, d2.2.1.2⟩, d2.2.2⟩
            show m_up U2 207 (n_val tb n (tke tb n e)) x 207 c = if c = n_val tb n (tke tb n e) then _ else cS p c
            by_cases z : c = n_val tb n (tke tb n e)
            · subst z; rw [if_pos rfl, up_e]; exact z2
            · rw [if_neg z, up_j _ _ _ z]; exact d2.2.1.1 c hc
          · refine fs_up (LX := LSl) (by decide) ?_ f4.1
            have c6 : n_val tb n (tke tb n e) < 6 := by omega
            generalize n_val tb n (tke tb n e) = c at c6
            rcases (by omega : c = 0 ∨ c = 1 ∨ c = 2 ∨ c = 3 ∨ c = 4 ∨ c = 5) with z | z | z | z | z | z <;> subst z <;> decide
        · rw [w1] at z1; cases z1
    · have w2 : r3 = 0 := w2
      have w3 : FTt U k at' := w3
      right
      refine ⟨k, at', U, by rw [w2, if_pos rfl], w3, fU, nf_k w1, fun Y J hY hD => ?_⟩
      obtain ⟨U1, y1, y2, y3⟩ := mY Y J hY hD
      obtain ⟨⟨x, U2⟩, ex, x1, x2⟩ := num_m y2 (a := 0) (m := 9) (by decide) (by decide)
      have ex : F_MD_number U1 0 9 = some (x, U2) := ex
      have x1 : fsL LM U2 U1 := x1
      rcases x2 with ⟨z1, -⟩ | ⟨k2, at2, z1, z2⟩
      · rw [w1] at z1; cases z1
      · rw [w1] at z1
        cases z1
        have z2 : MFt U2 k at' := z2
        refine ⟨U2, J, ?_, z2, FS_t (FS_M x1) (FS_M y3), FJ_r J⟩
        show (F_MD_steepTold Y).bind _ = _
        unfold F_MD_steepTold
        rw [y1]
        simp only [Option.bind_some]
        rw [ex]
        simp only [Option.bind_some]
        rw [if_neg (mf_ne z2 (nf_k w1).1 (nf_k w1).2)]; rfl
  · have g2 : r1 = 0 := g2
    have g3 : FTt V k at' := g3
    right
    refine ⟨k, at', V, by rw [g2, if_pos rfl], g3, fV, nf_k g1, fun Y J hY hD => ?_⟩
    obtain ⟨⟨x, U⟩, eu, u1, u2⟩ := num_m hY (a := 0) (m := cC p - 1) (by decide) (by omega)
    have eu : F_MD_number Y 0 (nI (cC p - 1)) = some (x, U) := eu
    have u1 : fsL LM U Y := u1
    rcases u2 with ⟨z1, -⟩ | ⟨k2, at2, z1, z2⟩
    · rw [g1] at z1; cases z1
    · rw [g1] at z1
      cases z1
      have z2 : MFt U k at' := z2
      refine ⟨U, J, ?_, z2, FS_M u1, FJ_r J⟩
      show (F_MD_steepTold Y).bind _ = _
      unfold F_MD_steepTold
      rw [eM hD, eu]
      simp only [Option.bind_some]
      rw [numF z2 (nf_k g1)]
      simp only [Option.bind_some]
      rw [if_neg (mf_ne z2 (nf_k g1).1 (nf_k g1).2)]; rfl
end LD3
