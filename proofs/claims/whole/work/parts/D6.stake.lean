/-! lines of a slope: stake -/
def a_stk (w : WD) (f c : Nat) (v : Int32) : WD := (wY w, wK w, wA w, wP w, fun f' c' => if f' = f ∧ c' = c then v else wR w f' c')
section LD6
variable {I X Y Z V A : MI} {J : MJ} {sd n e td cn : Nat} {b : Bool} {tb : Nat → Nat} {p : CF} {w : WD} {nm : Nat → List Nat} {L : List Nat}
theorem nameOf_t (hF : cF p ≤ 6) (h0 : Y 205 0 = nI (cF p)) (v : Int64) : ∃ r, F_MD_nameOf Y J v = some r := by
  have lp : ∀ d k, k + d = cF p → ∃ r, wl (fun s : Int32 => F_MD_nameOf_2 Y J v s) (nI k) = some r := by
    intro d
    induction d with
    | zero =>
      intro k hk
      refine ⟨_, wl_in (?_ : F_MD_nameOf_2 Y J v (nI k) = some (.inr (.inl ())))⟩
      unfold F_MD_nameOf_2
      rw [h0, if_pos (nI_le (by omega) (by omega))]
    | succ d ih =>
      intro k hk
      have st : F_MD_nameOf_2 Y J v (nI k) = if lg_cmp (J 206 k) v = 0 then some (.inr (.inr (nI k))) else some (.inl (nI (k + 1))) := by
        unfold F_MD_nameOf_2
        rw [h0, if_neg (nI_ge (by omega) (by omega)), gd_n (by omega) (by decide), nI_clamp (by omega), nI_s]
      by_cases z : lg_cmp (J 206 k) v = 0
      · rw [if_pos z] at st
        exact ⟨_, wl_in st⟩
      · rw [if_neg z] at st
        obtain ⟨r, hr⟩ := ih (k + 1) (by omega)
        exact ⟨r, (wl_st st).trans hr⟩
  obtain ⟨r, hr⟩ := lp (cF p) 0 (by omega)
  have hr : wl (fun s : Int32 => F_MD_nameOf_2 Y J v s) 0 = some r := hr
  unfold F_MD_nameOf
  rw [hr]
  rcases r with r | r
  · exact ⟨-1, rfl⟩
  · exact ⟨r, rfl⟩
theorem st32_b (h : ¬ Y 177 5 = 0) (x : Int32) : F_MD_stakeTold_32 Y x = some Y := by
  unfold F_MD_stakeTold_32
  rw [num_b h]
  simp only [Option.bind_some]
  rw [asks_b h]
  simp only [Option.bind_some]
  rw [num_b h]
  simp only [Option.bind_some]
  rw [if_neg h]
theorem nam_o (hb : ∀ j, j < n → tb j < 256) (hk : kd tb n e b = 256) (h6 : tke tb n e - sk tb n e ≤ 6) : nmo (nam tb n e) := ⟨by rw [nam_len]; exact h6, nam_ok hb hk⟩
theorem stake_j (hq : sd = 3 ∨ sd = 11) (h : RS X tb n e b) (hk : kd tb n e b = 256) (hd : DrC X sd p w td nm L cn) (hi : DrI p w td nm L) (hl : L.length ≤ e) : JL (F_Reader_stakeLine sd X) (fun Y J => (F_MD_stakeTold Y J).bind fun r => some (r, J)) X sd tb n e (tke tb n e) true p w td nm L cn := by
  have hb : ∀ j, j < n → tb j < 256 := fun j hj => (h.1.2.2.1 j hj).1
  obtain ⟨ql, -⟩ := (kd_256 hb).mp hk
  have tg := tke_gt ql
  have sg := sk_ge (tb := tb) (n := n) e
  obtain ⟨⟨ho, hC1, hR4, hQ⟩, ⟨hv, hx, hy0, hk0, h12⟩, hi3, hi4, hi5⟩ := hi
  have hC := ho.1; have hR := ho.2.1; have hF := ho.2.2.1
  have hn : ∀ f, f < cF p → nmo (nm f) := fun f hf => hi4 f hf
  obtain ⟨A, ea, a1, a2⟩ := word_x (sd := sd) h hk
  have dA := DrC_R hq hd a2
  have eM : ∀ {Y : MI} {J : MJ}, DrM Y J p w td nm L cn → Y 204 0 - 1 = nI (cC p - 1) := fun hD => by rw [hD.1.1]; exact nI_subN (a := cC p) (b := 1) hC1
  have eM2 : ∀ {Y : MI} {J : MJ}, DrM Y J p w td nm L cn → Y 204 1 - 1 = nI (cR p - 1) := fun hD => by rw [hD.1.2.1]; exact nI_subN (a := cR p) (b := 1) (by omega)
  unfold F_Reader_stakeLine
  rw [ea]
  simp only [Option.bind_some]
  rcases name_j (sd := sd) a1 with ⟨c1, c2, c3, ev, v4⟩ | ⟨k, at', V, kk, ev, v1, v2, v3⟩
  · have no := nam_o hb c2 c3
    have fd := named_c (nm := nm) a1 c2 hF dA.1.1.2.2.1 dA.2.2.1 hn no
    rw [ev]
    simp only [Option.bind_some]
    rw [if_neg (by decide), fd]
    simp only [Option.bind_some]
    have mY : ∀ Y J, QP Y tb n (tke tb n e) true → DrM Y J p w td nm L cn → ∃ U, QP U tb n (tke tb n (tke tb n e)) true ∧ DrM U J p w td nm L cn ∧ U 177 35 = nI (sk tb n (tke tb n e)) ∧ fsL LQ5 U Y ∧ F_MD_stakeTold Y J = if fdn nm (nam tb n (tke tb n e)) (cF p) 0 = -1 then (F_MD_fail U 3 (U 177 35)).bind fun r5 => F_MD_stakeTold_32 r5 (fdn nm (nam tb n (tke tb n e)) (cF p) 0) else F_MD_stakeTold_32 U (fdn nm (nam tb n (tke tb n e)) (cF p) 0) := by
      intro Y J hY hD
      obtain ⟨U, y1, y2, y3, y4⟩ := v4 Y hY
      have f5 : fsL LQ5 U Y := fs_sub (by decide) y4
      have dU := DrM_q hD f5
      refine ⟨U, y2, dU, y3, f5, ?_⟩
      unfold F_MD_stakeTold
      rw [y1]
      simp only [Option.bind_some]
      rw [nameOf_m hF dU.1.2.2.1 dU.2.2.2.1 hn no]
      simp only [Option.bind_some]
      rw [if_pos y2.1.1]
    rcases fdn_v nm (nam tb n (tke tb n e)) (cF p) 0 with z | ⟨f, hf, z⟩
    · rw [z] at mY ⊢
      rw [if_pos rfl, a1.2.1.2.1, show (3 : Int32) = nI 3 from rfl, wrong_e]
      simp only [Option.bind_some]
      rw [gq_e (Or.inl trivial)]
      right
      refine ⟨3, sk tb n (tke tb n e), wrm A 3 (sk tb n (tke tb n e)), rfl, wrm_t A 3 _, FC_t (FC_N (wrm_f 3 _ (by decide))) (FC_R a2), ⟨by decide, by decide⟩, fun Y J hY hD => ?_⟩
      obtain ⟨U, y1, y2, y3, y4, y5⟩ := mY Y J hY hD
      have ff : F_MD_fail U 3 (nI (sk tb n (tke tb n e))) = _ := fail_m y1.1.1 3 _
      have bt := fail_t U 3 (sk tb n (tke tb n e))
      rw [if_pos rfl, y3, ff] at y5
      simp only [Option.bind_some] at y5
      rw [st32_b (mf_ne bt (by decide) (by decide))] at y5
      exact ⟨_, J, by show (F_MD_stakeTold Y J).bind _ = _; rw [y5]; rfl, bt, FS_t (FS_M (fail_f U 3 _)) (FS_5 y4), FJ_r J⟩
    · have hf : f < cF p := by omega
      have ne : ¬ nI f = -1 := fun y => by have := nI_pos' (n := f) (by omega); rw [y] at this; exact absurd this (by decide)
      rw [z] at mY ⊢
      rw [if_neg ne]
      obtain ⟨B, eb, b1, b2⟩ := word_x (sd := sd) a1 c2
      have dB := DrC_R hq dA b2
      have fB : FC sd B X := FC_t (FC_R b2) (FC_R a2)
      have eC : B sd 1 - 1 = nI (cC p - 1) := by rw [dB.1.1.1]; exact nI_subN (a := cC p) (b := 1) hC1
      rw [eb]
      simp only [Option.bind_some]
      rw [eC]
      -- from here the reference is in stakeTold_32
      have mZ : ∀ Y J, QP Y tb n (tke tb n e) true → DrM Y J p w td nm L cn → ∃ U, QP U tb n (tke tb n (tke tb n e)) true ∧ DrM U J p w td nm L cn ∧ fsL LQ5 U Y ∧ F_MD_stakeTold Y J = F_MD_stakeTold_32 U (nI f) := by
        intro Y J hY hD
        obtain ⟨U, y1, y2, y3, y4, y5⟩ := mY Y J hY hD
        rw [if_neg ne] at y5
        exact ⟨U, y1, y2, y4, y5⟩
      rcases num_j (sd := sd) b1 (a := 0) (m := cC p - 1) (by decide) (by omega) with ⟨d1, d2, d3, V, ev, v1, v2, v3, v4⟩ | ⟨k, at', V, kk, ev, v1, v2, v3⟩
      · have ev : F_Reader_number sd B 0 (nI (cC p - 1)) = some (1, V) := ev
        have dV := DrC_N hq dB v3
        have fV : FC sd V X := FC_t (FC_N v3) fB
        rw [ev]
        simp only [Option.bind_some]
        rw [if_neg (by decide), v2]
        rcases needW_j (sd := sd) v1 (w := 185) (i := 5) (lw := 3) (by decide) rfl with ⟨g1, U, eu, u1, u2, u3⟩ | ⟨U, eu, u1, u2, u3⟩
        · have eu : F_Reader_needWord sd V 5 = some (1, U) := eu
          have dU := DrC_N hq dV u2
          have fU : FC sd U X := FC_t (FC_N u2) fV
          have eR : U sd 2 - 1 = nI (cR p - 1) := by rw [dU.1.1.2.1]; exact nI_subN (a := cR p) (b := 1) (by omega)
          rw [eu]
          simp only [Option.bind_some]
          rw [if_neg (by decide), eR]
          generalize hc' : n_val tb n (tke tb n (tke tb n e)) = c at *
          rcases num_j (sd := sd) u1 (a := 0) (m := cR p - 1) (by decide) (by omega) with ⟨m1, m2, m3, T, et, t1, t2, t3, t4⟩ | ⟨k, at', T, kk, et, t1, t2, t3⟩
          · have et : F_Reader_number sd U 0 (nI (cR p - 1)) = some (1, T) := et
            have dT := DrC_N hq dU t3
            have fT : FC sd T X := FC_t (FC_N t3) fU
            rw [et]
            simp only [Option.bind_some]
            rw [if_neg (by decide), t2]
            generalize n_val tb n (tke tb n (tke tb n (tke tb n (tke tb n e)))) = r at *
            have eP : w_putStake T (sd + 3) (nI f) (nI c) (nI r) = m_up T (sd + 6) (6 * f + c) (nI r) := by
              unfold w_putStake
              rw [if_pos (is_st (by omega) (by omega)), ad_76, nI_clamp (by omega)]
            rw [eP]
            left
            refine ⟨_, true, p, a_stk w f c (nI r), td, nm, L, _, rfl, RS_u t1 (by omega), by omega, DrC_u hq dT (by omega) (CC_u dT.1.1 (by omega) (by omega)) ?_ (fun f hf i hi => by rw [up_k _ _ _ (by omega)]; exact dT.2.2.1 f hf i hi) rfl rfl, ⟨⟨ho, hC1, hR4, hQ⟩, ⟨⟨hv.1, hv.2.1, hv.2.2.1, hv.2.2.2.1, fun f' c' => ?_, fun f' c' hfc => ?_⟩, hx, hy0, hk0, h12⟩, hi3, hi4, hi5⟩, FC_up (by omega) fT, by omega, fun Y J hY hD => ?_⟩
            · obtain ⟨g1, g2, g3, g4, g5⟩ := dT.1.2
              refine ⟨?_, ?_, fun f hf => ?_, fun c' hc' => ?_, fun f' c' hf' hc' => ?_⟩
              · rw [up_k _ _ _ (by omega)]; exact g1
              · rw [up_k _ _ _ (by omega)]; exact g2
              · rw [up_k _ _ _ (by omega)]; exact g3 f hf
              · rw [up_k _ _ _ (by omega)]; exact g4 c' hc'
              · show m_up T (sd + 6) _ _ (sd + 6) (6 * f' + c') = if f' = f ∧ c' = c then _ else wR w f' c'
                by_cases y : f' = f ∧ c' = c
                · rw [if_pos y, y.1, y.2, up_e]
                · rw [if_neg y, up_j _ _ _ (by omega)]; exact g5 f' c' hf' hc'
            · show -1 ≤ (if f' = f ∧ c' = c then nI r else wR w f' c') ∧ (if f' = f ∧ c' = c then nI r else wR w f' c') < nI (cR p) ∨ (if f' = f ∧ c' = c then nI r else wR w f' c') = -1
              split
              · left
                exact ⟨Int32.le_trans (show (-1 : Int32) ≤ 0 by decide) (nI_pos' (by omega)), nI_lt (by omega) (by omega)⟩
              · exact hv.2.2.2.2.1 f' c'
            · show (if f' = f ∧ c' = c then nI r else wR w f' c') = -1
              rw [if_neg (by omega)]
              exact hv.2.2.2.2.2 f' c' hfc
            · obtain ⟨U0, y1, y2, y4, y5⟩ := mZ Y J hY hD
              obtain ⟨U1, z1, z2, -, z3⟩ := v4 U0 y1
              have z1 : F_MD_number U0 0 (nI (cC p - 1)) = _ := z1
              obtain ⟨U2, x1, x2, x3⟩ := u3 U1 z2
              have dM2 := DrM_M (DrM_M y2 z3) x3
              obtain ⟨U3, o1, o2, -, o3⟩ := t4 U2 x2
              have o1 : F_MD_number U2 0 (nI (cR p - 1)) = _ := o1
              have dM3 := DrM_M dM2 o3
              have ix : (((7 : Int32) * nI f) + 1) + nI c = nI (7 * f + 1 + c) := by
                have i1 : (7 : Int32) * nI f = nI (7 * f) := (Int32.ofNat_mul 7 f).symm
                rw [i1, nI_s]; exact nI_add _ _
              have f3 : fsL [(209, none)] (m_up U3 209 (7 * f + 1 + c) (nI r)) U3 := fs_up (LX := [(209, none)]) (by decide) (by simp [inL]) (fs_r U3)
              have e32 : F_MD_stakeTold_32 U0 (nI f) = some (m_up U3 209 (7 * f + 1 + c) (nI r)) := by
                unfold F_MD_stakeTold_32
                rw [eM y2, z1]
                simp only [Option.bind_some]
                rw [x1]
                simp only [Option.bind_some]
                rw [eM2 dM2, o1]
                simp only [Option.bind_some]
                rw [if_pos o2.1.1, ix, gd_n (by omega) (by decide), nI_clamp (by omega)]
              rw [e32] at y5
              refine ⟨_, J, by show (F_MD_stakeTold Y J).bind _ = _; rw [y5]; rfl, QP_f o2 f3 (by decide) (by decide +kernel), ?_, FS_t ⟨fs_sub (by decide) f3, fun j hj => by rw [fs_k f3 (by decide)]⟩ (FS_t (FS_M (fs_tr o3 (fs_tr x3 z3))) (FS_5 y4)), FJ_r J⟩
              unfold DrM rgM at dM3 ⊢
              rw [fs_k f3 (k := 204) (by decide), fs_k f3 (k := 205) (by decide), fs_k f3 (k := 207) (by decide), fs_k f3 (k := 208) (by decide), fs_k f3 (k := 210) (by decide), fs_k f3 (k := 211) (by decide), fs_k f3 (k := 212) (by decide), fs_k f3 (k := 177) (by decide)]
              refine ⟨dM3.1, ⟨dM3.2.1.1, dM3.2.1.2.1, fun f' hf' => ?_, fun f' c' hf' hc' => ?_⟩, dM3.2.2⟩
              · rw [up_j _ _ _ (by omega)]; exact dM3.2.1.2.2.1 f' hf'
              · show m_up U3 209 _ _ 209 (7 * f' + 1 + c') = if f' = f ∧ c' = c then _ else wR w f' c'
                by_cases y : f' = f ∧ c' = c
                · rw [if_pos y, y.1, y.2, up_e]
                · rw [if_neg y, up_j _ _ _ (by omega)]; exact dM3.2.1.2.2.2 f' c' hf' hc'
          · have et : F_Reader_number sd U 0 (nI (cR p - 1)) = some (0, T) := et
            rw [et]
            simp only [Option.bind_some]
            rw [if_pos trivial]
            right
            refine ⟨k, at', T, rfl, t1, FC_t (FC_N t2) fU, kk, fun Y J hY hD => ?_⟩
            obtain ⟨U0, y1, y2, y4, y5⟩ := mZ Y J hY hD
            obtain ⟨U1, z1, z2, -, z3⟩ := v4 U0 y1
            have z1 : F_MD_number U0 0 (nI (cC p - 1)) = _ := z1
            obtain ⟨U2, x1, x2, x3⟩ := u3 U1 z2
            have dM2 := DrM_M (DrM_M y2 z3) x3
            obtain ⟨x, U3, o1, o2, o3⟩ := t3 U2 x2
            have o1 : F_MD_number U2 0 (nI (cR p - 1)) = _ := o1
            refine ⟨U3, J, ?_, o2, FS_t (FS_M (fs_tr o3 (fs_tr x3 z3))) (FS_5 y4), FJ_r J⟩
            show (F_MD_stakeTold Y J).bind _ = _
            rw [y5]
            unfold F_MD_stakeTold_32
            rw [eM y2, z1]
            simp only [Option.bind_some]
            rw [x1]
            simp only [Option.bind_some]
            rw [eM2 dM2, o1]
            simp only [Option.bind_some]
            rw [if_neg (mf_ne o2 kk.1 kk.2)]; rfl
        · have eu : F_Reader_needWord sd V 5 = some (0, U) := eu
          rw [eu]
          simp only [Option.bind_some]
          rw [if_pos trivial]
          right
          refine ⟨1, _, U, rfl, u1, FC_t (FC_N u2) fV, ⟨by decide, by decide⟩, fun Y J hY hD => ?_⟩
          obtain ⟨U0, y1, y2, y4, y5⟩ := mZ Y J hY hD
          obtain ⟨U1, z1, z2, -, z3⟩ := v4 U0 y1
          have z1 : F_MD_number U0 0 (nI (cC p - 1)) = _ := z1
          obtain ⟨U2, x1, x2, x3⟩ := u3 U1 z2
          have nb := mf_ne x2 (by decide) (by decide)
          refine ⟨U2, J, ?_, x2, FS_t (FS_M (fs_tr x3 z3)) (FS_5 y4), FJ_r J⟩
          show (F_MD_stakeTold Y J).bind _ = _
          rw [y5]
          unfold F_MD_stakeTold_32
          rw [eM y2, z1]
          simp only [Option.bind_some]
          rw [x1]
          simp only [Option.bind_some]
          rw [num_b nb]
          simp only [Option.bind_some]
          rw [if_neg nb]; rfl
      · have ev : F_Reader_number sd B 0 (nI (cC p - 1)) = some (0, V) := ev
        rw [ev]
        simp only [Option.bind_some]
        rw [if_pos trivial]
        right
        refine ⟨k, at', V, rfl, v1, FC_t (FC_N v2) fB, kk, fun Y J hY hD => ?_⟩
        obtain ⟨U0, y1, y2, y4, y5⟩ := mZ Y J hY hD
        obtain ⟨x, U1, z1, z2, z3⟩ := v3 U0 y1
        have z1 : F_MD_number U0 0 (nI (cC p - 1)) = _ := z1
        have nb := mf_ne z2 kk.1 kk.2
        refine ⟨U1, J, ?_, z2, FS_t (FS_M z3) (FS_5 y4), FJ_r J⟩
        show (F_MD_stakeTold Y J).bind _ = _
        rw [y5]
        unfold F_MD_stakeTold_32
        rw [eM y2, z1]
        simp only [Option.bind_some]
        rw [asks_b nb]
        simp only [Option.bind_some]
        rw [num_b nb]
        simp only [Option.bind_some]
        rw [if_neg nb]; rfl
  · rw [ev]
    simp only [Option.bind_some]
    rw [if_pos trivial]
    right
    refine ⟨k, at', V, rfl, v1, FC_t (FC_N v2) (FC_R a2), kk, fun Y J hY hD => ?_⟩
    obtain ⟨x, U, y1, y2, y3⟩ := v3 Y hY
    have f5 : fsL LQ5 U Y := fs_sub (by decide) y3
    have dU := DrM_q hD f5
    obtain ⟨r, er⟩ := nameOf_t (J := J) hF dU.1.2.2.1 x
    have nb := mf_ne y2 kk.1 kk.2
    refine ⟨U, J, ?_, y2, FS_5 f5, FJ_r J⟩
    show (F_MD_stakeTold Y J).bind _ = _
    unfold F_MD_stakeTold
    rw [y1]
    simp only [Option.bind_some]
    rw [er]
    simp only [Option.bind_some]
    rw [if_neg nb, st32_b nb]; rfl
end LD6
