/-! lines of a slope: iron, stake -/
section LD5
variable {I X Y Z V A : MI} {J : MJ} {sd n e td cn : Nat} {b : Bool} {tb : Nat → Nat} {p : CF} {w : WD} {nm : Nat → List Nat} {L : List Nat}
theorem drv_p (hv : WO p w) (hx : WX p w) (ho : CO p) {c r : Nat} (hc : c < cC p) (hr : r < cR p) (h0 : a_pst w c r = false) : n_pst (a_drv w c r) = n_pst w + 1 := by
  have hC := ho.1; have hR := ho.2.1
  obtain ⟨q, h1, h2, h3, h4, h5⟩ := drv_n hv hx hR hr h0
  have h30 : 2 ^ cR p ≤ 2 ^ 30 := Nat.pow_le_pow_right (by decide) hR
  have e : ∀ c', wP (a_drv w c r) c' = if c' = c then nI (q ||| 2 ^ r) else wP w c' := fun c' => by
    show (if c' = c then wP w c ||| ((1 : Int32) <<< (nI r &&& 31)) else wP w c') = _
    rw [h3]
  have key : ∀ n, sm (fun c' => pop 32 (wP (a_drv w c r) c').toNatClampNeg) n = sm (fun c' => pop 32 (wP w c').toNatClampNeg) n + if c < n then 1 else 0 := by
    intro n
    induction n with
    | zero => rfl
    | succ n ih =>
      show sm _ n + _ = sm _ n + _ + _
      rw [ih]
      show _ + pop 32 (wP (a_drv w c r) n).toNatClampNeg = sm (fun c' => pop 32 (wP w c').toNatClampNeg) n + pop 32 (wP w n).toNatClampNeg + _
      rw [e]
      by_cases z : n = c
      · subst z
        rw [if_pos rfl, h2, nI_clamp (by omega), nI_clamp (by omega), h5, if_neg (Nat.lt_irrefl _), if_pos (Nat.lt_succ_self _)]; omega
      · rw [if_neg z]
        by_cases z2 : c < n
        · rw [if_pos z2, if_pos (show c < n + 1 by omega)]; omega
        · rw [if_neg z2, if_neg (show ¬ c < n + 1 by omega)]; omega
  have k6 := key 6
  unfold n_pst; rw [k6, if_pos (by omega)]
/-- after a fault the reference reads nothing more of an iron line -/
theorem ir24_b (h : ¬ Y 177 5 = 0) : F_MD_ironTold_24 Y = some Y := by
  unfold F_MD_ironTold_24
  rw [num_b h]
  simp only [Option.bind_some]
  rw [num_b h]
  simp only [Option.bind_some]
  rw [if_neg h]
  unfold F_MD_ironTold_82
  rw [if_neg h]
theorem ir82_b (h : ¬ Y 177 5 = 0) (x y : Int32) : F_MD_ironTold_82 Y x y = some Y := by
  unfold F_MD_ironTold_82
  rw [if_neg h]
theorem iron_j (hq : sd = 3 ∨ sd = 11) (h : RS X tb n e b) (hk : kd tb n e b = 256) (hd : DrC X sd p w td nm L cn) (hi : DrI p w td nm L) (hl : L.length ≤ e) : JL (F_Reader_ironLine sd X) (fun Y J => (F_MD_ironTold Y (nI (sk tb n e))).bind fun r => some (r, J)) X sd tb n e (tke tb n e) true p w td nm L cn := by
  have hb : ∀ j, j < n → tb j < 256 := fun j hj => (h.1.2.2.1 j hj).1
  obtain ⟨ql, -⟩ := (kd_256 hb).mp hk
  have tg := tke_gt ql
  have sg := sk_ge (tb := tb) (n := n) e
  obtain ⟨⟨ho, hC1, hR4, hQ⟩, ⟨hv, hx, hy0, hk0, h12⟩, hi3, hi4, hi5⟩ := hi
  have hC := ho.1; have hR := ho.2.1
  unfold F_Reader_ironLine
  rw [posts_n hd.1.2 hv]
  by_cases c12 : n_pst w < 12
  · rw [if_pos (show nI (n_pst w) < 12 from nI_lt (b := 12) c12 (by decide))]
    obtain ⟨A, ea, a1, a2⟩ := word_x (sd := sd) h hk
    have dA := DrC_R hq hd a2
    have eC : A sd 1 - 1 = nI (cC p - 1) := by rw [dA.1.1.1]; exact nI_subN (a := cC p) (b := 1) hC1
    have eM : ∀ {Y : MI} {J : MJ}, DrM Y J p w td nm L cn → Y 204 0 - 1 = nI (cC p - 1) := fun hD => by rw [hD.1.1]; exact nI_subN (a := cC p) (b := 1) hC1
    have eM2 : ∀ {Y : MI} {J : MJ}, DrM Y J p w td nm L cn → Y 204 1 - 1 = nI (cR p - 1) := fun hD => by rw [hD.1.2.1]; exact nI_subN (a := cR p) (b := 1) (by omega)
    have e24 : ∀ {Y : MI} {J : MJ}, QP Y tb n (tke tb n e) true → DrM Y J p w td nm L cn → F_MD_ironTold Y (nI (sk tb n e)) = F_MD_ironTold_24 Y := fun {Y J} hY hD => by
      unfold F_MD_ironTold
      rw [if_pos hY.1.1, hD.1.2.2.2, if_neg (fun z => by have := (n_eq (by omega) (by decide) (show (12 : Int32) = nI 12 from rfl)).mp z; omega)]
    rw [ea]
    simp only [Option.bind_some]
    rw [eC]
    rcases num_j (sd := sd) a1 (a := 0) (m := cC p - 1) (by decide) (by omega) with ⟨c1, c2, c3, V, ev, v1, v2, v3, v4⟩ | ⟨k, at', V, kk, ev, v1, v2, v3⟩
    · have ev : F_Reader_number sd A 0 (nI (cC p - 1)) = some (1, V) := ev
      have dV := DrC_N hq dA v3
      have fV : FC sd V X := FC_t (FC_N v3) (FC_R a2)
      have eR : V sd 2 - 1 = nI (cR p - 1) := by rw [dV.1.1.2.1]; exact nI_subN (a := cR p) (b := 1) (by omega)
      rw [ev]
      simp only [Option.bind_some]
      rw [if_neg (by decide), eR, v2]
      rcases num_j (sd := sd) v1 (a := 0) (m := cR p - 1) (by decide) (by omega) with ⟨d1, d2, d3, U, eu, u1, u2, u3, u4⟩ | ⟨k, at', U, kk, eu, u1, u2, u3⟩
      · have eu : F_Reader_number sd V 0 (nI (cR p - 1)) = some (1, U) := eu
        have dU := DrC_N hq dV u3
        have fU : FC sd U X := FC_t (FC_N u3) fV
        rw [eu]
        simp only [Option.bind_some]
        rw [if_neg (by decide), u2, post_c dU.1.2 hv (by omega) (by omega)]
        have mY : ∀ Y J, QP Y tb n (tke tb n e) true → DrM Y J p w td nm L cn → ∃ U2, QP U2 tb n (tke tb n (tke tb n (tke tb n e))) true ∧ DrM U2 J p w td nm L cn ∧ U2 177 10 = nI (sk tb n (tke tb n (tke tb n e))) ∧ fsL LM U2 Y ∧ F_MD_ironTold Y (nI (sk tb n e)) = if a_pst w (n_val tb n (tke tb n e)) (n_val tb n (tke tb n (tke tb n e))) = true then (F_MD_fail U2 2 (U2 177 10)).bind fun r6 => F_MD_ironTold_82 r6 (nI (n_val tb n (tke tb n e))) (nI (n_val tb n (tke tb n (tke tb n e)))) else F_MD_ironTold_82 U2 (nI (n_val tb n (tke tb n e))) (nI (n_val tb n (tke tb n (tke tb n e)))) := by
          intro Y J hY hD
          obtain ⟨U1, y1, y2, -, y3⟩ := v4 Y hY
          have y1 : F_MD_number Y 0 (nI (cC p - 1)) = _ := y1
          have dM1 := DrM_M hD y3
          obtain ⟨U2, z1, z2, z3, z4⟩ := u4 U1 y2
          have z1 : F_MD_number U1 0 (nI (cR p - 1)) = _ := z1
          have dM2 := DrM_M dM1 z4
          refine ⟨U2, z2, dM2, z3, fs_tr z4 y3, ?_⟩
          rw [e24 hY hD]
          unfold F_MD_ironTold_24
          rw [eM hD, y1]
          simp only [Option.bind_some]
          rw [eM2 dM1, z1]
          simp only [Option.bind_some]
          rw [if_pos z2.1.1, gd_n (by omega) (by decide), nI_clamp (by omega), dM2.2.1.2.1 _ (by omega)]
          obtain ⟨q, h1, h2, h3⟩ := postN hv (n_val tb n (tke tb n e))
          unfold a_pst
          rw [h3, h2]
          by_cases z : q / 2 ^ (n_val tb n (tke tb n (tke tb n e))) % 2 = 1
          · rw [if_pos ((bit_1 (by omega) (by omega)).mpr z), decide_eq_true z, if_pos rfl]
          · rw [if_neg (fun y => z ((bit_1 (by omega) (by omega)).mp y)), decide_eq_false z, if_neg (by decide)]
        cases hp : a_pst w (n_val tb n (tke tb n e)) (n_val tb n (tke tb n (tke tb n e))) with
        | true =>
          rw [hp] at mY
          rw [if_neg (show ¬ bI true = 0 by decide), v1.2.1.2.1, show (2 : Int32) = nI 2 from rfl, wrong_e]
          simp only [Option.bind_some]
          rw [gq_e (Or.inl trivial)]
          right
          refine ⟨2, sk tb n (tke tb n (tke tb n e)), wrm U 2 (sk tb n (tke tb n (tke tb n e))), rfl, wrm_t U 2 _, FC_t (FC_N (wrm_f 2 _ (by decide))) fU, ⟨by decide, by decide⟩, fun Y J hY hD => ?_⟩
          obtain ⟨U2, y1, y2, y3, y4, y5⟩ := mY Y J hY hD
          have ff : F_MD_fail U2 2 (nI (sk tb n (tke tb n (tke tb n e)))) = _ := fail_m y1.1.1 2 _
          have bt := fail_t U2 2 (sk tb n (tke tb n (tke tb n e)))
          rw [if_pos rfl, y3, ff] at y5
          simp only [Option.bind_some] at y5
          rw [ir82_b (mf_ne bt (by decide) (by decide))] at y5
          refine ⟨_, J, by show (F_MD_ironTold Y (nI (sk tb n e))).bind _ = _; rw [y5]; rfl, bt, FS_M (fs_tr (fail_f U2 2 _) y4), FJ_r J⟩
        | false =>
          rw [hp] at mY
          rw [if_pos (show bI false = 0 from rfl)]
          have eD : gI_Lay_drive U (sd + 3) (nI (n_val tb n (tke tb n e))) (nI (n_val tb n (tke tb n (tke tb n e)))) = m_up U (sd + 5) (n_val tb n (tke tb n e)) ((U (sd + 5) (n_val tb n (tke tb n e))) ||| ((1 : Int32) <<< (nI (n_val tb n (tke tb n (tke tb n e))) &&& 31))) := by
            unfold gI_Lay_drive
            rw [if_neg (nI_pos (by omega)), if_neg (show ¬ (6 : Int32) ≤ nI (n_val tb n (tke tb n e)) from nI_ge (b := 6) (by omega) (by decide)), if_neg (nI_pos (by omega)), if_neg (show ¬ (30 : Int32) ≤ nI (n_val tb n (tke tb n (tke tb n e))) from nI_ge (b := 30) (by omega) (by decide)), nI_clamp (by omega)]
          rw [eD]
          obtain ⟨hO, hX⟩ := drv_O hv hx ho (c := n_val tb n (tke tb n e)) (r := n_val tb n (tke tb n (tke tb n e))) (by omega) (by omega) hp (by omega)
          have hN := drv_p hv hx ho (c := n_val tb n (tke tb n e)) (r := n_val tb n (tke tb n (tke tb n e))) (by omega) (by omega) hp
          left
          refine ⟨_, true, p, a_drv w (n_val tb n (tke tb n e)) (n_val tb n (tke tb n (tke tb n e))), td, nm, L, _, rfl, RS_u u1 (by omega), by omega, DrC_u hq dU (by omega) (CC_u dU.1.1 (by omega) (by omega)) ?_ (fun f hf i hi => by rw [up_k _ _ _ (by omega)]; exact dU.2.2.1 f hf i hi) rfl rfl, ⟨⟨ho, hC1, hR4, hQ⟩, ⟨hO, hX, hy0, hk0, by omega⟩, hi3, hi4, hi5⟩, FC_up (by omega) fU, by omega, fun Y J hY hD => ?_⟩
          · obtain ⟨g1, g2, g3, g4, g5⟩ := dU.1.2
            refine ⟨?_, ?_, fun f hf => ?_, fun c' hc' => ?_, fun f c' hf hc' => ?_⟩
            · rw [up_k _ _ _ (by omega)]; exact g1
            · rw [up_k _ _ _ (by omega)]; exact g2
            · rw [up_k _ _ _ (by omega)]; exact g3 f hf
            · show m_up U (sd + 5) _ _ (sd + 5) c' = (if c' = n_val tb n (tke tb n e) then wP w (n_val tb n (tke tb n e)) ||| ((1 : Int32) <<< (nI (n_val tb n (tke tb n (tke tb n e))) &&& 31)) else wP w c')
              by_cases z : c' = n_val tb n (tke tb n e)
              · subst z; rw [if_pos rfl, up_e]
                exact congrArg (· ||| ((1 : Int32) <<< (nI (n_val tb n (tke tb n (tke tb n e))) &&& 31))) (g4 _ hc')
              · rw [if_neg z, up_j _ _ _ z]; exact g4 c' hc'
            · rw [up_k _ _ _ (by omega)]; exact g5 f c' hf hc'
          · obtain ⟨U2, y1, y2, y3, y4, y5⟩ := mY Y J hY hD
            rw [if_neg (by decide)] at y5
            have g8 := y2.2.1.2.1 (n_val tb n (tke tb n e)) (by omega)
            have e82 : F_MD_ironTold_82 U2 (nI (n_val tb n (tke tb n e))) (nI (n_val tb n (tke tb n (tke tb n e)))) = some (m_up (m_up U2 208 (n_val tb n (tke tb n e)) (wP w (n_val tb n (tke tb n e)) ||| ((1 : Int32) <<< (nI (n_val tb n (tke tb n (tke tb n e))) &&& 31)))) 205 1 (nI (n_pst w + 1))) := by
              unfold F_MD_ironTold_82
              rw [if_pos y1.1.1, gd_n (by omega) (by decide), gd_n (by omega) (by decide), nI_clamp (by omega), g8, y2.1.2.2.2, nI_s]; rfl
            rw [e82] at y5
            have f3 : fsL [(208, none), (205, some 1)] (m_up (m_up U2 208 (n_val tb n (tke tb n e)) (wP w (n_val tb n (tke tb n e)) ||| ((1 : Int32) <<< (nI (n_val tb n (tke tb n (tke tb n e))) &&& 31)))) 205 1 (nI (n_pst w + 1))) U2 := fs_up (LX := [(208, none), (205, some 1)]) (by decide) (by decide) (fs_up (LX := [(208, none)]) (by decide) (by simp [inL]) (fs_r U2))
            refine ⟨_, J, by show (F_MD_ironTold Y (nI (sk tb n e))).bind _ = _; rw [y5]; rfl, QP_f y1 f3 (by decide) (by decide +kernel), ?_, FS_t ⟨fs_sub (by decide) f3, fun j hj => by rw [fs_k f3 (by decide)]⟩ (FS_M y4), FJ_r J⟩
            unfold DrM rgM at y2 ⊢
            rw [fs_k f3 (k := 204) (by decide), fs_k f3 (k := 207) (by decide), fs_k f3 (k := 209) (by decide), fs_k f3 (k := 210) (by decide), fs_k f3 (k := 211) (by decide), fs_k f3 (k := 212) (by decide), fs_k f3 (k := 177) (by decide), f3 205 0 (by decide)]
            refine ⟨⟨y2.1.1, y2.1.2.1, y2.1.2.2.1, by rw [up_e, hN]⟩, ⟨y2.2.1.1, fun c hc => ?_, y2.2.1.2.2⟩, y2.2.2⟩
            show _ = (if c = n_val tb n (tke tb n e) then wP w (n_val tb n (tke tb n e)) ||| ((1 : Int32) <<< (nI (n_val tb n (tke tb n (tke tb n e))) &&& 31)) else wP w c)
            rw [up_k _ _ _ (by decide)]
            by_cases z : c = n_val tb n (tke tb n e)
            · subst z; rw [if_pos rfl, up_e]
            · rw [if_neg z, up_j _ _ _ z]; exact y2.2.1.2.1 c hc
      · have eu : F_Reader_number sd V 0 (nI (cR p - 1)) = some (0, U) := eu
        rw [eu]
        simp only [Option.bind_some]
        rw [if_pos trivial]
        right
        refine ⟨k, at', U, rfl, u1, FC_t (FC_N u2) fV, kk, fun Y J hY hD => ?_⟩
        obtain ⟨U1, y1, y2, -, y3⟩ := v4 Y hY
        have y1 : F_MD_number Y 0 (nI (cC p - 1)) = _ := y1
        obtain ⟨x, U2, z1, z2, z3⟩ := u3 U1 y2
        have z1 : F_MD_number U1 0 (nI (cR p - 1)) = _ := z1
        have ne := mf_ne z2 kk.1 kk.2
        refine ⟨U2, J, ?_, z2, FS_M (fs_tr z3 y3), FJ_r J⟩
        show (F_MD_ironTold Y (nI (sk tb n e))).bind _ = _
        rw [e24 hY hD]
        unfold F_MD_ironTold_24
        rw [eM hD, y1]
        simp only [Option.bind_some]
        rw [eM2 (DrM_M hD y3), z1]
        simp only [Option.bind_some]
        rw [if_neg ne, ir82_b ne]; rfl
    · have ev : F_Reader_number sd A 0 (nI (cC p - 1)) = some (0, V) := ev
      rw [ev]
      simp only [Option.bind_some]
      rw [if_pos trivial]
      right
      refine ⟨k, at', V, rfl, v1, FC_t (FC_N v2) (FC_R a2), kk, fun Y J hY hD => ?_⟩
      obtain ⟨x, U1, y1, y2, y3⟩ := v3 Y hY
      have y1 : F_MD_number Y 0 (nI (cC p - 1)) = _ := y1
      have ne := mf_ne y2 kk.1 kk.2
      refine ⟨U1, J, ?_, y2, FS_M y3, FJ_r J⟩
      show (F_MD_ironTold Y (nI (sk tb n e))).bind _ = _
      rw [e24 hY hD]
      unfold F_MD_ironTold_24
      rw [eM hD, y1]
      simp only [Option.bind_some]
      rw [num_b ne]
      simp only [Option.bind_some]
      rw [if_neg ne, ir82_b ne]; rfl
  · have e12 : n_pst w = 12 := by omega
    rw [if_neg (show ¬ nI (n_pst w) < 12 from nI_nlt (b := 12) (by omega) (by omega)), h.2.1.2.1, show (5 : Int32) = nI 5 from rfl, wrong_e]
    simp only [Option.bind_some]
    rw [gq_e (Or.inl trivial)]
    right
    refine ⟨5, sk tb n e, wrm X 5 (sk tb n e), rfl, wrm_t X 5 _, FC_N (wrm_f 5 _ (by decide)), ⟨by decide, by decide⟩, fun Y J hY hD => ?_⟩
    have ff : F_MD_fail Y 5 (nI (sk tb n e)) = _ := fail_m hY.1.1 5 _
    have bt := fail_t Y 5 (sk tb n e)
    refine ⟨_, J, ?_, bt, FS_M (fail_f Y 5 _), FJ_r J⟩
    show (F_MD_ironTold Y (nI (sk tb n e))).bind _ = _
    unfold F_MD_ironTold
    rw [if_pos hY.1.1, hD.1.2.2.2, if_pos (by rw [e12]; rfl), ff]
    simp only [Option.bind_some]
    rw [ir24_b (mf_ne bt (by decide) (by decide))]; rfl
end LD5
