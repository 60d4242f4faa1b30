/-! lines of a slope: fence, whole -/
section LD8
variable {I X Y Z V A : MI} {J : MJ} {sd n e td cn : Nat} {b : Bool} {tb : Nat → Nat} {p : CF} {w : WD} {nm : Nat → List Nat} {L : List Nat}
theorem fe62_ok (ho : CO p) (hR4 : 4 ≤ cR p) (hF : cF p < 6) {e1 e2 e3 e4 e5 : Nat} {x : Int64} {r a : Nat} {l : List Nat} (hx : x = lN (n27 l 0)) (ha : a ≤ 99) (hr : r < cR p)
    (h1 : ∀ Y, QP Y tb n e1 true → ∃ U, F_MD_asks 185 3 Y = some U ∧ QP U tb n e2 true ∧ fsL LM U Y) (h2 : ∀ Y, QP Y tb n e2 true → ∃ U, F_MD_number Y (nI 0) (nI (cR p - 1)) = some (nI r, U) ∧ QP U tb n e3 true ∧ U 177 10 = nI (sk tb n e2) ∧ fsL LM U Y) (h3 : ∀ Y, QP Y tb n e3 true → ∃ U, F_MD_asks 186 3 Y = some U ∧ QP U tb n e4 true ∧ fsL LM U Y) (h4 : ∀ Y, QP Y tb n e4 true → ∃ U, F_MD_number Y (nI 0) (nI 99) = some (nI a, U) ∧ QP U tb n e5 true ∧ U 177 10 = nI (sk tb n e4) ∧ fsL LM U Y)
    (hY : QP Y tb n e1 true) (hD : DrM Y J p w td nm L cn) : ∃ Y' J', F_MD_fenceTold_62 Y J x = some (Y', J') ∧ QP Y' tb n e5 true ∧ DrM Y' J' (p_fn p) (a_fen p w (nI r) (nI a)) td (nm_f p nm l) L cn ∧ FS Y' Y ∧ FJ J' J := by
  obtain ⟨U1, a1, a2, a3⟩ := h1 Y hY
  have d1 := DrM_M hD a3
  obtain ⟨U2, b1, b2, -, b3⟩ := h2 U1 a2
  have b1 : F_MD_number U1 0 (nI (cR p - 1)) = _ := b1
  obtain ⟨U3, c1, c2, c3⟩ := h3 U2 b2
  obtain ⟨U4, g1, g2, -, g3⟩ := h4 U3 c2
  have g1 : F_MD_number U3 0 99 = _ := g1
  have d4 : DrM U4 J p w td nm L cn := DrM_M (DrM_M (DrM_M d1 b3) c3) g3
  have f4 : fsL LM U4 Y := fs_tr g3 (fs_tr c3 (fs_tr b3 a3))
  have eR : U1 204 1 - 1 = nI (cR p - 1) := by rw [d1.1.2.1]; exact nI_subN (a := cR p) (b := 1) (by omega)
  have i7 : (7 : Int32) * nI (cF p) = nI (7 * cF p) := (Int32.ofNat_mul 7 (cF p)).symm
  obtain ⟨Z, z1, z2, z3⟩ := fe145 (r := r) hF (m_up U4 209 (7 * cF p) (nI a))
  have kZ : ∀ q, q ≠ 209 → Z q = U4 q := fun q hq => by rw [z2 q hq, up_k _ _ _ hq]
  have kW : ∀ q, q ≠ 209 → q ≠ 205 → m_up Z 205 0 (nI (cF p + 1)) q = U4 q := fun q h1 h2 => by rw [up_k _ _ _ h2]; exact kZ q h1
  have fW : fsL [(209, none), (205, some 0)] (m_up Z 205 0 (nI (cF p + 1))) U4 := fs_up (LX := [(209, none), (205, some 0)]) (by decide) (by decide) (fs_fr (P := fun q => q = 209) (fun q hq => kZ q hq) (fun q hq => by subst hq; simp))
  refine ⟨m_up Z 205 0 (nI (cF p + 1)), m_up J 206 (cF p) x, ?_, QP_f g2 fW (by decide) (by decide +kernel), ?_, FS_t ⟨fs_sub (by decide) fW, fun j hj => by rw [fs_k fW (by decide)]⟩ (FS_M f4), fun k j hk => ?_⟩
  · unfold F_MD_fenceTold_62
    rw [a1]
    simp only [Option.bind_some]
    rw [eR, b1]
    simp only [Option.bind_some]
    rw [c1]
    simp only [Option.bind_some]
    rw [g1]
    simp only [Option.bind_some]
    rw [if_pos g2.1.1, d4.1.2.2.1, i7, gd_n (by omega) (by decide), gd_n (by omega) (by decide), nI_clamp (by omega), nI_clamp (by omega), z1]
    simp only [Option.bind_some]
    rw [kZ 205 (by decide), d4.1.2.2.1, nI_s]
  · have u205 : (m_up Z 205 0 (nI (cF p + 1))) 205 1 = U4 205 1 := by rw [up_j _ _ _ (by decide), kZ 205 (by decide)]
    have u209 : (m_up Z 205 0 (nI (cF p + 1))) 209 = Z 209 := up_k _ _ _ (by decide)
    have w209 : ∀ j, Z 209 j = if 7 * cF p + 1 ≤ j ∧ j < 7 * cF p + 7 then nI r else if j = 7 * cF p then nI a else U4 209 j := fun j => by
      rw [z3 j]
      by_cases y : 7 * cF p + 1 ≤ j ∧ j < 7 * cF p + 7
      · rw [if_pos y, if_pos y]
      · rw [if_neg y, if_neg y]
        by_cases y2 : j = 7 * cF p
        · rw [if_pos y2, y2, up_e]
        · rw [if_neg y2, up_j _ _ _ y2]
    refine ⟨⟨?_, ?_, up_e _ _ _ _, u205.trans d4.1.2.2.2⟩, ⟨fun c hc => ?_, fun c hc => ?_, fun f hf => ?_, fun f c hf hc => ?_⟩, ⟨?_, ?_⟩, fun f hf => ?_, ⟨?_, ?_⟩, ?_, fun i hi => ?_⟩
    · rw [kW 204 (by decide) (by decide)]; exact d4.1.1
    · rw [kW 204 (by decide) (by decide)]; exact d4.1.2.1
    · rw [kW 207 (by decide) (by decide)]; exact d4.2.1.1 c hc
    · rw [kW 208 (by decide) (by decide)]; exact d4.2.1.2.1 c hc
    · have hf : f < cF p + 1 := hf
      rw [u209, w209, if_neg (by omega)]
      show _ = if f = cF p then nI a else wA w f
      by_cases y : f = cF p
      · rw [if_pos (by omega), if_pos y]
      · rw [if_neg (by omega), if_neg y]; exact d4.2.1.2.2.1 f (by omega)
    · have hf : f < cF p + 1 := hf
      have hc : c < cC p := hc
      have hC := ho.1
      rw [u209, w209]
      show _ = if f = cF p ∧ c < cC p then nI r else wR w f c
      by_cases y : f = cF p
      · rw [if_pos (by omega), if_pos ⟨y, hc⟩]
      · rw [if_neg (by omega), if_neg (by omega), if_neg (fun z => y z.1)]; exact d4.2.1.2.2.2 f c (by omega) hc
    · rw [kW 177 (by decide) (by decide)]; exact d4.2.2.1.1
    · rw [kW 177 (by decide) (by decide)]; exact d4.2.2.1.2
    · have hf : f < cF p + 1 := hf
      show m_up J 206 (cF p) x 206 f = lN (n27 (if f = cF p then l else nm f) 0)
      by_cases y : f = cF p
      · rw [if_pos y, y, up_e]; exact hx
      · rw [if_neg y, up_j _ _ _ y]; exact d4.2.2.2.1 f (by omega)
    · have := d4.2.2.2.2.1.1
      unfold rgM at this ⊢
      rw [kW 210 (by decide) (by decide), kW 211 (by decide) (by decide)]; exact this
    · have := d4.2.2.2.2.1.2
      unfold rgM at this ⊢
      rw [kW 210 (by decide) (by decide), kW 211 (by decide) (by decide)]; exact this
    · rw [kW 177 (by decide) (by decide)]; exact d4.2.2.2.2.2.1
    · rw [kW 212 (by decide) (by decide)]; exact d4.2.2.2.2.2.2 i hi
  · rcases hk with hk | hk
    · rw [up_k _ _ _ hk]
    · by_cases y : k = 206
      · subst y; rw [up_j _ _ _ (by omega)]
      · rw [up_k _ _ _ y]
theorem fence_j (hq : sd = 3 ∨ sd = 11) (h : RS X tb n e b) (hk : kd tb n e b = 256) (hd : DrC X sd p w td nm L cn) (hi : DrI p w td nm L) (hl : L.length ≤ e) : JL (F_Reader_fenceLine sd X) (fun Y J => F_MD_fenceTold Y J (nI (sk tb n e))) X sd tb n e (tke tb n e) true p w td nm L cn := by
  have hb : ∀ j, j < n → tb j < 256 := fun j hj => (h.1.2.2.1 j hj).1
  obtain ⟨ql, -⟩ := (kd_256 hb).mp hk
  have tg := tke_gt ql
  have sg := sk_ge (tb := tb) (n := n) e
  obtain ⟨⟨ho, hC1, hR4, hQ⟩, ⟨hv, hx, hy0, hk0, h12⟩, hi3, hi4, hi5⟩ := hi
  have hC := ho.1; have hR := ho.2.1; have hF := ho.2.2.1
  have hn : ∀ f, f < cF p → nmo (nm f) := fun f hf => hi4 f hf
  have s3 := hd.1.1.2.2.1
  unfold F_Reader_fenceLine
  rw [s3, if_neg (nI_pos (by omega))]
  by_cases c6 : cF p < 6
  · rw [if_pos (show nI (cF p) < 6 from nI_lt (b := 6) c6 (by decide))]
    obtain ⟨A, ea, a1, a2⟩ := word_x (sd := sd) h hk
    have dA := DrC_R hq hd a2
    have e24 : ∀ {Y : MI} {J : MJ}, QP Y tb n (tke tb n e) true → DrM Y J p w td nm L cn → F_MD_fenceTold Y J (nI (sk tb n e)) = F_MD_fenceTold_24 Y J := fun {Y J} hY hD => by
      unfold F_MD_fenceTold
      rw [if_pos hY.1.1, hD.1.2.2.1, if_neg (fun z => by have := (n_eq (by omega) (by decide) (show (6 : Int32) = nI 6 from rfl)).mp z; omega)]
    rw [ea]
    simp only [Option.bind_some]
    rcases name_j (sd := sd) a1 with ⟨c1, c2, c3, ev, v4⟩ | ⟨k, at', V, kk, ev, v1, v2, v3⟩
    · have no := nam_o hb c2 c3
      have fd := named_c (nm := nm) a1 c2 hF dA.1.1.2.2.1 dA.2.2.1 hn no
      rw [ev]
      simp only [Option.bind_some]
      rw [if_neg (by decide), fd]
      simp only [Option.bind_some]
      have mY : ∀ Y J, QP Y tb n (tke tb n e) true → DrM Y J p w td nm L cn → ∃ U, QP U tb n (tke tb n (tke tb n e)) true ∧ DrM U J p w td nm L cn ∧ U 177 35 = nI (sk tb n (tke tb n e)) ∧ fsL LQ5 U Y ∧ F_MD_fenceTold Y J (nI (sk tb n e)) = if fdn nm (nam tb n (tke tb n e)) (cF p) 0 = -1 then F_MD_fenceTold_62 U J (lN (n27 (nam tb n (tke tb n e)) 0)) else (F_MD_fail U 3 (U 177 35)).bind fun r6 => F_MD_fenceTold_62 r6 J (lN (n27 (nam tb n (tke tb n e)) 0)) := by
        intro Y J hY hD
        obtain ⟨U, y1, y2, y3, y4⟩ := v4 Y hY
        have f5 : fsL LQ5 U Y := fs_sub (by decide) y4
        have dU := DrM_q hD f5
        refine ⟨U, y2, dU, y3, f5, ?_⟩
        rw [e24 hY hD]
        unfold F_MD_fenceTold_24
        rw [if_pos hY.1.1, y1]
        simp only [Option.bind_some]
        rw [if_pos y2.1.1, nameOf_m hF dU.1.2.2.1 dU.2.2.2.1 hn no]; rfl
      rcases fdn_v nm (nam tb n (tke tb n e)) (cF p) 0 with z | ⟨f, hf, z⟩
      · rw [z] at mY ⊢
        rw [if_pos rfl]
        obtain ⟨Z1, z1, z2, z3, z4⟩ := fe61 (sd := sd) a1 c2 hq c6
        rw [z1]
        simp only [Option.bind_some]
        have rZ : RS Z1 tb n (tke tb n e) true := RS_c a1 (z2 1 (by omega)) (z2 2 (by omega)) (z2 19 (by omega))
        have dZ : DrC Z1 sd p w td nm L cn := by
          have d0 := dA
          unfold DrC CC WC rgC at d0 ⊢
          rw [z2 sd (by omega), z2 (sd + 1) (by omega), z2 (sd + 3) (by omega), z2 (sd + 3 + 1) (by omega), z2 (sd + 3 + 2) (by omega), z2 (sd + 3 + 3) (by omega), z2 (sd + 7) (by omega), z2 19 (by omega)]
          exact ⟨d0.1, d0.2.1, fun f hf i hi => by rw [z4 _ (by omega)]; exact d0.2.2.1 f hf i hi, d0.2.2.2⟩
        have fZ : FC sd Z1 X := fun q q1 q2 => by rw [z2 q (by omega)]; exact FC_R a2 q q1 q2
        obtain ⟨B, eb, b1, b2⟩ := word_x (sd := sd) rZ c2
        have dB := DrC_R hq dZ b2
        have fB : FC sd B X := FC_t (FC_R b2) fZ
        have nB : B (sd + 2) = Z1 (sd + 2) := (FX_R (sd := 20) b2).1 _ (by omega) (by omega)
        rw [eb]
        simp only [Option.bind_some]
        have mZ : ∀ Y J, QP Y tb n (tke tb n e) true → DrM Y J p w td nm L cn → ∃ U, QP U tb n (tke tb n (tke tb n e)) true ∧ DrM U J p w td nm L cn ∧ fsL LQ5 U Y ∧ F_MD_fenceTold Y J (nI (sk tb n e)) = F_MD_fenceTold_62 U J (lN (n27 (nam tb n (tke tb n e)) 0)) := by
          intro Y J hY hD
          obtain ⟨U, y1, y2, y3, y4, y5⟩ := mY Y J hY hD
          rw [if_pos rfl] at y5
          exact ⟨U, y1, y2, y4, y5⟩
        rcases needW_j (sd := sd) b1 (w := 185) (i := 5) (lw := 3) (by decide) rfl with ⟨g1, V, ew, w1, w2, w3⟩ | ⟨V, ew, w1, w2, w3⟩
        · have ew : F_Reader_needWord sd B 5 = some (1, V) := ew
          have dV := DrC_N hq dB w2
          have fV : FC sd V X := FC_t (FC_N w2) fB
          have nV : V (sd + 2) = Z1 (sd + 2) := ((FX_N (sd := 20) w2).1 _ (by omega) (by omega)).trans nB
          have eR : V sd 2 - 1 = nI (cR p - 1) := by rw [dV.1.1.2.1]; exact nI_subN (a := cR p) (b := 1) (by omega)
          rw [ew]
          simp only [Option.bind_some]
          rw [if_neg (by decide), eR]
          have eM2 : ∀ {Y : MI} {J : MJ}, DrM Y J p w td nm L cn → Y 204 1 - 1 = nI (cR p - 1) := fun hD => by rw [hD.1.2.1]; exact nI_subN (a := cR p) (b := 1) (by omega)
          rcases num_j (sd := sd) w1 (a := 0) (m := cR p - 1) (by decide) (by omega) with ⟨m1, m2, m3, T, et, t1, t2, t3, t4⟩ | ⟨k, at', T, kk, et, t1, t2, t3⟩
          · have et : F_Reader_number sd V 0 (nI (cR p - 1)) = some (1, T) := et
            have dT := DrC_N hq dV t3
            have fT : FC sd T X := FC_t (FC_N t3) fV
            have nT : T (sd + 2) = Z1 (sd + 2) := ((FX_N (sd := 20) t3).1 _ (by omega) (by omega)).trans nV
            rw [et]
            simp only [Option.bind_some]
            rw [if_neg (by decide)]
            generalize hr' : n_val tb n (tke tb n (tke tb n (tke tb n e))) = r at *
            obtain ⟨Z2, q1, q2, q3⟩ := fe125 (sd := sd) hq c6 hC dT.1.1.1 t2
            rw [q1]
            simp only [Option.bind_some]
            have rZ2 : RS Z2 tb n _ true := RS_c t1 (q2 1 (by omega)) (q2 2 (by omega)) (q2 19 (by omega))
            have fZ2 : FC sd Z2 X := fun q a c => by rw [q2 q (by omega)]; exact fT q a c
            have nZ2 : Z2 (sd + 2) = Z1 (sd + 2) := by rw [q2 _ (by omega)]; exact nT
            rcases needW_j (sd := sd) rZ2 (w := 186) (i := 6) (lw := 3) (by decide) rfl with ⟨g2, U, eu, u1, u2, u3⟩ | ⟨U, eu, u1, u2, u3⟩
            · have eu : F_Reader_needWord sd Z2 6 = some (1, U) := eu
              have fU : FC sd U X := FC_t (FC_N u2) fZ2
              rw [eu]
              simp only [Option.bind_some]
              rw [if_neg (by decide)]
              rcases num_j (sd := sd) u1 (a := 0) (m := 99) (by decide) (by omega) with ⟨p1, p2, p3, S, es, s1, s2, s3', s4⟩ | ⟨k, at', S, kk, es, s1, s2, s4⟩
              · have es : F_Reader_number sd U 0 99 = some (1, S) := es
                rw [es]
                simp only [Option.bind_some]
                rw [if_neg (by decide), s2]
                generalize ha' : n_val tb n (tke tb n (tke tb n (tke tb n (tke tb n (tke tb n e))))) = a at *
                have kS : ∀ q, q ≠ 19 → S q = Z2 q := fun q hq' => by rw [(FX_N (sd := q) s3').1 q hq' (by omega), (FX_N (sd := q) u2).1 q hq' (by omega)]
                have kT : ∀ q, q ≠ 19 → q ≠ sd + 6 → S q = T q := fun q x y => by rw [kS q x, q2 q y]
                have l5 : S 19 5 = T 19 5 := by rw [s3' 19 5 (by decide), u2 19 5 (by decide), q2 19 (by omega)]
                have e3 : S sd 3 = nI (cF p) := by rw [kT sd (by omega) (by omega)]; exact dT.1.1.2.2.1
                have ePA : gI_Lay_putAge S (sd + 3) (nI (cF p)) (nI a) = m_up S (sd + 4) (cF p) (nI a) := by
                  unfold gI_Lay_putAge
                  rw [if_neg (nI_pos (by omega)), if_neg (show ¬ (6 : Int32) ≤ nI (cF p) from nI_ge (b := 6) c6 (by decide)), nI_clamp (by omega)]
                have e3' : (m_up S (sd + 4) (cF p) (nI a)) sd 3 + 1 = nI (cF p + 1) := by rw [up_k _ _ _ (by omega), e3, nI_s]
                rw [ePA, e3']
                have kF : ∀ q, q ≠ sd → q ≠ sd + 4 → m_up (m_up S (sd + 4) (cF p) (nI a)) sd 3 (nI (cF p + 1)) q = S q := fun q x y => by rw [up_k _ _ _ x, up_k _ _ _ y]
                have kj : ∀ j, j ≠ 3 → m_up (m_up S (sd + 4) (cF p) (nI a)) sd 3 (nI (cF p + 1)) sd j = S sd j := fun j x => by rw [up_j _ _ _ x, up_k _ _ _ (by omega)]
                left
                refine ⟨_, true, p_fn p, a_fen p w (nI r) (nI a), td, nm_f p nm (nam tb n (tke tb n e)), L, m_up (m_up S (sd + 4) (cF p) (nI a)) sd 3 (nI (cF p + 1)), rfl, RS_u (RS_u s1 (by omega)) (by omega), by omega, ⟨⟨⟨?_, ?_, up_e _ _ _ _, fun c hc => ?_⟩, ⟨?_, ?_, fun f hf => ?_, fun c hc => ?_, fun f c hf hc => ?_⟩⟩, ⟨?_, ?_⟩, fun f hf i hi => ?_, ?_, ?_, fun i hi => ?_⟩, ⟨⟨⟨ho.1, ho.2.1, c6, ho.2.2.2⟩, hC1, hR4, hQ⟩, ⟨⟨hv.1, hv.2.1, fun f => ?_, hv.2.2.2.1, fun f c => ?_, fun f c hfc => ?_⟩, ⟨fun f hf => hk0 f, hx.2.1, hx.2.2.1, hx.2.2.2.1, hx.2.2.2.2⟩, hy0, hk0, h12⟩, hi3, fun f hf => ?_, hi5⟩, FC_up (by omega) (FC_up (by omega) (FC_t (FC_N s3') fU)), by omega, fun Y J hY hD => ?_⟩
                · rw [kj 1 (by decide), kT sd (by omega) (by omega)]; exact dT.1.1.1
                · rw [kj 2 (by decide), kT sd (by omega) (by omega)]; exact dT.1.1.2.1
                · rw [kF (sd + 1) (by omega) (by omega), kT (sd + 1) (by omega) (by omega)]; exact dT.1.1.2.2.2 c hc
                · rw [kF (sd + 3) (by omega) (by omega), kT (sd + 3) (by omega) (by omega)]; exact dT.1.2.1
                · rw [kF (sd + 3) (by omega) (by omega), kT (sd + 3) (by omega) (by omega)]; exact dT.1.2.2.1
                · show m_up (m_up S (sd + 4) (cF p) (nI a)) sd 3 (nI (cF p + 1)) (sd + 4) f = if f = cF p then nI a else wA w f
                  rw [up_k _ _ _ (by omega)]
                  by_cases y : f = cF p
                  · rw [if_pos y, y, up_e]
                  · rw [if_neg y, up_j _ _ _ y, kT (sd + 4) (by omega) (by omega)]; exact dT.1.2.2.2.1 f hf
                · rw [kF (sd + 3 + 2) (by omega) (by omega), kT (sd + 3 + 2) (by omega) (by omega)]; exact dT.1.2.2.2.2.1 c hc
                · show m_up (m_up S (sd + 4) (cF p) (nI a)) sd 3 (nI (cF p + 1)) (sd + 6) (6 * f + c) = if f = cF p ∧ c < cC p then nI r else wR w f c
                  rw [kF (sd + 6) (by omega) (by omega), kS (sd + 6) (by omega), q3]
                  by_cases y : f = cF p ∧ c < cC p
                  · rw [if_pos (by omega), if_pos y]
                  · rw [if_neg (by omega), if_neg y]; exact dT.1.2.2.2.2.2 f c hf hc
                · rw [kj 0 (by decide), kT sd (by omega) (by omega)]; exact dT.2.1.1
                · rw [kj 4 (by decide), kT sd (by omega) (by omega)]; exact dT.2.1.2
                · have hf : f < cF p + 1 := hf
                  rw [kF (sd + 2) (by omega) (by omega), kS (sd + 2) (by omega)]
                  show _ = nI ((if f = cF p then nam tb n (tke tb n e) else nm f).getD i 0)
                  by_cases y : f = cF p
                  · rw [if_pos y, nZ2, y]; exact z3 i hi
                  · rw [if_neg y, q2 (sd + 2) (by omega)]; exact dT.2.2.1 f (by omega) i hi
                · have := dT.2.2.2.1
                  unfold rgC at this ⊢
                  rw [kj 9 (by decide), kj 10 (by decide), kj 11 (by decide), kj 12 (by decide), kT sd (by omega) (by omega)]; exact this
                · rw [kF 19 (by omega) (by omega), l5]; exact dT.2.2.2.2.1
                · rw [kF (sd + 7) (by omega) (by omega), kT (sd + 7) (by omega) (by omega)]; exact dT.2.2.2.2.2 i hi
                · show 0 ≤ (if f = cF p then nI a else wA w f) ∧ (if f = cF p then nI a else wA w f) ≤ 99
                  split
                  · exact ⟨nI_pos' (by omega), nI_le (b := 99) p2 (by decide)⟩
                  · exact hv.2.2.1 f
                · show -1 ≤ (if f = cF p ∧ c < cC p then nI r else wR w f c) ∧ (if f = cF p ∧ c < cC p then nI r else wR w f c) < nI (cR p) ∨ (if f = cF p ∧ c < cC p then nI r else wR w f c) = -1
                  split
                  · left
                    exact ⟨Int32.le_trans (show (-1 : Int32) ≤ 0 by decide) (nI_pos' (by omega)), nI_lt (by omega) (by omega)⟩
                  · exact hv.2.2.2.2.1 f c
                · have hfc : cF p + 1 ≤ f ∨ cC p ≤ c := hfc
                  show (if f = cF p ∧ c < cC p then nI r else wR w f c) = -1
                  rw [if_neg (by omega)]
                  exact hv.2.2.2.2.2 f c (by omega)
                · have hf : f < cF p + 1 := hf
                  show (if f = cF p then nam tb n (tke tb n e) else nm f).length ≤ 6 ∧ 1 ≤ (if f = cF p then nam tb n (tke tb n e) else nm f).length ∧ ∀ a, a ∈ (if f = cF p then nam tb n (tke tb n e) else nm f) → 1 ≤ a ∧ a ≤ 26
                  by_cases y : f = cF p
                  · rw [if_pos y]; exact no
                  · rw [if_neg y]; exact hi4 f (by omega)
                · obtain ⟨U0, y1, y2, y4, y5⟩ := mZ Y J hY hD
                  obtain ⟨Y', J', x1, x2, x3, x4, x5⟩ := fe62_ok ho hR4 c6 (l := nam tb n (tke tb n e)) rfl p2 (by omega) w3 t4 u3 s4 y1 y2
                  exact ⟨Y', J', y5.trans x1, x2, x3, FS_t x4 (FS_5 y4), x5⟩
              · have es : F_Reader_number sd U 0 99 = some (0, S) := es
                rw [es]
                simp only [Option.bind_some]
                rw [if_pos trivial]
                right
                refine ⟨k, at', S, rfl, s1, FC_t (FC_N s2) fU, kk, fun Y J hY hD => ?_⟩
                obtain ⟨U0, y1, y2, y4, y5⟩ := mZ Y J hY hD
                obtain ⟨U1, o1, o2, o3⟩ := w3 U0 y1
                have d1 := DrM_M y2 o3
                obtain ⟨U2, x1, x2, -, x3⟩ := t4 U1 o2
                have x1 : F_MD_number U1 0 (nI (cR p - 1)) = _ := x1
                obtain ⟨U3, k1, k2, k3⟩ := u3 U2 x2
                obtain ⟨x, U4, l1, l2, l3⟩ := s4 U3 k2
                have l1 : F_MD_number U3 0 99 = _ := l1
                refine ⟨U4, J, ?_, l2, FS_t (FS_M (fs_tr l3 (fs_tr k3 (fs_tr x3 o3)))) (FS_5 y4), FJ_r J⟩
                show F_MD_fenceTold Y J (nI (sk tb n e)) = _
                rw [y5]
                unfold F_MD_fenceTold_62
                rw [o1]
                simp only [Option.bind_some]
                rw [eM2 d1, x1]
                simp only [Option.bind_some]
                rw [k1]
                simp only [Option.bind_some]
                rw [l1]
                simp only [Option.bind_some]
                rw [if_neg (mf_ne l2 kk.1 kk.2)]
            · have eu : F_Reader_needWord sd Z2 6 = some (0, U) := eu
              rw [eu]
              simp only [Option.bind_some]
              rw [if_pos trivial]
              right
              refine ⟨1, _, U, rfl, u1, FC_t (FC_N u2) fZ2, ⟨by decide, by decide⟩, fun Y J hY hD => ?_⟩
              obtain ⟨U0, y1, y2, y4, y5⟩ := mZ Y J hY hD
              obtain ⟨U1, o1, o2, o3⟩ := w3 U0 y1
              have d1 := DrM_M y2 o3
              obtain ⟨U2, x1, x2, -, x3⟩ := t4 U1 o2
              have x1 : F_MD_number U1 0 (nI (cR p - 1)) = _ := x1
              obtain ⟨U3, k1, k2, k3⟩ := u3 U2 x2
              have nb := mf_ne k2 (by decide) (by decide)
              refine ⟨U3, J, ?_, k2, FS_t (FS_M (fs_tr k3 (fs_tr x3 o3))) (FS_5 y4), FJ_r J⟩
              show F_MD_fenceTold Y J (nI (sk tb n e)) = _
              rw [y5]
              unfold F_MD_fenceTold_62
              rw [o1]
              simp only [Option.bind_some]
              rw [eM2 d1, x1]
              simp only [Option.bind_some]
              rw [k1]
              simp only [Option.bind_some]
              rw [num_b nb]
              simp only [Option.bind_some]
              rw [if_neg nb]
          · have et : F_Reader_number sd V 0 (nI (cR p - 1)) = some (0, T) := et
            rw [et]
            simp only [Option.bind_some]
            rw [if_pos trivial]
            right
            refine ⟨k, at', T, rfl, t1, FC_t (FC_N t2) fV, kk, fun Y J hY hD => ?_⟩
            obtain ⟨U0, y1, y2, y4, y5⟩ := mZ Y J hY hD
            obtain ⟨U1, o1, o2, o3⟩ := w3 U0 y1
            have d1 := DrM_M y2 o3
            obtain ⟨x, U2, x1, x2, x3⟩ := t3 U1 o2
            have x1 : F_MD_number U1 0 (nI (cR p - 1)) = _ := x1
            have nb := mf_ne x2 kk.1 kk.2
            refine ⟨U2, J, ?_, x2, FS_t (FS_M (fs_tr x3 o3)) (FS_5 y4), FJ_r J⟩
            show F_MD_fenceTold Y J (nI (sk tb n e)) = _
            rw [y5]
            unfold F_MD_fenceTold_62
            rw [o1]
            simp only [Option.bind_some]
            rw [eM2 d1, x1]
            simp only [Option.bind_some]
            rw [asks_b nb]
            simp only [Option.bind_some]
            rw [num_b nb]
            simp only [Option.bind_some]
            rw [if_neg nb]
        · have ew : F_Reader_needWord sd B 5 = some (0, V) := ew
          rw [ew]
          simp only [Option.bind_some]
          rw [if_pos trivial]
          right
          refine ⟨1, _, V, rfl, w1, FC_t (FC_N w2) fB, ⟨by decide, by decide⟩, fun Y J hY hD => ?_⟩
          obtain ⟨U0, y1, y2, y4, y5⟩ := mZ Y J hY hD
          obtain ⟨U1, o1, o2, o3⟩ := w3 U0 y1
          have nb := mf_ne o2 (by decide) (by decide)
          refine ⟨U1, J, ?_, o2, FS_t (FS_M o3) (FS_5 y4), FJ_r J⟩
          show F_MD_fenceTold Y J (nI (sk tb n e)) = _
          rw [y5]
          unfold F_MD_fenceTold_62
          rw [o1]
          simp only [Option.bind_some]
          rw [num_b nb]
          simp only [Option.bind_some]
          rw [asks_b nb]
          simp only [Option.bind_some]
          rw [num_b nb]
          simp only [Option.bind_some]
          rw [if_neg nb]
      · have ne : ¬ nI f = -1 := fun y => by have := nI_pos' (n := f) (by omega); rw [y] at this; exact absurd this (by decide)
        rw [z] at mY ⊢
        rw [if_neg ne, a1.2.1.2.1, show (3 : Int32) = nI 3 from rfl, wrong_e]
        simp only [Option.bind_some]
        rw [gq_e (Or.inl trivial)]
        right
        refine ⟨3, sk tb n (tke tb n e), wrm A 3 (sk tb n (tke tb n e)), rfl, wrm_t A 3 _, FC_t (FC_N (wrm_f 3 _ (by decide))) (FC_R a2), ⟨by decide, by decide⟩, fun Y J hY hD => ?_⟩
        obtain ⟨U, y1, y2, y3, y4, y5⟩ := mY Y J hY hD
        have ff : F_MD_fail U 3 (nI (sk tb n (tke tb n e))) = _ := fail_m y1.1.1 3 _
        have bt := fail_t U 3 (sk tb n (tke tb n e))
        rw [if_neg ne, y3, ff] at y5
        simp only [Option.bind_some] at y5
        rw [fe62_b (mf_ne bt (by decide) (by decide))] at y5
        exact ⟨_, J, y5, bt, FS_t (FS_M (fail_f U 3 _)) (FS_5 y4), FJ_r J⟩
    · rw [ev]
      simp only [Option.bind_some]
      rw [if_pos trivial]
      right
      refine ⟨k, at', V, rfl, v1, FC_t (FC_N v2) (FC_R a2), kk, fun Y J hY hD => ?_⟩
      obtain ⟨x, U, y1, y2, y3⟩ := v3 Y hY
      have f5 : fsL LQ5 U Y := fs_sub (by decide) y3
      have nb := mf_ne y2 kk.1 kk.2
      refine ⟨U, J, ?_, y2, FS_5 f5, FJ_r J⟩
      show F_MD_fenceTold Y J (nI (sk tb n e)) = _
      rw [e24 hY hD]
      unfold F_MD_fenceTold_24
      rw [if_pos hY.1.1, y1]
      simp only [Option.bind_some]
      rw [if_neg nb, fe62_b nb]
  · have e6 : cF p = 6 := by omega
    rw [if_neg (show ¬ nI (cF p) < 6 from nI_nlt (b := 6) (by omega) (by omega)), h.2.1.2.1, show (5 : Int32) = nI 5 from rfl, wrong_e]
    simp only [Option.bind_some]
    rw [gq_e (Or.inl trivial)]
    right
    refine ⟨5, sk tb n e, wrm X 5 (sk tb n e), rfl, wrm_t X 5 _, FC_N (wrm_f 5 _ (by decide)), ⟨by decide, by decide⟩, fun Y J hY hD => ?_⟩
    have ff : F_MD_fail Y 5 (nI (sk tb n e)) = _ := fail_m hY.1.1 5 _
    have bt := fail_t Y 5 (sk tb n e)
    refine ⟨_, J, ?_, bt, FS_M (fail_f Y 5 _), FJ_r J⟩
    show F_MD_fenceTold Y J (nI (sk tb n e)) = _
    unfold F_MD_fenceTold
    rw [if_pos hY.1.1, hD.1.2.2.1, if_pos (by rw [e6]; rfl), ff]
    simp only [Option.bind_some]
    unfold F_MD_fenceTold_24
    rw [if_neg (mf_ne bt (by decide) (by decide))]
end LD8
