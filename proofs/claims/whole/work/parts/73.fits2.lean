/-! fits: the reference lays the years out -/
section L73
variable {I X : MI} {J JX : MJ} {k o sl sd : Nat} {p : CF} {w : WD} {kl : List NT} {un : List (WD × List NT)}
theorem ad_218 (n c r : Nat) : (((180 : Int32) * nI n) + ((30 : Int32) * nI c)) + nI r = nI (180 * n + 30 * c + r) := by
  have a1 : (180 : Int32) * nI n = nI (180 * n) := nI_m3 180 n
  have a2 : (30 : Int32) * nI c = nI (30 * c) := nI_m3 30 c
  rw [a1, a2, nI_add, nI_add]
theorem fill_r (ho : CO p) (hs : CM X p) (hw : WM X p w) (hv : WO p w) {n c : Nat} (hn : n < 31) (hc : c < cC p) :
    ok (wl (fun s : Int32 × MI => F_MD_laysFits_80 s.2 (nI n) (nI c) s.1) ((0 : Int32), X)) (fun Y => (∀ r, r < cR p → Y 218 (180 * n + 30 * c + r) = (a_own (fun f => wR w f c) (nI r) (cF p)).1) ∧ (∀ j, j < 180 * n + 30 * c ∨ 180 * n + 30 * c + 30 ≤ j → Y 218 j = X 218 j) ∧ ∀ k, k ≠ 218 → Y k = X k) := by
  have hC := ho.1; have hR := ho.2.1
  refine ok_cnt (cR p) (fun m Y => (∀ r, r < m → Y 218 (180 * n + 30 * c + r) = (a_own (fun f => wR w f c) (nI r) (cF p)).1) ∧ (∀ j, j < 180 * n + 30 * c ∨ 180 * n + 30 * c + 30 ≤ j → Y 218 j = X 218 j) ∧ ∀ k, k ≠ 218 → Y k = X k) ⟨fun r h => absurd h (by omega), fun _ _ => rfl, fun _ _ => rfl⟩ ?_ ?_
  · rintro m hm Y ⟨h1, h2, h3⟩
    have e204 : Y 204 = X 204 := h3 204 (by decide)
    have hsY : CM Y p := CM_c hs (fun k hk => h3 k (by omega))
    have hwY : WM Y p w := WM_c ho hw (fun j _ => by rw [h3 213 (by decide)])
    simp only [F_MD_laysFits_80]
    refine ok_f (by rw [e204, hs.2.1]; exact nI_ge hm (by omega)) (ok_be (whose_e ho hsY hwY hv hc (nI m)) (ok_gd (ad_218 n c m) (by omega) (by decide) (ok_s ⟨nI_s m, fun r hr => ?_, fun j hj => ?_, fun k hk => ?_⟩)))
    · show m_up Y 218 _ _ 218 _ = _
      rw [ad_218, nI_clamp (by omega)]
      by_cases e : r = m
      · subst e; rw [up_e]
      · rw [up_j _ _ _ (by omega)]; exact h1 r (by omega)
    · show m_up Y 218 _ _ 218 _ = _
      rw [ad_218, nI_clamp (by omega), up_j _ _ _ (by omega)]; exact h2 j hj
    · show m_up Y 218 _ _ k = _
      rw [up_k _ _ _ hk]; exact h3 k hk
  · rintro Y ⟨h1, h2, h3⟩
    have e204 : Y 204 = X 204 := h3 204 (by decide)
    simp only [F_MD_laysFits_80]
    exact ok_t (by rw [e204, hs.2.1]; exact Int32.le_refl _) (ok_s ⟨h1, h2, h3⟩)
theorem fill_c (ho : CO p) (hs : CM X p) (hw : WM X p w) (hv : WO p w) {n : Nat} (hn : n < 31) :
    ok (wl (fun s : Int32 × MI => F_MD_laysFits_68 s.2 (nI n) s.1) ((0 : Int32), X)) (fun Y => (∀ c r, c < cC p → r < cR p → Y 218 (180 * n + 30 * c + r) = (a_own (fun f => wR w f c) (nI r) (cF p)).1) ∧ (∀ j, j < 180 * n → Y 218 j = X 218 j) ∧ ∀ k, k ≠ 218 → Y k = X k) := by
  have hC := ho.1; have hR := ho.2.1
  refine ok_cnt (cC p) (fun m Y => (∀ c r, c < m → r < cR p → Y 218 (180 * n + 30 * c + r) = (a_own (fun f => wR w f c) (nI r) (cF p)).1) ∧ (∀ j, j < 180 * n → Y 218 j = X 218 j) ∧ ∀ k, k ≠ 218 → Y k = X k) ⟨fun c r h => absurd h (by omega), fun _ _ => rfl, fun _ _ => rfl⟩ ?_ ?_
  · rintro m hm Y ⟨h1, h2, h3⟩
    have e204 : Y 204 = X 204 := h3 204 (by decide)
    have hsY : CM Y p := CM_c hs (fun k hk => h3 k (by omega))
    have hwY : WM Y p w := WM_c ho hw (fun j _ => by rw [h3 213 (by decide)])
    simp only [F_MD_laysFits_68]
    refine ok_f (by rw [e204, hs.1]; exact nI_ge hm (by omega)) (ok_b (fill_r ho hsY hwY hv hn hm) ?_)
    rintro Z ⟨z1, z2, z3⟩
    refine ok_s ⟨nI_s m, fun c r hc hr => ?_, fun j hj => ?_, fun k hk => ?_⟩
    · show Z 218 _ = _
      by_cases e : c = m
      · subst e; exact z1 r hr
      · rw [z2 _ (by omega)]; exact h1 c r (by omega) hr
    · show Z 218 _ = _
      rw [z2 _ (by omega)]; exact h2 j hj
    · show Z k = _
      rw [z3 k hk]; exact h3 k hk
  · rintro Y ⟨h1, h2, h3⟩
    have e204 : Y 204 = X 204 := h3 204 (by decide)
    simp only [F_MD_laysFits_68]
    exact ok_t (by rw [e204, hs.1]; exact Int32.le_refl _) (ok_s ⟨h1, h2, h3⟩)
abbrev LF : List (Nat × Option Nat) := (177, some 63) :: (218, none) :: (219, none) :: LY
theorem nar_b (b : Bool) : vp_nar .boolean (bI b) = bI b := by cases b <;> rfl
/-- the years laid out -/
theorem lays_e (ho : CO p) (hQ : CQ p) (hR : cF p = 0 ∨ 0 < cR p) (hv : WO p w) (hs : CM X p) (hcn : CN X p) (hw : WM X p w) (hk : KM X kl) (J : MJ) {sn : List NT} (hn : SN p sn) (hS : SM X sn) {y : Nat} (hy : wY w = nI y) (hy1 : y ≤ 999) :
    ok (F_MD_laysFits X J) (fun t => WM t.1 p w ∧ KM t.1 kl ∧ t.1 177 55 = 0 ∧ t.1 177 63 = nI (fc (a_fit p w sn y) 31) ∧ (∀ i, i < 31 → t.1 219 i = bI (a_fit p w sn y i)) ∧ (∀ i c r, i < 31 → c < cC p → r < cR p → t.1 218 (180 * i + 30 * c + r) = (a_own (fun f => wR (a_it p w i) f c) (nI r) (cF p)).1) ∧ fsL ((177, some 63) :: (218, none) :: (219, none) :: DM) t.1 X ∧ fsL K1 t.2 J) := by
  have hC := ho.1; have hR2 := ho.2.1
  unfold F_MD_laysFits
  refine ok_b (aside_e hs hcn hw hk) ?_
  rintro A ⟨a1, a2, a3⟩
  have a4 : WMg (A 214) p w := WMg_of ho hw a2
  have loop : ok (wl (fun s : Int32 × MI × MJ => F_MD_laysFits_11 s.2.1 s.2.2 s.1) ((0 : Int32), m_up A 177 63 (0 : Int32), J)) (fun t => TH t.1 p (a_it p w 31) kl ∧ t.1 177 63 = nI (fc (a_fit p w sn y) 31) ∧ (∀ i, i < 31 → t.1 219 i = bI (a_fit p w sn y i)) ∧ (∀ i c r, i < 31 → c < cC p → r < cR p → t.1 218 (180 * i + 30 * c + r) = (a_own (fun f => wR (a_it p w i) f c) (nI r) (cF p)).1) ∧ fsL LF t.1 A ∧ fsL K1 t.2 J) := by
    refine ok_cnt 31 (fun m (t : MI × MJ) => TH t.1 p (a_it p w m) kl ∧ t.1 177 63 = nI (fc (a_fit p w sn y) m) ∧ (∀ i, i < m → t.1 219 i = bI (a_fit p w sn y i)) ∧ (∀ i c r, i < m → c < cC p → r < cR p → t.1 218 (180 * i + 30 * c + r) = (a_own (fun f => wR (a_it p w i) f c) (nI r) (cF p)).1) ∧ fsL LF t.1 A ∧ fsL K1 t.2 J) ?_ ?_ ?_
    · have f0 : fsL LF (m_up A 177 63 (0 : Int32)) A := fs_up (LX := LF) (by decide) (by decide) (fs_r A)
      obtain ⟨b1, b2, b3, b4, b5⟩ := a1
      refine ⟨⟨CM_c b1 (fun k hk => up_k _ _ _ (by omega)), CN_c b2 (fun k hk => up_k _ _ _ (by omega)), WM_c ho b3 (fun j _ => by show m_up A 177 63 0 213 j = _; rw [up_k _ _ _ (by decide)]), KM_c b4 (fun j _ => by show m_up A 177 63 0 213 j = _; rw [up_k _ _ _ (by decide)]), ?_⟩, ?_, fun i h => absurd h (by omega), fun i c r h => absurd h (by omega), f0, fs_r J⟩
      · show m_up A 177 63 0 177 55 = 1
        rw [up_j _ _ _ (by decide)]; exact b5
      · show m_up A 177 63 0 177 63 = _
        rw [up_e]; rfl
    · rintro m hm ⟨Y, JY⟩ ⟨h1, h2, h3, h4, h5, h6⟩
      have h1 : TH Y p (a_it p w m) kl := h1
      have h2 : Y 177 63 = nI (fc (a_fit p w sn y) m) := h2
      have h3 : ∀ i, i < m → Y 219 i = bI (a_fit p w sn y i) := h3
      have h4 : ∀ i c r, i < m → c < cC p → r < cR p → Y 218 (180 * i + 30 * c + r) = (a_own (fun f => wR (a_it p w i) f c) (nI r) (cF p)).1 := h4
      have h5 : fsL LF Y A := h5
      have h6 : fsL K1 JY J := h6
      have hO := it_O ho hR hv hy m (by omega)
      have hSY : SM Y sn := by
        refine ⟨?_, fun i hi => ?_⟩
        · rw [h5 177 59 (by decide), a3 177 59 (by decide)]; exact hS.1
        · have e : Y 217 = X 217 := (fs_k h5 (by decide)).trans (fs_k a3 (by decide))
          rw [e]; exact hS.2 i hi
      have eY : Y 213 0 = nI (y + m) := by rw [h1.2.2.1.1, it_Y, hy, nI_add]
      have fcl := fc_le (a_fit p w sn y) m
      -- what is behind the flag
      have tail : ∀ b : Bool, a_fit p w sn y m = b → ok (F_MD_laysFits_46 Y JY (nI m) (bI b) (nI m)) (Sum.elim (fun q => q.1 = nI (m + 1) ∧ (TH q.2.1 p (a_it p w (m + 1)) kl ∧ q.2.1 177 63 = nI (fc (a_fit p w sn y) (m + 1)) ∧ (∀ i, i < m + 1 → q.2.1 219 i = bI (a_fit p w sn y i)) ∧ (∀ i c r, i < m + 1 → c < cC p → r < cR p → q.2.1 218 (180 * i + 30 * c + r) = (a_own (fun f => wR (a_it p w i) f c) (nI r) (cF p)).1) ∧ fsL LF q.2.1 A ∧ fsL K1 q.2.2 J)) (fun _ => False)) := by
        intro b eb
        have last : ∀ V : MI, V 177 63 = nI (fc (a_fit p w sn y) (m + 1)) → V 219 m = bI b → (∀ j, j ≠ m → V 219 j = Y 219 j) → fsL [(177, some 63), (219, none)] V Y → ok (F_MD_laysFits_66 V JY (nI m)) (Sum.elim (fun q => q.1 = nI (m + 1) ∧ (TH q.2.1 p (a_it p w (m + 1)) kl ∧ q.2.1 177 63 = nI (fc (a_fit p w sn y) (m + 1)) ∧ (∀ i, i < m + 1 → q.2.1 219 i = bI (a_fit p w sn y i)) ∧ (∀ i c r, i < m + 1 → c < cC p → r < cR p → q.2.1 218 (180 * i + 30 * c + r) = (a_own (fun f => wR (a_it p w i) f c) (nI r) (cF p)).1) ∧ fsL LF q.2.1 A ∧ fsL K1 q.2.2 J)) (fun _ => False)) := by
          intro V v1 v2 v3 v4
          obtain ⟨b1, b2, b3, b4, b5⟩ := h1
          have c1 : CM V p := CM_c b1 (fun k hk => fs_k v4 (by rcases hk with z | z | z <;> subst z <;> decide))
          have c2 : CN V p := CN_c b2 (fun k hk => fs_k v4 (by rcases hk with z | z | z <;> subst z <;> decide))
          have c3 : WM V p (a_it p w m) := WM_c ho b3 (fun j _ => by rw [fs_k v4 (by decide)])
          have c4 : KM V kl := KM_c b4 (fun j _ => by rw [fs_k v4 (by decide)])
          unfold F_MD_laysFits_66
          refine ok_b (fill_c ho c1 c3 hO hm) ?_
          rintro Z ⟨z1, z2, z3⟩
          have hZ : TH Z p (a_it p w m) kl := ⟨CM_c c1 (fun k hk => z3 k (by omega)), CN_c c2 (fun k hk => z3 k (by omega)), WM_c ho c3 (fun j _ => by rw [z3 213 (by decide)]), KM_c c4 (fun j _ => by rw [z3 213 (by decide)]), by rw [z3 177 (by decide), v4 177 55 (by decide)]; exact b5⟩
          obtain ⟨⟨U, JU⟩, eu, u1, u2, u3⟩ := yearT ho hQ hR hO hZ JY
          have u2 : fsL LY U Z := u2
          have u1 : TH U p (a_it p w (m + 1)) kl := u1
          refine ok_be eu (ok_s ⟨nI_s m, u1, ?_, fun i hi => ?_, fun i c r hi hc hr => ?_, ?_, fs_tr u3 h6⟩)
          · show U 177 63 = _
            rw [u2 177 63 (by decide), z3 177 (by decide)]; exact v1
          · show U 219 i = _
            rw [fs_k u2 (by decide), z3 219 (by decide)]
            by_cases e : i = m
            · subst e; rw [v2, eb]
            · rw [v3 i e]; exact h3 i (by omega)
          · show U 218 _ = _
            rw [fs_k u2 (by decide)]
            by_cases e : i = m
            · subst e; exact z1 c r hc hr
            · rw [z2 _ (by omega), fs_k v4 (by decide)]; exact h4 i c r (by omega) hc hr
          · have fz : fsL LF Z V := fs_fr (P := fun q => q = 218) (fun k hk => z3 k hk) (fun k hk => by subst hk; decide)
            exact fs_tr (fs_sub (by decide) u2) (fs_tr fz (fs_tr (fs_sub (by decide) v4) h5))
        unfold F_MD_laysFits_46
        refine ok_gd rfl hm (by decide) (ok_gd rfl hm (by decide) ?_)
        rw [nI_clamp (by omega), nar_b, up_e]
        have eN : fc (a_fit p w sn y) (m + 1) = if b = true then fc (a_fit p w sn y) m + 1 else fc (a_fit p w sn y) m := by simp only [fc]; rw [eb]
        have f0 : fsL [(177, some 63), (219, none)] (m_up Y 219 m (bI b)) Y := fs_up (LX := [(177, some 63), (219, none)]) (by decide) (by simp [inL]) (fs_r Y)
        cases b with
        | false =>
          refine ok_t rfl (last _ ?_ (up_e _ _ _ _) (fun j hj => up_j _ _ _ hj) f0)
          rw [up_k _ _ _ (by decide), h2, eN]; rfl
        | true =>
          refine ok_f (by decide) (last _ ?_ ?_ (fun j hj => ?_) (fs_up (LX := [(177, some 63), (219, none)]) (by decide) (by decide) f0))
          · rw [up_e, h2, eN]; exact nI_s _
          · rw [up_k _ _ _ (by decide), up_e]
          · rw [up_k _ _ _ (by decide), up_j _ _ _ hj]
      show ok (F_MD_laysFits_11 Y JY (nI m)) _
      unfold F_MD_laysFits_11
      refine ok_f (show ¬ (30 : Int32) < nI m from nI_nlt (a := 30) (b := m) (by omega) (by omega)) ?_
      by_cases q : y + m ≤ 999
      · refine ok_f (by rw [eY]; exact nI_nlt (a := 999) (by omega) (by omega)) (ok_be (seen_e ho h1.1 h1.2.2.1 hO hn hSY) ?_)
        have ef : a_fit p w sn y m = a_seen p (a_it p w m) sn sn.length := by unfold a_fit; rw [decide_eq_true q, Bool.true_and]
        cases hb : a_seen p (a_it p w m) sn sn.length with
        | false => exact ok_t rfl (tail false (by rw [ef, hb]))
        | true => exact ok_f (by decide) (tail true (by rw [ef, hb]))
      · refine ok_t (by rw [eY]; exact nI_lt (a := 999) (by omega) (by omega)) ?_
        exact tail false (by unfold a_fit; rw [decide_eq_false q, Bool.false_and])
    · rintro ⟨Y, JY⟩ h
      show ok (F_MD_laysFits_11 Y JY (nI 31)) _
      unfold F_MD_laysFits_11
      exact ok_t (by decide) (ok_s h)
  refine ok_b loop ?_
  rintro ⟨Y, JY⟩ ⟨h1, h2, h3, h4, h5, h6⟩
  have h5 : fsL LF Y A := h5
  have h1 : TH Y p (a_it p w 31) kl := h1
  obtain ⟨Z, ez, z1, z2, z3, z4⟩ := backT ho h1 (w0 := w) (by rw [fs_k h5 (by decide)]; exact a4)
  have z4 : fsL [(177, some 55), (213, none)] Z Y := z4
  refine ok_be ez (ok_s ⟨z1, z2, z3, ?_, fun i hi => ?_, fun i c r hi hc hr => ?_, ?_, h6⟩)
  · show Z 177 63 = _
    rw [z4 177 63 (by decide)]; exact h2
  · show Z 219 i = _
    rw [fs_k z4 (by decide)]; exact h3 i hi
  · show Z 218 _ = _
    rw [fs_k z4 (by decide)]; exact h4 i c r hi hc hr
  · exact fs_tr (fs_sub (by decide) z4) (fs_tr (fs_sub (by decide) h5) (fs_sub (by decide) a3))
end L73
