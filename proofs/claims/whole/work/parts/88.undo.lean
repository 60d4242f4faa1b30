/-! undo -/
section L88
variable {I X Z B : MI} {J JX J2 : MJ} {k o sl sd : Nat} {p : CF} {w w0 : WD} {kl kl0 : List NT} {un un0 : List (WD × List NT)}
theorem back_c (h : HC I ((w0, kl0) :: un0)) (hu : un0.length < 20) : ok (F_History_giveBack I) (fun t => t.1 = 1 ∧ WC t.2 20 w0 ∧ KC t.2 45 kl0 ∧ HC t.2 un0 ∧ t.2 0 = I 0 ∧ fsL DA t.2 I) := by
  obtain ⟨h3, nx, h1, h2, h4⟩ := h
  have h3 : I 47 3 = nI (un0.length + 1) := h3
  obtain ⟨hw, hk⟩ := h4 0 (by show 0 < un0.length + 1; omega) (w0, kl0) rfl
  have e0 : (nx + 19 - 0) % 20 = (nx + 19) % 20 := rfl
  rw [e0] at hw hk
  have hs : (nx + 19) % 20 < 20 := Nat.mod_lt _ (by decide)
  unfold F_History_giveBack
  have a1 : m_rem (((I 47 2) + (20 : Int32)) - (1 : Int32)) (20 : Int32) = nI ((nx + 19) % 20) := by
    have e1 : nI nx + (20 : Int32) = nI (nx + 20) := nI_add nx 20
    have e2 : nI (nx + 20) - (1 : Int32) = nI (nx + 19) := nI_subN (b := 1) (a := nx + 20) (by omega)
    rw [h2, e1, e2]
    exact rem_n (b := 20) (by omega) (by decide) (by decide)
  rw [a1]
  have e1 : F_History_hasRing (nI ((nx + 19) % 20)) = some 1 := by
    unfold F_History_hasRing
    rw [if_neg (nI_pos (by omega)), if_neg (show ¬ (20 : Int32) ≤ nI ((nx + 19) % 20) from nI_ge (b := 20) hs (by decide)), gd_n hs (by decide), gd_n hs (by decide)]
  refine ok_f (by rw [h3]; exact nI_ge (a := 0) (by omega) (by omega)) (ok_be e1 (ok_f (by decide) ?_))
  refine ok_gd rfl hs (by decide) (ok_gd rfl hs (by decide) (ok_bnd ?_))
  rw [nI_clamp (by omega)]
  generalize hsl : (nx + 19) % 20 = s at *
  have t1 : ∀ q, q < 20 ∨ 23 < q → w_take I 20 (50 + 6 * s) q = I q := fun q hq => take_k _ _ _ hq
  have tW : WC (w_take I 20 (50 + 6 * s)) 20 w0 := take_c hw (by omega)
  generalize w_take I 20 (50 + 6 * s) = T at *
  rw [up_k T _ _ (show 54 + 6 * s ≠ 45 by omega)]
  have u1 : ∀ q, q ≠ 45 → (m_up (m_up T 45 1 (T (54 + 6 * s) 1)) 45 2 (T (54 + 6 * s) 2)) q = T q := fun q hq => by rw [up_k _ _ _ hq, up_k _ _ _ hq]
  have u2 : (m_up (m_up T 45 1 (T (54 + 6 * s) 1)) 45 2 (T (54 + 6 * s) 2)) 45 1 = T (54 + 6 * s) 1 := by rw [up_j _ _ _ (by decide), up_e]
  have u3 : (m_up (m_up T 45 1 (T (54 + 6 * s) 1)) 45 2 (T (54 + 6 * s) 2)) 45 2 = T (54 + 6 * s) 2 := up_e _ _ _ _
  generalize m_up (m_up T 45 1 (T (54 + 6 * s) 1)) 45 2 (T (54 + 6 * s) 2) = U at *
  have v1 : ∀ q, q ≠ 46 → m_cpI U (54 + 6 * s + 1) (45 + 1) 0 0 40 q = U q := fun q hq => cp_k _ hq
  have v2 : ∀ j, j < 40 → m_cpI U (54 + 6 * s + 1) (45 + 1) 0 0 40 46 j = U (54 + 6 * s + 1) j := fun j hj => cp_e _ hj
  generalize m_cpI U (54 + 6 * s + 1) (45 + 1) 0 0 40 = V at *
  have kV : ∀ q, q ≠ 45 → q ≠ 46 → (q < 20 ∨ 23 < q) → V q = I q := fun q a b c => by rw [v1 q b, u1 q a, t1 q c]
  have wV : WC V 20 w0 := WC_c tW (fun q a b => by rw [v1 q (by omega), u1 q (by omega)])
  have cV : KC V 45 kl0 := by
    obtain ⟨k1, k2, o, k3, k4, k5⟩ := hk
    refine ⟨k1, ?_, o, k3, ?_, fun i hi => ?_⟩
    · rw [v1 _ (by omega), u3, t1 _ (by omega)]; exact k2
    · rw [v1 _ (by omega), u2, t1 _ (by omega)]; exact k4
    · rw [v2 _ (Nat.mod_lt _ (by decide)), u1 _ (by omega), t1 _ (by omega)]; exact k5 i hi
  have a2 : V 47 3 - 1 = nI un0.length := by
    rw [kV 47 (by decide) (by decide) (by decide), h3]
    exact nI_subN (b := 1) (a := un0.length + 1) (by omega)
  refine ok_bnd (ok_s ?_)
  rw [a2]
  have kZ : ∀ q, q ≠ 47 → (m_up (m_up V 47 2 (nI s)) 47 3 (nI un0.length)) q = V q := fun q hq => by rw [up_k _ _ _ hq, up_k _ _ _ hq]
  have z2 : (m_up (m_up V 47 2 (nI s)) 47 3 (nI un0.length)) 47 2 = nI s := by rw [up_j _ _ _ (by decide), up_e]
  have z3 : (m_up (m_up V 47 2 (nI s)) 47 3 (nI un0.length)) 47 3 = nI un0.length := up_e _ _ _ _
  have fV : fsL DA V I := fs_fr (P := fun q => q = 20 ∨ q = 21 ∨ q = 22 ∨ q = 23 ∨ q = 45 ∨ q = 46) (fun q hq => kV q (by omega) (by omega) (by omega)) (fun q hq => by rcases hq with z | z | z | z | z | z <;> subst z <;> simp [DA])
  have fZ : fsL DA (m_up (m_up V 47 2 (nI s)) 47 3 (nI un0.length)) I := fs_up (LX := [(47, some 2), (47, some 3)]) (by decide +kernel) (by decide) (fs_up (LX := [(47, some 2), (47, some 3)]) (by decide +kernel) (by decide) fV)
  generalize m_up (m_up V 47 2 (nI s)) 47 3 (nI un0.length) = Z at *
  refine ⟨rfl, WC_c wV (fun q a b => kZ q (by omega)), KC_c cV (fun q hq => kZ q (by omega)), ⟨z3, s, by omega, z2, fun i hi q hq => ?_⟩, (kZ 0 (by decide)).trans (kV 0 (by decide) (by decide) (by decide)), fZ⟩
  obtain ⟨g1, g2⟩ := h4 (i + 1) (by show i + 1 < un0.length + 1; omega) q hq
  have e : (s + 19 - i) % 20 = (nx + 19 - (i + 1)) % 20 := by omega
  rw [e]
  exact ⟨WC_c g1 (fun q a b => (kZ q (by omega)).trans (kV q (by omega) (by omega) (by omega))), KC_c g2 (fun q hq => (kZ q (by omega)).trans (kV q (by omega) (by omega) (by omega)))⟩
/-- the reference gives back -/
theorem back_m (ho : CO p) (h : HM I p ((w0, kl0) :: un0)) (hu : un0.length < 20) : ok (F_MD_undo I) (fun t => t.1 = 1 ∧ WM t.2 p w0 ∧ KM t.2 kl0 ∧ HM t.2 p un0 ∧ fsL [(177, some 66), (177, some 67), (213, none)] t.2 I) := by
  obtain ⟨h3, ne, h1, h2, h4⟩ := h
  have h3 : I 177 66 = nI (un0.length + 1) := h3
  obtain ⟨hw, hk⟩ := h4 0 (by show 0 < un0.length + 1; omega) (w0, kl0) rfl
  have e0 : (ne + 20 - 0) % 20 = ne := by omega
  rw [e0] at hw hk
  have ad : ∀ a j : Nat, (176 : Int32) * nI a + nI j = nI (176 * a + j) := fun a j => by
    have : (176 : Int32) * nI a = nI (176 * a) := nI_m3 176 a
    rw [this, nI_add]
  have loop : ok (wl (fun s : Int32 × MI => F_MD_undo_21 s.2 s.1) ((0 : Int32), I)) (fun Y => (∀ j, j < 176 → Y 213 j = I 221 (176 * ne + j)) ∧ ∀ k, k ≠ 213 → Y k = I k) := by
    refine ok_cnt 176 (fun m Y => (∀ j, j < m → Y 213 j = I 221 (176 * ne + j)) ∧ ∀ k, k ≠ 213 → Y k = I k) ⟨fun j h => absurd h (by omega), fun _ _ => rfl⟩ ?_ ?_
    · rintro m hm2 Y ⟨g1, g3⟩
      simp only [F_MD_undo_21]
      have e67 : Y 177 67 = nI ne := by rw [g3 177 (by decide)]; exact h2
      have e221 : Y 221 = I 221 := g3 221 (by decide)
      rw [e67, ad, e221]
      refine ok_f (show ¬ (176 : Int32) ≤ nI m from nI_ge (b := 176) hm2 (by decide)) (ok_gd rfl (by omega) (by decide) (ok_gd rfl hm2 (by decide) (ok_s ⟨nI_s m, fun j hj => ?_, fun k hk => ?_⟩)))
      · show m_up Y 213 (nI m).toNatClampNeg (I 221 (nI (176 * ne + m)).toNatClampNeg) 213 _ = _
        rw [nI_clamp (by omega), nI_clamp (by omega)]
        by_cases e : j = m
        · subst e; rw [up_e]
        · rw [up_j _ _ _ e]; exact g1 j (by omega)
      · show m_up Y 213 _ _ k = _
        rw [up_k _ _ _ hk]; exact g3 k hk
    · rintro Y h
      simp only [F_MD_undo_21]
      exact ok_t (by decide) (ok_s h)
  unfold F_MD_undo
  refine ok_f (by rw [h3]; exact fun e => by have := congrArg Int32.toNatClampNeg e; rw [nI_clamp (by omega)] at this; have : un0.length + 1 = 0 := this; omega) (ok_b loop ?_)
  rintro Y ⟨g1, g3⟩
  refine ok_bnd (ok_s ?_)
  have a1 : m_rem (((Y 177 67) + (20 : Int32)) - (1 : Int32)) (20 : Int32) = nI ((ne + 19) % 20) := by
    have e1 : nI ne + (20 : Int32) = nI (ne + 20) := nI_add ne 20
    have e2 : nI (ne + 20) - (1 : Int32) = nI (ne + 19) := nI_subN (b := 1) (a := ne + 20) (by omega)
    rw [g3 177 (by decide), h2, e1, e2]
    exact rem_n (b := 20) (by omega) (by decide) (by decide)
  have a2 : Y 177 66 - 1 = nI un0.length := by
    rw [g3 177 (by decide), h3]
    exact nI_subN (b := 1) (a := un0.length + 1) (by omega)
  rw [a1, a2]
  have kZ : ∀ q, q ≠ 177 → (m_up (m_up Y 177 67 (nI ((ne + 19) % 20))) 177 66 (nI un0.length)) q = Y q := fun q hq => by rw [up_k _ _ _ hq, up_k _ _ _ hq]
  have z2 : (m_up (m_up Y 177 67 (nI ((ne + 19) % 20))) 177 66 (nI un0.length)) 177 67 = nI ((ne + 19) % 20) := by rw [up_j _ _ _ (by decide), up_e]
  have z3 : (m_up (m_up Y 177 67 (nI ((ne + 19) % 20))) 177 66 (nI un0.length)) 177 66 = nI un0.length := up_e _ _ _ _
  have fZ : fsL [(177, some 66), (177, some 67), (213, none)] (m_up (m_up Y 177 67 (nI ((ne + 19) % 20))) 177 66 (nI un0.length)) I := fs_up (LX := [(177, some 66), (177, some 67)]) (by decide) (by decide) (fs_up (LX := [(177, some 66), (177, some 67)]) (by decide) (by decide) (fs_fr (P := fun q => q = 213) (fun q hq => g3 q hq) (fun q hq => by subst hq; decide)))
  generalize m_up (m_up Y 177 67 (nI ((ne + 19) % 20))) 177 66 (nI un0.length) = Z at *
  have e213 : Z 213 = Y 213 := kZ 213 (by decide)
  have e221 : Z 221 = I 221 := (kZ 221 (by decide)).trans (g3 221 (by decide))
  refine ⟨rfl, ?_, ?_, ⟨z3, (ne + 19) % 20, Nat.mod_lt _ (by decide), z2, fun i hi q hq => ?_⟩, fZ⟩
  · exact WMg_c (g' := Z 213) ho hw (fun j hj => by rw [e213]; exact g1 j (by omega))
  · exact KMg_c (g' := Z 213) hk (fun j hj => by rw [e213]; exact g1 j hj)
  · obtain ⟨g4, g5⟩ := h4 (i + 1) (by show i + 1 < un0.length + 1; omega) q hq
    have e : ((ne + 19) % 20 + 20 - i) % 20 = (ne + 20 - (i + 1)) % 20 := by omega
    show WMg (fun j => Z 221 (176 * (((ne + 19) % 20 + 20 - i) % 20) + j)) p q.1 ∧ KMg (fun j => Z 221 (176 * (((ne + 19) % 20 + 20 - i) % 20) + j)) q.2
    rw [e, e221]
    exact ⟨g4, g5⟩
/-- undo -/
theorem op_undo (hr : Rel I J sl) : ∃ a I1 I2, F_WF_undo sl sd I = some (a, I1) ∧ F_MD_undo I1 = some (a, I2) ∧ Rel I2 J sl := by
  have href := Rel_ref hr (k := 4) (by decide)
  obtain ⟨hq, p, w, kl, un, h⟩ := id hr
  obtain ⟨⟨ho, -⟩, -⟩ := h.2.1.2.1
  obtain ⟨hU, hc, hm⟩ := gHist_i.mp h.2.1.2.2.2
  unfold F_WF_undo
  cases un with
  | nil =>
    have e1 : F_History_giveBack I = some (0, I) := by
      unfold F_History_giveBack
      rw [hc.1, if_pos (by decide)]
    rw [e1]
    simp only [Option.bind_some]
    rw [if_pos trivial, show (4 : Int32) = nI 4 from rfl, refuse_c (by decide)]
    refine ⟨0, _, _, rfl, ?_, href⟩
    unfold F_MD_undo
    have e2 : (m_up I 176 4 (I 176 4 + 1)) 177 66 = 0 := by rw [up_k _ _ _ (by decide)]; exact hm.1
    rw [if_pos e2]
    show some (0, m_up (m_up I 176 4 (I 176 4 + 1)) 179 4 (m_up I 176 4 (I 176 4 + 1) 179 4 + 1)) = _
    rw [up_k I _ _ (show (179 : Nat) ≠ 176 by decide)]
  | cons q un0 =>
    obtain ⟨w0, kl0⟩ := q
    have hu : un0.length < 20 := by have := hU.1; simp at this; omega
    obtain ⟨⟨t1, A⟩, ea, x1, a1, a2, a3, a4, a5⟩ := back_c hc hu
    have x1 : t1 = 1 := x1
    subst x1
    have a1 : WC A 20 w0 := a1
    have a2 : KC A 45 kl0 := a2
    have a3 : HC A un0 := a3
    have a4 : A 0 = I 0 := a4
    have a5 : fsL DA A I := a5
    rw [ea]
    simp only [Option.bind_some]
    rw [if_neg (by decide)]
    have kZ : ∀ q, q ≠ 30 → m_up A 30 7 (-1) q = A q := fun q hq => up_k _ _ _ hq
    have z7 : m_up A 30 7 (-1) 30 7 = -1 := up_e _ _ _ _
    have hz : fsL DA (m_up A 30 7 (-1)) I := fs_up (LX := [(30, some 7)]) (by decide +kernel) (by decide) a5
    generalize m_up A 30 7 (-1) = Z at *
    obtain ⟨m1, m2, m3, m4, m5, m6⟩ := ref_A h hz
    obtain ⟨⟨t2, B⟩, eb, x2, b1, b2, b3, b4⟩ := back_m ho m5 hu
    have x2 : t2 = 1 := x2
    subst x2
    have b4 : fsL [(177, some 66), (177, some 67), (213, none)] B Z := b4
    refine ⟨1, Z, B, rfl, eb, hq, p, w0, kl0, un0, RelX_a hq h hz (fs_sub (by decide) b4) (DJ := []) (fs_r J) (by decide) (seed_B h ?_) (hU.2 (w0, kl0) (List.mem_cons_self ..)) ⟨by omega, fun q hq => hU.2 q (List.mem_cons_of_mem _ hq)⟩ (HC_c a3 (by omega) (fun q x y => kZ q (by omega))) (WC_c a1 (fun q x y => kZ q (by omega))) (KC_c a2 (fun q x => kZ q (by omega))) z7 b3 b1 b2⟩
    rw [fs_k b4 (by decide), kZ 0 (by decide), a4]
end L88
