/-! see -/
section L94
variable {I X Z B : MI} {J : MJ} {sl sd : Nat} {p : CF} {tb : Nat → Nat} {n : Nat}
theorem op_see (hr : Rel I J sl) : ∃ a I1 I2, F_WF_see sl sd I = some (a, I1) ∧ F_MD_see I1 = some (a, I2) ∧ Rel I2 J sl := by
  have href := Rel_ref (Rel_tp hr) (k := 1) (by decide)
  obtain ⟨hq, p, w, kl, un, h⟩ := id hr
  obtain ⟨⟨h1, h2, h3, h4, h5⟩, ⟨h6, h7, h8, h9⟩, h10, h11, h12⟩ := id h
  obtain ⟨⟨ho, hQ, h00, -⟩, ⟨hc, hcd, hm, hcn⟩, ht, -⟩ := id h7
  obtain ⟨n, tb, n1, e1, e2, hb⟩ := h1
  have hT : TP I n tb := ⟨n1, hb⟩
  obtain ⟨cB, cG⟩ := see_c (sd := sd) ho hc hT e1
  have hd : n / 3 ≤ n := Nat.div_le_self _ _
  by_cases g : s_G p tb n
  · obtain ⟨Y, ey, y1, y2⟩ := cG g
    have kZ : ∀ q, q ≠ 170 → q ≠ 1 → (m_up (m_up Y 170 3 (nI (n / 3))) 1 1 0) q = Y q := fun q a b => by rw [up_k _ _ _ b, up_k _ _ _ a]
    have z1 : (m_up (m_up Y 170 3 (nI (n / 3))) 1 1 0) 170 3 = nI (n / 3) := by rw [up_k _ _ _ (by decide), up_e]
    have z2 : (m_up (m_up Y 170 3 (nI (n / 3))) 1 1 0) 1 1 = 0 := up_e _ _ _ _
    have fY : fsL [(1, some 1), (170, some 3), (171, none), (172, none), (173, none)] Y I := fs_fr (P := fun q => q = 171 ∨ q = 172 ∨ q = 173) (fun q hq => y2 q (by omega) (by omega) (by omega)) (fun q hq => by rcases hq with z | z | z <;> subst z <;> decide)
    have fZ : fsL [(1, some 1), (170, some 3), (171, none), (172, none), (173, none)] (m_up (m_up Y 170 3 (nI (n / 3))) 1 1 0) I := fs_up (LX := [(1, some 1), (170, some 3)]) (by decide) (by decide) (fs_up (LX := [(1, some 1), (170, some 3)]) (by decide) (by decide) fY)
    generalize m_up (m_up Y 170 3 (nI (n / 3))) 1 1 0 = Z at *
    have tZ : TP Z n tb := ⟨n1, fun j hj => by rw [fs_k fZ (by decide), fs_k fZ (by decide)]; exact hb j hj⟩
    obtain ⟨-, mG⟩ := see_m ho (X := Z) (CM_c hm (fun k hk => fs_k fZ (by rcases hk with z | z | z <;> subst z <;> decide))) (by rw [fs_k fZ (by decide)]; exact ht) tZ (by rw [fs_k fZ (by decide)]; exact e2)
    obtain ⟨U, eu, u1, u2⟩ := mG g
    have kB : ∀ q, q ≠ 177 → q ≠ 217 → (m_up U 177 59 (nI (n / 3))) q = Z q := fun q a b => by rw [up_k _ _ _ a, u2 q b, up_k _ _ _ a]
    have b1 : (m_up U 177 59 (nI (n / 3))) 177 59 = nI (n / 3) := up_e _ _ _ _
    have b2 : (m_up U 177 59 (nI (n / 3))) 177 1 = 0 := by rw [up_j _ _ _ (by decide), u2 177 (by decide), up_e]
    have b3 : ∀ j, j < n → (m_up U 177 59 (nI (n / 3))) 217 j = s_w tb j := fun j hj => by rw [up_k _ _ _ (by decide)]; exact u1 j hj
    have fB : fsL [(177, some 1), (177, some 59), (217, none)] (m_up U 177 59 (nI (n / 3))) Z := fs_up (LX := [(177, some 59)]) (by decide) (by decide) (fs_tr (fs_fr (P := fun q => q = 217) (fun q hq => u2 q hq) (fun q hq => by subst hq; decide)) (fs_up (LX := [(177, some 1)]) (by decide) (by decide) (fs_r Z)))
    generalize m_up U 177 59 (nI (n / 3)) = B at *
    have hx : fsL [(1, some 1), (170, some 3), (171, none), (172, none), (173, none), (177, some 1), (177, some 59), (217, none)] B I := fs_tr (fs_sub (by decide) fB) (fs_sub (by decide) fZ)
    obtain ⟨c1, c2, c3, c4, c5⟩ := g
    refine ⟨nI (n / 3), Z, B, ey, eu, hq, p, w, kl, un, ⟨⟨0, fun _ => 0, by omega, ?_, b2, fun j hj => absurd hj (by omega)⟩, gFault_c (ag_of (by decide) hx) h2, gRef_c (ag_of (by decide) hx) h3, gImg_c (ag_of (by decide) hx) h4, gSeed_c (ag_of (by decide) hx) rfl h5⟩, ⟨?_, gSlope_c hq (ag_of (by decide) hx) rfl h7, gNow_c (ag_of (by decide) hx) h8, gHist_c (ag_of (by decide +kernel) hx) h9⟩, gIron_c (ag_of (by decide) hx) h10, (hx 177 55 (by decide)).trans h11, gWord_c (ag_of (by decide +kernel) hx) h12⟩
    · rw [kB 1 (by decide) (by decide)]; exact z2
    · have len : ((List.range (n / 3)).map (fun i => ((nI (tb (3 * i)), nI (tb (3 * i + 1)), s_v (tb (3 * i + 2))) : NT))).length = n / 3 := by rw [List.length_map, List.length_range]
      have getE : ∀ i, i < n / 3 → ((List.range (n / 3)).map (fun i => ((nI (tb (3 * i)), nI (tb (3 * i + 1)), s_v (tb (3 * i + 2))) : NT))).getD i (0, 0, 0) = (nI (tb (3 * i)), nI (tb (3 * i + 1)), s_v (tb (3 * i + 2))) := fun i hi => by
        rw [List.getD_eq_getElem?_getD, List.getElem?_map, List.getElem?_range hi]; rfl
      refine ⟨(List.range (n / 3)).map (fun i => (nI (tb (3 * i)), nI (tb (3 * i + 1)), s_v (tb (3 * i + 2)))), by rw [len]; exact c4, by rw [len, kB 170 (by decide) (by decide)]; exact z1, by rw [len]; exact b1, fun i hi => ?_⟩
      rw [len] at hi
      rw [getE i hi]
      obtain ⟨x1, x2, x3⟩ := y1 i hi
      refine ⟨?_, ?_, ?_⟩
      · rw [kB 171 (by decide) (by decide), kB 172 (by decide) (by decide), kB 173 (by decide) (by decide), kZ 171 (by decide) (by decide), kZ 172 (by decide) (by decide), kZ 173 (by decide) (by decide), x1, x2, x3]
      · rw [b3 _ (by omega), b3 _ (by omega), b3 _ (by omega)]
        unfold s_w
        rw [if_neg (show ¬ 3 * i % 3 = 2 by omega), if_neg (show ¬ (3 * i + 1) % 3 = 2 by omega), if_pos (show (3 * i + 2) % 3 = 2 by omega)]
      · obtain ⟨⟨p1, p2⟩, -⟩ := c5 i hi
        obtain ⟨c, cc, ce⟩ := ix_2 (by have := ho.1; omega) p1
        obtain ⟨r, rc, re⟩ := ix_2 (by have := ho.2.1; omega) p2
        exact ⟨c, r, cc, rc, ce, re⟩
  · have e0 := cB g
    unfold F_WF_see_33 at e0
    rw [if_pos rfl, show (1 : Int32) = nI 1 from rfl, refuse_c (by decide)] at e0
    have fZ : fsL [(1, some 1), (176, none)] (m_up (m_up I 1 1 0) 176 1 ((m_up I 1 1 0) 176 1 + 1)) I := fs_up (LX := [(176, none)]) (by decide) (by decide) (fs_up (LX := [(1, some 1)]) (by decide) (by decide) (fs_r I))
    have tZ : TP (m_up (m_up I 1 1 0) 176 1 ((m_up I 1 1 0) 176 1 + 1)) n tb := ⟨n1, fun j hj => by rw [fs_k fZ (by decide), fs_k fZ (by decide)]; exact hb j hj⟩
    refine ⟨-1, m_up (m_up I 1 1 0) 176 1 ((m_up I 1 1 0) 176 1 + 1), _, e0, (see_m ho (CM_c hm (fun k hk => fs_k fZ (by rcases hk with z | z | z <;> subst z <;> decide))) (by rw [fs_k fZ (by decide)]; exact ht) tZ (by rw [fs_k fZ (by decide)]; exact e2)).1 g, ?_⟩
    have eq : m_up (m_up (m_up (m_up I 1 1 0) 176 1 ((m_up I 1 1 0) 176 1 + 1)) 177 1 0) 179 1 ((m_up (m_up I 1 1 0) 176 1 ((m_up I 1 1 0) 176 1 + 1)) 179 1 + 1) = m_up (m_up (m_up (m_up I 1 1 0) 177 1 0) 176 1 ((m_up (m_up I 1 1 0) 177 1 0) 176 1 + 1)) 179 1 ((m_up (m_up I 1 1 0) 177 1 0) 179 1 + 1) := by
      rw [up_cm (a := 176) (b := 177) (by decide), up_k (m_up I 1 1 0) (k := 177) (k' := 176) _ _ (by decide), up_k (m_up I 1 1 0) (k := 177) (k' := 179) _ _ (by decide), up_k (m_up I 1 1 0) (k := 176) (k' := 179) _ _ (by decide)]
    rw [eq]
    exact href
end L94
