/-! chance -/
section L87
variable {I X Z B : MI} {J JX J2 : MJ} {k o sl sd : Nat} {p : CF} {w w' : WD} {kl kl' : List NT} {un un' : List (WD × List NT)}
/-- chance -/
theorem op_chance (hr : Rel I J sl) (v : Int32) : ∃ a I1 I2 J2, F_WF_chance sl sd I v = some (a, I1) ∧ F_MD_chance I1 J v = some (a, I2, J2) ∧ Rel I2 J2 sl := by
  have href := Rel_ref hr (k := 3) (by decide)
  obtain ⟨hq, p, w, kl, un, h⟩ := id hr
  obtain ⟨⟨ho, hQ, h00, -⟩, ⟨hc, hcd, hm, hcn⟩, ht, ⟨hch, -, -⟩, -⟩ := h.2.1.2.1
  obtain ⟨hA, hw, hwm, hkc, hkm⟩ := h.2.1.2.2.1
  have hv := hA.1
  obtain ⟨hU, -, -⟩ := gHist_i.mp h.2.1.2.2.2
  obtain ⟨y, y1, y2⟩ := RelX_y h
  obtain ⟨s, s1, s2, s3⟩ := h.1.2.2.2.2
  have hwZ : WM (m_up I 176 3 (I 176 3 + 1)) p w := WM_c ho hwm (fun j _ => by rw [up_k _ _ _ (by decide)])
  have htZ : (m_up I 176 3 (I 176 3 + 1)) 177 49 = bI (decide (0 < cC p)) := by rw [up_k _ _ _ (by decide)]; exact ht
  unfold F_WF_chance
  rw [told_c ho hc]
  by_cases hC0 : 0 < cC p
  · have hah : ∀ X : MI, WM X p w → X 177 49 = bI (decide (0 < cC p)) → F_MD_isAhead X v 1 100 = some (@ite _ (nI 1 ≤ v ∧ v ≤ nI (min 100 (999 - y))) (Classical.propDecidable _) 1 0) := fun X g1 g2 => ahead_e (a := 1) (b := 100) g1 g2 hC0 y2 y1 (by decide) v
    rw [decide_eq_true hC0, if_neg (show ¬ bI true = 0 by decide), show (100 : Int32) = nI 100 from rfl, most_c hw y2 y1 (by decide)]
    simp only [Option.bind_some]
    by_cases c1 : nI 1 ≤ v ∧ v ≤ nI (min 100 (999 - y))
    · have c0 : ¬ v < 0 := by have : (1 : Int32) ≤ v := c1.1; grind
      obtain ⟨n, hn, rfl⟩ := nI_of2 (M := nI (min 100 (999 - y))) (n := min 100 (999 - y)) (nI_toInt (by omega)) c0 c1.2
      have n1 : 1 ≤ n := (nI_leI (by omega) (by omega)).mp c1.1
      rw [if_neg (show ¬ nI n < 1 from nI_nlt (a := n) (b := 1) (by omega) (by omega)), if_pos c1.2]
      obtain ⟨A, ea, a1, a2⟩ := AC_0 (sd := sd) h
      have hul := (u_O (w := w) (kl := kl) hU hA).1
      have hN := chn_A (ch := I sl 4) (t := (s, w, kl, 0)) ho (RelX_R h) hC0 hA s1 y2
      have loopC : ok (wl (fun s : Int32 × Int32 × MI => F_WF_chance_39 sl sd s.2.2 (nI n) s.1 s.2.1) ((0 : Int32), (0 : Int32), A)) (fun t => t.1 = nI (ch_n p (I sl 4) (s, w, kl, 0) n).2.2.2 ∧ AC t.2 I (ch_n p (I sl 4) (s, w, kl, 0) n).2.1 (ch_n p (I sl 4) (s, w, kl, 0) n).2.2.1 (u_add (w, kl) un) ∧ t.2 0 12 = nI (ch_n p (I sl 4) (s, w, kl, 0) n).1) := by
        have key : ∀ d m (X : MI), m + d = n → AC X I (ch_n p (I sl 4) (s, w, kl, 0) m).2.1 (ch_n p (I sl 4) (s, w, kl, 0) m).2.2.1 (u_add (w, kl) un) → X 0 12 = nI (ch_n p (I sl 4) (s, w, kl, 0) m).1 → ok (wl (fun s : Int32 × Int32 × MI => F_WF_chance_39 sl sd s.2.2 (nI n) s.1 s.2.1) (nI (ch_n p (I sl 4) (s, w, kl, 0) m).2.2.2, nI m, X)) (fun t => t.1 = nI (ch_n p (I sl 4) (s, w, kl, 0) n).2.2.2 ∧ AC t.2 I (ch_n p (I sl 4) (s, w, kl, 0) n).2.1 (ch_n p (I sl 4) (s, w, kl, 0) n).2.2.1 (u_add (w, kl) un) ∧ t.2 0 12 = nI (ch_n p (I sl 4) (s, w, kl, 0) n).1) := by
          intro d
          induction d with
          | zero =>
            intro m X hd g1 g2
            have hd : m = n := by omega
            subst hd
            refine ok_e (x := (nI (ch_n p (I sl 4) (s, w, kl, 0) m).2.2.2, X)) (wl_in ?_) ⟨rfl, g1, g2⟩
            simp only [F_WF_chance_39]
            rw [if_pos (Int32.le_refl _)]
          | succ d ih =>
            intro m X hd g1 g2
            obtain ⟨n2, n3, n4⟩ := hN m (by omega)
            obtain ⟨Y, st, z1, z2⟩ := chs_c (sd := sd) h hq hC0 g1 hul n2 (by rw [n3]; exact nI_lt (b := 999) (by omega) (by decide)) g2 (n := n) (m := m) (by omega) (by omega)
            have e2 : wl (fun s : Int32 × Int32 × MI => F_WF_chance_39 sl sd s.2.2 (nI n) s.1 s.2.1) (nI (ch_n p (I sl 4) (s, w, kl, 0) m).2.2.2, nI m, X) = wl (fun s : Int32 × Int32 × MI => F_WF_chance_39 sl sd s.2.2 (nI n) s.1 s.2.1) (nI (ch_n p (I sl 4) (s, w, kl, 0) (m + 1)).2.2.2, nI (m + 1), Y) := wl_st st
            rw [e2]
            exact ih (m + 1) Y (by omega) z1 z2
        exact key n 0 A (by omega) a1 (by rw [a2]; exact s2)
      obtain ⟨⟨t1, Z⟩, ez, z1, z2, z3⟩ := loopC
      have z1 : t1 = nI (ch_n p (I sl 4) (s, w, kl, 0) n).2.2.2 := z1
      subst z1
      have z2 : AC Z I (ch_n p (I sl 4) (s, w, kl, 0) n).2.1 (ch_n p (I sl 4) (s, w, kl, 0) n).2.2.1 (u_add (w, kl) un) := z2
      have z3 : Z 0 12 = nI (ch_n p (I sl 4) (s, w, kl, 0) n).1 := z3
      rw [ea]
      simp only [Option.bind_some]
      rw [ez]
      simp only [Option.bind_some]
      obtain ⟨B, eb, b1⟩ := AM_0 h z2.2.2.2.2
      have b43 : B 177 43 = I sl 4 := by rw [b1.2.2.2.2.2 177 43 (by decide), DA_k z2.2.2.2.2 (by omega)]; exact hch.symm
      have loopM : ok (wl (fun s : Int32 × Int32 × MI × MJ => F_MD_chance_25 s.2.2.1 s.2.2.2 (nI n) s.1 s.2.1) ((0 : Int32), (0 : Int32), B, J)) (fun t => t.1 = nI (ch_n p (I sl 4) (s, w, kl, 0) n).2.2.2 ∧ AM t.2.1 Z p (ch_n p (I sl 4) (s, w, kl, 0) n).2.1 (ch_n p (I sl 4) (s, w, kl, 0) n).2.2.1 (u_add (w, kl) un) ∧ t.2.1 0 = B 0 ∧ t.2.2 177 68 = lN (ch_n p (I sl 4) (s, w, kl, 0) n).1 ∧ fsL ((177, some 68) :: K1) t.2.2 J) := by
        have key : ∀ d m (X : MI) (JX : MJ), m + d = n → AM X Z p (ch_n p (I sl 4) (s, w, kl, 0) m).2.1 (ch_n p (I sl 4) (s, w, kl, 0) m).2.2.1 (u_add (w, kl) un) → X 0 = B 0 → X 177 43 = I sl 4 → JX 177 68 = lN (ch_n p (I sl 4) (s, w, kl, 0) m).1 → fsL ((177, some 68) :: K1) JX J → ok (wl (fun s : Int32 × Int32 × MI × MJ => F_MD_chance_25 s.2.2.1 s.2.2.2 (nI n) s.1 s.2.1) (nI (ch_n p (I sl 4) (s, w, kl, 0) m).2.2.2, nI m, X, JX)) (fun t => t.1 = nI (ch_n p (I sl 4) (s, w, kl, 0) n).2.2.2 ∧ AM t.2.1 Z p (ch_n p (I sl 4) (s, w, kl, 0) n).2.1 (ch_n p (I sl 4) (s, w, kl, 0) n).2.2.1 (u_add (w, kl) un) ∧ t.2.1 0 = B 0 ∧ t.2.2 177 68 = lN (ch_n p (I sl 4) (s, w, kl, 0) n).1 ∧ fsL ((177, some 68) :: K1) t.2.2 J) := by
          intro d
          induction d with
          | zero =>
            intro m X JX hd g1 g2 g3 g4 g5
            have hd : m = n := by omega
            subst hd
            refine ok_e (x := (nI (ch_n p (I sl 4) (s, w, kl, 0) m).2.2.2, X, JX)) (wl_in ?_) ⟨rfl, g1, g2, g4, g5⟩
            simp only [F_MD_chance_25]
            rw [if_pos (Int32.le_refl _)]
          | succ d ih =>
            intro m X JX hd g1 g2 g3 g4 g5
            obtain ⟨n2, n3, n4⟩ := hN m (by omega)
            obtain ⟨Y, JY, st, x1, x2, x3, x4, x5⟩ := chs_m ho hQ (RelX_R h) hC0 g1 n2 g3 n4 g4 (n := n) (m := m) (by omega) (by omega)
            have e2 : wl (fun s : Int32 × Int32 × MI × MJ => F_MD_chance_25 s.2.2.1 s.2.2.2 (nI n) s.1 s.2.1) (nI (ch_n p (I sl 4) (s, w, kl, 0) m).2.2.2, nI m, X, JX) = wl (fun s : Int32 × Int32 × MI × MJ => F_MD_chance_25 s.2.2.1 s.2.2.2 (nI n) s.1 s.2.1) (nI (ch_n p (I sl 4) (s, w, kl, 0) (m + 1)).2.2.2, nI (m + 1), Y, JY) := wl_st st
            rw [e2]
            exact ih (m + 1) Y JY (by omega) x1 (x2.trans g2) x3 x4 (fs_tr x5 g5)
        exact key n 0 B J (by omega) b1 rfl b43 s3 (fs_r J)
      obtain ⟨⟨u1, C, JC⟩, ec, x1, c2, c3, c4, c5⟩ := loopM
      have x1 : u1 = nI (ch_n p (I sl 4) (s, w, kl, 0) n).2.2.2 := x1
      subst x1
      have c3 : C 0 = B 0 := c3
      obtain ⟨m1, m2, m3, m4, m5, m6⟩ := ref_A h z2.2.2.2.2
      obtain ⟨n2, n3, n4⟩ := hN n (by omega)
      refine ⟨nI (ch_n p (I sl 4) (s, w, kl, 0) n).2.2.2, Z, C, JC, rfl, ?_, hq, p, _, _, u_add (w, kl) un, A_end hq h z2 c2 c5 (by decide) ⟨_, n4, ?_, c4⟩ n2⟩
      · unfold F_MD_chance
        rw [hah Z m3 m6]
        simp only [Option.bind_some]
        rw [if_pos c1, if_neg (by decide), eb]
        simp only [Option.bind_some]
        rw [ec]
        rfl
      · rw [c3, fs_k b1.2.2.2.2.2 (by decide)]; exact z3
    · have refu : F_MD_chance (m_up I 176 3 (I 176 3 + 1)) J v = some (-1, m_up (m_up I 176 3 (I 176 3 + 1)) 179 3 (I 179 3 + 1), J) := by
        unfold F_MD_chance
        rw [hah _ hwZ htZ]
        simp only [Option.bind_some]
        rw [if_neg c1, if_pos rfl, show (3 : Int32) = nI 3 from rfl, refs_e (by decide)]
        rfl
      refine ⟨-1, _, _, J, ?_, refu, href⟩
      rw [show (3 : Int32) = nI 3 from rfl, refuse_c (by decide)]
      by_cases c0 : v < 1
      · rw [if_pos c0]; rfl
      · have c1' : nI 1 ≤ v := by show (1 : Int32) ≤ v; grind
        rw [if_neg c0, if_neg (fun z => c1 ⟨c1', z⟩)]; rfl
  · refine ⟨-1, m_up I 176 3 (I 176 3 + 1), _, J, ?_, ?_, href⟩
    · rw [decide_eq_false hC0, if_pos (show bI false = 0 from rfl), show (3 : Int32) = nI 3 from rfl, refuse_c (by decide)]; rfl
    · unfold F_MD_chance F_MD_isAhead
      rw [htZ, decide_eq_false hC0, if_pos (show bI false = 0 from rfl)]
      simp only [Option.bind_some]
      rw [if_pos trivial, show (3 : Int32) = nI 3 from rfl, refs_e (by decide)]
      rfl
end L87
