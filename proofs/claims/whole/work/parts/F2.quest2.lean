/-! a question is read, whole -/
section LF2
variable {I X Y Z V A : MI} {J : MJ} {sd n e e2 : Nat} {b b2 : Bool} {tb : Nat → Nat} {F : Option (Int32 × MI)} {G G' : MI → MJ → Option (Int64 × MI × MJ)}
theorem RE_0 (h : RE Y tb n e b [] [] 0 0 2) (hu : QP V tb n e2 b2) (hf : fsL LM V Y) : RE V tb n e2 b2 [] [] 0 0 2 := by
  obtain ⟨h1, ⟨⟨a1, a2⟩, ⟨c1, c2⟩, d1, d2⟩, h3, h4⟩ := h
  refine ⟨hu, ⟨⟨?_, fun i hi => absurd hi (by simp)⟩, ⟨?_, fun i hi => absurd hi (by simp)⟩, ?_, ?_⟩, ?_, by decide, by simp, by simp, fun x hx => (by cases hx), by decide⟩
  · rw [hf 177 94 (by decide)]; exact a1
  · rw [hf 177 92 (by decide)]; exact c1
  · rw [hf 177 95 (by decide)]; exact d1
  · rw [hf 177 96 (by decide)]; exact d2
  · rw [hf 177 50 (by decide)]; exact h3
theorem QO_pre (h : QO F G A sd tb n e2 b2) (hf : FC sd A X) (h9 : A sd 9 = X sd 9) (hG : ∀ Y J, RE Y tb n e b [] [] 0 0 2 → ∃ U, RE U tb n e2 b2 [] [] 0 0 2 ∧ fsL LM U Y ∧ G' Y J = G U J) : QO F G' X sd tb n e b := by
  rcases h with ⟨kq, cs, X1, s0, s1, ⟨t1, t2, t3, t4⟩, s3, s4, s5, s6, s7, s8⟩ | ⟨k, at', X1, s1, s2, s3, s4, s5⟩
  · left
    refine ⟨kq, cs, X1, s0, s1, ⟨t1.trans h9, t2, t3, t4⟩, FC_t s3 hf, s4, s5, s6, s7, fun Y J hY => ?_⟩
    obtain ⟨U, u1, u2, u3⟩ := hG Y J hY
    obtain ⟨Y', y1, y2, y3, y4⟩ := s8 U J u1
    exact ⟨Y', u3.trans y1, y2, y3, fs_tr y4 (fs_sub LM_Q2 u2)⟩
  · right
    refine ⟨k, at', X1, s1, s2, FC_t s3 hf, s4, fun Y J hY => ?_⟩
    obtain ⟨U, u1, u2, u3⟩ := hG Y J hY
    obtain ⟨v, Y', y1, y2, y3⟩ := s5 U J u1
    exact ⟨v, Y', u3.trans y1, y2, fs_tr y3 (fs_sub LM_Q2 u2)⟩
theorem CE_3 (h : CE X sd tb n e b [] 2) (v : Int32) : CE (m_up X 19 3 v) sd tb n e b [] 2 := by
  have k19 : ∀ j, j ≠ 3 → m_up X 19 3 v 19 j = X 19 j := fun j hj => up_j _ _ _ hj
  obtain ⟨⟨h1, h2, h3⟩, ⟨h4, h5, h6⟩, h7, h8⟩ := h
  refine ⟨⟨CTp_c h1 (by rw [up_k _ _ _ (by decide)]) (up_k _ _ _ (by decide)) (k19 1 (by decide)) (k19 2 (by decide)), ?_, h3⟩, ⟨?_, fun i hi => absurd hi (by simp), h6⟩, ?_, ?_⟩
  · unfold TK at h2 ⊢
    rw [k19 6 (by decide), k19 7 (by decide), k19 8 (by decide), k19 9 (by decide)]; exact h2
  · rw [k19 5 (by decide)]; exact h4
  · rw [k19 11 (by decide)]; exact h7
  · rw [k19 12 (by decide)]; exact h8
theorem quest_40 (hq : sd = 3 ∨ sd = 11) (h : CE X sd tb n e b [] 2) : QO (F_Reader_readQuestion_40 sd X (if kd tb n e b = 256 then w_no (lets tb n e) else -1)) askG X sd tb n e b := by
  have hb : ∀ j, j < n → tb j < 256 := fun j hj => (h.1.1.2.2.1 j hj).1
  by_cases hw : ∃ k, k < 6 ∧ wo tb n e b = some (qw k)
  · obtain ⟨k, hk, hw⟩ := hw
    obtain ⟨-, k6, hn⟩ := wo_s.mp hw
    rw [if_pos k6, hn]
    have c3 := CE_3 h (nI (qw k))
    obtain ⟨A, ea, a1, a2⟩ := word_x (sd := sd) c3.1 k6
    obtain ⟨ql, -⟩ := (kd_256 hb).mp k6
    have tg := tke_gt ql
    have sg := sk_ge (tb := tb) (n := n) e
    have cA : CE A sd tb n (tke tb n e) true [] 2 := CE_m hq c3 a1 (fs_sub (by decide) a2) (by omega)
    have A3 : A 19 3 = nI (qw k) := (a2 19 3 (by decide)).trans (up_e _ _ _ _)
    have fA : FC sd A X := FC_t (FC_R a2) (fun q a c => up_k _ _ _ a)
    have A9 : A sd 9 = X sd 9 := by
      rw [(FX_R (sd := sd) a2).1 sd (by omega) (by omega), up_k _ _ _ (by omega)]
    have rf : ∀ Y J, RE Y tb n e b [] [] 0 0 2 → ∃ U, RE U tb n (tke tb n e) true [] [] 0 0 2 ∧ fsL LM U Y ∧ askG Y J = (if k < 3 then (F_MD_qTest U).bind fun r => F_MD_ask_109 r J (nI k) else (F_MD_qSums U).bind fun r => F_MD_ask_109 r J (nI k)) := by
      intro Y J hY
      obtain ⟨U, u1, u2, u3⟩ := kindY hY.1 hk hw
      refine ⟨U, RE_0 hY u2 u3, u3, ?_⟩
      unfold askG
      rw [u1]
      simp only [Option.bind_some]
      rw [if_pos u2.1.1]
      by_cases z : k < 3
      · rw [if_pos z, if_neg (show ¬ (3 : Int32) ≤ nI k from nI_ge (b := 3) z (by decide))]
      · rw [if_neg z, if_pos (show (3 : Int32) ≤ nI k from nI_le (a := 3) (by omega) (by omega))]
        unfold F_MD_ask_98
        rw [if_pos u2.1.1]
    by_cases z : k < 3
    · have t := tailq hq hk (show true = decide (k < 3) from (decide_eq_true z).symm) A3 (qsR_t hq cA)
      have e1 : F_Reader_readQuestion_40 sd X (nI (qw k)) = (F_Reader_test0 sd A 0).bind fun r => F_Reader_readQuestion_148 sd r.2 r.1 := by
        unfold F_Reader_readQuestion_40
        rw [ea]
        simp only [Option.bind_some]
        rcases (by omega : k = 0 ∨ k = 1 ∨ k = 2) with y | y | y <;> subst y
        · rw [if_pos (show nI (qw 0) = 16 from rfl)]
        · rw [if_neg (by decide), if_neg (by decide), if_neg (by decide), if_neg (by decide), if_neg (by decide), if_neg (by decide), if_neg (by decide), if_neg (by decide), if_pos (by decide)]
        · rw [if_neg (by decide), if_neg (by decide), if_neg (by decide), if_neg (by decide), if_neg (by decide), if_neg (by decide), if_neg (by decide), if_neg (by decide), if_neg (by decide), if_pos (by decide)]
      rw [e1]
      refine QO_pre t fA A9 (fun Y J hY => ?_)
      obtain ⟨U, u1, u2, u3⟩ := rf Y J hY
      rw [if_pos z] at u3
      exact ⟨U, u1, u2, u3⟩
    · have t := tailq hq hk (show false = decide (k < 3) from (decide_eq_false z).symm) A3 (qsR_s hq cA)
      have e1 : F_Reader_readQuestion_40 sd X (nI (qw k)) = (F_Reader_sum0 sd A 0).bind fun r => F_Reader_readQuestion_148 sd r.2 r.1 := by
        unfold F_Reader_readQuestion_40
        rw [ea]
        simp only [Option.bind_some]
        rcases (by omega : k = 3 ∨ k = 4 ∨ k = 5) with y | y | y <;> subst y
        · rw [if_neg (by decide), if_neg (by decide), if_neg (by decide), if_neg (by decide), if_neg (by decide), if_neg (by decide), if_neg (by decide), if_neg (by decide), if_neg (by decide), if_neg (by decide), if_pos (by decide)]
        · rw [if_neg (by decide), if_neg (by decide), if_neg (by decide), if_neg (by decide), if_neg (by decide), if_neg (by decide), if_neg (by decide), if_neg (by decide), if_neg (by decide), if_neg (by decide), if_neg (by decide), if_pos (by decide)]
        · rw [if_neg (by decide), if_neg (by decide), if_neg (by decide), if_neg (by decide), if_neg (by decide), if_neg (by decide), if_neg (by decide), if_neg (by decide), if_neg (by decide), if_neg (by decide), if_neg (by decide), if_neg (by decide), if_pos (by decide)]
      rw [e1]
      refine QO_pre t fA A9 (fun Y J hY => ?_)
      obtain ⟨U, u1, u2, u3⟩ := rf Y J hY
      rw [if_neg z] at u3
      exact ⟨U, u1, u2, u3⟩
  · have hn : ∀ k, k < 6 → ¬ wo tb n e b = some (qw k) := fun k hk z => hw ⟨k, hk, z⟩
    have gen : ∀ y : Int32, y ≠ 16 → y ≠ 24 → y ≠ 25 → y ≠ 26 → y ≠ 27 → y ≠ 28 → F_Reader_readQuestion_40 sd X y = some (0, m_up (wrm (m_up X 19 3 y) 1 (sk tb n e)) sd 10 ((wrm (m_up X 19 3 y) 1 (sk tb n e)) 19 5)) := by
      intro y a1 a2 a3 a4 a5 a6
      have wr : ((F_Reader_wrong sd (m_up X 19 3 y) (1 : Int32) (X 19 7)).bind fun r8 => F_Reader_readQuestion_148 sd r8.2 r8.1) = some (0, m_up (wrm (m_up X 19 3 y) 1 (sk tb n e)) sd 10 ((wrm (m_up X 19 3 y) 1 (sk tb n e)) 19 5)) := by
        rw [h.1.2.1.2.1, show (1 : Int32) = nI 1 from rfl, wrong_e]
        simp only [Option.bind_some]
        unfold F_Reader_readQuestion_148
        rw [if_pos rfl]
      unfold F_Reader_readQuestion_40
      rw [if_neg a1, if_neg a2, if_neg a3, if_neg a4, if_neg a5, if_neg a6, wr]
      repeat' split
      all_goals rfl
    have bad : ∃ y, F_Reader_readQuestion_40 sd X (if kd tb n e b = 256 then w_no (lets tb n e) else -1) = some (0, m_up (wrm (m_up X 19 3 y) 1 (sk tb n e)) sd 10 ((wrm (m_up X 19 3 y) 1 (sk tb n e)) 19 5)) := by
      by_cases k : kd tb n e b = 256
      · rw [if_pos k]
        rcases w_no_v (lets tb n e) with hw | ⟨j, j29, -, hw⟩
        · rw [hw]; exact ⟨_, gen _ (by decide) (by decide) (by decide) (by decide) (by decide) (by decide)⟩
        · have hwo : wo tb n e b = some j := wo_s.mpr ⟨j29, k, hw⟩
          have nj : ∀ i : Nat, i < 29 → ¬ wo tb n e b = some i → nI j ≠ nI i := fun i hi hn z => hn (by rw [hwo, (nI_inj (by omega) (by omega)).mp z])
          rw [hw]
          exact ⟨_, gen _ (nj 16 (by decide) (hn 0 (by decide))) (nj 24 (by decide) (hn 1 (by decide))) (nj 25 (by decide) (hn 2 (by decide))) (nj 26 (by decide) (hn 3 (by decide))) (nj 27 (by decide) (hn 4 (by decide))) (nj 28 (by decide) (hn 5 (by decide)))⟩
      · rw [if_neg k]
        exact ⟨_, gen _ (by decide) (by decide) (by decide) (by decide) (by decide) (by decide)⟩
    obtain ⟨y, bad⟩ := bad
    rw [bad]
    right
    have w0 := wrm_t (m_up X 19 3 y) 1 (sk tb n e)
    refine ⟨1, sk tb n e, _, rfl, ⟨by rw [up_k _ _ _ (by omega)]; exact w0.1, by rw [up_k _ _ _ (by omega)]; exact w0.2⟩, FC_up (by omega) (FC_t (FC_N (wrm_f 1 _ (by decide))) (fun q a c => up_k _ _ _ a)), ⟨by decide, by decide⟩, fun Y J hY => ?_⟩
    obtain ⟨U, u1, u2, u3⟩ := kindN hY.1 hn
    have nb := mf_ne u2 (by decide) (by decide)
    refine ⟨5, U, ?_, u2, fs_sub LM_Q2 u3⟩
    unfold askG
    rw [u1]
    simp only [Option.bind_some]
    rw [if_neg nb]
    unfold F_MD_ask_98
    rw [if_neg nb]
    unfold F_MD_ask_109
    rw [if_neg nb]
/-- a question of n signs, from the first -/
theorem quest_j (hq : sd = 3 ∨ sd = 11) (h1 : I 1 1 = nI n) (n16 : n ≤ 1600) (hb : ∀ j, j < n → tb j < 256 ∧ I 2 j &&& 255 = nI (tb j)) (hg : gByte I) : ∃ X, QO (F_Reader_readQuestion sd I) askG X sd tb n 0 false ∧ FC sd X I ∧ X sd 9 = 0 := by
  have kx : ∀ q, q ≠ 19 → (m_up (m_up (m_up (m_up (m_up I 19 5 0) 19 1 0) 19 2 (-1)) 19 8 0) 19 6 258) q = I q := fun q hq => by rw [up_k _ _ _ hq, up_k _ _ _ hq, up_k _ _ _ hq, up_k _ _ _ hq, up_k _ _ _ hq]
  have c0 : CTp (m_up (m_up (m_up (m_up (m_up I 19 5 0) 19 1 0) 19 2 (-1)) 19 8 0) 19 6 258) tb n := by
    refine ⟨?_, n16, fun j hj => ?_, fun j => ?_, ?_, ?_⟩
    · rw [kx 1 (by decide)]; exact h1
    · rw [kx 2 (by decide)]; exact hb j hj
    · rw [kx 2 (by decide)]; exact hg j
    · rw [up_j _ _ _ (by decide), up_j _ _ _ (by decide), up_j _ _ _ (by decide), up_e]
    · rw [up_j _ _ _ (by decide), up_j _ _ _ (by decide), up_e]
  have x8 : (m_up (m_up (m_up (m_up (m_up I 19 5 0) 19 1 0) 19 2 (-1)) 19 8 0) 19 6 258) 19 8 = nI 0 := by rw [up_j _ _ _ (by decide), up_e]; rfl
  have x6 : (m_up (m_up (m_up (m_up (m_up I 19 5 0) 19 1 0) 19 2 (-1)) 19 8 0) 19 6 258) 19 6 = 258 := up_e _ _ _ _
  have x5 : (m_up (m_up (m_up (m_up (m_up I 19 5 0) 19 1 0) 19 2 (-1)) 19 8 0) 19 6 258) 19 5 = 0 := by rw [up_j _ _ _ (by decide), up_j _ _ _ (by decide), up_j _ _ _ (by decide), up_j _ _ _ (by decide), up_e]
  obtain ⟨B, eb, b1, b2⟩ := adv_c (sd := sd) (b := false) c0 (Nat.zero_le n) x8 (by rw [x6]; exact ⟨fun z => by rcases z with z | z <;> exact absurd z (by decide), fun z => by cases z⟩)
  have eB : F_Reader_begin sd I = some B := by
    unfold F_Reader_begin
    simp only [bnd]
    rw [eb]; rfl
  have kB : ∀ q, q ≠ 19 → B q = I q := fun q hq' => ((FX_R (sd := q) b2).1 q hq' (by omega)).trans (kx q hq')
  have B5 : B 19 5 = 0 := (b2 19 5 (by decide)).trans x5
  have rC : RS (clr B sd) tb n 0 false := RS_c b1 (clr_k (by omega)) (clr_k (by omega)) (clr_k (by omega))
  have fC : FC sd (clr B sd) I := fun q a c => by rw [clr_k (by omega)]; exact kB q a
  have d0 := clr_0 (sd := sd) B5 hq
  have k19 : ∀ j, j ≠ 11 → j ≠ 12 → m_up (m_up (clr B sd) 19 11 63552) 19 12 131104 19 j = clr B sd 19 j := fun j x y => by rw [up_j _ _ _ y, up_j _ _ _ x]
  have cX : CE (m_up (m_up (clr B sd) 19 11 63552) 19 12 131104) sd tb n 0 false [] 2 := by
    refine ⟨⟨CTp_c rC.1 (by rw [up_k _ _ _ (by decide), up_k _ _ _ (by decide)]) (by rw [up_k _ _ _ (by decide), up_k _ _ _ (by decide)]) (k19 1 (by decide) (by decide)) (k19 2 (by decide) (by decide)), ?_, rC.2.2⟩, ⟨?_, fun i hi => absurd hi (by simp), by simp⟩, ?_, ?_⟩
    · have := rC.2.1
      unfold TK at this ⊢
      rw [k19 6 (by decide) (by decide), k19 7 (by decide) (by decide), k19 8 (by decide) (by decide), k19 9 (by decide) (by decide)]; exact this
    · rw [k19 5 (by decide) (by decide)]; exact d0.2.2.2
    · rw [up_j _ _ _ (by decide), up_e]; rfl
    · rw [up_e]; rfl
  refine ⟨m_up (m_up (clr B sd) 19 11 63552) 19 12 131104, ?_, fun q a c => by rw [up_k _ _ _ a, up_k _ _ _ a]; exact fC q a c, by rw [up_k _ _ _ (by omega), up_k _ _ _ (by omega)]; exact d0.1.2.2.1⟩
  have e40 : F_Reader_readQuestion sd I = F_Reader_readQuestion_40 sd (m_up (m_up (clr B sd) 19 11 63552) 19 12 131104) (if kd tb n 0 false = 256 then w_no (lets tb n 0) else -1) := by
    unfold F_Reader_readQuestion
    rw [eB]
    simp only [Option.bind_some, bnd]
    show (if clr B sd 19 6 = 256 then F_Reader_readQuestion_40 sd (m_up (m_up (clr B sd) 19 11 63552) 19 12 131104) (m_up (m_up (clr B sd) 19 11 63552) 19 12 131104 19 9) else F_Reader_readQuestion_40 sd (m_up (m_up (clr B sd) 19 11 63552) 19 12 131104) (-1)) = _
    by_cases k : kd tb n 0 false = 256
    · rw [if_pos ((kd_is rC (by decide) (show (256 : Int32) = nI 256 from rfl)).mpr k), if_pos k, k19 9 (by decide) (by decide), rC.2.1.2.2.2 k]
    · rw [if_neg (fun z => k ((kd_is rC (by decide) (show (256 : Int32) = nI 256 from rfl)).mp z)), if_neg k]
  rw [e40]
  exact quest_40 hq cX
end LF2
