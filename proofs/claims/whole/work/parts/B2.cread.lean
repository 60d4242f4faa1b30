/-! the class reads on -/
abbrev LR : List (Nat × Option Nat) := [(19, some 6), (19, some 7), (19, some 8), (19, some 9)]
/-- the reader stands behind e -/
def RS (X : MI) (tb : Nat → Nat) (n e : Nat) (b : Bool) : Prop := CTp X tb n ∧ TK X tb n e b ∧ e ≤ n
def FTt (X : MI) (k at' : Nat) : Prop := X 19 1 = nI k ∧ X 19 2 = nI at'
/-- the memory of a fault -/
def wrm (X : MI) (k at' : Nat) : MI := m_up (m_up X 19 1 (nI k)) 19 2 (nI at')
section LB2
variable {I X Y Z : MI} {sd n e : Nat} {b : Bool} {tb : Nat → Nat}
theorem CTp_19 (h : CTp X tb n) {j : Nat} {v : Int32} (hj : 1 ≠ j ∧ 2 ≠ j := by decide) : CTp (m_up X 19 j v) tb n := CTp_c h (by rw [up_k _ _ _ (by decide)]) (up_k _ _ _ (by decide)) (up_j _ _ _ hj.1) (up_j _ _ _ hj.2)
theorem adv263 {k s : Nat} (hk : k < 300) (hs : s < 2 ^ 31) (he : e < 2 ^ 31) (h6 : Z 19 6 = nI k) (h7 : Z 19 7 = nI s) : F_Reader_advance_263 sd Z (bI b) (nI e) = some (if b = true ∧ s = e ∧ (k = 256 ∨ k = 257) then m_up Z 19 6 259 else Z) := by
  unfold F_Reader_advance_263
  rw [h6, h7]
  cases b with
  | false => rw [if_pos (show bI false = 0 from rfl), if_neg (fun z => by cases z.1)]
  | true =>
    rw [if_neg (show ¬ bI true = 0 by decide)]
    by_cases q : s = e
    · rw [if_pos (by rw [q])]
      by_cases q1 : k = 256
      · rw [if_pos (by rw [q1]; rfl), if_pos ⟨rfl, q, Or.inl q1⟩]
      · rw [if_neg (fun z => q1 ((n_eq (by omega) (by decide) (show (256 : Int32) = nI 256 from rfl)).mp z))]
        by_cases q2 : k = 257
        · rw [if_pos (by rw [q2]; rfl), if_pos ⟨rfl, q, Or.inr q2⟩]
        · rw [if_neg (fun z => q2 ((n_eq (by omega) (by decide) (show (257 : Int32) = nI 257 from rfl)).mp z)), if_neg (fun z => z.2.2.elim q1 q2)]
    · rw [if_neg (fun z => q ((nI_inj hs he).mp z)), if_neg (fun z => q z.2.1)]
theorem sk_run (h : CTp X tb n) (he : e ≤ n) (v1 v2 : Int32) : wl (fun s : MI => F_Reader_advance_39 sd s v1 v2) (m_up X 19 7 (nI e)) = some (m_up X 19 7 (nI (sk tb n e))) := by
  have n16 := h.2.1
  refine run_loop (P := cB) (tb := tb) (n := n) (fun pos hp => ?_) _ e rfl he
  have hY := CTp_19 (j := 7) (v := nI pos) h
  unfold F_Reader_advance_39
  rw [hY.1, up_e]
  by_cases q : pos < n
  · rw [if_neg (nI_ge q (by omega)), byte_k hY (by omega), if_pos q]
    simp only [Option.bind_some]
    rw [blank_c (h.2.2.1 pos q).1]
    simp only [Option.bind_some]
    cases hb : cB (tb pos) with
    | true => rw [if_neg (show ¬ bI true = 0 by decide), if_pos ⟨q, rfl⟩, nI_s, up_up]
    | false => rw [if_pos (show bI false = 0 from rfl), if_neg (fun z => by cases z.2)]
  · rw [if_pos (nI_le (by omega) (by omega)), if_neg (fun z => q z.1)]
theorem let_run (h : CTp X tb n) (he : e ≤ n) (v1 v2 : Int32) : wl (fun s : MI => F_Reader_advance_125 sd s v1 v2) (m_up X 19 8 (nI e)) = some (m_up X 19 8 (nI (t_e cL tb n e))) := by
  have n16 := h.2.1
  refine run_loop (P := cL) (tb := tb) (n := n) (fun pos hp => ?_) _ e rfl he
  have hY := CTp_19 (j := 8) (v := nI pos) h
  unfold F_Reader_advance_125
  rw [hY.1, up_e]
  by_cases q : pos < n
  · rw [if_neg (nI_ge q (by omega)), byte_k hY (by omega), if_pos q]
    simp only [Option.bind_some]
    rw [letter_c (h.2.2.1 pos q).1]
    simp only [Option.bind_some]
    cases hb : cL (tb pos) with
    | true => rw [if_neg (show ¬ bI true = 0 by decide), if_pos ⟨q, rfl⟩, nI_s, up_up]
    | false => rw [if_pos (show bI false = 0 from rfl), if_neg (fun z => by cases z.2)]
  · rw [if_pos (nI_le (by omega) (by omega)), if_neg (fun z => q z.1)]
theorem dig_run (h : CTp X tb n) (he : e ≤ n) (v1 v2 : Int32) : wl (fun s : MI => F_Reader_advance_194 sd s v1 v2) (m_up X 19 8 (nI e)) = some (m_up X 19 8 (nI (t_e cD tb n e))) := by
  have n16 := h.2.1
  refine run_loop (P := cD) (tb := tb) (n := n) (fun pos hp => ?_) _ e rfl he
  have hY := CTp_19 (j := 8) (v := nI pos) h
  unfold F_Reader_advance_194
  rw [hY.1, up_e]
  by_cases q : pos < n
  · rw [if_neg (nI_ge q (by omega)), byte_k hY (by omega), if_pos q]
    simp only [Option.bind_some]
    rw [digit_c (h.2.2.1 pos q).1]
    simp only [Option.bind_some]
    cases hb : cD (tb pos) with
    | true => rw [if_neg (show ¬ bI true = 0 by decide), if_pos ⟨q, rfl⟩, nI_s, up_up]
    | false => rw [if_pos (show bI false = 0 from rfl), if_neg (fun z => by cases z.2)]
  · rw [if_pos (nI_le (by omega) (by omega)), if_neg (fun z => q z.1)]
theorem adv_c (h : CTp X tb n) (he : e ≤ n) (h8 : X 19 8 = nI e) (hb : (X 19 6 = 256 ∨ X 19 6 = 257) ↔ b = true) : ok (F_Reader_advance sd X) (fun Y => RS Y tb n e b ∧ fsL LR Y X) := by
  have n16 := h.2.1
  have h1 := sk_le (tb := tb) he
  have h0 := sk_ge (tb := tb) (n := n) e
  have hT := h.2.2.1
  have e25 : F_Reader_advance sd X = F_Reader_advance_25 sd X (bI b) := by
    unfold F_Reader_advance F_Reader_advance_20
    by_cases q1 : X 19 6 = 256
    · rw [if_pos q1, hb.mp (Or.inl q1)]; rfl
    · rw [if_neg q1]
      by_cases q2 : X 19 6 = 257
      · rw [if_pos q2, hb.mp (Or.inr q2)]; rfl
      · rw [if_neg q2]
        cases b with
        | false => rfl
        | true => exact absurd (hb.mpr rfl) (fun z => z.elim q1 q2)
  rw [e25]
  unfold F_Reader_advance_25
  rw [h8, sk_run h he]
  simp only [Option.bind_some]
  have hA := CTp_19 (j := 7) (v := nI (sk tb n e)) h
  have fA : fsL LR (m_up X 19 7 (nI (sk tb n e))) X := fs_up (LX := LR) (by decide) (by decide) (fs_r X)
  have a7 : m_up X 19 7 (nI (sk tb n e)) 19 7 = nI (sk tb n e) := up_e _ _ _ _
  generalize m_up X 19 7 (nI (sk tb n e)) = A at *
  unfold F_Reader_advance_83
  rw [a7, byte_k hA (by omega)]
  simp only [Option.bind_some]
  have up2 : ∀ {Z : MI} {j : Nat} {v : Int32}, inL LR 19 j = true → fsL LR Z X → fsL LR (m_up Z 19 j v) X := fun hj hz => fs_up (LX := LR) (by decide) hj hz
  by_cases q : sk tb n e < n
  · have cb := (hT _ q).1
    rw [if_pos q, if_neg (show ¬ nI (tb (sk tb n e)) = -1 from fun z => by have := nI_pos' (n := tb (sk tb n e)) (by omega); rw [z] at this; exact absurd this (by decide)), letter_c cb]
    simp only [Option.bind_some]
    rcases Bool.eq_false_or_eq_true (cL (tb (sk tb n e))) with q1 | q1
    · rw [q1, if_neg (show ¬ bI true = 0 by decide), let_run hA h1]
      simp only [Option.bind_some]
      have te1 : tke tb n e = t_e cL tb n (sk tb n e) := by unfold tke; rw [if_pos q, if_pos q1]
      have tl := tke_le (tb := tb) he
      have tg := tke_gt q
      unfold F_Reader_advance_169
      rw [← te1]
      have b7 : m_up A 19 8 (nI (tke tb n e)) 19 7 = nI (sk tb n e) := by rw [up_j _ _ _ (by decide)]; exact a7
      have b8 : m_up A 19 8 (nI (tke tb n e)) 19 8 = nI (tke tb n e) := up_e _ _ _ _
      have hB := CTp_19 (j := 8) (v := nI (tke tb n e)) hA
      have fB : fsL LR (m_up A 19 8 (nI (tke tb n e))) X := up2 (by decide) fA
      generalize m_up A 19 8 (nI (tke tb n e)) = B at *
      rw [word_n hB b7 b8 tl (by omega)]
      simp only [Option.bind_some]
      have c6 : m_up (m_up B 19 9 (w_no (lets tb n e))) 19 6 256 19 6 = nI 256 := up_e _ _ _ _
      have c7 : m_up (m_up B 19 9 (w_no (lets tb n e))) 19 6 256 19 7 = nI (sk tb n e) := by rw [up_j _ _ _ (by decide), up_j _ _ _ (by decide)]; exact b7
      have c8 : m_up (m_up B 19 9 (w_no (lets tb n e))) 19 6 256 19 8 = nI (tke tb n e) := by rw [up_j _ _ _ (by decide), up_j _ _ _ (by decide)]; exact b8
      have c9 : m_up (m_up B 19 9 (w_no (lets tb n e))) 19 6 256 19 9 = w_no (lets tb n e) := by rw [up_j _ _ _ (by decide), up_e]
      have hC : CTp (m_up (m_up B 19 9 (w_no (lets tb n e))) 19 6 256) tb n := CTp_19 (CTp_19 hB)
      have fC : fsL LR (m_up (m_up B 19 9 (w_no (lets tb n e))) 19 6 256) X := up2 (by decide) (up2 (by decide) fB)
      show ok (F_Reader_advance_263 sd (m_up (m_up B 19 9 (w_no (lets tb n e))) 19 6 256) (bI b) (nI e)) _
      generalize m_up (m_up B 19 9 (w_no (lets tb n e))) 19 6 256 = C at *
      rw [adv263 (k := 256) (s := sk tb n e) (by omega) (by omega) (by omega) c6 c7]
      have kq := kd_let (b := b) q q1
      by_cases z : b = true ∧ sk tb n e = e
      · rw [if_pos ⟨z.1, z.2, Or.inl rfl⟩]
        rw [if_pos z] at kq
        refine ok_s ⟨⟨CTp_19 hC, ⟨?_, ?_, ?_, fun y => by omega⟩, he⟩, up2 (by decide) fC⟩
        · rw [up_e, kq]; rfl
        · rw [up_j _ _ _ (by decide)]; exact c7
        · rw [up_j _ _ _ (by decide)]; exact c8
      · rw [if_neg (fun y => z ⟨y.1, y.2.1⟩)]
        rw [if_neg z] at kq
        exact ok_s ⟨⟨hC, ⟨by rw [c6, kq], c7, c8, fun _ => c9⟩, he⟩, fC⟩
    · rw [q1, if_pos (show bI false = 0 from rfl), digit_c cb]
      simp only [Option.bind_some]
      rcases Bool.eq_false_or_eq_true (cD (tb (sk tb n e))) with q2 | q2
      · rw [q2, if_neg (show ¬ bI true = 0 by decide), dig_run hA h1]
        simp only [Option.bind_some]
        have te1 : tke tb n e = t_e cD tb n (sk tb n e) := by unfold tke; rw [if_pos q, if_neg (by rw [q1]; decide), if_pos q2]
        unfold F_Reader_advance_238
        rw [← te1]
        have c6 : m_up (m_up A 19 8 (nI (tke tb n e))) 19 6 257 19 6 = nI 257 := up_e _ _ _ _
        have c7 : m_up (m_up A 19 8 (nI (tke tb n e))) 19 6 257 19 7 = nI (sk tb n e) := by rw [up_j _ _ _ (by decide), up_j _ _ _ (by decide)]; exact a7
        have c8 : m_up (m_up A 19 8 (nI (tke tb n e))) 19 6 257 19 8 = nI (tke tb n e) := by rw [up_j _ _ _ (by decide), up_e]
        have hC : CTp (m_up (m_up A 19 8 (nI (tke tb n e))) 19 6 257) tb n := CTp_19 (CTp_19 hA)
        have fC : fsL LR (m_up (m_up A 19 8 (nI (tke tb n e))) 19 6 257) X := up2 (by decide) (up2 (by decide) fA)
        generalize m_up (m_up A 19 8 (nI (tke tb n e))) 19 6 257 = C at *
        rw [adv263 (k := 257) (s := sk tb n e) (by omega) (by omega) (by omega) c6 c7]
        have kq := kd_dig (b := b) q q2
        by_cases z : b = true ∧ sk tb n e = e
        · rw [if_pos ⟨z.1, z.2, Or.inr rfl⟩]
          rw [if_pos z] at kq
          refine ok_s ⟨⟨CTp_19 hC, ⟨?_, ?_, ?_, fun y => by omega⟩, he⟩, up2 (by decide) fC⟩
          · rw [up_e, kq]; rfl
          · rw [up_j _ _ _ (by decide)]; exact c7
          · rw [up_j _ _ _ (by decide)]; exact c8
        · rw [if_neg (fun y => z ⟨y.1, y.2.1⟩)]
          rw [if_neg z] at kq
          exact ok_s ⟨⟨hC, ⟨by rw [c6, kq], c7, c8, fun y => by omega⟩, he⟩, fC⟩
      · rw [q2, if_pos (show bI false = 0 from rfl)]
        have te1 : tke tb n e = sk tb n e + 1 := by unfold tke; rw [if_pos q, if_neg (by rw [q1]; decide), if_neg (by rw [q2]; decide)]
        have kq := kd_oth (b := b) q q1 q2
        rw [nI_s]
        have c6 : m_up (m_up (m_up A 19 8 (nI (sk tb n e))) 19 6 (nI (tb (sk tb n e)))) 19 8 (nI (sk tb n e + 1)) 19 6 = nI (tb (sk tb n e)) := by rw [up_j _ _ _ (by decide), up_e]
        have c7 : m_up (m_up (m_up A 19 8 (nI (sk tb n e))) 19 6 (nI (tb (sk tb n e)))) 19 8 (nI (sk tb n e + 1)) 19 7 = nI (sk tb n e) := by rw [up_j _ _ _ (by decide), up_j _ _ _ (by decide), up_j _ _ _ (by decide)]; exact a7
        have c8 : m_up (m_up (m_up A 19 8 (nI (sk tb n e))) 19 6 (nI (tb (sk tb n e)))) 19 8 (nI (sk tb n e + 1)) 19 8 = nI (sk tb n e + 1) := up_e _ _ _ _
        have hC : CTp (m_up (m_up (m_up A 19 8 (nI (sk tb n e))) 19 6 (nI (tb (sk tb n e)))) 19 8 (nI (sk tb n e + 1))) tb n := CTp_19 (CTp_19 (CTp_19 hA))
        have fC : fsL LR (m_up (m_up (m_up A 19 8 (nI (sk tb n e))) 19 6 (nI (tb (sk tb n e)))) 19 8 (nI (sk tb n e + 1))) X := up2 (by decide) (up2 (by decide) (up2 (by decide) fA))
        generalize m_up (m_up (m_up A 19 8 (nI (sk tb n e))) 19 6 (nI (tb (sk tb n e)))) 19 8 (nI (sk tb n e + 1)) = C at *
        rw [adv263 (k := tb (sk tb n e)) (s := sk tb n e) (by omega) (by omega) (by omega) c6 c7, if_neg (fun y => by omega)]
        exact ok_s ⟨⟨hC, ⟨by rw [c6, kq], c7, by rw [c8, te1], fun y => by omega⟩, he⟩, fC⟩
  · have te1 : tke tb n e = sk tb n e := by unfold tke; rw [if_neg q]
    have kq : kd tb n e b = 258 := by unfold kd; rw [if_neg q]
    rw [if_neg q, if_pos rfl]
    have c6 : m_up (m_up A 19 8 (nI (sk tb n e))) 19 6 258 19 6 = nI 258 := up_e _ _ _ _
    have c7 : m_up (m_up A 19 8 (nI (sk tb n e))) 19 6 258 19 7 = nI (sk tb n e) := by rw [up_j _ _ _ (by decide), up_j _ _ _ (by decide)]; exact a7
    have c8 : m_up (m_up A 19 8 (nI (sk tb n e))) 19 6 258 19 8 = nI (sk tb n e) := by rw [up_j _ _ _ (by decide), up_e]
    have hC : CTp (m_up (m_up A 19 8 (nI (sk tb n e))) 19 6 258) tb n := CTp_19 (CTp_19 hA)
    have fC : fsL LR (m_up (m_up A 19 8 (nI (sk tb n e))) 19 6 258) X := up2 (by decide) (up2 (by decide) fA)
    generalize m_up (m_up A 19 8 (nI (sk tb n e))) 19 6 258 = C at *
    rw [adv263 (k := 258) (s := sk tb n e) (by omega) (by omega) (by omega) c6 c7, if_neg (fun y => by omega)]
    exact ok_s ⟨⟨hC, ⟨by rw [c6, kq], c7, by rw [c8, te1], fun y => by omega⟩, he⟩, fC⟩
end LB2
