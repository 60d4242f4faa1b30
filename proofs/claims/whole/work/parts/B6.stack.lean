/-! the reference's codes and what waits -/
def QS (Y : MI) (W K : List Nat) (o bs : Nat) : Prop := (Y 177 94 = nI W.length ∧ (∀ i, i < W.length → Y 245 i = nI (W.getD i 0))) ∧ (Y 177 92 = nI K.length ∧ (∀ i, i < K.length → Y 244 i = nI (K.getD i 0))) ∧ Y 177 95 = nI o ∧ Y 177 96 = nI bs
abbrev LSt : List (Nat × Option Nat) := [(177, some 92), (177, some 94), (177, some 95), (244, none), (245, none)]
section LB6
variable {I X Y Z : MI} {n e o bs : Nat} {b : Bool} {tb : Nat → Nat} {W K S : List Nat}
theorem QP_f {L : List (Nat × Option Nat)} (h : QP Y tb n e b) (hx : fsL L X Y) (d1 : disL L [(177, some 2), (177, some 3), (177, some 4), (177, some 5), (177, some 6)] = true) (d2 : disL L ((178, none) :: m_wds.map (fun q => (q.1, none))) = true) : QP X tb n e b := by
  obtain ⟨⟨g1, g2, g3⟩, ⟨z, z1, z2, z3⟩, g5, g6⟩ := h
  have a := ag_of d1 hx
  have a2 : X 177 2 = Y 177 2 := a (177, some 2) (by decide)
  have a3 : X 177 3 = Y 177 3 := a (177, some 3) (by decide)
  have a4 : X 177 4 = Y 177 4 := a (177, some 4) (by decide)
  have a5 : X 177 5 = Y 177 5 := a (177, some 5) (by decide)
  have a6 : X 177 6 = Y 177 6 := a (177, some 6) (by decide)
  refine ⟨⟨a5.trans g1, a3.trans g2, g3⟩, ⟨z, a2.trans z1, z2, z3⟩, ?_, MT_f g6 hx d2 a6⟩
  rw [a4]; exact g5
theorem QS_f {L : List (Nat × Option Nat)} (h : QS Y W K o bs) (hx : fsL L X Y) (d : disL L [(177, some 92), (177, some 94), (177, some 95), (177, some 96), (244, none), (245, none)] = true) : QS X W K o bs := by
  obtain ⟨⟨g1, g2⟩, ⟨g3, g4⟩, g5, g6⟩ := h
  have a := ag_of d hx
  have a1 : X 177 92 = Y 177 92 := a (177, some 92) (by decide)
  have a2 : X 177 94 = Y 177 94 := a (177, some 94) (by decide)
  have a3 : X 177 95 = Y 177 95 := a (177, some 95) (by decide)
  have a4 : X 177 96 = Y 177 96 := a (177, some 96) (by decide)
  have a5 : X 244 = Y 244 := a (244, none) (by decide)
  have a6 : X 245 = Y 245 := a (245, none) (by decide)
  unfold QS
  rw [a1, a2, a3, a4, a5, a6]
  exact ⟨⟨g1, g2⟩, ⟨g3, g4⟩, g5, g6⟩
theorem code_m (h : QS Y W K o bs) (hK : K.length < 1700) (v : Nat) : ∃ Y', F_MD_qCode Y (nI v) = some Y' ∧ QS Y' W (K ++ [v]) o bs ∧ fsL LSt Y' Y := by
  obtain ⟨⟨g1, g2⟩, ⟨g3, g4⟩, g5, g6⟩ := h
  refine ⟨m_up (m_up Y 244 K.length (nI v)) 177 92 (nI (K.length + 1)), ?_, ⟨⟨?_, fun i hi => ?_⟩, ⟨?_, fun i hi => ?_⟩, ?_, ?_⟩, fs_up (LX := LSt) (by decide) (by decide) (fs_up (LX := [(244, none)]) (by decide) (by simp [inL]) (fs_r Y))⟩
  · unfold F_MD_qCode
    rw [g3, gd_n hK (by decide), nI_clamp (by omega), nI_s]
  · rw [up_j _ _ _ (by decide), up_k _ _ _ (by decide)]; exact g1
  · rw [up_k _ _ _ (by decide), up_k _ _ _ (by decide)]; exact g2 i hi
  · rw [up_e, List.length_append]; rfl
  · rw [List.length_append] at hi
    have hi : i < K.length + 1 := hi
    rw [up_k _ _ _ (by decide), getD_app]
    by_cases q : i < K.length
    · rw [if_pos q, up_j _ _ _ (by omega)]; exact g4 i q
    · have q2 : i = K.length := by omega
      subst q2
      rw [if_neg q, if_pos rfl, up_e]
  · rw [up_j _ _ _ (by decide), up_k _ _ _ (by decide)]; exact g5
  · rw [up_j _ _ _ (by decide), up_k _ _ _ (by decide)]; exact g6
/-- one that waits is put -/
theorem push_m (h : QS Y W K o bs) (x o' : Nat) : QS (m_up (m_up (m_up Y 177 95 (nI o')) 245 W.length (nI x)) 177 94 (nI (W.length + 1))) (W ++ [x]) K o' bs ∧ fsL LSt (m_up (m_up (m_up Y 177 95 (nI o')) 245 W.length (nI x)) 177 94 (nI (W.length + 1))) Y := by
  obtain ⟨⟨g1, g2⟩, ⟨g3, g4⟩, g5, g6⟩ := h
  refine ⟨⟨⟨?_, fun i hi => ?_⟩, ⟨?_, fun i hi => ?_⟩, ?_, ?_⟩, fs_up (LX := LSt) (by decide) (by decide) (fs_up (LX := [(245, none)]) (by decide) (by simp [inL]) (fs_up (LX := LSt) (by decide) (by decide) (fs_r Y)))⟩
  · rw [up_e, List.length_append]; rfl
  · rw [List.length_append] at hi
    have hi : i < W.length + 1 := hi
    rw [up_k _ _ _ (by decide), getD_app]
    by_cases q : i < W.length
    · rw [if_pos q, up_j _ _ _ (by omega), up_k _ _ _ (by decide)]; exact g2 i q
    · have q2 : i = W.length := by omega
      subst q2
      rw [if_neg q, if_pos rfl, up_e]
  · rw [up_j _ _ _ (by decide), up_k _ _ _ (by decide), up_j _ _ _ (by decide)]; exact g3
  · rw [up_k _ _ _ (by decide), up_k _ _ _ (by decide), up_k _ _ _ (by decide)]; exact g4 i hi
  · rw [up_j _ _ _ (by decide), up_k _ _ _ (by decide), up_e]
  · rw [up_j _ _ _ (by decide), up_k _ _ _ (by decide), up_j _ _ _ (by decide)]; exact g6
/-- an operator is put -/
theorem wait_m (h : QS Y W K o bs) (x : Nat) : QS (m_up (m_up Y 245 W.length (nI x)) 177 94 (nI (W.length + 1))) (W ++ [x]) K o bs ∧ fsL LSt (m_up (m_up Y 245 W.length (nI x)) 177 94 (nI (W.length + 1))) Y := by
  have := push_m h x o
  rw [up_same h.2.2.1] at this
  exact this
theorem last_g {W : List Nat} {x : Nat} : (W ++ [x]).getD ((W ++ [x]).length - 1) 0 = x := by
  rw [List.length_append, getD_app, if_neg (by simp), if_pos (by simp)]
/-- the top one goes, with nothing coded -/
theorem pop_m {x0 : Nat} (h : QS Y (W ++ [x0]) K o bs) (o' : Nat) : QS (m_up (m_up Y 177 94 (nI W.length)) 177 95 (nI o')) W K o' bs ∧ fsL LSt (m_up (m_up Y 177 94 (nI W.length)) 177 95 (nI o')) Y := by
  obtain ⟨⟨g1, g2⟩, ⟨g3, g4⟩, g5, g6⟩ := h
  refine ⟨⟨⟨?_, fun i hi => ?_⟩, ⟨?_, fun i hi => ?_⟩, up_e _ _ _ _, ?_⟩, fs_up (LX := LSt) (by decide) (by decide) (fs_up (LX := LSt) (by decide) (by decide) (fs_r Y))⟩
  · rw [up_j _ _ _ (by decide), up_e]
  · rw [up_k _ _ _ (by decide), up_k _ _ _ (by decide), g2 i (by rw [List.length_append]; omega), getD_app, if_pos hi]
  · rw [up_j _ _ _ (by decide), up_j _ _ _ (by decide)]; exact g3
  · rw [up_k _ _ _ (by decide), up_k _ _ _ (by decide)]; exact g4 i hi
  · rw [up_j _ _ _ (by decide), up_j _ _ _ (by decide)]; exact g6
theorem top_m {x : Nat} (h : QS Y (W ++ [x]) K o bs) (hl : W.length < 1699) : Y 177 94 - 1 = nI W.length ∧ Y 245 W.length = nI x := by
  obtain ⟨⟨g1, g2⟩, -⟩ := h
  refine ⟨?_, ?_⟩
  · rw [g1, List.length_append]
    exact nI_subN (a := W.length + 1) (b := 1) (by omega)
  · rw [g2 W.length (by rw [List.length_append]; simp), getD_app, if_neg (Nat.lt_irrefl _), if_pos rfl]
theorem drop_m {x : Nat} (h : QS Y (W ++ [x]) K o bs) (hl : W.length < 1699) (hK : K.length < 1700) : ∃ Y', F_MD_qDrops Y = some Y' ∧ QS Y' W (K ++ [x]) o bs ∧ fsL LSt Y' Y := by
  obtain ⟨t1, t2⟩ := top_m h hl
  have p1 := pop_m h o
  have e5 : m_up Y 177 94 (nI W.length) 177 95 = nI o := by rw [up_j _ _ _ (by decide)]; exact h.2.2.1
  rw [up_same e5] at p1
  obtain ⟨Y', c1, c2, c3⟩ := code_m p1.1 hK x
  refine ⟨Y', ?_, c2, fs_tr c3 p1.2⟩
  unfold F_MD_qDrops
  rw [t1, gd_n (by omega) (by decide), nI_clamp (by omega), t2, c1]
  rfl
/-- drops while there is reason -/
theorem drops_g {bd : MI → Option (MI ⊕ MI)} (go : List Nat → Prop) (hb : ∀ Y W K, QS Y W K o bs → W.length < 1700 → K.length < 1700 → (go W → bd Y = (F_MD_qDrops Y).bind fun r => some (.inl r)) ∧ (¬ go W → bd Y = some (.inr Y))) : ∀ d S, S.length = d → ∀ W K (Y : MI), QS Y (W ++ S) K o bs → (∀ S' x S'', S = S' ++ x :: S'' → go (W ++ S' ++ [x])) → ¬ go W → W.length + S.length + K.length < 1700 → ∃ Y', wl bd Y = some Y' ∧ QS Y' W (K ++ S.reverse) o bs ∧ fsL LSt Y' Y := by
  intro d
  induction d with
  | zero =>
    intro S hd W K Y h hg hn hl
    have : S = [] := List.length_eq_zero_iff.mp hd
    subst this
    rw [List.append_nil] at h
    exact ⟨Y, wl_in ((hb Y W K h (by simp at hl; omega) (by simp at hl; omega)).2 hn), by simpa using h, fs_r Y⟩
  | succ d ih =>
    intro S hd W K Y h hg hn hl
    rcases List.eq_nil_or_concat S with e0 | ⟨S0, x, e0⟩
    · rw [e0] at hd; cases hd
    · rw [List.concat_eq_append] at e0
      subst e0
      rw [List.length_append] at hd hl
      simp at hd hl
      have h2 : QS Y ((W ++ S0) ++ [x]) K o bs := by rw [List.append_assoc]; exact h
      have gx := hg S0 x [] rfl
      obtain ⟨Y1, d1, d2, d3⟩ := drop_m h2 (by rw [List.length_append]; omega) (by omega)
      have b1 := (hb Y _ K h2 (by rw [List.length_append, List.length_append]; simp; omega) (by omega)).1 gx
      rw [d1] at b1
      have b1 : bd Y = some (.inl Y1) := b1
      obtain ⟨Y', w1, w2, w3⟩ := ih S0 (by omega) W (K ++ [x]) Y1 d2 (fun S' z S'' e => hg S' z (S'' ++ [x]) (by rw [e]; simp)) hn (by rw [List.length_append]; simp; omega)
      refine ⟨Y', by rw [wl_st b1]; exact w1, ?_, fs_tr w3 d3⟩
      rw [List.reverse_append]
      simpa using w2
end LB6
