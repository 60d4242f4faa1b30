/-! which fields and rows the reference's functions may change -/
def inL (L : List (Nat × Option Nat)) (k j : Nat) : Bool := L.any (fun p => p.1 == k && (match p.2 with
  | none => true
  | some s => s == j))
def subL (A B : List (Nat × Option Nat)) : Bool := A.all (fun p => B.any (fun q => q.1 == p.1 && (match q.2 with
  | none => true
  | some s => p.2 == some s)))
def fsL {α : Type} (L : List (Nat × Option Nat)) (X I : Nat → Nat → α) : Prop := ∀ k j, inL L k j = false → X k j = I k j
theorem fs_r {α : Type} {L : List (Nat × Option Nat)} (I : Nat → Nat → α) : fsL L I I := fun _ _ _ => rfl
theorem fs_tr {α : Type} {L : List (Nat × Option Nat)} {X Y I : Nat → Nat → α} (h : fsL L X Y) (h2 : fsL L Y I) : fsL L X I := fun k j q => (h k j q).trans (h2 k j q)
theorem in_sub {A B : List (Nat × Option Nat)} {k j : Nat} (h : subL A B = true) (hk : inL A k j = true) : inL B k j = true := by
  unfold inL at hk
  obtain ⟨p, hp, h2⟩ := List.any_eq_true.mp hk
  have h3 := List.all_eq_true.mp h p hp
  obtain ⟨q, hq, h4⟩ := List.any_eq_true.mp h3
  refine List.any_eq_true.mpr ⟨q, hq, ?_⟩
  rcases p with ⟨p1, p2⟩
  rcases q with ⟨q1, q2⟩
  simp only [Bool.and_eq_true, beq_iff_eq] at h2 h4 ⊢
  refine ⟨h4.1.trans h2.1, ?_⟩
  cases q2 with
  | none => rfl
  | some s =>
    have h5 : p2 = some s := by simpa using h4.2
    rw [h5] at h2
    exact h2.2
theorem sub_t {A B C : List (Nat × Option Nat)} (h : subL A B = true) (h2 : subL B C = true) : subL A C = true := by
  refine List.all_eq_true.mpr fun p hp => ?_
  obtain ⟨q, hq, h4⟩ := List.any_eq_true.mp (List.all_eq_true.mp h p hp)
  obtain ⟨r, hr, h5⟩ := List.any_eq_true.mp (List.all_eq_true.mp h2 q hq)
  refine List.any_eq_true.mpr ⟨r, hr, ?_⟩
  rcases p with ⟨p1, p2⟩
  rcases q with ⟨q1, q2⟩
  rcases r with ⟨r1, r2⟩
  simp only [Bool.and_eq_true, beq_iff_eq] at h4 h5 ⊢
  refine ⟨h5.1.trans h4.1, ?_⟩
  cases r2 with
  | none => rfl
  | some s =>
    have h6 : q2 = some s := by simpa using h5.2
    rw [h6] at h4
    exact h4.2
theorem fs_sub {α : Type} {A B : List (Nat × Option Nat)} {X I : Nat → Nat → α} (h : subL A B = true) (hx : fsL A X I) : fsL B X I := fun k j q => hx k j (by
  cases e : inL A k j with
  | false => rfl
  | true => rw [in_sub h e] at q; cases q)
theorem fs_up {α : Type} {LX L : List (Nat × Option Nat)} {X I : Nat → Nat → α} {k j : Nat} {v : α} (hL : subL LX L = true) (hk : inL LX k j = true) (h : fsL L X I) : fsL L (m_up X k j v) I := by
  intro k' j' q
  simp only [m_up]
  by_cases h1 : k' = k
  · by_cases h2 : j' = j
    · rw [h1, h2, in_sub hL hk] at q; cases q
    · rw [if_pos h1, if_neg h2]; exact h k' j' q
  · rw [if_neg h1]; exact h k' j' q
theorem fs_M {L : List (Nat × Option Nat)} {X I : MI} (hL : (L.all fun p => Nat.ble 177 p.1) = true) (h : fsL L X I) : frM X I := by
  intro q hq
  funext j
  refine h q j ?_
  cases e : inL L q j with
  | false => rfl
  | true =>
    obtain ⟨p, hp, h2⟩ := List.any_eq_true.mp e
    have h3 := List.all_eq_true.mp hL p hp
    simp only [Bool.and_eq_true, beq_iff_eq] at h2
    have := Nat.le_of_ble_eq_true h3
    omega
abbrev L_MD_feed_81 : List (Nat × Option Nat) := [(177, some 1), (178, none)]
abbrev K_MD_feed_81 : List (Nat × Option Nat) := []
theorem q_MD_feed_81 {L LJ : List (Nat × Option Nat)} {I0 : MI} {J0 : MJ} {I : MI} {v1 : Int32} {v2 : Int32} {v3 : Int32} {v4 : Int32} {v5 : Int32} {v6 : Int32} {y0 : Int32} (hL : subL L_MD_feed_81 L = true) (hLJ : subL K_MD_feed_81 LJ = true) (hI : fsL L I I0) : pc (F_MD_feed_81 I v1 v2 v3 v4 v5 v6 y0) (Sum.elim (fun r : Int32 × MI => fsL L r.2 I0) (fun r : MI => fsL L r I0)) := by
  unfold F_MD_feed_81
  refine pc_gd ?_
  refine pc_bnd ?_
  refine pc_s ?_
  first | trivial | (refine ⟨?_, ?_⟩ <;> repeat (first | assumption | refine fs_up hL rfl ?_ | refine fs_up hLJ rfl ?_)) | (repeat (first | assumption | refine fs_up hL rfl ?_ | refine fs_up hLJ rfl ?_))
abbrev L_MD_feed_28 : List (Nat × Option Nat) := [(177, some 1), (178, none)]
abbrev K_MD_feed_28 : List (Nat × Option Nat) := []
theorem q_MD_feed_28 {L LJ : List (Nat × Option Nat)} {I0 : MI} {J0 : MJ} {I : MI} {v1 : Int32} {v2 : Int32} {v3 : Int32} {v4 : Int32} {v5 : Int32} {v6 : Int32} (hL : subL L_MD_feed_28 L = true) (hLJ : subL K_MD_feed_28 LJ = true) (hI : fsL L I I0) : pc (F_MD_feed_28 I v1 v2 v3 v4 v5 v6) (Sum.elim (fun r : Int32 × MI => fsL L r.2 I0) (fun r : MI => fsL L r I0)) := by
  unfold F_MD_feed_28
  refine pc_if ?_ ?_
  · refine pc_s ?_
    first | trivial | (refine ⟨?_, ?_⟩ <;> repeat (first | assumption | refine fs_up hL rfl ?_ | refine fs_up hLJ rfl ?_)) | (repeat (first | assumption | refine fs_up hL rfl ?_ | refine fs_up hLJ rfl ?_))
  · refine pc_if ?_ ?_
    · refine pc_if ?_ ?_
      · refine pc_if ?_ ?_
        · refine pc_if ?_ ?_
          · exact (q_MD_feed_81 (L := L) (LJ := LJ) (I0 := I0) (J0 := J0) (sub_t (by decide) hL) (sub_t (by decide) hLJ) (by repeat (first | assumption | refine fs_up hL rfl ?_ | refine fs_up hLJ rfl ?_)))
          · exact (q_MD_feed_81 (L := L) (LJ := LJ) (I0 := I0) (J0 := J0) (sub_t (by decide) hL) (sub_t (by decide) hLJ) (by repeat (first | assumption | refine fs_up hL rfl ?_ | refine fs_up hLJ rfl ?_)))
        · exact (q_MD_feed_81 (L := L) (LJ := LJ) (I0 := I0) (J0 := J0) (sub_t (by decide) hL) (sub_t (by decide) hLJ) (by repeat (first | assumption | refine fs_up hL rfl ?_ | refine fs_up hLJ rfl ?_)))
      · exact (q_MD_feed_81 (L := L) (LJ := LJ) (I0 := I0) (J0 := J0) (sub_t (by decide) hL) (sub_t (by decide) hLJ) (by repeat (first | assumption | refine fs_up hL rfl ?_ | refine fs_up hLJ rfl ?_)))
    · exact (q_MD_feed_81 (L := L) (LJ := LJ) (I0 := I0) (J0 := J0) (sub_t (by decide) hL) (sub_t (by decide) hLJ) (by repeat (first | assumption | refine fs_up hL rfl ?_ | refine fs_up hLJ rfl ?_)))
abbrev L_MD_feed : List (Nat × Option Nat) := [(177, some 1), (178, none), (179, none)]
abbrev K_MD_feed : List (Nat × Option Nat) := []
theorem q_MD_feed {L LJ : List (Nat × Option Nat)} {I0 : MI} {J0 : MJ} {I : MI} {v1 : Int32} {v2 : Int32} {v3 : Int32} {v4 : Int32} {v5 : Int32} (hL : subL L_MD_feed L = true) (hLJ : subL K_MD_feed LJ = true) (hI : fsL L I I0) : pc (F_MD_feed I v1 v2 v3 v4 v5) (fun r : Int32 × MI => fsL L r.2 I0) := by
  unfold F_MD_feed
  refine pc_if ?_ ?_
  · refine pc_b (pc_wl (fun s : Int32 × MI => fsL L s.2 I0) (fun s hs => by exact (q_MD_feed_28 (L := L) (LJ := LJ) (I0 := I0) (J0 := J0) (sub_t (by decide) hL) (sub_t (by decide) hLJ) (by repeat (first | assumption | refine fs_up hL rfl ?_ | refine fs_up hLJ rfl ?_)))) (by first | trivial | (refine ⟨?_, ?_⟩ <;> repeat (first | assumption | refine fs_up hL rfl ?_ | refine fs_up hLJ rfl ?_)) | (repeat (first | assumption | refine fs_up hL rfl ?_ | refine fs_up hLJ rfl ?_)))) (fun t2 ht2 => ?_)
    refine pc_s ?_
    first | trivial | (refine ⟨?_, ?_⟩ <;> repeat (first | assumption | refine fs_up hL rfl ?_ | refine fs_up hLJ rfl ?_)) | (repeat (first | assumption | refine fs_up hL rfl ?_ | refine fs_up hLJ rfl ?_))
  · refine pc_s ?_
    first | trivial | (refine ⟨?_, ?_⟩ <;> repeat (first | assumption | refine fs_up hL rfl ?_ | refine fs_up hLJ rfl ?_)) | (repeat (first | assumption | refine fs_up hL rfl ?_ | refine fs_up hLJ rfl ?_))
abbrev L_MD_end_12 : List (Nat × Option Nat) := [(179, none)]
abbrev K_MD_end_12 : List (Nat × Option Nat) := []
theorem q_MD_end_12 {L LJ : List (Nat × Option Nat)} {I0 : MI} {J0 : MJ} {I : MI} (hL : subL L_MD_end_12 L = true) (hLJ : subL K_MD_end_12 LJ = true) (hI : fsL L I I0) : pc (F_MD_end_12 I) (fun r : Int32 × MI => fsL L r.2 I0) := by
  unfold F_MD_end_12
  refine pc_s ?_
  first | trivial | (refine ⟨?_, ?_⟩ <;> repeat (first | assumption | refine fs_up hL rfl ?_ | refine fs_up hLJ rfl ?_)) | (repeat (first | assumption | refine fs_up hL rfl ?_ | refine fs_up hLJ rfl ?_))
abbrev L_MD_end : List (Nat × Option Nat) := [(177, some 1), (179, none)]
abbrev K_MD_end : List (Nat × Option Nat) := []
theorem q_MD_end {L LJ : List (Nat × Option Nat)} {I0 : MI} {J0 : MJ} {I : MI} {v1 : Int32} (hL : subL L_MD_end L = true) (hLJ : subL K_MD_end LJ = true) (hI : fsL L I I0) : pc (F_MD_end I v1) (fun r : Int32 × MI => fsL L r.2 I0) := by
  unfold F_MD_end
  refine pc_if ?_ ?_
  · exact (q_MD_end_12 (L := L) (LJ := LJ) (I0 := I0) (J0 := J0) (sub_t (by decide) hL) (sub_t (by decide) hLJ) (by repeat (first | assumption | refine fs_up hL rfl ?_ | refine fs_up hLJ rfl ?_)))
  · refine pc_if ?_ ?_
    · refine pc_s ?_
      first | trivial | (refine ⟨?_, ?_⟩ <;> repeat (first | assumption | refine fs_up hL rfl ?_ | refine fs_up hLJ rfl ?_)) | (repeat (first | assumption | refine fs_up hL rfl ?_ | refine fs_up hLJ rfl ?_))
    · exact (q_MD_end_12 (L := L) (LJ := LJ) (I0 := I0) (J0 := J0) (sub_t (by decide) hL) (sub_t (by decide) hLJ) (by repeat (first | assumption | refine fs_up hL rfl ?_ | refine fs_up hLJ rfl ?_)))
abbrev L_MD_look_0 : List (Nat × Option Nat) := [(177, some 2)]
abbrev K_MD_look_0 : List (Nat × Option Nat) := []
theorem q_MD_look_0 {L LJ : List (Nat × Option Nat)} {I0 : MI} {J0 : MJ} {I : MI} (hL : subL L_MD_look_0 L = true) (hLJ : subL K_MD_look_0 LJ = true) (hI : fsL L I I0) : pc (F_MD_look_0 I) (Sum.elim (fun r : MI => fsL L r I0) (fun r : MI => fsL L r I0)) := by
  unfold F_MD_look_0
  refine pc_if ?_ ?_
  · refine pc_s ?_
    first | trivial | (refine ⟨?_, ?_⟩ <;> repeat (first | assumption | refine fs_up hL rfl ?_ | refine fs_up hLJ rfl ?_)) | (repeat (first | assumption | refine fs_up hL rfl ?_ | refine fs_up hLJ rfl ?_))
  · refine pc_gd ?_
    refine pc_if ?_ ?_
    · refine pc_s ?_
      first | trivial | (refine ⟨?_, ?_⟩ <;> repeat (first | assumption | refine fs_up hL rfl ?_ | refine fs_up hLJ rfl ?_)) | (repeat (first | assumption | refine fs_up hL rfl ?_ | refine fs_up hLJ rfl ?_))
    · refine pc_gd ?_
      refine pc_if ?_ ?_
      · refine pc_s ?_
        first | trivial | (refine ⟨?_, ?_⟩ <;> repeat (first | assumption | refine fs_up hL rfl ?_ | refine fs_up hLJ rfl ?_)) | (repeat (first | assumption | refine fs_up hL rfl ?_ | refine fs_up hLJ rfl ?_))
      · refine pc_s ?_
        first | trivial | (refine ⟨?_, ?_⟩ <;> repeat (first | assumption | refine fs_up hL rfl ?_ | refine fs_up hLJ rfl ?_)) | (repeat (first | assumption | refine fs_up hL rfl ?_ | refine fs_up hLJ rfl ?_))
abbrev L_MD_look_52 : List (Nat × Option Nat) := []
abbrev K_MD_look_52 : List (Nat × Option Nat) := []
theorem q_MD_look_52 {L LJ : List (Nat × Option Nat)} {I0 : MI} {J0 : MJ} {I : MI} (hL : subL L_MD_look_52 L = true) (hLJ : subL K_MD_look_52 LJ = true) (hI : fsL L I I0) : pc (F_MD_look_52 I) (fun r : Int32 × MI => fsL L r.2 I0) := by
  unfold F_MD_look_52
  refine pc_if ?_ ?_
  · refine pc_s ?_
    first | trivial | (refine ⟨?_, ?_⟩ <;> repeat (first | assumption | refine fs_up hL rfl ?_ | refine fs_up hLJ rfl ?_)) | (repeat (first | assumption | refine fs_up hL rfl ?_ | refine fs_up hLJ rfl ?_))
  · refine pc_gd ?_
    refine pc_s ?_
    first | trivial | (refine ⟨?_, ?_⟩ <;> repeat (first | assumption | refine fs_up hL rfl ?_ | refine fs_up hLJ rfl ?_)) | (repeat (first | assumption | refine fs_up hL rfl ?_ | refine fs_up hLJ rfl ?_))
abbrev L_MD_look : List (Nat × Option Nat) := [(177, some 2)]
abbrev K_MD_look : List (Nat × Option Nat) := []
theorem q_MD_look {L LJ : List (Nat × Option Nat)} {I0 : MI} {J0 : MJ} {I : MI} (hL : subL L_MD_look L = true) (hLJ : subL K_MD_look LJ = true) (hI : fsL L I I0) : pc (F_MD_look I) (fun r : Int32 × MI => fsL L r.2 I0) := by
  unfold F_MD_look
  refine pc_b (pc_wl (fun s : MI => fsL L s I0) (fun s hs => by exact (q_MD_look_0 (L := L) (LJ := LJ) (I0 := I0) (J0 := J0) (sub_t (by decide) hL) (sub_t (by decide) hLJ) (by repeat (first | assumption | refine fs_up hL rfl ?_ | refine fs_up hLJ rfl ?_)))) (by first | trivial | (refine ⟨?_, ?_⟩ <;> repeat (first | assumption | refine fs_up hL rfl ?_ | refine fs_up hLJ rfl ?_)) | (repeat (first | assumption | refine fs_up hL rfl ?_ | refine fs_up hLJ rfl ?_)))) (fun t1 ht1 => ?_)
  exact (q_MD_look_52 (L := L) (LJ := LJ) (I0 := I0) (J0 := J0) (sub_t (by decide) hL) (sub_t (by decide) hLJ) (by repeat (first | assumption | refine fs_up hL rfl ?_ | refine fs_up hLJ rfl ?_)))
abbrev L_MD_fail : List (Nat × Option Nat) := [(177, some 5), (177, some 6)]
abbrev K_MD_fail : List (Nat × Option Nat) := []
theorem q_MD_fail {L LJ : List (Nat × Option Nat)} {I0 : MI} {J0 : MJ} {I : MI} {v1 : Int32} {v2 : Int32} (hL : subL L_MD_fail L = true) (hLJ : subL K_MD_fail LJ = true) (hI : fsL L I I0) : pc (F_MD_fail I v1 v2) (fun r : MI => fsL L r I0) := by
  unfold F_MD_fail
  refine pc_if ?_ ?_
  · refine pc_s ?_
    first | trivial | (refine ⟨?_, ?_⟩ <;> repeat (first | assumption | refine fs_up hL rfl ?_ | refine fs_up hLJ rfl ?_)) | (repeat (first | assumption | refine fs_up hL rfl ?_ | refine fs_up hLJ rfl ?_))
  · refine pc_s ?_
    first | trivial | (refine ⟨?_, ?_⟩ <;> repeat (first | assumption | refine fs_up hL rfl ?_ | refine fs_up hLJ rfl ?_)) | (repeat (first | assumption | refine fs_up hL rfl ?_ | refine fs_up hLJ rfl ?_))
abbrev L_MD_isHere_76 : List (Nat × Option Nat) := []
abbrev K_MD_isHere_76 : List (Nat × Option Nat) := []
theorem q_MD_isHere_76 {L LJ : List (Nat × Option Nat)} {I0 : MI} {J0 : MJ} {w : Nat} {lw : Nat} {I : MI} {v3 : Int32} (hL : subL L_MD_isHere_76 L = true) (hLJ : subL K_MD_isHere_76 LJ = true) (hI : fsL L I I0) : pc (F_MD_isHere_76 w lw I v3) (Sum.elim (fun _ : Int32 => True) (Sum.elim (fun _ : Unit => True) (fun r : Int32 × MI => fsL L r.2 I0))) := by
  unfold F_MD_isHere_76
  refine pc_if ?_ ?_
  · refine pc_s ?_
    first | trivial | (refine ⟨?_, ?_⟩ <;> repeat (first | assumption | refine fs_up hL rfl ?_ | refine fs_up hLJ rfl ?_)) | (repeat (first | assumption | refine fs_up hL rfl ?_ | refine fs_up hLJ rfl ?_))
  · refine pc_gd ?_
    refine pc_gd ?_
    refine pc_if ?_ ?_
    · refine pc_s ?_
      first | trivial | (refine ⟨?_, ?_⟩ <;> repeat (first | assumption | refine fs_up hL rfl ?_ | refine fs_up hLJ rfl ?_)) | (repeat (first | assumption | refine fs_up hL rfl ?_ | refine fs_up hLJ rfl ?_))
    · refine pc_s ?_
      first | trivial | (refine ⟨?_, ?_⟩ <;> repeat (first | assumption | refine fs_up hL rfl ?_ | refine fs_up hLJ rfl ?_)) | (repeat (first | assumption | refine fs_up hL rfl ?_ | refine fs_up hLJ rfl ?_))
abbrev L_MD_isHere_61 : List (Nat × Option Nat) := []
abbrev K_MD_isHere_61 : List (Nat × Option Nat) := []
theorem q_MD_isHere_61 {L LJ : List (Nat × Option Nat)} {I0 : MI} {J0 : MJ} {w : Nat} {lw : Nat} {I : MI} {v2 : Int32} (hL : subL L_MD_isHere_61 L = true) (hLJ : subL K_MD_isHere_61 LJ = true) (hI : fsL L I I0) : pc (F_MD_isHere_61 w lw I v2) (fun r : Int32 × MI => fsL L r.2 I0) := by
  unfold F_MD_isHere_61
  refine pc_if ?_ ?_
  · refine pc_b (pc_wl (fun _ : Int32 => True) (fun s hs => by exact (q_MD_isHere_76 (L := L) (LJ := LJ) (I0 := I0) (J0 := J0) (sub_t (by decide) hL) (sub_t (by decide) hLJ) (by repeat (first | assumption | refine fs_up hL rfl ?_ | refine fs_up hLJ rfl ?_)))) (by first | trivial | (refine ⟨?_, ?_⟩ <;> repeat (first | assumption | refine fs_up hL rfl ?_ | refine fs_up hLJ rfl ?_)) | (repeat (first | assumption | refine fs_up hL rfl ?_ | refine fs_up hLJ rfl ?_)))) (fun q hq => ?_)
    rcases q with t2 | q
    · skip
      have ht2 := hq
      refine pc_s ?_
      first | trivial | (refine ⟨?_, ?_⟩ <;> repeat (first | assumption | refine fs_up hL rfl ?_ | refine fs_up hLJ rfl ?_)) | (repeat (first | assumption | refine fs_up hL rfl ?_ | refine fs_up hLJ rfl ?_))
    · show pc (some q) _
      refine pc_s ?_
      first | exact hq | first | trivial | (refine ⟨?_, ?_⟩ <;> repeat (first | assumption | refine fs_up hL rfl ?_ | refine fs_up hLJ rfl ?_)) | (repeat (first | assumption | refine fs_up hL rfl ?_ | refine fs_up hLJ rfl ?_))
  · refine pc_s ?_
    first | trivial | (refine ⟨?_, ?_⟩ <;> repeat (first | assumption | refine fs_up hL rfl ?_ | refine fs_up hLJ rfl ?_)) | (repeat (first | assumption | refine fs_up hL rfl ?_ | refine fs_up hLJ rfl ?_))
abbrev L_MD_isHere : List (Nat × Option Nat) := [(177, some 2)]
abbrev K_MD_isHere : List (Nat × Option Nat) := []
theorem q_MD_isHere {L LJ : List (Nat × Option Nat)} {I0 : MI} {J0 : MJ} {w : Nat} {lw : Nat} {I : MI} (hL : subL L_MD_isHere L = true) (hLJ : subL K_MD_isHere LJ = true) (hI : fsL L I I0) : pc (F_MD_isHere w lw I) (fun r : Int32 × MI => fsL L r.2 I0) := by
  unfold F_MD_isHere
  refine pc_if ?_ ?_
  · refine pc_b (q_MD_look (L := L) (LJ := LJ) (I0 := I0) (J0 := J0) (sub_t (by decide) hL) (sub_t (by decide) hLJ) (by repeat (first | assumption | refine fs_up hL rfl ?_ | refine fs_up hLJ rfl ?_))) (fun r2 hr2 => ?_)
    refine pc_b' (fun r3 => ?_)
    refine pc_if ?_ ?_
    · refine pc_s ?_
      first | trivial | (refine ⟨?_, ?_⟩ <;> repeat (first | assumption | refine fs_up hL rfl ?_ | refine fs_up hLJ rfl ?_)) | (repeat (first | assumption | refine fs_up hL rfl ?_ | refine fs_up hLJ rfl ?_))
    · refine pc_if ?_ ?_
      · refine pc_s ?_
        first | trivial | (refine ⟨?_, ?_⟩ <;> repeat (first | assumption | refine fs_up hL rfl ?_ | refine fs_up hLJ rfl ?_)) | (repeat (first | assumption | refine fs_up hL rfl ?_ | refine fs_up hLJ rfl ?_))
      · refine pc_b' (fun t6 => ?_)
        exact (q_MD_isHere_61 (L := L) (LJ := LJ) (I0 := I0) (J0 := J0) (sub_t (by decide) hL) (sub_t (by decide) hLJ) (by repeat (first | assumption | refine fs_up hL rfl ?_ | refine fs_up hLJ rfl ?_)))
  · refine pc_s ?_
    first | trivial | (refine ⟨?_, ?_⟩ <;> repeat (first | assumption | refine fs_up hL rfl ?_ | refine fs_up hLJ rfl ?_)) | (repeat (first | assumption | refine fs_up hL rfl ?_ | refine fs_up hLJ rfl ?_))
abbrev L_MD_takes : List (Nat × Option Nat) := [(177, some 2), (177, some 4)]
abbrev K_MD_takes : List (Nat × Option Nat) := []
theorem q_MD_takes {L LJ : List (Nat × Option Nat)} {I0 : MI} {J0 : MJ} {w : Nat} {lw : Nat} {I : MI} (hL : subL L_MD_takes L = true) (hLJ : subL K_MD_takes LJ = true) (hI : fsL L I I0) : pc (F_MD_takes w lw I) (fun r : Int32 × MI => fsL L r.2 I0) := by
  unfold F_MD_takes
  refine pc_b (q_MD_isHere (L := L) (LJ := LJ) (I0 := I0) (J0 := J0) (sub_t (by decide) hL) (sub_t (by decide) hLJ) (by repeat (first | assumption | refine fs_up hL rfl ?_ | refine fs_up hLJ rfl ?_))) (fun r1 hr1 => ?_)
  refine pc_if ?_ ?_
  · refine pc_s ?_
    first | trivial | (refine ⟨?_, ?_⟩ <;> repeat (first | assumption | refine fs_up hL rfl ?_ | refine fs_up hLJ rfl ?_)) | (repeat (first | assumption | refine fs_up hL rfl ?_ | refine fs_up hLJ rfl ?_))
  · refine pc_s ?_
    first | trivial | (refine ⟨?_, ?_⟩ <;> repeat (first | assumption | refine fs_up hL rfl ?_ | refine fs_up hLJ rfl ?_)) | (repeat (first | assumption | refine fs_up hL rfl ?_ | refine fs_up hLJ rfl ?_))
abbrev L_MD_asks : List (Nat × Option Nat) := [(177, some 2), (177, some 4), (177, some 5), (177, some 6)]
abbrev K_MD_asks : List (Nat × Option Nat) := []
theorem q_MD_asks {L LJ : List (Nat × Option Nat)} {I0 : MI} {J0 : MJ} {w : Nat} {lw : Nat} {I : MI} (hL : subL L_MD_asks L = true) (hLJ : subL K_MD_asks LJ = true) (hI : fsL L I I0) : pc (F_MD_asks w lw I) (fun r : MI => fsL L r I0) := by
  unfold F_MD_asks
  refine pc_if ?_ ?_
  · refine pc_b (q_MD_takes (L := L) (LJ := LJ) (I0 := I0) (J0 := J0) (sub_t (by decide) hL) (sub_t (by decide) hLJ) (by repeat (first | assumption | refine fs_up hL rfl ?_ | refine fs_up hLJ rfl ?_))) (fun r2 hr2 => ?_)
    refine pc_if ?_ ?_
    · refine pc_b (q_MD_fail (L := L) (LJ := LJ) (I0 := I0) (J0 := J0) (sub_t (by decide) hL) (sub_t (by decide) hLJ) (by repeat (first | assumption | refine fs_up hL rfl ?_ | refine fs_up hLJ rfl ?_))) (fun r4 hr4 => ?_)
      refine pc_s ?_
      first | trivial | (refine ⟨?_, ?_⟩ <;> repeat (first | assumption | refine fs_up hL rfl ?_ | refine fs_up hLJ rfl ?_)) | (repeat (first | assumption | refine fs_up hL rfl ?_ | refine fs_up hLJ rfl ?_))
    · refine pc_s ?_
      first | trivial | (refine ⟨?_, ?_⟩ <;> repeat (first | assumption | refine fs_up hL rfl ?_ | refine fs_up hLJ rfl ?_)) | (repeat (first | assumption | refine fs_up hL rfl ?_ | refine fs_up hLJ rfl ?_))
  · refine pc_s ?_
    first | trivial | (refine ⟨?_, ?_⟩ <;> repeat (first | assumption | refine fs_up hL rfl ?_ | refine fs_up hLJ rfl ?_)) | (repeat (first | assumption | refine fs_up hL rfl ?_ | refine fs_up hLJ rfl ?_))
abbrev L_MD_takesSign : List (Nat × Option Nat) := [(177, some 2)]
abbrev K_MD_takesSign : List (Nat × Option Nat) := []
theorem q_MD_takesSign {L LJ : List (Nat × Option Nat)} {I0 : MI} {J0 : MJ} {I : MI} {v1 : Int32} (hL : subL L_MD_takesSign L = true) (hLJ : subL K_MD_takesSign LJ = true) (hI : fsL L I I0) : pc (F_MD_takesSign I v1) (fun r : Int32 × MI => fsL L r.2 I0) := by
  unfold F_MD_takesSign
  refine pc_if ?_ ?_
  · refine pc_b (q_MD_look (L := L) (LJ := LJ) (I0 := I0) (J0 := J0) (sub_t (by decide) hL) (sub_t (by decide) hLJ) (by repeat (first | assumption | refine fs_up hL rfl ?_ | refine fs_up hLJ rfl ?_))) (fun r2 hr2 => ?_)
    refine pc_if ?_ ?_
    · refine pc_s ?_
      first | trivial | (refine ⟨?_, ?_⟩ <;> repeat (first | assumption | refine fs_up hL rfl ?_ | refine fs_up hLJ rfl ?_)) | (repeat (first | assumption | refine fs_up hL rfl ?_ | refine fs_up hLJ rfl ?_))
    · refine pc_s ?_
      first | trivial | (refine ⟨?_, ?_⟩ <;> repeat (first | assumption | refine fs_up hL rfl ?_ | refine fs_up hLJ rfl ?_)) | (repeat (first | assumption | refine fs_up hL rfl ?_ | refine fs_up hLJ rfl ?_))
  · refine pc_s ?_
    first | trivial | (refine ⟨?_, ?_⟩ <;> repeat (first | assumption | refine fs_up hL rfl ?_ | refine fs_up hLJ rfl ?_)) | (repeat (first | assumption | refine fs_up hL rfl ?_ | refine fs_up hLJ rfl ?_))
abbrev L_MD_asksSign : List (Nat × Option Nat) := [(177, some 2), (177, some 5), (177, some 6)]
abbrev K_MD_asksSign : List (Nat × Option Nat) := []
theorem q_MD_asksSign {L LJ : List (Nat × Option Nat)} {I0 : MI} {J0 : MJ} {I : MI} {v1 : Int32} (hL : subL L_MD_asksSign L = true) (hLJ : subL K_MD_asksSign LJ = true) (hI : fsL L I I0) : pc (F_MD_asksSign I v1) (fun r : MI => fsL L r I0) := by
  unfold F_MD_asksSign
  refine pc_if ?_ ?_
  · refine pc_b (q_MD_takesSign (L := L) (LJ := LJ) (I0 := I0) (J0 := J0) (sub_t (by decide) hL) (sub_t (by decide) hLJ) (by repeat (first | assumption | refine fs_up hL rfl ?_ | refine fs_up hLJ rfl ?_))) (fun r2 hr2 => ?_)
    refine pc_if ?_ ?_
    · refine pc_b (q_MD_fail (L := L) (LJ := LJ) (I0 := I0) (J0 := J0) (sub_t (by decide) hL) (sub_t (by decide) hLJ) (by repeat (first | assumption | refine fs_up hL rfl ?_ | refine fs_up hLJ rfl ?_))) (fun r4 hr4 => ?_)
      refine pc_s ?_
      first | trivial | (refine ⟨?_, ?_⟩ <;> repeat (first | assumption | refine fs_up hL rfl ?_ | refine fs_up hLJ rfl ?_)) | (repeat (first | assumption | refine fs_up hL rfl ?_ | refine fs_up hLJ rfl ?_))
    · refine pc_s ?_
      first | trivial | (refine ⟨?_, ?_⟩ <;> repeat (first | assumption | refine fs_up hL rfl ?_ | refine fs_up hLJ rfl ?_)) | (repeat (first | assumption | refine fs_up hL rfl ?_ | refine fs_up hLJ rfl ?_))
  · refine pc_s ?_
    first | trivial | (refine ⟨?_, ?_⟩ <;> repeat (first | assumption | refine fs_up hL rfl ?_ | refine fs_up hLJ rfl ?_)) | (repeat (first | assumption | refine fs_up hL rfl ?_ | refine fs_up hLJ rfl ?_))
abbrev L_MD_number_49 : List (Nat × Option Nat) := [(177, some 2), (177, some 5), (177, some 6)]
abbrev K_MD_number_49 : List (Nat × Option Nat) := []
theorem q_MD_number_49 {L LJ : List (Nat × Option Nat)} {I0 : MI} {J0 : MJ} {I : MI} {v1 : Int32} {v2 : Int32} {v3 : Int32} {v4 : Int32} (hL : subL L_MD_number_49 L = true) (hLJ : subL K_MD_number_49 LJ = true) (hI : fsL L I I0) : pc (F_MD_number_49 I v1 v2 v3 v4) (Sum.elim (fun r : Int32 × MI => fsL L r.2 I0) (Sum.elim (fun r : Int32 × MI => fsL L r.2 I0) (fun r : Int32 × MI => fsL L r.2 I0))) := by
  unfold F_MD_number_49
  refine pc_if ?_ ?_
  · refine pc_s ?_
    first | trivial | (refine ⟨?_, ?_⟩ <;> repeat (first | assumption | refine fs_up hL rfl ?_ | refine fs_up hLJ rfl ?_)) | (repeat (first | assumption | refine fs_up hL rfl ?_ | refine fs_up hLJ rfl ?_))
  · refine pc_gd ?_
    refine pc_b' (fun r3 => ?_)
    refine pc_if ?_ ?_
    · refine pc_s ?_
      first | trivial | (refine ⟨?_, ?_⟩ <;> repeat (first | assumption | refine fs_up hL rfl ?_ | refine fs_up hLJ rfl ?_)) | (repeat (first | assumption | refine fs_up hL rfl ?_ | refine fs_up hLJ rfl ?_))
    · refine pc_if ?_ ?_
      · refine pc_b (q_MD_fail (L := L) (LJ := LJ) (I0 := I0) (J0 := J0) (sub_t (by decide) hL) (sub_t (by decide) hLJ) (by repeat (first | assumption | refine fs_up hL rfl ?_ | refine fs_up hLJ rfl ?_))) (fun r7 hr7 => ?_)
        refine pc_s ?_
        first | trivial | (refine ⟨?_, ?_⟩ <;> repeat (first | assumption | refine fs_up hL rfl ?_ | refine fs_up hLJ rfl ?_)) | (repeat (first | assumption | refine fs_up hL rfl ?_ | refine fs_up hLJ rfl ?_))
      · refine pc_gd ?_
        refine pc_s ?_
        first | trivial | (refine ⟨?_, ?_⟩ <;> repeat (first | assumption | refine fs_up hL rfl ?_ | refine fs_up hLJ rfl ?_)) | (repeat (first | assumption | refine fs_up hL rfl ?_ | refine fs_up hLJ rfl ?_))
abbrev L_MD_number_129 : List (Nat × Option Nat) := [(177, some 4), (177, some 5), (177, some 6), (177, some 10)]
abbrev K_MD_number_129 : List (Nat × Option Nat) := []
theorem q_MD_number_129 {L LJ : List (Nat × Option Nat)} {I0 : MI} {J0 : MJ} {I : MI} {v1 : Int32} {v2 : Int32} {v3 : Int32} {v4 : Int32} (hL : subL L_MD_number_129 L = true) (hLJ : subL K_MD_number_129 LJ = true) (hI : fsL L I I0) : pc (F_MD_number_129 I v1 v2 v3 v4) (fun r : Int32 × MI => fsL L r.2 I0) := by
  unfold F_MD_number_129
  refine pc_b' (fun r1 => ?_)
  refine pc_if ?_ ?_
  · refine pc_b (q_MD_fail (L := L) (LJ := LJ) (I0 := I0) (J0 := J0) (sub_t (by decide) hL) (sub_t (by decide) hLJ) (by repeat (first | assumption | refine fs_up hL rfl ?_ | refine fs_up hLJ rfl ?_))) (fun r3 hr3 => ?_)
    refine pc_s ?_
    first | trivial | (refine ⟨?_, ?_⟩ <;> repeat (first | assumption | refine fs_up hL rfl ?_ | refine fs_up hLJ rfl ?_)) | (repeat (first | assumption | refine fs_up hL rfl ?_ | refine fs_up hLJ rfl ?_))
  · refine pc_s ?_
    first | trivial | (refine ⟨?_, ?_⟩ <;> repeat (first | assumption | refine fs_up hL rfl ?_ | refine fs_up hLJ rfl ?_)) | (repeat (first | assumption | refine fs_up hL rfl ?_ | refine fs_up hLJ rfl ?_))
abbrev L_MD_number : List (Nat × Option Nat) := [(177, some 2), (177, some 4), (177, some 5), (177, some 6), (177, some 10)]
abbrev K_MD_number : List (Nat × Option Nat) := []
theorem q_MD_number {L LJ : List (Nat × Option Nat)} {I0 : MI} {J0 : MJ} {I : MI} {v1 : Int32} {v2 : Int32} (hL : subL L_MD_number L = true) (hLJ : subL K_MD_number LJ = true) (hI : fsL L I I0) : pc (F_MD_number I v1 v2) (fun r : Int32 × MI => fsL L r.2 I0) := by
  unfold F_MD_number
  refine pc_if ?_ ?_
  · refine pc_b (q_MD_look (L := L) (LJ := LJ) (I0 := I0) (J0 := J0) (sub_t (by decide) hL) (sub_t (by decide) hLJ) (by repeat (first | assumption | refine fs_up hL rfl ?_ | refine fs_up hLJ rfl ?_))) (fun r2 hr2 => ?_)
    refine pc_b' (fun r3 => ?_)
    refine pc_if ?_ ?_
    · refine pc_b (q_MD_fail (L := L) (LJ := LJ) (I0 := I0) (J0 := J0) (sub_t (by decide) hL) (sub_t (by decide) hLJ) (by repeat (first | assumption | refine fs_up hL rfl ?_ | refine fs_up hLJ rfl ?_))) (fun r5 hr5 => ?_)
      refine pc_s ?_
      first | trivial | (refine ⟨?_, ?_⟩ <;> repeat (first | assumption | refine fs_up hL rfl ?_ | refine fs_up hLJ rfl ?_)) | (repeat (first | assumption | refine fs_up hL rfl ?_ | refine fs_up hLJ rfl ?_))
    · refine pc_if ?_ ?_
      · refine pc_b (q_MD_fail (L := L) (LJ := LJ) (I0 := I0) (J0 := J0) (sub_t (by decide) hL) (sub_t (by decide) hLJ) (by repeat (first | assumption | refine fs_up hL rfl ?_ | refine fs_up hLJ rfl ?_))) (fun r8 hr8 => ?_)
        refine pc_s ?_
        first | trivial | (refine ⟨?_, ?_⟩ <;> repeat (first | assumption | refine fs_up hL rfl ?_ | refine fs_up hLJ rfl ?_)) | (repeat (first | assumption | refine fs_up hL rfl ?_ | refine fs_up hLJ rfl ?_))
      · refine pc_b (pc_wl (fun s : Int32 × MI => fsL L s.2 I0) (fun s hs => by exact (q_MD_number_49 (L := L) (LJ := LJ) (I0 := I0) (J0 := J0) (sub_t (by decide) hL) (sub_t (by decide) hLJ) (by repeat (first | assumption | refine fs_up hL rfl ?_ | refine fs_up hLJ rfl ?_)))) (by first | trivial | (refine ⟨?_, ?_⟩ <;> repeat (first | assumption | refine fs_up hL rfl ?_ | refine fs_up hLJ rfl ?_)) | (repeat (first | assumption | refine fs_up hL rfl ?_ | refine fs_up hLJ rfl ?_)))) (fun q hq => ?_)
        rcases q with t7 | q
        · skip
          have ht7 := hq
          exact (q_MD_number_129 (L := L) (LJ := LJ) (I0 := I0) (J0 := J0) (sub_t (by decide) hL) (sub_t (by decide) hLJ) (by repeat (first | assumption | refine fs_up hL rfl ?_ | refine fs_up hLJ rfl ?_)))
        · show pc (some q) _
          refine pc_s ?_
          first | exact hq | first | trivial | (refine ⟨?_, ?_⟩ <;> repeat (first | assumption | refine fs_up hL rfl ?_ | refine fs_up hLJ rfl ?_)) | (repeat (first | assumption | refine fs_up hL rfl ?_ | refine fs_up hLJ rfl ?_))
  · refine pc_s ?_
    first | trivial | (refine ⟨?_, ?_⟩ <;> repeat (first | assumption | refine fs_up hL rfl ?_ | refine fs_up hLJ rfl ?_)) | (repeat (first | assumption | refine fs_up hL rfl ?_ | refine fs_up hLJ rfl ?_))
abbrev L_MD_slopeTold : List (Nat × Option Nat) := [(177, some 2), (177, some 4), (177, some 5), (177, some 6), (177, some 10), (204, none)]
abbrev K_MD_slopeTold : List (Nat × Option Nat) := []
theorem q_MD_slopeTold {L LJ : List (Nat × Option Nat)} {I0 : MI} {J0 : MJ} {I : MI} (hL : subL L_MD_slopeTold L = true) (hLJ : subL K_MD_slopeTold LJ = true) (hI : fsL L I I0) : pc (F_MD_slopeTold I) (fun r : MI => fsL L r I0) := by
  unfold F_MD_slopeTold
  refine pc_b (q_MD_asks (L := L) (LJ := LJ) (I0 := I0) (J0 := J0) (sub_t (by decide) hL) (sub_t (by decide) hLJ) (by repeat (first | assumption | refine fs_up hL rfl ?_ | refine fs_up hLJ rfl ?_))) (fun r1 hr1 => ?_)
  refine pc_b (q_MD_number (L := L) (LJ := LJ) (I0 := I0) (J0 := J0) (sub_t (by decide) hL) (sub_t (by decide) hLJ) (by repeat (first | assumption | refine fs_up hL rfl ?_ | refine fs_up hLJ rfl ?_))) (fun r2 hr2 => ?_)
  refine pc_b (q_MD_asks (L := L) (LJ := LJ) (I0 := I0) (J0 := J0) (sub_t (by decide) hL) (sub_t (by decide) hLJ) (by repeat (first | assumption | refine fs_up hL rfl ?_ | refine fs_up hLJ rfl ?_))) (fun r3 hr3 => ?_)
  refine pc_b (q_MD_number (L := L) (LJ := LJ) (I0 := I0) (J0 := J0) (sub_t (by decide) hL) (sub_t (by decide) hLJ) (by repeat (first | assumption | refine fs_up hL rfl ?_ | refine fs_up hLJ rfl ?_))) (fun r4 hr4 => ?_)
  refine pc_b (q_MD_asksSign (L := L) (LJ := LJ) (I0 := I0) (J0 := J0) (sub_t (by decide) hL) (sub_t (by decide) hLJ) (by repeat (first | assumption | refine fs_up hL rfl ?_ | refine fs_up hLJ rfl ?_))) (fun r5 hr5 => ?_)
  refine pc_s ?_
  first | trivial | (refine ⟨?_, ?_⟩ <;> repeat (first | assumption | refine fs_up hL rfl ?_ | refine fs_up hLJ rfl ?_)) | (repeat (first | assumption | refine fs_up hL rfl ?_ | refine fs_up hLJ rfl ?_))
abbrev L_MD_stands_7 : List (Nat × Option Nat) := [(204, none), (205, none), (210, none), (211, none)]
abbrev K_MD_stands_7 : List (Nat × Option Nat) := []
theorem q_MD_stands_7 {L LJ : List (Nat × Option Nat)} {I0 : MI} {J0 : MJ} {I : MI} {v1 : Int32} (hL : subL L_MD_stands_7 L = true) (hLJ : subL K_MD_stands_7 LJ = true) (hI : fsL L I I0) : pc (F_MD_stands_7 I v1) (Sum.elim (fun r : Int32 × MI => fsL L r.2 I0) (fun r : MI => fsL L r I0)) := by
  unfold F_MD_stands_7
  refine pc_if ?_ ?_
  · refine pc_s ?_
    first | trivial | (refine ⟨?_, ?_⟩ <;> repeat (first | assumption | refine fs_up hL rfl ?_ | refine fs_up hLJ rfl ?_)) | (repeat (first | assumption | refine fs_up hL rfl ?_ | refine fs_up hLJ rfl ?_))
  · refine pc_gd ?_
    refine pc_gd ?_
    refine pc_gd ?_
    refine pc_gd ?_
    refine pc_bnd ?_
    refine pc_gd ?_
    refine pc_gd ?_
    refine pc_gd ?_
    refine pc_gd ?_
    refine pc_bnd ?_
    refine pc_s ?_
    first | trivial | (refine ⟨?_, ?_⟩ <;> repeat (first | assumption | refine fs_up hL rfl ?_ | refine fs_up hLJ rfl ?_)) | (repeat (first | assumption | refine fs_up hL rfl ?_ | refine fs_up hLJ rfl ?_))
abbrev L_MD_stands_76 : List (Nat × Option Nat) := [(207, none)]
abbrev K_MD_stands_76 : List (Nat × Option Nat) := [(206, none)]
theorem q_MD_stands_76 {L LJ : List (Nat × Option Nat)} {I0 : MI} {J0 : MJ} {I : MI} {J : MJ} {v1 : Int32} (hL : subL L_MD_stands_76 L = true) (hLJ : subL K_MD_stands_76 LJ = true) (hI : fsL L I I0) (hJ : fsL LJ J J0) : pc (F_MD_stands_76 I J v1) (Sum.elim (fun r : Int32 × MI × MJ => fsL L r.2.1 I0 ∧ fsL LJ r.2.2 J0) (fun r : MI × MJ => fsL L r.1 I0 ∧ fsL LJ r.2 J0)) := by
  unfold F_MD_stands_76
  refine pc_if ?_ ?_
  · refine pc_s ?_
    first | trivial | (refine ⟨?_, ?_⟩ <;> repeat (first | assumption | refine fs_up hL rfl ?_ | refine fs_up hLJ rfl ?_)) | (repeat (first | assumption | refine fs_up hL rfl ?_ | refine fs_up hLJ rfl ?_))
  · refine pc_gd ?_
    refine pc_gd ?_
    refine pc_gd ?_
    refine pc_gd ?_
    refine pc_s ?_
    first | trivial | (refine ⟨?_, ?_⟩ <;> repeat (first | assumption | refine fs_up hL rfl ?_ | refine fs_up hLJ rfl ?_)) | (repeat (first | assumption | refine fs_up hL rfl ?_ | refine fs_up hLJ rfl ?_))
abbrev L_MD_stands_128 : List (Nat × Option Nat) := [(212, none)]
abbrev K_MD_stands_128 : List (Nat × Option Nat) := []
theorem q_MD_stands_128 {L LJ : List (Nat × Option Nat)} {I0 : MI} {J0 : MJ} {I : MI} {v1 : Int32} (hL : subL L_MD_stands_128 L = true) (hLJ : subL K_MD_stands_128 LJ = true) (hI : fsL L I I0) : pc (F_MD_stands_128 I v1) (Sum.elim (fun r : Int32 × MI => fsL L r.2 I0) (fun r : MI => fsL L r I0)) := by
  unfold F_MD_stands_128
  refine pc_if ?_ ?_
  · refine pc_s ?_
    first | trivial | (refine ⟨?_, ?_⟩ <;> repeat (first | assumption | refine fs_up hL rfl ?_ | refine fs_up hLJ rfl ?_)) | (repeat (first | assumption | refine fs_up hL rfl ?_ | refine fs_up hLJ rfl ?_))
  · refine pc_gd ?_
    refine pc_gd ?_
    refine pc_s ?_
    first | trivial | (refine ⟨?_, ?_⟩ <;> repeat (first | assumption | refine fs_up hL rfl ?_ | refine fs_up hLJ rfl ?_)) | (repeat (first | assumption | refine fs_up hL rfl ?_ | refine fs_up hLJ rfl ?_))
abbrev L_MD_stands_160 : List (Nat × Option Nat) := [(213, none)]
abbrev K_MD_stands_160 : List (Nat × Option Nat) := []
theorem q_MD_stands_160 {L LJ : List (Nat × Option Nat)} {I0 : MI} {J0 : MJ} {I : MI} {v1 : Int32} (hL : subL L_MD_stands_160 L = true) (hLJ : subL K_MD_stands_160 LJ = true) (hI : fsL L I I0) : pc (F_MD_stands_160 I v1) (Sum.elim (fun r : Int32 × MI => fsL L r.2 I0) (fun r : MI => fsL L r I0)) := by
  unfold F_MD_stands_160
  refine pc_if ?_ ?_
  · refine pc_s ?_
    first | trivial | (refine ⟨?_, ?_⟩ <;> repeat (first | assumption | refine fs_up hL rfl ?_ | refine fs_up hLJ rfl ?_)) | (repeat (first | assumption | refine fs_up hL rfl ?_ | refine fs_up hLJ rfl ?_))
  · refine pc_gd ?_
    refine pc_s ?_
    first | trivial | (refine ⟨?_, ?_⟩ <;> repeat (first | assumption | refine fs_up hL rfl ?_ | refine fs_up hLJ rfl ?_)) | (repeat (first | assumption | refine fs_up hL rfl ?_ | refine fs_up hLJ rfl ?_))
abbrev L_MD_stands_182 : List (Nat × Option Nat) := [(213, none)]
abbrev K_MD_stands_182 : List (Nat × Option Nat) := []
theorem q_MD_stands_182 {L LJ : List (Nat × Option Nat)} {I0 : MI} {J0 : MJ} {I : MI} {v1 : Int32} (hL : subL L_MD_stands_182 L = true) (hLJ : subL K_MD_stands_182 LJ = true) (hI : fsL L I I0) : pc (F_MD_stands_182 I v1) (Sum.elim (fun r : Int32 × MI => fsL L r.2 I0) (fun r : MI => fsL L r I0)) := by
  unfold F_MD_stands_182
  refine pc_if ?_ ?_
  · refine pc_s ?_
    first | trivial | (refine ⟨?_, ?_⟩ <;> repeat (first | assumption | refine fs_up hL rfl ?_ | refine fs_up hLJ rfl ?_)) | (repeat (first | assumption | refine fs_up hL rfl ?_ | refine fs_up hLJ rfl ?_))
  · refine pc_gd ?_
    refine pc_gd ?_
    refine pc_s ?_
    first | trivial | (refine ⟨?_, ?_⟩ <;> repeat (first | assumption | refine fs_up hL rfl ?_ | refine fs_up hLJ rfl ?_)) | (repeat (first | assumption | refine fs_up hL rfl ?_ | refine fs_up hLJ rfl ?_))
abbrev L_MD_stands_243 : List (Nat × Option Nat) := [(213, none)]
abbrev K_MD_stands_243 : List (Nat × Option Nat) := []
theorem q_MD_stands_243 {L LJ : List (Nat × Option Nat)} {I0 : MI} {J0 : MJ} {I : MI} {v1 : Int32} {v2 : Int32} (hL : subL L_MD_stands_243 L = true) (hLJ : subL K_MD_stands_243 LJ = true) (hI : fsL L I I0) : pc (F_MD_stands_243 I v1 v2) (Sum.elim (fun r : Int32 × MI => fsL L r.2 I0) (fun r : MI => fsL L r I0)) := by
  unfold F_MD_stands_243
  refine pc_if ?_ ?_
  · refine pc_s ?_
    first | trivial | (refine ⟨?_, ?_⟩ <;> repeat (first | assumption | refine fs_up hL rfl ?_ | refine fs_up hLJ rfl ?_)) | (repeat (first | assumption | refine fs_up hL rfl ?_ | refine fs_up hLJ rfl ?_))
  · refine pc_gd ?_
    refine pc_gd ?_
    refine pc_bnd ?_
    refine pc_s ?_
    first | trivial | (refine ⟨?_, ?_⟩ <;> repeat (first | assumption | refine fs_up hL rfl ?_ | refine fs_up hLJ rfl ?_)) | (repeat (first | assumption | refine fs_up hL rfl ?_ | refine fs_up hLJ rfl ?_))
abbrev L_MD_stands_210 : List (Nat × Option Nat) := [(213, none)]
abbrev K_MD_stands_210 : List (Nat × Option Nat) := []
theorem q_MD_stands_210 {L LJ : List (Nat × Option Nat)} {I0 : MI} {J0 : MJ} {I : MI} {v1 : Int32} (hL : subL L_MD_stands_210 L = true) (hLJ : subL K_MD_stands_210 LJ = true) (hI : fsL L I I0) : pc (F_MD_stands_210 I v1) (Sum.elim (fun r : Int32 × MI => fsL L r.2 I0) (fun r : MI => fsL L r I0)) := by
  unfold F_MD_stands_210
  refine pc_if ?_ ?_
  · refine pc_s ?_
    first | trivial | (refine ⟨?_, ?_⟩ <;> repeat (first | assumption | refine fs_up hL rfl ?_ | refine fs_up hLJ rfl ?_)) | (repeat (first | assumption | refine fs_up hL rfl ?_ | refine fs_up hLJ rfl ?_))
  · refine pc_gd ?_
    refine pc_gd ?_
    refine pc_b (pc_wl (fun s : Int32 × MI => fsL L s.2 I0) (fun s hs => by exact (q_MD_stands_243 (L := L) (LJ := LJ) (I0 := I0) (J0 := J0) (sub_t (by decide) hL) (sub_t (by decide) hLJ) (by repeat (first | assumption | refine fs_up hL rfl ?_ | refine fs_up hLJ rfl ?_)))) (by first | trivial | (refine ⟨?_, ?_⟩ <;> repeat (first | assumption | refine fs_up hL rfl ?_ | refine fs_up hLJ rfl ?_)) | (repeat (first | assumption | refine fs_up hL rfl ?_ | refine fs_up hLJ rfl ?_)))) (fun t4 ht4 => ?_)
    refine pc_s ?_
    first | trivial | (refine ⟨?_, ?_⟩ <;> repeat (first | assumption | refine fs_up hL rfl ?_ | refine fs_up hLJ rfl ?_)) | (repeat (first | assumption | refine fs_up hL rfl ?_ | refine fs_up hLJ rfl ?_))
abbrev L_MD_stands : List (Nat × Option Nat) := [(177, some 43), (177, some 49), (177, some 59), (177, some 66), (204, none), (205, none), (207, none), (210, none), (211, none), (212, none), (213, none)]
abbrev K_MD_stands : List (Nat × Option Nat) := [(206, none)]
theorem q_MD_stands {L LJ : List (Nat × Option Nat)} {I0 : MI} {J0 : MJ} {I : MI} {J : MJ} (hL : subL L_MD_stands L = true) (hLJ : subL K_MD_stands LJ = true) (hI : fsL L I I0) (hJ : fsL LJ J J0) : pc (F_MD_stands I J) (fun r : MI × MJ => fsL L r.1 I0 ∧ fsL LJ r.2 J0) := by
  unfold F_MD_stands
  refine pc_b (pc_wl (fun s : Int32 × MI => fsL L s.2 I0) (fun s hs => by exact (q_MD_stands_7 (L := L) (LJ := LJ) (I0 := I0) (J0 := J0) (sub_t (by decide) hL) (sub_t (by decide) hLJ) (by repeat (first | assumption | refine fs_up hL rfl ?_ | refine fs_up hLJ rfl ?_)))) (by first | trivial | (refine ⟨?_, ?_⟩ <;> repeat (first | assumption | refine fs_up hL rfl ?_ | refine fs_up hLJ rfl ?_)) | (repeat (first | assumption | refine fs_up hL rfl ?_ | refine fs_up hLJ rfl ?_)))) (fun t1 ht1 => ?_)
  refine pc_b (pc_wl (fun s : Int32 × MI × MJ => fsL L s.2.1 I0 ∧ fsL LJ s.2.2 J0) (fun s hs => by obtain ⟨hsI, hsJ⟩ := hs; exact (q_MD_stands_76 (L := L) (LJ := LJ) (I0 := I0) (J0 := J0) (sub_t (by decide) hL) (sub_t (by decide) hLJ) (by repeat (first | assumption | refine fs_up hL rfl ?_ | refine fs_up hLJ rfl ?_)) (by repeat (first | assumption | refine fs_up hL rfl ?_ | refine fs_up hLJ rfl ?_)))) (by first | trivial | (refine ⟨?_, ?_⟩ <;> repeat (first | assumption | refine fs_up hL rfl ?_ | refine fs_up hLJ rfl ?_)) | (repeat (first | assumption | refine fs_up hL rfl ?_ | refine fs_up hLJ rfl ?_)))) (fun t2 ht2 => ?_)
  obtain ⟨ht2I, ht2J⟩ := ht2
  refine pc_b (pc_wl (fun s : Int32 × MI => fsL L s.2 I0) (fun s hs => by exact (q_MD_stands_128 (L := L) (LJ := LJ) (I0 := I0) (J0 := J0) (sub_t (by decide) hL) (sub_t (by decide) hLJ) (by repeat (first | assumption | refine fs_up hL rfl ?_ | refine fs_up hLJ rfl ?_)))) (by first | trivial | (refine ⟨?_, ?_⟩ <;> repeat (first | assumption | refine fs_up hL rfl ?_ | refine fs_up hLJ rfl ?_)) | (repeat (first | assumption | refine fs_up hL rfl ?_ | refine fs_up hLJ rfl ?_)))) (fun t3 ht3 => ?_)
  refine pc_b (pc_wl (fun s : Int32 × MI => fsL L s.2 I0) (fun s hs => by exact (q_MD_stands_160 (L := L) (LJ := LJ) (I0 := I0) (J0 := J0) (sub_t (by decide) hL) (sub_t (by decide) hLJ) (by repeat (first | assumption | refine fs_up hL rfl ?_ | refine fs_up hLJ rfl ?_)))) (by first | trivial | (refine ⟨?_, ?_⟩ <;> repeat (first | assumption | refine fs_up hL rfl ?_ | refine fs_up hLJ rfl ?_)) | (repeat (first | assumption | refine fs_up hL rfl ?_ | refine fs_up hLJ rfl ?_)))) (fun t4 ht4 => ?_)
  refine pc_b (pc_wl (fun s : Int32 × MI => fsL L s.2 I0) (fun s hs => by exact (q_MD_stands_182 (L := L) (LJ := LJ) (I0 := I0) (J0 := J0) (sub_t (by decide) hL) (sub_t (by decide) hLJ) (by repeat (first | assumption | refine fs_up hL rfl ?_ | refine fs_up hLJ rfl ?_)))) (by first | trivial | (refine ⟨?_, ?_⟩ <;> repeat (first | assumption | refine fs_up hL rfl ?_ | refine fs_up hLJ rfl ?_)) | (repeat (first | assumption | refine fs_up hL rfl ?_ | refine fs_up hLJ rfl ?_)))) (fun t5 ht5 => ?_)
  refine pc_b (pc_wl (fun s : Int32 × MI => fsL L s.2 I0) (fun s hs => by exact (q_MD_stands_210 (L := L) (LJ := LJ) (I0 := I0) (J0 := J0) (sub_t (by decide) hL) (sub_t (by decide) hLJ) (by repeat (first | assumption | refine fs_up hL rfl ?_ | refine fs_up hLJ rfl ?_)))) (by first | trivial | (refine ⟨?_, ?_⟩ <;> repeat (first | assumption | refine fs_up hL rfl ?_ | refine fs_up hLJ rfl ?_)) | (repeat (first | assumption | refine fs_up hL rfl ?_ | refine fs_up hLJ rfl ?_)))) (fun t6 ht6 => ?_)
  refine pc_s ?_
  first | trivial | (refine ⟨?_, ?_⟩ <;> repeat (first | assumption | refine fs_up hL rfl ?_ | refine fs_up hLJ rfl ?_)) | (repeat (first | assumption | refine fs_up hL rfl ?_ | refine fs_up hLJ rfl ?_))
abbrev L_MD_qCode : List (Nat × Option Nat) := [(177, some 92), (244, none)]
abbrev K_MD_qCode : List (Nat × Option Nat) := []
theorem q_MD_qCode {L LJ : List (Nat × Option Nat)} {I0 : MI} {J0 : MJ} {I : MI} {v1 : Int32} (hL : subL L_MD_qCode L = true) (hLJ : subL K_MD_qCode LJ = true) (hI : fsL L I I0) : pc (F_MD_qCode I v1) (fun r : MI => fsL L r I0) := by
  unfold F_MD_qCode
  refine pc_gd ?_
  refine pc_s ?_
  first | trivial | (refine ⟨?_, ?_⟩ <;> repeat (first | assumption | refine fs_up hL rfl ?_ | refine fs_up hLJ rfl ?_)) | (repeat (first | assumption | refine fs_up hL rfl ?_ | refine fs_up hLJ rfl ?_))
abbrev L_MD_qDrops : List (Nat × Option Nat) := [(177, some 92), (177, some 94), (244, none)]
abbrev K_MD_qDrops : List (Nat × Option Nat) := []
theorem q_MD_qDrops {L LJ : List (Nat × Option Nat)} {I0 : MI} {J0 : MJ} {I : MI} (hL : subL L_MD_qDrops L = true) (hLJ : subL K_MD_qDrops LJ = true) (hI : fsL L I I0) : pc (F_MD_qDrops I) (fun r : MI => fsL L r I0) := by
  unfold F_MD_qDrops
  refine pc_gd ?_
  refine pc_b (q_MD_qCode (L := L) (LJ := LJ) (I0 := I0) (J0 := J0) (sub_t (by decide) hL) (sub_t (by decide) hLJ) (by repeat (first | assumption | refine fs_up hL rfl ?_ | refine fs_up hLJ rfl ?_))) (fun r2 hr2 => ?_)
  refine pc_s ?_
  first | trivial | (refine ⟨?_, ?_⟩ <;> repeat (first | assumption | refine fs_up hL rfl ?_ | refine fs_up hLJ rfl ?_)) | (repeat (first | assumption | refine fs_up hL rfl ?_ | refine fs_up hLJ rfl ?_))
abbrev L_MD_qDropsToBracket_0 : List (Nat × Option Nat) := [(177, some 92), (177, some 94), (244, none)]
abbrev K_MD_qDropsToBracket_0 : List (Nat × Option Nat) := []
theorem q_MD_qDropsToBracket_0 {L LJ : List (Nat × Option Nat)} {I0 : MI} {J0 : MJ} {I : MI} (hL : subL L_MD_qDropsToBracket_0 L = true) (hLJ : subL K_MD_qDropsToBracket_0 LJ = true) (hI : fsL L I I0) : pc (F_MD_qDropsToBracket_0 I) (Sum.elim (fun r : MI => fsL L r I0) (fun r : MI => fsL L r I0)) := by
  unfold F_MD_qDropsToBracket_0
  refine pc_if ?_ ?_
  · refine pc_s ?_
    first | trivial | (refine ⟨?_, ?_⟩ <;> repeat (first | assumption | refine fs_up hL rfl ?_ | refine fs_up hLJ rfl ?_)) | (repeat (first | assumption | refine fs_up hL rfl ?_ | refine fs_up hLJ rfl ?_))
  · refine pc_gd ?_
    refine pc_b' (fun r3 => ?_)
    refine pc_if ?_ ?_
    · refine pc_b (q_MD_qDrops (L := L) (LJ := LJ) (I0 := I0) (J0 := J0) (sub_t (by decide) hL) (sub_t (by decide) hLJ) (by repeat (first | assumption | refine fs_up hL rfl ?_ | refine fs_up hLJ rfl ?_))) (fun r5 hr5 => ?_)
      refine pc_s ?_
      first | trivial | (refine ⟨?_, ?_⟩ <;> repeat (first | assumption | refine fs_up hL rfl ?_ | refine fs_up hLJ rfl ?_)) | (repeat (first | assumption | refine fs_up hL rfl ?_ | refine fs_up hLJ rfl ?_))
    · refine pc_s ?_
      first | trivial | (refine ⟨?_, ?_⟩ <;> repeat (first | assumption | refine fs_up hL rfl ?_ | refine fs_up hLJ rfl ?_)) | (repeat (first | assumption | refine fs_up hL rfl ?_ | refine fs_up hLJ rfl ?_))
abbrev L_MD_qDropsToBracket : List (Nat × Option Nat) := [(177, some 92), (177, some 94), (244, none)]
abbrev K_MD_qDropsToBracket : List (Nat × Option Nat) := []
theorem q_MD_qDropsToBracket {L LJ : List (Nat × Option Nat)} {I0 : MI} {J0 : MJ} {I : MI} (hL : subL L_MD_qDropsToBracket L = true) (hLJ : subL K_MD_qDropsToBracket LJ = true) (hI : fsL L I I0) : pc (F_MD_qDropsToBracket I) (fun r : MI => fsL L r I0) := by
  unfold F_MD_qDropsToBracket
  refine pc_b (pc_wl (fun s : MI => fsL L s I0) (fun s hs => by exact (q_MD_qDropsToBracket_0 (L := L) (LJ := LJ) (I0 := I0) (J0 := J0) (sub_t (by decide) hL) (sub_t (by decide) hLJ) (by repeat (first | assumption | refine fs_up hL rfl ?_ | refine fs_up hLJ rfl ?_)))) (by first | trivial | (refine ⟨?_, ?_⟩ <;> repeat (first | assumption | refine fs_up hL rfl ?_ | refine fs_up hLJ rfl ?_)) | (repeat (first | assumption | refine fs_up hL rfl ?_ | refine fs_up hLJ rfl ?_)))) (fun t1 ht1 => ?_)
  refine pc_s ?_
  first | trivial | (refine ⟨?_, ?_⟩ <;> repeat (first | assumption | refine fs_up hL rfl ?_ | refine fs_up hLJ rfl ?_)) | (repeat (first | assumption | refine fs_up hL rfl ?_ | refine fs_up hLJ rfl ?_))
abbrev L_MD_qEndsPart_0 : List (Nat × Option Nat) := [(177, some 92), (177, some 94), (177, some 95), (244, none)]
abbrev K_MD_qEndsPart_0 : List (Nat × Option Nat) := []
theorem q_MD_qEndsPart_0 {L LJ : List (Nat × Option Nat)} {I0 : MI} {J0 : MJ} {I : MI} (hL : subL L_MD_qEndsPart_0 L = true) (hLJ : subL K_MD_qEndsPart_0 LJ = true) (hI : fsL L I I0) : pc (F_MD_qEndsPart_0 I) (Sum.elim (fun r : MI => fsL L r I0) (fun r : MI => fsL L r I0)) := by
  unfold F_MD_qEndsPart_0
  refine pc_if ?_ ?_
  · refine pc_if ?_ ?_
    · refine pc_s ?_
      first | trivial | (refine ⟨?_, ?_⟩ <;> repeat (first | assumption | refine fs_up hL rfl ?_ | refine fs_up hLJ rfl ?_)) | (repeat (first | assumption | refine fs_up hL rfl ?_ | refine fs_up hLJ rfl ?_))
    · refine pc_gd ?_
      refine pc_if ?_ ?_
      · refine pc_s ?_
        first | trivial | (refine ⟨?_, ?_⟩ <;> repeat (first | assumption | refine fs_up hL rfl ?_ | refine fs_up hLJ rfl ?_)) | (repeat (first | assumption | refine fs_up hL rfl ?_ | refine fs_up hLJ rfl ?_))
      · refine pc_b (q_MD_qDrops (L := L) (LJ := LJ) (I0 := I0) (J0 := J0) (sub_t (by decide) hL) (sub_t (by decide) hLJ) (by repeat (first | assumption | refine fs_up hL rfl ?_ | refine fs_up hLJ rfl ?_))) (fun r5 hr5 => ?_)
        refine pc_s ?_
        first | trivial | (refine ⟨?_, ?_⟩ <;> repeat (first | assumption | refine fs_up hL rfl ?_ | refine fs_up hLJ rfl ?_)) | (repeat (first | assumption | refine fs_up hL rfl ?_ | refine fs_up hLJ rfl ?_))
  · refine pc_s ?_
    first | trivial | (refine ⟨?_, ?_⟩ <;> repeat (first | assumption | refine fs_up hL rfl ?_ | refine fs_up hLJ rfl ?_)) | (repeat (first | assumption | refine fs_up hL rfl ?_ | refine fs_up hLJ rfl ?_))
abbrev L_MD_qEndsPart : List (Nat × Option Nat) := [(177, some 92), (177, some 94), (177, some 95), (244, none)]
abbrev K_MD_qEndsPart : List (Nat × Option Nat) := []
theorem q_MD_qEndsPart {L LJ : List (Nat × Option Nat)} {I0 : MI} {J0 : MJ} {I : MI} (hL : subL L_MD_qEndsPart L = true) (hLJ : subL K_MD_qEndsPart LJ = true) (hI : fsL L I I0) : pc (F_MD_qEndsPart I) (fun r : MI => fsL L r I0) := by
  unfold F_MD_qEndsPart
  refine pc_b (pc_wl (fun s : MI => fsL L s I0) (fun s hs => by exact (q_MD_qEndsPart_0 (L := L) (LJ := LJ) (I0 := I0) (J0 := J0) (sub_t (by decide) hL) (sub_t (by decide) hLJ) (by repeat (first | assumption | refine fs_up hL rfl ?_ | refine fs_up hLJ rfl ?_)))) (by first | trivial | (refine ⟨?_, ?_⟩ <;> repeat (first | assumption | refine fs_up hL rfl ?_ | refine fs_up hLJ rfl ?_)) | (repeat (first | assumption | refine fs_up hL rfl ?_ | refine fs_up hLJ rfl ?_)))) (fun t1 ht1 => ?_)
  refine pc_s ?_
  first | trivial | (refine ⟨?_, ?_⟩ <;> repeat (first | assumption | refine fs_up hL rfl ?_ | refine fs_up hLJ rfl ?_)) | (repeat (first | assumption | refine fs_up hL rfl ?_ | refine fs_up hLJ rfl ?_))
abbrev L_MD_qGoesOn_43 : List (Nat × Option Nat) := [(177, some 2), (177, some 92), (177, some 94), (177, some 95), (244, none)]
abbrev K_MD_qGoesOn_43 : List (Nat × Option Nat) := []
theorem q_MD_qGoesOn_43 {L LJ : List (Nat × Option Nat)} {I0 : MI} {J0 : MJ} {I : MI} (hL : subL L_MD_qGoesOn_43 L = true) (hLJ : subL K_MD_qGoesOn_43 LJ = true) (hI : fsL L I I0) : pc (F_MD_qGoesOn_43 I) (Sum.elim (fun r : MI => fsL L r I0) (fun r : MI => fsL L r I0)) := by
  unfold F_MD_qGoesOn_43
  refine pc_b (q_MD_qDropsToBracket (L := L) (LJ := LJ) (I0 := I0) (J0 := J0) (sub_t (by decide) hL) (sub_t (by decide) hLJ) (by repeat (first | assumption | refine fs_up hL rfl ?_ | refine fs_up hLJ rfl ?_))) (fun r1 hr1 => ?_)
  refine pc_gd ?_
  refine pc_if ?_ ?_
  · refine pc_b (q_MD_qEndsPart (L := L) (LJ := LJ) (I0 := I0) (J0 := J0) (sub_t (by decide) hL) (sub_t (by decide) hLJ) (by repeat (first | assumption | refine fs_up hL rfl ?_ | refine fs_up hLJ rfl ?_))) (fun r4 hr4 => ?_)
    refine pc_s ?_
    first | trivial | (refine ⟨?_, ?_⟩ <;> repeat (first | assumption | refine fs_up hL rfl ?_ | refine fs_up hLJ rfl ?_)) | (repeat (first | assumption | refine fs_up hL rfl ?_ | refine fs_up hLJ rfl ?_))
  · refine pc_gd ?_
    refine pc_if ?_ ?_
    · refine pc_b (q_MD_qCode (L := L) (LJ := LJ) (I0 := I0) (J0 := J0) (sub_t (by decide) hL) (sub_t (by decide) hLJ) (by repeat (first | assumption | refine fs_up hL rfl ?_ | refine fs_up hLJ rfl ?_))) (fun r9 hr9 => ?_)
      refine pc_b (q_MD_qEndsPart (L := L) (LJ := LJ) (I0 := I0) (J0 := J0) (sub_t (by decide) hL) (sub_t (by decide) hLJ) (by repeat (first | assumption | refine fs_up hL rfl ?_ | refine fs_up hLJ rfl ?_))) (fun r10 hr10 => ?_)
      refine pc_s ?_
      first | trivial | (refine ⟨?_, ?_⟩ <;> repeat (first | assumption | refine fs_up hL rfl ?_ | refine fs_up hLJ rfl ?_)) | (repeat (first | assumption | refine fs_up hL rfl ?_ | refine fs_up hLJ rfl ?_))
    · refine pc_b (q_MD_qCode (L := L) (LJ := LJ) (I0 := I0) (J0 := J0) (sub_t (by decide) hL) (sub_t (by decide) hLJ) (by repeat (first | assumption | refine fs_up hL rfl ?_ | refine fs_up hLJ rfl ?_))) (fun r7 hr7 => ?_)
      refine pc_b (q_MD_qEndsPart (L := L) (LJ := LJ) (I0 := I0) (J0 := J0) (sub_t (by decide) hL) (sub_t (by decide) hLJ) (by repeat (first | assumption | refine fs_up hL rfl ?_ | refine fs_up hLJ rfl ?_))) (fun r8 hr8 => ?_)
      refine pc_s ?_
      first | trivial | (refine ⟨?_, ?_⟩ <;> repeat (first | assumption | refine fs_up hL rfl ?_ | refine fs_up hLJ rfl ?_)) | (repeat (first | assumption | refine fs_up hL rfl ?_ | refine fs_up hLJ rfl ?_))
abbrev L_MD_qGoesOn_0 : List (Nat × Option Nat) := [(177, some 2), (177, some 92), (177, some 94), (177, some 95), (244, none)]
abbrev K_MD_qGoesOn_0 : List (Nat × Option Nat) := []
theorem q_MD_qGoesOn_0 {L LJ : List (Nat × Option Nat)} {I0 : MI} {J0 : MJ} {I : MI} (hL : subL L_MD_qGoesOn_0 L = true) (hLJ : subL K_MD_qGoesOn_0 LJ = true) (hI : fsL L I I0) : pc (F_MD_qGoesOn_0 I) (Sum.elim (fun r : MI => fsL L r I0) (fun r : MI => fsL L r I0)) := by
  unfold F_MD_qGoesOn_0
  refine pc_if ?_ ?_
  · refine pc_b (q_MD_look (L := L) (LJ := LJ) (I0 := I0) (J0 := J0) (sub_t (by decide) hL) (sub_t (by decide) hLJ) (by repeat (first | assumption | refine fs_up hL rfl ?_ | refine fs_up hLJ rfl ?_))) (fun r2 hr2 => ?_)
    refine pc_if ?_ ?_
    · refine pc_b' (fun r4 => ?_)
      refine pc_if ?_ ?_
      · exact (q_MD_qGoesOn_43 (L := L) (LJ := LJ) (I0 := I0) (J0 := J0) (sub_t (by decide) hL) (sub_t (by decide) hLJ) (by repeat (first | assumption | refine fs_up hL rfl ?_ | refine fs_up hLJ rfl ?_)))
      · refine pc_b' (fun r6 => ?_)
        refine pc_if ?_ ?_
        · exact (q_MD_qGoesOn_43 (L := L) (LJ := LJ) (I0 := I0) (J0 := J0) (sub_t (by decide) hL) (sub_t (by decide) hLJ) (by repeat (first | assumption | refine fs_up hL rfl ?_ | refine fs_up hLJ rfl ?_)))
        · refine pc_b' (fun r8 => ?_)
          refine pc_if ?_ ?_
          · exact (q_MD_qGoesOn_43 (L := L) (LJ := LJ) (I0 := I0) (J0 := J0) (sub_t (by decide) hL) (sub_t (by decide) hLJ) (by repeat (first | assumption | refine fs_up hL rfl ?_ | refine fs_up hLJ rfl ?_)))
          · refine pc_s ?_
            first | trivial | (refine ⟨?_, ?_⟩ <;> repeat (first | assumption | refine fs_up hL rfl ?_ | refine fs_up hLJ rfl ?_)) | (repeat (first | assumption | refine fs_up hL rfl ?_ | refine fs_up hLJ rfl ?_))
    · refine pc_s ?_
      first | trivial | (refine ⟨?_, ?_⟩ <;> repeat (first | assumption | refine fs_up hL rfl ?_ | refine fs_up hLJ rfl ?_)) | (repeat (first | assumption | refine fs_up hL rfl ?_ | refine fs_up hLJ rfl ?_))
  · refine pc_s ?_
    first | trivial | (refine ⟨?_, ?_⟩ <;> repeat (first | assumption | refine fs_up hL rfl ?_ | refine fs_up hLJ rfl ?_)) | (repeat (first | assumption | refine fs_up hL rfl ?_ | refine fs_up hLJ rfl ?_))
abbrev L_MD_qGoesOn_162 : List (Nat × Option Nat) := [(177, some 92), (177, some 94), (244, none)]
abbrev K_MD_qGoesOn_162 : List (Nat × Option Nat) := []
theorem q_MD_qGoesOn_162 {L LJ : List (Nat × Option Nat)} {I0 : MI} {J0 : MJ} {I : MI} {v1 : Int32} (hL : subL L_MD_qGoesOn_162 L = true) (hLJ : subL K_MD_qGoesOn_162 LJ = true) (hI : fsL L I I0) : pc (F_MD_qGoesOn_162 I v1) (Sum.elim (fun r : MI => fsL L r I0) (fun r : MI => fsL L r I0)) := by
  unfold F_MD_qGoesOn_162
  refine pc_b' (fun r1 => ?_)
  refine pc_if ?_ ?_
  · refine pc_b' (fun r4 => ?_)
    refine pc_if ?_ ?_
    · refine pc_s ?_
      first | trivial | (refine ⟨?_, ?_⟩ <;> repeat (first | assumption | refine fs_up hL rfl ?_ | refine fs_up hLJ rfl ?_)) | (repeat (first | assumption | refine fs_up hL rfl ?_ | refine fs_up hLJ rfl ?_))
    · refine pc_b (q_MD_qDrops (L := L) (LJ := LJ) (I0 := I0) (J0 := J0) (sub_t (by decide) hL) (sub_t (by decide) hLJ) (by repeat (first | assumption | refine fs_up hL rfl ?_ | refine fs_up hLJ rfl ?_))) (fun r6 hr6 => ?_)
      refine pc_s ?_
      first | trivial | (refine ⟨?_, ?_⟩ <;> repeat (first | assumption | refine fs_up hL rfl ?_ | refine fs_up hLJ rfl ?_)) | (repeat (first | assumption | refine fs_up hL rfl ?_ | refine fs_up hLJ rfl ?_))
  · refine pc_b (q_MD_qDrops (L := L) (LJ := LJ) (I0 := I0) (J0 := J0) (sub_t (by decide) hL) (sub_t (by decide) hLJ) (by repeat (first | assumption | refine fs_up hL rfl ?_ | refine fs_up hLJ rfl ?_))) (fun r3 hr3 => ?_)
    refine pc_s ?_
    first | trivial | (refine ⟨?_, ?_⟩ <;> repeat (first | assumption | refine fs_up hL rfl ?_ | refine fs_up hLJ rfl ?_)) | (repeat (first | assumption | refine fs_up hL rfl ?_ | refine fs_up hLJ rfl ?_))
abbrev L_MD_qGoesOn_161 : List (Nat × Option Nat) := [(177, some 92), (177, some 94), (244, none), (245, none)]
abbrev K_MD_qGoesOn_161 : List (Nat × Option Nat) := []
theorem q_MD_qGoesOn_161 {L LJ : List (Nat × Option Nat)} {I0 : MI} {J0 : MJ} {I : MI} {y0 : Int32} (hL : subL L_MD_qGoesOn_161 L = true) (hLJ : subL K_MD_qGoesOn_161 LJ = true) (hI : fsL L I I0) : pc (F_MD_qGoesOn_161 I y0) (fun r : Int32 × MI => fsL L r.2 I0) := by
  unfold F_MD_qGoesOn_161
  refine pc_b (pc_wl (fun s : MI => fsL L s I0) (fun s hs => by exact (q_MD_qGoesOn_162 (L := L) (LJ := LJ) (I0 := I0) (J0 := J0) (sub_t (by decide) hL) (sub_t (by decide) hLJ) (by repeat (first | assumption | refine fs_up hL rfl ?_ | refine fs_up hLJ rfl ?_)))) (by first | trivial | (refine ⟨?_, ?_⟩ <;> repeat (first | assumption | refine fs_up hL rfl ?_ | refine fs_up hLJ rfl ?_)) | (repeat (first | assumption | refine fs_up hL rfl ?_ | refine fs_up hLJ rfl ?_)))) (fun t1 ht1 => ?_)
  refine pc_gd ?_
  refine pc_s ?_
  first | trivial | (refine ⟨?_, ?_⟩ <;> repeat (first | assumption | refine fs_up hL rfl ?_ | refine fs_up hLJ rfl ?_)) | (repeat (first | assumption | refine fs_up hL rfl ?_ | refine fs_up hLJ rfl ?_))
abbrev L_MD_qGoesOn_140 : List (Nat × Option Nat) := [(177, some 92), (177, some 94), (244, none), (245, none)]
abbrev K_MD_qGoesOn_140 : List (Nat × Option Nat) := []
theorem q_MD_qGoesOn_140 {L LJ : List (Nat × Option Nat)} {I0 : MI} {J0 : MJ} {I : MI} (hL : subL L_MD_qGoesOn_140 L = true) (hLJ : subL K_MD_qGoesOn_140 LJ = true) (hI : fsL L I I0) : pc (F_MD_qGoesOn_140 I) (fun r : Int32 × MI => fsL L r.2 I0) := by
  unfold F_MD_qGoesOn_140
  refine pc_gd ?_
  refine pc_if ?_ ?_
  · exact (q_MD_qGoesOn_161 (L := L) (LJ := LJ) (I0 := I0) (J0 := J0) (sub_t (by decide) hL) (sub_t (by decide) hLJ) (by repeat (first | assumption | refine fs_up hL rfl ?_ | refine fs_up hLJ rfl ?_)))
  · exact (q_MD_qGoesOn_161 (L := L) (LJ := LJ) (I0 := I0) (J0 := J0) (sub_t (by decide) hL) (sub_t (by decide) hLJ) (by repeat (first | assumption | refine fs_up hL rfl ?_ | refine fs_up hLJ rfl ?_)))
abbrev L_MD_qGoesOn_247 : List (Nat × Option Nat) := [(177, some 92), (177, some 94), (244, none)]
abbrev K_MD_qGoesOn_247 : List (Nat × Option Nat) := []
theorem q_MD_qGoesOn_247 {L LJ : List (Nat × Option Nat)} {I0 : MI} {J0 : MJ} {I : MI} {v1 : Int32} (hL : subL L_MD_qGoesOn_247 L = true) (hLJ : subL K_MD_qGoesOn_247 LJ = true) (hI : fsL L I I0) : pc (F_MD_qGoesOn_247 I v1) (Sum.elim (fun r : MI => fsL L r I0) (fun r : MI => fsL L r I0)) := by
  unfold F_MD_qGoesOn_247
  refine pc_b' (fun r1 => ?_)
  refine pc_if ?_ ?_
  · refine pc_b' (fun r4 => ?_)
    refine pc_if ?_ ?_
    · refine pc_b' (fun r7 => ?_)
      refine pc_if ?_ ?_
      · refine pc_b' (fun r10 => ?_)
        refine pc_if ?_ ?_
        · refine pc_s ?_
          first | trivial | (refine ⟨?_, ?_⟩ <;> repeat (first | assumption | refine fs_up hL rfl ?_ | refine fs_up hLJ rfl ?_)) | (repeat (first | assumption | refine fs_up hL rfl ?_ | refine fs_up hLJ rfl ?_))
        · refine pc_b (q_MD_qDrops (L := L) (LJ := LJ) (I0 := I0) (J0 := J0) (sub_t (by decide) hL) (sub_t (by decide) hLJ) (by repeat (first | assumption | refine fs_up hL rfl ?_ | refine fs_up hLJ rfl ?_))) (fun r12 hr12 => ?_)
          refine pc_s ?_
          first | trivial | (refine ⟨?_, ?_⟩ <;> repeat (first | assumption | refine fs_up hL rfl ?_ | refine fs_up hLJ rfl ?_)) | (repeat (first | assumption | refine fs_up hL rfl ?_ | refine fs_up hLJ rfl ?_))
      · refine pc_b (q_MD_qDrops (L := L) (LJ := LJ) (I0 := I0) (J0 := J0) (sub_t (by decide) hL) (sub_t (by decide) hLJ) (by repeat (first | assumption | refine fs_up hL rfl ?_ | refine fs_up hLJ rfl ?_))) (fun r9 hr9 => ?_)
        refine pc_s ?_
        first | trivial | (refine ⟨?_, ?_⟩ <;> repeat (first | assumption | refine fs_up hL rfl ?_ | refine fs_up hLJ rfl ?_)) | (repeat (first | assumption | refine fs_up hL rfl ?_ | refine fs_up hLJ rfl ?_))
    · refine pc_b (q_MD_qDrops (L := L) (LJ := LJ) (I0 := I0) (J0 := J0) (sub_t (by decide) hL) (sub_t (by decide) hLJ) (by repeat (first | assumption | refine fs_up hL rfl ?_ | refine fs_up hLJ rfl ?_))) (fun r6 hr6 => ?_)
      refine pc_s ?_
      first | trivial | (refine ⟨?_, ?_⟩ <;> repeat (first | assumption | refine fs_up hL rfl ?_ | refine fs_up hLJ rfl ?_)) | (repeat (first | assumption | refine fs_up hL rfl ?_ | refine fs_up hLJ rfl ?_))
  · refine pc_b (q_MD_qDrops (L := L) (LJ := LJ) (I0 := I0) (J0 := J0) (sub_t (by decide) hL) (sub_t (by decide) hLJ) (by repeat (first | assumption | refine fs_up hL rfl ?_ | refine fs_up hLJ rfl ?_))) (fun r3 hr3 => ?_)
    refine pc_s ?_
    first | trivial | (refine ⟨?_, ?_⟩ <;> repeat (first | assumption | refine fs_up hL rfl ?_ | refine fs_up hLJ rfl ?_)) | (repeat (first | assumption | refine fs_up hL rfl ?_ | refine fs_up hLJ rfl ?_))
abbrev L_MD_qGoesOn_246 : List (Nat × Option Nat) := [(177, some 92), (177, some 94), (244, none), (245, none)]
abbrev K_MD_qGoesOn_246 : List (Nat × Option Nat) := []
theorem q_MD_qGoesOn_246 {L LJ : List (Nat × Option Nat)} {I0 : MI} {J0 : MJ} {I : MI} {y0 : Int32} (hL : subL L_MD_qGoesOn_246 L = true) (hLJ : subL K_MD_qGoesOn_246 LJ = true) (hI : fsL L I I0) : pc (F_MD_qGoesOn_246 I y0) (fun r : Int32 × MI => fsL L r.2 I0) := by
  unfold F_MD_qGoesOn_246
  refine pc_b (pc_wl (fun s : MI => fsL L s I0) (fun s hs => by exact (q_MD_qGoesOn_247 (L := L) (LJ := LJ) (I0 := I0) (J0 := J0) (sub_t (by decide) hL) (sub_t (by decide) hLJ) (by repeat (first | assumption | refine fs_up hL rfl ?_ | refine fs_up hLJ rfl ?_)))) (by first | trivial | (refine ⟨?_, ?_⟩ <;> repeat (first | assumption | refine fs_up hL rfl ?_ | refine fs_up hLJ rfl ?_)) | (repeat (first | assumption | refine fs_up hL rfl ?_ | refine fs_up hLJ rfl ?_)))) (fun t1 ht1 => ?_)
  refine pc_gd ?_
  refine pc_s ?_
  first | trivial | (refine ⟨?_, ?_⟩ <;> repeat (first | assumption | refine fs_up hL rfl ?_ | refine fs_up hLJ rfl ?_)) | (repeat (first | assumption | refine fs_up hL rfl ?_ | refine fs_up hLJ rfl ?_))
abbrev L_MD_qGoesOn_225 : List (Nat × Option Nat) := [(177, some 92), (177, some 94), (244, none), (245, none)]
abbrev K_MD_qGoesOn_225 : List (Nat × Option Nat) := []
theorem q_MD_qGoesOn_225 {L LJ : List (Nat × Option Nat)} {I0 : MI} {J0 : MJ} {I : MI} (hL : subL L_MD_qGoesOn_225 L = true) (hLJ : subL K_MD_qGoesOn_225 LJ = true) (hI : fsL L I I0) : pc (F_MD_qGoesOn_225 I) (fun r : Int32 × MI => fsL L r.2 I0) := by
  unfold F_MD_qGoesOn_225
  refine pc_gd ?_
  refine pc_if ?_ ?_
  · exact (q_MD_qGoesOn_246 (L := L) (LJ := LJ) (I0 := I0) (J0 := J0) (sub_t (by decide) hL) (sub_t (by decide) hLJ) (by repeat (first | assumption | refine fs_up hL rfl ?_ | refine fs_up hLJ rfl ?_)))
  · exact (q_MD_qGoesOn_246 (L := L) (LJ := LJ) (I0 := I0) (J0 := J0) (sub_t (by decide) hL) (sub_t (by decide) hLJ) (by repeat (first | assumption | refine fs_up hL rfl ?_ | refine fs_up hLJ rfl ?_)))
abbrev L_MD_qGoesOn_326 : List (Nat × Option Nat) := [(177, some 2), (177, some 5), (177, some 6), (177, some 92), (177, some 94), (244, none), (245, none)]
abbrev K_MD_qGoesOn_326 : List (Nat × Option Nat) := []
theorem q_MD_qGoesOn_326 {L LJ : List (Nat × Option Nat)} {I0 : MI} {J0 : MJ} {I : MI} (hL : subL L_MD_qGoesOn_326 L = true) (hLJ : subL K_MD_qGoesOn_326 LJ = true) (hI : fsL L I I0) : pc (F_MD_qGoesOn_326 I) (fun r : Int32 × MI => fsL L r.2 I0) := by
  unfold F_MD_qGoesOn_326
  refine pc_b (q_MD_asksSign (L := L) (LJ := LJ) (I0 := I0) (J0 := J0) (sub_t (by decide) hL) (sub_t (by decide) hLJ) (by repeat (first | assumption | refine fs_up hL rfl ?_ | refine fs_up hLJ rfl ?_))) (fun r1 hr1 => ?_)
  refine pc_if ?_ ?_
  · refine pc_b (q_MD_qDropsToBracket (L := L) (LJ := LJ) (I0 := I0) (J0 := J0) (sub_t (by decide) hL) (sub_t (by decide) hLJ) (by repeat (first | assumption | refine fs_up hL rfl ?_ | refine fs_up hLJ rfl ?_))) (fun r3 hr3 => ?_)
    refine pc_gd ?_
    refine pc_gd ?_
    refine pc_bnd ?_
    refine pc_s ?_
    first | trivial | (refine ⟨?_, ?_⟩ <;> repeat (first | assumption | refine fs_up hL rfl ?_ | refine fs_up hLJ rfl ?_)) | (repeat (first | assumption | refine fs_up hL rfl ?_ | refine fs_up hLJ rfl ?_))
  · refine pc_s ?_
    first | trivial | (refine ⟨?_, ?_⟩ <;> repeat (first | assumption | refine fs_up hL rfl ?_ | refine fs_up hLJ rfl ?_)) | (repeat (first | assumption | refine fs_up hL rfl ?_ | refine fs_up hLJ rfl ?_))
abbrev L_MD_qGoesOn_122 : List (Nat × Option Nat) := [(177, some 2), (177, some 5), (177, some 6), (177, some 92), (177, some 94), (244, none), (245, none)]
abbrev K_MD_qGoesOn_122 : List (Nat × Option Nat) := []
theorem q_MD_qGoesOn_122 {L LJ : List (Nat × Option Nat)} {I0 : MI} {J0 : MJ} {I : MI} (hL : subL L_MD_qGoesOn_122 L = true) (hLJ : subL K_MD_qGoesOn_122 LJ = true) (hI : fsL L I I0) : pc (F_MD_qGoesOn_122 I) (fun r : Int32 × MI => fsL L r.2 I0) := by
  unfold F_MD_qGoesOn_122
  refine pc_b (q_MD_takesSign (L := L) (LJ := LJ) (I0 := I0) (J0 := J0) (sub_t (by decide) hL) (sub_t (by decide) hLJ) (by repeat (first | assumption | refine fs_up hL rfl ?_ | refine fs_up hLJ rfl ?_))) (fun r1 hr1 => ?_)
  refine pc_if ?_ ?_
  · refine pc_b (q_MD_takesSign (L := L) (LJ := LJ) (I0 := I0) (J0 := J0) (sub_t (by decide) hL) (sub_t (by decide) hLJ) (by repeat (first | assumption | refine fs_up hL rfl ?_ | refine fs_up hLJ rfl ?_))) (fun r3 hr3 => ?_)
    refine pc_if ?_ ?_
    · refine pc_b (q_MD_takesSign (L := L) (LJ := LJ) (I0 := I0) (J0 := J0) (sub_t (by decide) hL) (sub_t (by decide) hLJ) (by repeat (first | assumption | refine fs_up hL rfl ?_ | refine fs_up hLJ rfl ?_))) (fun r5 hr5 => ?_)
      refine pc_if ?_ ?_
      · refine pc_b (q_MD_takesSign (L := L) (LJ := LJ) (I0 := I0) (J0 := J0) (sub_t (by decide) hL) (sub_t (by decide) hLJ) (by repeat (first | assumption | refine fs_up hL rfl ?_ | refine fs_up hLJ rfl ?_))) (fun r7 hr7 => ?_)
        refine pc_if ?_ ?_
        · refine pc_b' (fun r9 => ?_)
          refine pc_if ?_ ?_
          · exact (q_MD_qGoesOn_326 (L := L) (LJ := LJ) (I0 := I0) (J0 := J0) (sub_t (by decide) hL) (sub_t (by decide) hLJ) (by repeat (first | assumption | refine fs_up hL rfl ?_ | refine fs_up hLJ rfl ?_)))
          · refine pc_b' (fun r11 => ?_)
            refine pc_if ?_ ?_
            · exact (q_MD_qGoesOn_326 (L := L) (LJ := LJ) (I0 := I0) (J0 := J0) (sub_t (by decide) hL) (sub_t (by decide) hLJ) (by repeat (first | assumption | refine fs_up hL rfl ?_ | refine fs_up hLJ rfl ?_)))
            · refine pc_b' (fun r13 => ?_)
              refine pc_if ?_ ?_
              · refine pc_s ?_
                first | trivial | (refine ⟨?_, ?_⟩ <;> repeat (first | assumption | refine fs_up hL rfl ?_ | refine fs_up hLJ rfl ?_)) | (repeat (first | assumption | refine fs_up hL rfl ?_ | refine fs_up hLJ rfl ?_))
              · refine pc_if ?_ ?_
                · refine pc_b (q_MD_fail (L := L) (LJ := LJ) (I0 := I0) (J0 := J0) (sub_t (by decide) hL) (sub_t (by decide) hLJ) (by repeat (first | assumption | refine fs_up hL rfl ?_ | refine fs_up hLJ rfl ?_))) (fun r16 hr16 => ?_)
                  refine pc_s ?_
                  first | trivial | (refine ⟨?_, ?_⟩ <;> repeat (first | assumption | refine fs_up hL rfl ?_ | refine fs_up hLJ rfl ?_)) | (repeat (first | assumption | refine fs_up hL rfl ?_ | refine fs_up hLJ rfl ?_))
                · refine pc_s ?_
                  first | trivial | (refine ⟨?_, ?_⟩ <;> repeat (first | assumption | refine fs_up hL rfl ?_ | refine fs_up hLJ rfl ?_)) | (repeat (first | assumption | refine fs_up hL rfl ?_ | refine fs_up hLJ rfl ?_))
        · exact (q_MD_qGoesOn_225 (L := L) (LJ := LJ) (I0 := I0) (J0 := J0) (sub_t (by decide) hL) (sub_t (by decide) hLJ) (by repeat (first | assumption | refine fs_up hL rfl ?_ | refine fs_up hLJ rfl ?_)))
      · exact (q_MD_qGoesOn_225 (L := L) (LJ := LJ) (I0 := I0) (J0 := J0) (sub_t (by decide) hL) (sub_t (by decide) hLJ) (by repeat (first | assumption | refine fs_up hL rfl ?_ | refine fs_up hLJ rfl ?_)))
    · exact (q_MD_qGoesOn_140 (L := L) (LJ := LJ) (I0 := I0) (J0 := J0) (sub_t (by decide) hL) (sub_t (by decide) hLJ) (by repeat (first | assumption | refine fs_up hL rfl ?_ | refine fs_up hLJ rfl ?_)))
  · exact (q_MD_qGoesOn_140 (L := L) (LJ := LJ) (I0 := I0) (J0 := J0) (sub_t (by decide) hL) (sub_t (by decide) hLJ) (by repeat (first | assumption | refine fs_up hL rfl ?_ | refine fs_up hLJ rfl ?_)))
abbrev L_MD_qGoesOn : List (Nat × Option Nat) := [(177, some 2), (177, some 5), (177, some 6), (177, some 92), (177, some 94), (177, some 95), (244, none), (245, none)]
abbrev K_MD_qGoesOn : List (Nat × Option Nat) := []
theorem q_MD_qGoesOn {L LJ : List (Nat × Option Nat)} {I0 : MI} {J0 : MJ} {I : MI} (hL : subL L_MD_qGoesOn L = true) (hLJ : subL K_MD_qGoesOn LJ = true) (hI : fsL L I I0) : pc (F_MD_qGoesOn I) (fun r : Int32 × MI => fsL L r.2 I0) := by
  unfold F_MD_qGoesOn
  refine pc_b (pc_wl (fun s : MI => fsL L s I0) (fun s hs => by exact (q_MD_qGoesOn_0 (L := L) (LJ := LJ) (I0 := I0) (J0 := J0) (sub_t (by decide) hL) (sub_t (by decide) hLJ) (by repeat (first | assumption | refine fs_up hL rfl ?_ | refine fs_up hLJ rfl ?_)))) (by first | trivial | (refine ⟨?_, ?_⟩ <;> repeat (first | assumption | refine fs_up hL rfl ?_ | refine fs_up hLJ rfl ?_)) | (repeat (first | assumption | refine fs_up hL rfl ?_ | refine fs_up hLJ rfl ?_)))) (fun t1 ht1 => ?_)
  exact (q_MD_qGoesOn_122 (L := L) (LJ := LJ) (I0 := I0) (J0 := J0) (sub_t (by decide) hL) (sub_t (by decide) hLJ) (by repeat (first | assumption | refine fs_up hL rfl ?_ | refine fs_up hLJ rfl ?_)))
abbrev L_MD_qAsksWord : List (Nat × Option Nat) := [(177, some 2), (177, some 4), (177, some 5), (177, some 6)]
abbrev K_MD_qAsksWord : List (Nat × Option Nat) := []
theorem q_MD_qAsksWord {L LJ : List (Nat × Option Nat)} {I0 : MI} {J0 : MJ} {I : MI} {v1 : Int32} (hL : subL L_MD_qAsksWord L = true) (hLJ : subL K_MD_qAsksWord LJ = true) (hI : fsL L I I0) : pc (F_MD_qAsksWord I v1) (fun r : MI => fsL L r I0) := by
  unfold F_MD_qAsksWord
  refine pc_if ?_ ?_
  · refine pc_b (q_MD_asks (L := L) (LJ := LJ) (I0 := I0) (J0 := J0) (sub_t (by decide) hL) (sub_t (by decide) hLJ) (by repeat (first | assumption | refine fs_up hL rfl ?_ | refine fs_up hLJ rfl ?_))) (fun r2 hr2 => ?_)
    refine pc_s ?_
    first | trivial | (refine ⟨?_, ?_⟩ <;> repeat (first | assumption | refine fs_up hL rfl ?_ | refine fs_up hLJ rfl ?_)) | (repeat (first | assumption | refine fs_up hL rfl ?_ | refine fs_up hLJ rfl ?_))
  · refine pc_if ?_ ?_
    · refine pc_b (q_MD_asks (L := L) (LJ := LJ) (I0 := I0) (J0 := J0) (sub_t (by decide) hL) (sub_t (by decide) hLJ) (by repeat (first | assumption | refine fs_up hL rfl ?_ | refine fs_up hLJ rfl ?_))) (fun r4 hr4 => ?_)
      refine pc_s ?_
      first | trivial | (refine ⟨?_, ?_⟩ <;> repeat (first | assumption | refine fs_up hL rfl ?_ | refine fs_up hLJ rfl ?_)) | (repeat (first | assumption | refine fs_up hL rfl ?_ | refine fs_up hLJ rfl ?_))
    · refine pc_if ?_ ?_
      · refine pc_b (q_MD_asks (L := L) (LJ := LJ) (I0 := I0) (J0 := J0) (sub_t (by decide) hL) (sub_t (by decide) hLJ) (by repeat (first | assumption | refine fs_up hL rfl ?_ | refine fs_up hLJ rfl ?_))) (fun r6 hr6 => ?_)
        refine pc_s ?_
        first | trivial | (refine ⟨?_, ?_⟩ <;> repeat (first | assumption | refine fs_up hL rfl ?_ | refine fs_up hLJ rfl ?_)) | (repeat (first | assumption | refine fs_up hL rfl ?_ | refine fs_up hLJ rfl ?_))
      · refine pc_if ?_ ?_
        · refine pc_b (q_MD_asks (L := L) (LJ := LJ) (I0 := I0) (J0 := J0) (sub_t (by decide) hL) (sub_t (by decide) hLJ) (by repeat (first | assumption | refine fs_up hL rfl ?_ | refine fs_up hLJ rfl ?_))) (fun r8 hr8 => ?_)
          refine pc_s ?_
          first | trivial | (refine ⟨?_, ?_⟩ <;> repeat (first | assumption | refine fs_up hL rfl ?_ | refine fs_up hLJ rfl ?_)) | (repeat (first | assumption | refine fs_up hL rfl ?_ | refine fs_up hLJ rfl ?_))
        · refine pc_if ?_ ?_
          · refine pc_b (q_MD_asks (L := L) (LJ := LJ) (I0 := I0) (J0 := J0) (sub_t (by decide) hL) (sub_t (by decide) hLJ) (by repeat (first | assumption | refine fs_up hL rfl ?_ | refine fs_up hLJ rfl ?_))) (fun r10 hr10 => ?_)
            refine pc_s ?_
            first | trivial | (refine ⟨?_, ?_⟩ <;> repeat (first | assumption | refine fs_up hL rfl ?_ | refine fs_up hLJ rfl ?_)) | (repeat (first | assumption | refine fs_up hL rfl ?_ | refine fs_up hLJ rfl ?_))
          · refine pc_if ?_ ?_
            · refine pc_b (q_MD_asks (L := L) (LJ := LJ) (I0 := I0) (J0 := J0) (sub_t (by decide) hL) (sub_t (by decide) hLJ) (by repeat (first | assumption | refine fs_up hL rfl ?_ | refine fs_up hLJ rfl ?_))) (fun r12 hr12 => ?_)
              refine pc_s ?_
              first | trivial | (refine ⟨?_, ?_⟩ <;> repeat (first | assumption | refine fs_up hL rfl ?_ | refine fs_up hLJ rfl ?_)) | (repeat (first | assumption | refine fs_up hL rfl ?_ | refine fs_up hLJ rfl ?_))
            · refine pc_if ?_ ?_
              · refine pc_b (q_MD_asks (L := L) (LJ := LJ) (I0 := I0) (J0 := J0) (sub_t (by decide) hL) (sub_t (by decide) hLJ) (by repeat (first | assumption | refine fs_up hL rfl ?_ | refine fs_up hLJ rfl ?_))) (fun r14 hr14 => ?_)
                refine pc_s ?_
                first | trivial | (refine ⟨?_, ?_⟩ <;> repeat (first | assumption | refine fs_up hL rfl ?_ | refine fs_up hLJ rfl ?_)) | (repeat (first | assumption | refine fs_up hL rfl ?_ | refine fs_up hLJ rfl ?_))
              · refine pc_if ?_ ?_
                · refine pc_b (q_MD_asks (L := L) (LJ := LJ) (I0 := I0) (J0 := J0) (sub_t (by decide) hL) (sub_t (by decide) hLJ) (by repeat (first | assumption | refine fs_up hL rfl ?_ | refine fs_up hLJ rfl ?_))) (fun r16 hr16 => ?_)
                  refine pc_s ?_
                  first | trivial | (refine ⟨?_, ?_⟩ <;> repeat (first | assumption | refine fs_up hL rfl ?_ | refine fs_up hLJ rfl ?_)) | (repeat (first | assumption | refine fs_up hL rfl ?_ | refine fs_up hLJ rfl ?_))
                · refine pc_if ?_ ?_
                  · refine pc_b (q_MD_asks (L := L) (LJ := LJ) (I0 := I0) (J0 := J0) (sub_t (by decide) hL) (sub_t (by decide) hLJ) (by repeat (first | assumption | refine fs_up hL rfl ?_ | refine fs_up hLJ rfl ?_))) (fun r18 hr18 => ?_)
                    refine pc_s ?_
                    first | trivial | (refine ⟨?_, ?_⟩ <;> repeat (first | assumption | refine fs_up hL rfl ?_ | refine fs_up hLJ rfl ?_)) | (repeat (first | assumption | refine fs_up hL rfl ?_ | refine fs_up hLJ rfl ?_))
                  · refine pc_b (q_MD_asks (L := L) (LJ := LJ) (I0 := I0) (J0 := J0) (sub_t (by decide) hL) (sub_t (by decide) hLJ) (by repeat (first | assumption | refine fs_up hL rfl ?_ | refine fs_up hLJ rfl ?_))) (fun r19 hr19 => ?_)
                    refine pc_s ?_
                    first | trivial | (refine ⟨?_, ?_⟩ <;> repeat (first | assumption | refine fs_up hL rfl ?_ | refine fs_up hLJ rfl ?_)) | (repeat (first | assumption | refine fs_up hL rfl ?_ | refine fs_up hLJ rfl ?_))
abbrev L_MD_qOpens : List (Nat × Option Nat) := [(177, some 5), (177, some 6), (177, some 94), (177, some 95), (245, none)]
abbrev K_MD_qOpens : List (Nat × Option Nat) := []
theorem q_MD_qOpens {L LJ : List (Nat × Option Nat)} {I0 : MI} {J0 : MJ} {I : MI} {v1 : Int32} {v2 : Int32} (hL : subL L_MD_qOpens L = true) (hLJ : subL K_MD_qOpens LJ = true) (hI : fsL L I I0) : pc (F_MD_qOpens I v1 v2) (fun r : MI => fsL L r I0) := by
  unfold F_MD_qOpens
  refine pc_if ?_ ?_
  · refine pc_if ?_ ?_
    · refine pc_b (q_MD_fail (L := L) (LJ := LJ) (I0 := I0) (J0 := J0) (sub_t (by decide) hL) (sub_t (by decide) hLJ) (by repeat (first | assumption | refine fs_up hL rfl ?_ | refine fs_up hLJ rfl ?_))) (fun r5 hr5 => ?_)
      refine pc_s ?_
      first | trivial | (refine ⟨?_, ?_⟩ <;> repeat (first | assumption | refine fs_up hL rfl ?_ | refine fs_up hLJ rfl ?_)) | (repeat (first | assumption | refine fs_up hL rfl ?_ | refine fs_up hLJ rfl ?_))
    · refine pc_gd ?_
      refine pc_bnd ?_
      refine pc_s ?_
      first | trivial | (refine ⟨?_, ?_⟩ <;> repeat (first | assumption | refine fs_up hL rfl ?_ | refine fs_up hLJ rfl ?_)) | (repeat (first | assumption | refine fs_up hL rfl ?_ | refine fs_up hLJ rfl ?_))
  · refine pc_s ?_
    first | trivial | (refine ⟨?_, ?_⟩ <;> repeat (first | assumption | refine fs_up hL rfl ?_ | refine fs_up hLJ rfl ?_)) | (repeat (first | assumption | refine fs_up hL rfl ?_ | refine fs_up hLJ rfl ?_))
abbrev L_MD_qWordHere_59 : List (Nat × Option Nat) := [(177, some 2)]
abbrev K_MD_qWordHere_59 : List (Nat × Option Nat) := []
theorem q_MD_qWordHere_59 {L LJ : List (Nat × Option Nat)} {I0 : MI} {J0 : MJ} {I : MI} (hL : subL L_MD_qWordHere_59 L = true) (hLJ : subL K_MD_qWordHere_59 LJ = true) (hI : fsL L I I0) : pc (F_MD_qWordHere_59 I) (fun r : Int32 × MI => fsL L r.2 I0) := by
  unfold F_MD_qWordHere_59
  refine pc_b (q_MD_isHere (L := L) (LJ := LJ) (I0 := I0) (J0 := J0) (sub_t (by decide) hL) (sub_t (by decide) hLJ) (by repeat (first | assumption | refine fs_up hL rfl ?_ | refine fs_up hLJ rfl ?_))) (fun r1 hr1 => ?_)
  refine pc_if ?_ ?_
  · refine pc_b (q_MD_isHere (L := L) (LJ := LJ) (I0 := I0) (J0 := J0) (sub_t (by decide) hL) (sub_t (by decide) hLJ) (by repeat (first | assumption | refine fs_up hL rfl ?_ | refine fs_up hLJ rfl ?_))) (fun r3 hr3 => ?_)
    refine pc_if ?_ ?_
    · refine pc_b (q_MD_isHere (L := L) (LJ := LJ) (I0 := I0) (J0 := J0) (sub_t (by decide) hL) (sub_t (by decide) hLJ) (by repeat (first | assumption | refine fs_up hL rfl ?_ | refine fs_up hLJ rfl ?_))) (fun r5 hr5 => ?_)
      refine pc_if ?_ ?_
      · refine pc_b (q_MD_isHere (L := L) (LJ := LJ) (I0 := I0) (J0 := J0) (sub_t (by decide) hL) (sub_t (by decide) hLJ) (by repeat (first | assumption | refine fs_up hL rfl ?_ | refine fs_up hLJ rfl ?_))) (fun r7 hr7 => ?_)
        refine pc_if ?_ ?_
        · refine pc_b (q_MD_isHere (L := L) (LJ := LJ) (I0 := I0) (J0 := J0) (sub_t (by decide) hL) (sub_t (by decide) hLJ) (by repeat (first | assumption | refine fs_up hL rfl ?_ | refine fs_up hLJ rfl ?_))) (fun r9 hr9 => ?_)
          refine pc_if ?_ ?_
          · refine pc_b (q_MD_isHere (L := L) (LJ := LJ) (I0 := I0) (J0 := J0) (sub_t (by decide) hL) (sub_t (by decide) hLJ) (by repeat (first | assumption | refine fs_up hL rfl ?_ | refine fs_up hLJ rfl ?_))) (fun r11 hr11 => ?_)
            refine pc_if ?_ ?_
            · refine pc_s ?_
              first | trivial | (refine ⟨?_, ?_⟩ <;> repeat (first | assumption | refine fs_up hL rfl ?_ | refine fs_up hLJ rfl ?_)) | (repeat (first | assumption | refine fs_up hL rfl ?_ | refine fs_up hLJ rfl ?_))
            · refine pc_s ?_
              first | trivial | (refine ⟨?_, ?_⟩ <;> repeat (first | assumption | refine fs_up hL rfl ?_ | refine fs_up hLJ rfl ?_)) | (repeat (first | assumption | refine fs_up hL rfl ?_ | refine fs_up hLJ rfl ?_))
          · refine pc_s ?_
            first | trivial | (refine ⟨?_, ?_⟩ <;> repeat (first | assumption | refine fs_up hL rfl ?_ | refine fs_up hLJ rfl ?_)) | (repeat (first | assumption | refine fs_up hL rfl ?_ | refine fs_up hLJ rfl ?_))
        · refine pc_s ?_
          first | trivial | (refine ⟨?_, ?_⟩ <;> repeat (first | assumption | refine fs_up hL rfl ?_ | refine fs_up hLJ rfl ?_)) | (repeat (first | assumption | refine fs_up hL rfl ?_ | refine fs_up hLJ rfl ?_))
      · refine pc_s ?_
        first | trivial | (refine ⟨?_, ?_⟩ <;> repeat (first | assumption | refine fs_up hL rfl ?_ | refine fs_up hLJ rfl ?_)) | (repeat (first | assumption | refine fs_up hL rfl ?_ | refine fs_up hLJ rfl ?_))
    · refine pc_s ?_
      first | trivial | (refine ⟨?_, ?_⟩ <;> repeat (first | assumption | refine fs_up hL rfl ?_ | refine fs_up hLJ rfl ?_)) | (repeat (first | assumption | refine fs_up hL rfl ?_ | refine fs_up hLJ rfl ?_))
  · refine pc_s ?_
    first | trivial | (refine ⟨?_, ?_⟩ <;> repeat (first | assumption | refine fs_up hL rfl ?_ | refine fs_up hLJ rfl ?_)) | (repeat (first | assumption | refine fs_up hL rfl ?_ | refine fs_up hLJ rfl ?_))
abbrev L_MD_qWordHere : List (Nat × Option Nat) := [(177, some 2)]
abbrev K_MD_qWordHere : List (Nat × Option Nat) := []
theorem q_MD_qWordHere {L LJ : List (Nat × Option Nat)} {I0 : MI} {J0 : MJ} {I : MI} (hL : subL L_MD_qWordHere L = true) (hLJ : subL K_MD_qWordHere LJ = true) (hI : fsL L I I0) : pc (F_MD_qWordHere I) (fun r : Int32 × MI => fsL L r.2 I0) := by
  unfold F_MD_qWordHere
  refine pc_b (q_MD_isHere (L := L) (LJ := LJ) (I0 := I0) (J0 := J0) (sub_t (by decide) hL) (sub_t (by decide) hLJ) (by repeat (first | assumption | refine fs_up hL rfl ?_ | refine fs_up hLJ rfl ?_))) (fun r1 hr1 => ?_)
  refine pc_if ?_ ?_
  · refine pc_b (q_MD_isHere (L := L) (LJ := LJ) (I0 := I0) (J0 := J0) (sub_t (by decide) hL) (sub_t (by decide) hLJ) (by repeat (first | assumption | refine fs_up hL rfl ?_ | refine fs_up hLJ rfl ?_))) (fun r3 hr3 => ?_)
    refine pc_if ?_ ?_
    · refine pc_b (q_MD_isHere (L := L) (LJ := LJ) (I0 := I0) (J0 := J0) (sub_t (by decide) hL) (sub_t (by decide) hLJ) (by repeat (first | assumption | refine fs_up hL rfl ?_ | refine fs_up hLJ rfl ?_))) (fun r5 hr5 => ?_)
      refine pc_if ?_ ?_
      · refine pc_if ?_ ?_
        · refine pc_b (q_MD_isHere (L := L) (LJ := LJ) (I0 := I0) (J0 := J0) (sub_t (by decide) hL) (sub_t (by decide) hLJ) (by repeat (first | assumption | refine fs_up hL rfl ?_ | refine fs_up hLJ rfl ?_))) (fun r8 hr8 => ?_)
          refine pc_if ?_ ?_
          · exact (q_MD_qWordHere_59 (L := L) (LJ := LJ) (I0 := I0) (J0 := J0) (sub_t (by decide) hL) (sub_t (by decide) hLJ) (by repeat (first | assumption | refine fs_up hL rfl ?_ | refine fs_up hLJ rfl ?_)))
          · refine pc_s ?_
            first | trivial | (refine ⟨?_, ?_⟩ <;> repeat (first | assumption | refine fs_up hL rfl ?_ | refine fs_up hLJ rfl ?_)) | (repeat (first | assumption | refine fs_up hL rfl ?_ | refine fs_up hLJ rfl ?_))
        · exact (q_MD_qWordHere_59 (L := L) (LJ := LJ) (I0 := I0) (J0 := J0) (sub_t (by decide) hL) (sub_t (by decide) hLJ) (by repeat (first | assumption | refine fs_up hL rfl ?_ | refine fs_up hLJ rfl ?_)))
      · refine pc_s ?_
        first | trivial | (refine ⟨?_, ?_⟩ <;> repeat (first | assumption | refine fs_up hL rfl ?_ | refine fs_up hLJ rfl ?_)) | (repeat (first | assumption | refine fs_up hL rfl ?_ | refine fs_up hLJ rfl ?_))
    · refine pc_s ?_
      first | trivial | (refine ⟨?_, ?_⟩ <;> repeat (first | assumption | refine fs_up hL rfl ?_ | refine fs_up hLJ rfl ?_)) | (repeat (first | assumption | refine fs_up hL rfl ?_ | refine fs_up hLJ rfl ?_))
  · refine pc_s ?_
    first | trivial | (refine ⟨?_, ?_⟩ <;> repeat (first | assumption | refine fs_up hL rfl ?_ | refine fs_up hLJ rfl ?_)) | (repeat (first | assumption | refine fs_up hL rfl ?_ | refine fs_up hLJ rfl ?_))
abbrev L_MD_qWordOf : List (Nat × Option Nat) := [(177, some 2)]
abbrev K_MD_qWordOf : List (Nat × Option Nat) := []
theorem q_MD_qWordOf {L LJ : List (Nat × Option Nat)} {I0 : MI} {J0 : MJ} {I : MI} {v1 : Int32} {v2 : Int32} (hL : subL L_MD_qWordOf L = true) (hLJ : subL K_MD_qWordOf LJ = true) (hI : fsL L I I0) : pc (F_MD_qWordOf I v1 v2) (fun r : Int32 × MI => fsL L r.2 I0) := by
  unfold F_MD_qWordOf
  refine pc_b (q_MD_qWordHere (L := L) (LJ := LJ) (I0 := I0) (J0 := J0) (sub_t (by decide) hL) (sub_t (by decide) hLJ) (by repeat (first | assumption | refine fs_up hL rfl ?_ | refine fs_up hLJ rfl ?_))) (fun r1 hr1 => ?_)
  refine pc_if ?_ ?_
  · refine pc_s ?_
    first | trivial | (refine ⟨?_, ?_⟩ <;> repeat (first | assumption | refine fs_up hL rfl ?_ | refine fs_up hLJ rfl ?_)) | (repeat (first | assumption | refine fs_up hL rfl ?_ | refine fs_up hLJ rfl ?_))
  · refine pc_if ?_ ?_
    · refine pc_s ?_
      first | trivial | (refine ⟨?_, ?_⟩ <;> repeat (first | assumption | refine fs_up hL rfl ?_ | refine fs_up hLJ rfl ?_)) | (repeat (first | assumption | refine fs_up hL rfl ?_ | refine fs_up hLJ rfl ?_))
    · refine pc_b' (fun r4 => ?_)
      refine pc_if ?_ ?_
      · refine pc_s ?_
        first | trivial | (refine ⟨?_, ?_⟩ <;> repeat (first | assumption | refine fs_up hL rfl ?_ | refine fs_up hLJ rfl ?_)) | (repeat (first | assumption | refine fs_up hL rfl ?_ | refine fs_up hLJ rfl ?_))
      · refine pc_s ?_
        first | trivial | (refine ⟨?_, ?_⟩ <;> repeat (first | assumption | refine fs_up hL rfl ?_ | refine fs_up hLJ rfl ?_)) | (repeat (first | assumption | refine fs_up hL rfl ?_ | refine fs_up hLJ rfl ?_))
abbrev L_MD_qPartTold_118 : List (Nat × Option Nat) := [(177, some 2), (177, some 5), (177, some 6), (177, some 94), (177, some 95), (245, none)]
abbrev K_MD_qPartTold_118 : List (Nat × Option Nat) := []
theorem q_MD_qPartTold_118 {L LJ : List (Nat × Option Nat)} {I0 : MI} {J0 : MJ} {I : MI} {v1 : Int32} {v4 : Int32} {y0 : Int32} (hL : subL L_MD_qPartTold_118 L = true) (hLJ : subL K_MD_qPartTold_118 LJ = true) (hI : fsL L I I0) : pc (F_MD_qPartTold_118 I v1 v4 y0) (Sum.elim (fun r : Int32 × MI => fsL L r.2 I0) (fun r : MI => fsL L r I0)) := by
  unfold F_MD_qPartTold_118
  refine pc_if ?_ ?_
  · refine pc_b (q_MD_asksSign (L := L) (LJ := LJ) (I0 := I0) (J0 := J0) (sub_t (by decide) hL) (sub_t (by decide) hLJ) (by repeat (first | assumption | refine fs_up hL rfl ?_ | refine fs_up hLJ rfl ?_))) (fun r2 hr2 => ?_)
    refine pc_s ?_
    first | trivial | (refine ⟨?_, ?_⟩ <;> repeat (first | assumption | refine fs_up hL rfl ?_ | refine fs_up hLJ rfl ?_)) | (repeat (first | assumption | refine fs_up hL rfl ?_ | refine fs_up hLJ rfl ?_))
  · refine pc_if ?_ ?_
    · refine pc_b (q_MD_qOpens (L := L) (LJ := LJ) (I0 := I0) (J0 := J0) (sub_t (by decide) hL) (sub_t (by decide) hLJ) (by repeat (first | assumption | refine fs_up hL rfl ?_ | refine fs_up hLJ rfl ?_))) (fun r4 hr4 => ?_)
      refine pc_b (q_MD_asksSign (L := L) (LJ := LJ) (I0 := I0) (J0 := J0) (sub_t (by decide) hL) (sub_t (by decide) hLJ) (by repeat (first | assumption | refine fs_up hL rfl ?_ | refine fs_up hLJ rfl ?_))) (fun r5 hr5 => ?_)
      refine pc_s ?_
      first | trivial | (refine ⟨?_, ?_⟩ <;> repeat (first | assumption | refine fs_up hL rfl ?_ | refine fs_up hLJ rfl ?_)) | (repeat (first | assumption | refine fs_up hL rfl ?_ | refine fs_up hLJ rfl ?_))
    · refine pc_b (q_MD_qOpens (L := L) (LJ := LJ) (I0 := I0) (J0 := J0) (sub_t (by decide) hL) (sub_t (by decide) hLJ) (by repeat (first | assumption | refine fs_up hL rfl ?_ | refine fs_up hLJ rfl ?_))) (fun r6 hr6 => ?_)
      refine pc_b (q_MD_asksSign (L := L) (LJ := LJ) (I0 := I0) (J0 := J0) (sub_t (by decide) hL) (sub_t (by decide) hLJ) (by repeat (first | assumption | refine fs_up hL rfl ?_ | refine fs_up hLJ rfl ?_))) (fun r7 hr7 => ?_)
      refine pc_s ?_
      first | trivial | (refine ⟨?_, ?_⟩ <;> repeat (first | assumption | refine fs_up hL rfl ?_ | refine fs_up hLJ rfl ?_)) | (repeat (first | assumption | refine fs_up hL rfl ?_ | refine fs_up hLJ rfl ?_))
abbrev L_MD_qPartTold_101 : List (Nat × Option Nat) := [(177, some 2), (177, some 5), (177, some 6), (177, some 94), (177, some 95), (245, none)]
abbrev K_MD_qPartTold_101 : List (Nat × Option Nat) := []
theorem q_MD_qPartTold_101 {L LJ : List (Nat × Option Nat)} {I0 : MI} {J0 : MJ} {I : MI} {v1 : Int32} {v4 : Int32} (hL : subL L_MD_qPartTold_101 L = true) (hLJ : subL K_MD_qPartTold_101 LJ = true) (hI : fsL L I I0) : pc (F_MD_qPartTold_101 I v1 v4) (Sum.elim (fun r : Int32 × MI => fsL L r.2 I0) (fun r : MI => fsL L r I0)) := by
  unfold F_MD_qPartTold_101
  refine pc_b (q_MD_look (L := L) (LJ := LJ) (I0 := I0) (J0 := J0) (sub_t (by decide) hL) (sub_t (by decide) hLJ) (by repeat (first | assumption | refine fs_up hL rfl ?_ | refine fs_up hLJ rfl ?_))) (fun r1 hr1 => ?_)
  refine pc_if ?_ ?_
  · exact (q_MD_qPartTold_118 (L := L) (LJ := LJ) (I0 := I0) (J0 := J0) (sub_t (by decide) hL) (sub_t (by decide) hLJ) (by repeat (first | assumption | refine fs_up hL rfl ?_ | refine fs_up hLJ rfl ?_)))
  · exact (q_MD_qPartTold_118 (L := L) (LJ := LJ) (I0 := I0) (J0 := J0) (sub_t (by decide) hL) (sub_t (by decide) hLJ) (by repeat (first | assumption | refine fs_up hL rfl ?_ | refine fs_up hLJ rfl ?_)))
abbrev L_MD_qPartTold_78 : List (Nat × Option Nat) := [(177, some 2), (177, some 4), (177, some 5), (177, some 6), (177, some 94), (177, some 95), (245, none)]
abbrev K_MD_qPartTold_78 : List (Nat × Option Nat) := []
theorem q_MD_qPartTold_78 {L LJ : List (Nat × Option Nat)} {I0 : MI} {J0 : MJ} {I : MI} {v1 : Int32} (hL : subL L_MD_qPartTold_78 L = true) (hLJ : subL K_MD_qPartTold_78 LJ = true) (hI : fsL L I I0) : pc (F_MD_qPartTold_78 I v1) (Sum.elim (fun r : Int32 × MI => fsL L r.2 I0) (fun r : MI => fsL L r I0)) := by
  unfold F_MD_qPartTold_78
  refine pc_b (q_MD_takes (L := L) (LJ := LJ) (I0 := I0) (J0 := J0) (sub_t (by decide) hL) (sub_t (by decide) hLJ) (by repeat (first | assumption | refine fs_up hL rfl ?_ | refine fs_up hLJ rfl ?_))) (fun r1 hr1 => ?_)
  refine pc_if ?_ ?_
  · refine pc_b (q_MD_asks (L := L) (LJ := LJ) (I0 := I0) (J0 := J0) (sub_t (by decide) hL) (sub_t (by decide) hLJ) (by repeat (first | assumption | refine fs_up hL rfl ?_ | refine fs_up hLJ rfl ?_))) (fun r3 hr3 => ?_)
    exact (q_MD_qPartTold_101 (L := L) (LJ := LJ) (I0 := I0) (J0 := J0) (sub_t (by decide) hL) (sub_t (by decide) hLJ) (by repeat (first | assumption | refine fs_up hL rfl ?_ | refine fs_up hLJ rfl ?_)))
  · exact (q_MD_qPartTold_101 (L := L) (LJ := LJ) (I0 := I0) (J0 := J0) (sub_t (by decide) hL) (sub_t (by decide) hLJ) (by repeat (first | assumption | refine fs_up hL rfl ?_ | refine fs_up hLJ rfl ?_)))
abbrev L_MD_qPartTold_2 : List (Nat × Option Nat) := [(177, some 2), (177, some 4), (177, some 5), (177, some 6), (177, some 94), (177, some 95), (245, none)]
abbrev K_MD_qPartTold_2 : List (Nat × Option Nat) := []
theorem q_MD_qPartTold_2 {L LJ : List (Nat × Option Nat)} {I0 : MI} {J0 : MJ} {I : MI} {v1 : Int32} (hL : subL L_MD_qPartTold_2 L = true) (hLJ : subL K_MD_qPartTold_2 LJ = true) (hI : fsL L I I0) : pc (F_MD_qPartTold_2 I v1) (Sum.elim (fun r : Int32 × MI => fsL L r.2 I0) (fun r : MI => fsL L r I0)) := by
  unfold F_MD_qPartTold_2
  refine pc_if ?_ ?_
  · refine pc_s ?_
    first | trivial | (refine ⟨?_, ?_⟩ <;> repeat (first | assumption | refine fs_up hL rfl ?_ | refine fs_up hLJ rfl ?_)) | (repeat (first | assumption | refine fs_up hL rfl ?_ | refine fs_up hLJ rfl ?_))
  · refine pc_if ?_ ?_
    · refine pc_b (q_MD_look (L := L) (LJ := LJ) (I0 := I0) (J0 := J0) (sub_t (by decide) hL) (sub_t (by decide) hLJ) (by repeat (first | assumption | refine fs_up hL rfl ?_ | refine fs_up hLJ rfl ?_))) (fun r3 hr3 => ?_)
      refine pc_b (q_MD_qWordOf (L := L) (LJ := LJ) (I0 := I0) (J0 := J0) (sub_t (by decide) hL) (sub_t (by decide) hLJ) (by repeat (first | assumption | refine fs_up hL rfl ?_ | refine fs_up hLJ rfl ?_))) (fun r4 hr4 => ?_)
      refine pc_if ?_ ?_
      · refine pc_b (q_MD_qOpens (L := L) (LJ := LJ) (I0 := I0) (J0 := J0) (sub_t (by decide) hL) (sub_t (by decide) hLJ) (by repeat (first | assumption | refine fs_up hL rfl ?_ | refine fs_up hLJ rfl ?_))) (fun r13 hr13 => ?_)
        refine pc_s ?_
        first | trivial | (refine ⟨?_, ?_⟩ <;> repeat (first | assumption | refine fs_up hL rfl ?_ | refine fs_up hLJ rfl ?_)) | (repeat (first | assumption | refine fs_up hL rfl ?_ | refine fs_up hLJ rfl ?_))
      · refine pc_b (q_MD_isHere (L := L) (LJ := LJ) (I0 := I0) (J0 := J0) (sub_t (by decide) hL) (sub_t (by decide) hLJ) (by repeat (first | assumption | refine fs_up hL rfl ?_ | refine fs_up hLJ rfl ?_))) (fun r6 hr6 => ?_)
        refine pc_if ?_ ?_
        · refine pc_b (q_MD_isHere (L := L) (LJ := LJ) (I0 := I0) (J0 := J0) (sub_t (by decide) hL) (sub_t (by decide) hLJ) (by repeat (first | assumption | refine fs_up hL rfl ?_ | refine fs_up hLJ rfl ?_))) (fun r8 hr8 => ?_)
          refine pc_if ?_ ?_
          · refine pc_if ?_ ?_
            · refine pc_s ?_
              first | trivial | (refine ⟨?_, ?_⟩ <;> repeat (first | assumption | refine fs_up hL rfl ?_ | refine fs_up hLJ rfl ?_)) | (repeat (first | assumption | refine fs_up hL rfl ?_ | refine fs_up hLJ rfl ?_))
            · refine pc_b (q_MD_qOpens (L := L) (LJ := LJ) (I0 := I0) (J0 := J0) (sub_t (by decide) hL) (sub_t (by decide) hLJ) (by repeat (first | assumption | refine fs_up hL rfl ?_ | refine fs_up hLJ rfl ?_))) (fun r11 hr11 => ?_)
              refine pc_b (q_MD_qAsksWord (L := L) (LJ := LJ) (I0 := I0) (J0 := J0) (sub_t (by decide) hL) (sub_t (by decide) hLJ) (by repeat (first | assumption | refine fs_up hL rfl ?_ | refine fs_up hLJ rfl ?_))) (fun r12 hr12 => ?_)
              refine pc_s ?_
              first | trivial | (refine ⟨?_, ?_⟩ <;> repeat (first | assumption | refine fs_up hL rfl ?_ | refine fs_up hLJ rfl ?_)) | (repeat (first | assumption | refine fs_up hL rfl ?_ | refine fs_up hLJ rfl ?_))
          · exact (q_MD_qPartTold_78 (L := L) (LJ := LJ) (I0 := I0) (J0 := J0) (sub_t (by decide) hL) (sub_t (by decide) hLJ) (by repeat (first | assumption | refine fs_up hL rfl ?_ | refine fs_up hLJ rfl ?_)))
        · exact (q_MD_qPartTold_78 (L := L) (LJ := LJ) (I0 := I0) (J0 := J0) (sub_t (by decide) hL) (sub_t (by decide) hLJ) (by repeat (first | assumption | refine fs_up hL rfl ?_ | refine fs_up hLJ rfl ?_)))
    · refine pc_s ?_
      first | trivial | (refine ⟨?_, ?_⟩ <;> repeat (first | assumption | refine fs_up hL rfl ?_ | refine fs_up hLJ rfl ?_)) | (repeat (first | assumption | refine fs_up hL rfl ?_ | refine fs_up hLJ rfl ?_))
abbrev L_MD_qPartTold_212 : List (Nat × Option Nat) := [(177, some 2), (177, some 4), (177, some 5), (177, some 6), (177, some 10), (177, some 92), (177, some 94), (177, some 95), (244, none)]
abbrev K_MD_qPartTold_212 : List (Nat × Option Nat) := []
theorem q_MD_qPartTold_212 {L LJ : List (Nat × Option Nat)} {I0 : MI} {J0 : MJ} {I : MI} {v2 : Int32} (hL : subL L_MD_qPartTold_212 L = true) (hLJ : subL K_MD_qPartTold_212 LJ = true) (hI : fsL L I I0) : pc (F_MD_qPartTold_212 I v2) (fun r : MI => fsL L r I0) := by
  unfold F_MD_qPartTold_212
  refine pc_if ?_ ?_
  · refine pc_b (q_MD_number (L := L) (LJ := LJ) (I0 := I0) (J0 := J0) (sub_t (by decide) hL) (sub_t (by decide) hLJ) (by repeat (first | assumption | refine fs_up hL rfl ?_ | refine fs_up hLJ rfl ?_))) (fun r2 hr2 => ?_)
    refine pc_b (q_MD_qCode (L := L) (LJ := LJ) (I0 := I0) (J0 := J0) (sub_t (by decide) hL) (sub_t (by decide) hLJ) (by repeat (first | assumption | refine fs_up hL rfl ?_ | refine fs_up hLJ rfl ?_))) (fun r3 hr3 => ?_)
    refine pc_b (q_MD_qEndsPart (L := L) (LJ := LJ) (I0 := I0) (J0 := J0) (sub_t (by decide) hL) (sub_t (by decide) hLJ) (by repeat (first | assumption | refine fs_up hL rfl ?_ | refine fs_up hLJ rfl ?_))) (fun r4 hr4 => ?_)
    refine pc_s ?_
    first | trivial | (refine ⟨?_, ?_⟩ <;> repeat (first | assumption | refine fs_up hL rfl ?_ | refine fs_up hLJ rfl ?_)) | (repeat (first | assumption | refine fs_up hL rfl ?_ | refine fs_up hLJ rfl ?_))
  · refine pc_b (q_MD_qCode (L := L) (LJ := LJ) (I0 := I0) (J0 := J0) (sub_t (by decide) hL) (sub_t (by decide) hLJ) (by repeat (first | assumption | refine fs_up hL rfl ?_ | refine fs_up hLJ rfl ?_))) (fun r5 hr5 => ?_)
    refine pc_b (q_MD_qEndsPart (L := L) (LJ := LJ) (I0 := I0) (J0 := J0) (sub_t (by decide) hL) (sub_t (by decide) hLJ) (by repeat (first | assumption | refine fs_up hL rfl ?_ | refine fs_up hLJ rfl ?_))) (fun r6 hr6 => ?_)
    refine pc_s ?_
    first | trivial | (refine ⟨?_, ?_⟩ <;> repeat (first | assumption | refine fs_up hL rfl ?_ | refine fs_up hLJ rfl ?_)) | (repeat (first | assumption | refine fs_up hL rfl ?_ | refine fs_up hLJ rfl ?_))
abbrev L_MD_qPartTold_186 : List (Nat × Option Nat) := [(177, some 2), (177, some 4), (177, some 5), (177, some 6), (177, some 10), (177, some 92), (177, some 94), (177, some 95), (244, none)]
abbrev K_MD_qPartTold_186 : List (Nat × Option Nat) := []
theorem q_MD_qPartTold_186 {L LJ : List (Nat × Option Nat)} {I0 : MI} {J0 : MJ} {I : MI} (hL : subL L_MD_qPartTold_186 L = true) (hLJ : subL K_MD_qPartTold_186 LJ = true) (hI : fsL L I I0) : pc (F_MD_qPartTold_186 I) (fun r : MI => fsL L r I0) := by
  unfold F_MD_qPartTold_186
  refine pc_if ?_ ?_
  · refine pc_b (q_MD_qWordOf (L := L) (LJ := LJ) (I0 := I0) (J0 := J0) (sub_t (by decide) hL) (sub_t (by decide) hLJ) (by repeat (first | assumption | refine fs_up hL rfl ?_ | refine fs_up hLJ rfl ?_))) (fun r2 hr2 => ?_)
    refine pc_if ?_ ?_
    · exact (q_MD_qPartTold_212 (L := L) (LJ := LJ) (I0 := I0) (J0 := J0) (sub_t (by decide) hL) (sub_t (by decide) hLJ) (by repeat (first | assumption | refine fs_up hL rfl ?_ | refine fs_up hLJ rfl ?_)))
    · refine pc_b (q_MD_qAsksWord (L := L) (LJ := LJ) (I0 := I0) (J0 := J0) (sub_t (by decide) hL) (sub_t (by decide) hLJ) (by repeat (first | assumption | refine fs_up hL rfl ?_ | refine fs_up hLJ rfl ?_))) (fun r4 hr4 => ?_)
      exact (q_MD_qPartTold_212 (L := L) (LJ := LJ) (I0 := I0) (J0 := J0) (sub_t (by decide) hL) (sub_t (by decide) hLJ) (by repeat (first | assumption | refine fs_up hL rfl ?_ | refine fs_up hLJ rfl ?_)))
  · refine pc_s ?_
    first | trivial | (refine ⟨?_, ?_⟩ <;> repeat (first | assumption | refine fs_up hL rfl ?_ | refine fs_up hLJ rfl ?_)) | (repeat (first | assumption | refine fs_up hL rfl ?_ | refine fs_up hLJ rfl ?_))
abbrev L_MD_qPartTold : List (Nat × Option Nat) := [(177, some 2), (177, some 4), (177, some 5), (177, some 6), (177, some 10), (177, some 92), (177, some 94), (177, some 95), (244, none), (245, none)]
abbrev K_MD_qPartTold : List (Nat × Option Nat) := []
theorem q_MD_qPartTold {L LJ : List (Nat × Option Nat)} {I0 : MI} {J0 : MJ} {I : MI} (hL : subL L_MD_qPartTold L = true) (hLJ : subL K_MD_qPartTold LJ = true) (hI : fsL L I I0) : pc (F_MD_qPartTold I) (fun r : MI => fsL L r I0) := by
  unfold F_MD_qPartTold
  refine pc_b (pc_wl (fun s : Int32 × MI => fsL L s.2 I0) (fun s hs => by exact (q_MD_qPartTold_2 (L := L) (LJ := LJ) (I0 := I0) (J0 := J0) (sub_t (by decide) hL) (sub_t (by decide) hLJ) (by repeat (first | assumption | refine fs_up hL rfl ?_ | refine fs_up hLJ rfl ?_)))) (by first | trivial | (refine ⟨?_, ?_⟩ <;> repeat (first | assumption | refine fs_up hL rfl ?_ | refine fs_up hLJ rfl ?_)) | (repeat (first | assumption | refine fs_up hL rfl ?_ | refine fs_up hLJ rfl ?_)))) (fun t1 ht1 => ?_)
  exact (q_MD_qPartTold_186 (L := L) (LJ := LJ) (I0 := I0) (J0 := J0) (sub_t (by decide) hL) (sub_t (by decide) hLJ) (by repeat (first | assumption | refine fs_up hL rfl ?_ | refine fs_up hLJ rfl ?_)))
abbrev L_MD_qSums_15 : List (Nat × Option Nat) := [(177, some 2), (177, some 4), (177, some 5), (177, some 6), (177, some 10), (177, some 92), (177, some 94), (177, some 95), (244, none), (245, none)]
abbrev K_MD_qSums_15 : List (Nat × Option Nat) := []
theorem q_MD_qSums_15 {L LJ : List (Nat × Option Nat)} {I0 : MI} {J0 : MJ} {I : MI} {v1 : Int32} {v2 : Int32} (hL : subL L_MD_qSums_15 L = true) (hLJ : subL K_MD_qSums_15 LJ = true) (hI : fsL L I I0) : pc (F_MD_qSums_15 I v1 v2) (Sum.elim (fun r : Int32 × MI => fsL L r.2 I0) (fun r : MI => fsL L r I0)) := by
  unfold F_MD_qSums_15
  refine pc_if ?_ ?_
  · refine pc_s ?_
    first | trivial | (refine ⟨?_, ?_⟩ <;> repeat (first | assumption | refine fs_up hL rfl ?_ | refine fs_up hLJ rfl ?_)) | (repeat (first | assumption | refine fs_up hL rfl ?_ | refine fs_up hLJ rfl ?_))
  · refine pc_if ?_ ?_
    · refine pc_b (q_MD_qPartTold (L := L) (LJ := LJ) (I0 := I0) (J0 := J0) (sub_t (by decide) hL) (sub_t (by decide) hLJ) (by repeat (first | assumption | refine fs_up hL rfl ?_ | refine fs_up hLJ rfl ?_))) (fun r3 hr3 => ?_)
      refine pc_if ?_ ?_
      · refine pc_b (q_MD_qGoesOn (L := L) (LJ := LJ) (I0 := I0) (J0 := J0) (sub_t (by decide) hL) (sub_t (by decide) hLJ) (by repeat (first | assumption | refine fs_up hL rfl ?_ | refine fs_up hLJ rfl ?_))) (fun r5 hr5 => ?_)
        refine pc_if ?_ ?_
        · refine pc_s ?_
          first | trivial | (refine ⟨?_, ?_⟩ <;> repeat (first | assumption | refine fs_up hL rfl ?_ | refine fs_up hLJ rfl ?_)) | (repeat (first | assumption | refine fs_up hL rfl ?_ | refine fs_up hLJ rfl ?_))
        · refine pc_s ?_
          first | trivial | (refine ⟨?_, ?_⟩ <;> repeat (first | assumption | refine fs_up hL rfl ?_ | refine fs_up hLJ rfl ?_)) | (repeat (first | assumption | refine fs_up hL rfl ?_ | refine fs_up hLJ rfl ?_))
      · refine pc_s ?_
        first | trivial | (refine ⟨?_, ?_⟩ <;> repeat (first | assumption | refine fs_up hL rfl ?_ | refine fs_up hLJ rfl ?_)) | (repeat (first | assumption | refine fs_up hL rfl ?_ | refine fs_up hLJ rfl ?_))
    · refine pc_s ?_
      first | trivial | (refine ⟨?_, ?_⟩ <;> repeat (first | assumption | refine fs_up hL rfl ?_ | refine fs_up hLJ rfl ?_)) | (repeat (first | assumption | refine fs_up hL rfl ?_ | refine fs_up hLJ rfl ?_))
abbrev L_MD_qSums_53 : List (Nat × Option Nat) := [(177, some 92), (177, some 94), (244, none)]
abbrev K_MD_qSums_53 : List (Nat × Option Nat) := []
theorem q_MD_qSums_53 {L LJ : List (Nat × Option Nat)} {I0 : MI} {J0 : MJ} {I : MI} {v1 : Int32} (hL : subL L_MD_qSums_53 L = true) (hLJ : subL K_MD_qSums_53 LJ = true) (hI : fsL L I I0) : pc (F_MD_qSums_53 I v1) (Sum.elim (fun r : MI => fsL L r I0) (fun r : MI => fsL L r I0)) := by
  unfold F_MD_qSums_53
  refine pc_if ?_ ?_
  · refine pc_if ?_ ?_
    · refine pc_s ?_
      first | trivial | (refine ⟨?_, ?_⟩ <;> repeat (first | assumption | refine fs_up hL rfl ?_ | refine fs_up hLJ rfl ?_)) | (repeat (first | assumption | refine fs_up hL rfl ?_ | refine fs_up hLJ rfl ?_))
    · refine pc_b (q_MD_qDrops (L := L) (LJ := LJ) (I0 := I0) (J0 := J0) (sub_t (by decide) hL) (sub_t (by decide) hLJ) (by repeat (first | assumption | refine fs_up hL rfl ?_ | refine fs_up hLJ rfl ?_))) (fun r3 hr3 => ?_)
      refine pc_s ?_
      first | trivial | (refine ⟨?_, ?_⟩ <;> repeat (first | assumption | refine fs_up hL rfl ?_ | refine fs_up hLJ rfl ?_)) | (repeat (first | assumption | refine fs_up hL rfl ?_ | refine fs_up hLJ rfl ?_))
  · refine pc_s ?_
    first | trivial | (refine ⟨?_, ?_⟩ <;> repeat (first | assumption | refine fs_up hL rfl ?_ | refine fs_up hLJ rfl ?_)) | (repeat (first | assumption | refine fs_up hL rfl ?_ | refine fs_up hLJ rfl ?_))
abbrev L_MD_qSums : List (Nat × Option Nat) := [(177, some 2), (177, some 4), (177, some 5), (177, some 6), (177, some 10), (177, some 92), (177, some 94), (177, some 95), (177, some 96), (244, none), (245, none)]
abbrev K_MD_qSums : List (Nat × Option Nat) := []
theorem q_MD_qSums {L LJ : List (Nat × Option Nat)} {I0 : MI} {J0 : MJ} {I : MI} (hL : subL L_MD_qSums L = true) (hLJ : subL K_MD_qSums LJ = true) (hI : fsL L I I0) : pc (F_MD_qSums I) (fun r : MI => fsL L r I0) := by
  unfold F_MD_qSums
  refine pc_b (pc_wl (fun s : Int32 × MI => fsL L s.2 I0) (fun s hs => by exact (q_MD_qSums_15 (L := L) (LJ := LJ) (I0 := I0) (J0 := J0) (sub_t (by decide) hL) (sub_t (by decide) hLJ) (by repeat (first | assumption | refine fs_up hL rfl ?_ | refine fs_up hLJ rfl ?_)))) (by first | trivial | (refine ⟨?_, ?_⟩ <;> repeat (first | assumption | refine fs_up hL rfl ?_ | refine fs_up hLJ rfl ?_)) | (repeat (first | assumption | refine fs_up hL rfl ?_ | refine fs_up hLJ rfl ?_)))) (fun t1 ht1 => ?_)
  refine pc_b (pc_wl (fun s : MI => fsL L s I0) (fun s hs => by exact (q_MD_qSums_53 (L := L) (LJ := LJ) (I0 := I0) (J0 := J0) (sub_t (by decide) hL) (sub_t (by decide) hLJ) (by repeat (first | assumption | refine fs_up hL rfl ?_ | refine fs_up hLJ rfl ?_)))) (by first | trivial | (refine ⟨?_, ?_⟩ <;> repeat (first | assumption | refine fs_up hL rfl ?_ | refine fs_up hLJ rfl ?_)) | (repeat (first | assumption | refine fs_up hL rfl ?_ | refine fs_up hLJ rfl ?_)))) (fun t2 ht2 => ?_)
  refine pc_s ?_
  first | trivial | (refine ⟨?_, ?_⟩ <;> repeat (first | assumption | refine fs_up hL rfl ?_ | refine fs_up hLJ rfl ?_)) | (repeat (first | assumption | refine fs_up hL rfl ?_ | refine fs_up hLJ rfl ?_))
abbrev L_MD_qDropsNots_0 : List (Nat × Option Nat) := [(177, some 92), (177, some 94), (177, some 95), (244, none)]
abbrev K_MD_qDropsNots_0 : List (Nat × Option Nat) := []
theorem q_MD_qDropsNots_0 {L LJ : List (Nat × Option Nat)} {I0 : MI} {J0 : MJ} {I : MI} (hL : subL L_MD_qDropsNots_0 L = true) (hLJ : subL K_MD_qDropsNots_0 LJ = true) (hI : fsL L I I0) : pc (F_MD_qDropsNots_0 I) (Sum.elim (fun r : MI => fsL L r I0) (fun r : MI => fsL L r I0)) := by
  unfold F_MD_qDropsNots_0
  refine pc_if ?_ ?_
  · refine pc_b' (fun r2 => ?_)
    refine pc_if ?_ ?_
    · refine pc_s ?_
      first | trivial | (refine ⟨?_, ?_⟩ <;> repeat (first | assumption | refine fs_up hL rfl ?_ | refine fs_up hLJ rfl ?_)) | (repeat (first | assumption | refine fs_up hL rfl ?_ | refine fs_up hLJ rfl ?_))
    · refine pc_b (q_MD_qDrops (L := L) (LJ := LJ) (I0 := I0) (J0 := J0) (sub_t (by decide) hL) (sub_t (by decide) hLJ) (by repeat (first | assumption | refine fs_up hL rfl ?_ | refine fs_up hLJ rfl ?_))) (fun r4 hr4 => ?_)
      refine pc_s ?_
      first | trivial | (refine ⟨?_, ?_⟩ <;> repeat (first | assumption | refine fs_up hL rfl ?_ | refine fs_up hLJ rfl ?_)) | (repeat (first | assumption | refine fs_up hL rfl ?_ | refine fs_up hLJ rfl ?_))
  · refine pc_s ?_
    first | trivial | (refine ⟨?_, ?_⟩ <;> repeat (first | assumption | refine fs_up hL rfl ?_ | refine fs_up hLJ rfl ?_)) | (repeat (first | assumption | refine fs_up hL rfl ?_ | refine fs_up hLJ rfl ?_))
abbrev L_MD_qDropsNots : List (Nat × Option Nat) := [(177, some 92), (177, some 94), (177, some 95), (244, none)]
abbrev K_MD_qDropsNots : List (Nat × Option Nat) := []
theorem q_MD_qDropsNots {L LJ : List (Nat × Option Nat)} {I0 : MI} {J0 : MJ} {I : MI} (hL : subL L_MD_qDropsNots L = true) (hLJ : subL K_MD_qDropsNots LJ = true) (hI : fsL L I I0) : pc (F_MD_qDropsNots I) (fun r : MI => fsL L r I0) := by
  unfold F_MD_qDropsNots
  refine pc_b (pc_wl (fun s : MI => fsL L s I0) (fun s hs => by exact (q_MD_qDropsNots_0 (L := L) (LJ := LJ) (I0 := I0) (J0 := J0) (sub_t (by decide) hL) (sub_t (by decide) hLJ) (by repeat (first | assumption | refine fs_up hL rfl ?_ | refine fs_up hLJ rfl ?_)))) (by first | trivial | (refine ⟨?_, ?_⟩ <;> repeat (first | assumption | refine fs_up hL rfl ?_ | refine fs_up hLJ rfl ?_)) | (repeat (first | assumption | refine fs_up hL rfl ?_ | refine fs_up hLJ rfl ?_)))) (fun t1 ht1 => ?_)
  refine pc_s ?_
  first | trivial | (refine ⟨?_, ?_⟩ <;> repeat (first | assumption | refine fs_up hL rfl ?_ | refine fs_up hLJ rfl ?_)) | (repeat (first | assumption | refine fs_up hL rfl ?_ | refine fs_up hLJ rfl ?_))
abbrev L_MD_qFact_63 : List (Nat × Option Nat) := [(177, some 2), (177, some 4), (177, some 5), (177, some 6), (177, some 10), (177, some 92), (177, some 94), (177, some 95), (177, some 96), (244, none), (245, none)]
abbrev K_MD_qFact_63 : List (Nat × Option Nat) := []
theorem q_MD_qFact_63 {L LJ : List (Nat × Option Nat)} {I0 : MI} {J0 : MJ} {I : MI} {v1 : Int32} (hL : subL L_MD_qFact_63 L = true) (hLJ : subL K_MD_qFact_63 LJ = true) (hI : fsL L I I0) : pc (F_MD_qFact_63 I v1) (fun r : MI => fsL L r I0) := by
  unfold F_MD_qFact_63
  refine pc_b (q_MD_qSums (L := L) (LJ := LJ) (I0 := I0) (J0 := J0) (sub_t (by decide) hL) (sub_t (by decide) hLJ) (by repeat (first | assumption | refine fs_up hL rfl ?_ | refine fs_up hLJ rfl ?_))) (fun r1 hr1 => ?_)
  refine pc_if ?_ ?_
  · refine pc_b (q_MD_qCode (L := L) (LJ := LJ) (I0 := I0) (J0 := J0) (sub_t (by decide) hL) (sub_t (by decide) hLJ) (by repeat (first | assumption | refine fs_up hL rfl ?_ | refine fs_up hLJ rfl ?_))) (fun r6 hr6 => ?_)
    refine pc_s ?_
    first | trivial | (refine ⟨?_, ?_⟩ <;> repeat (first | assumption | refine fs_up hL rfl ?_ | refine fs_up hLJ rfl ?_)) | (repeat (first | assumption | refine fs_up hL rfl ?_ | refine fs_up hLJ rfl ?_))
  · refine pc_if ?_ ?_
    · refine pc_b (q_MD_qCode (L := L) (LJ := LJ) (I0 := I0) (J0 := J0) (sub_t (by decide) hL) (sub_t (by decide) hLJ) (by repeat (first | assumption | refine fs_up hL rfl ?_ | refine fs_up hLJ rfl ?_))) (fun r5 hr5 => ?_)
      refine pc_s ?_
      first | trivial | (refine ⟨?_, ?_⟩ <;> repeat (first | assumption | refine fs_up hL rfl ?_ | refine fs_up hLJ rfl ?_)) | (repeat (first | assumption | refine fs_up hL rfl ?_ | refine fs_up hLJ rfl ?_))
    · refine pc_b (q_MD_qCode (L := L) (LJ := LJ) (I0 := I0) (J0 := J0) (sub_t (by decide) hL) (sub_t (by decide) hLJ) (by repeat (first | assumption | refine fs_up hL rfl ?_ | refine fs_up hLJ rfl ?_))) (fun r4 hr4 => ?_)
      refine pc_s ?_
      first | trivial | (refine ⟨?_, ?_⟩ <;> repeat (first | assumption | refine fs_up hL rfl ?_ | refine fs_up hLJ rfl ?_)) | (repeat (first | assumption | refine fs_up hL rfl ?_ | refine fs_up hLJ rfl ?_))
abbrev L_MD_qFact : List (Nat × Option Nat) := [(177, some 2), (177, some 4), (177, some 5), (177, some 6), (177, some 10), (177, some 92), (177, some 94), (177, some 95), (177, some 96), (244, none), (245, none)]
abbrev K_MD_qFact : List (Nat × Option Nat) := []
theorem q_MD_qFact {L LJ : List (Nat × Option Nat)} {I0 : MI} {J0 : MJ} {I : MI} (hL : subL L_MD_qFact L = true) (hLJ : subL K_MD_qFact LJ = true) (hI : fsL L I I0) : pc (F_MD_qFact I) (fun r : MI => fsL L r I0) := by
  unfold F_MD_qFact
  refine pc_b (q_MD_takes (L := L) (LJ := LJ) (I0 := I0) (J0 := J0) (sub_t (by decide) hL) (sub_t (by decide) hLJ) (by repeat (first | assumption | refine fs_up hL rfl ?_ | refine fs_up hLJ rfl ?_))) (fun r1 hr1 => ?_)
  refine pc_if ?_ ?_
  · refine pc_b (q_MD_qSums (L := L) (LJ := LJ) (I0 := I0) (J0 := J0) (sub_t (by decide) hL) (sub_t (by decide) hLJ) (by repeat (first | assumption | refine fs_up hL rfl ?_ | refine fs_up hLJ rfl ?_))) (fun r3 hr3 => ?_)
    refine pc_if ?_ ?_
    · refine pc_b (q_MD_look (L := L) (LJ := LJ) (I0 := I0) (J0 := J0) (sub_t (by decide) hL) (sub_t (by decide) hLJ) (by repeat (first | assumption | refine fs_up hL rfl ?_ | refine fs_up hLJ rfl ?_))) (fun r5 hr5 => ?_)
      refine pc_if ?_ ?_
      · exact (q_MD_qFact_63 (L := L) (LJ := LJ) (I0 := I0) (J0 := J0) (sub_t (by decide) hL) (sub_t (by decide) hLJ) (by repeat (first | assumption | refine fs_up hL rfl ?_ | refine fs_up hLJ rfl ?_)))
      · refine pc_if ?_ ?_
        · exact (q_MD_qFact_63 (L := L) (LJ := LJ) (I0 := I0) (J0 := J0) (sub_t (by decide) hL) (sub_t (by decide) hLJ) (by repeat (first | assumption | refine fs_up hL rfl ?_ | refine fs_up hLJ rfl ?_)))
        · refine pc_if ?_ ?_
          · exact (q_MD_qFact_63 (L := L) (LJ := LJ) (I0 := I0) (J0 := J0) (sub_t (by decide) hL) (sub_t (by decide) hLJ) (by repeat (first | assumption | refine fs_up hL rfl ?_ | refine fs_up hLJ rfl ?_)))
          · refine pc_b (q_MD_fail (L := L) (LJ := LJ) (I0 := I0) (J0 := J0) (sub_t (by decide) hL) (sub_t (by decide) hLJ) (by repeat (first | assumption | refine fs_up hL rfl ?_ | refine fs_up hLJ rfl ?_))) (fun r9 hr9 => ?_)
            refine pc_s ?_
            first | trivial | (refine ⟨?_, ?_⟩ <;> repeat (first | assumption | refine fs_up hL rfl ?_ | refine fs_up hLJ rfl ?_)) | (repeat (first | assumption | refine fs_up hL rfl ?_ | refine fs_up hLJ rfl ?_))
    · refine pc_s ?_
      first | trivial | (refine ⟨?_, ?_⟩ <;> repeat (first | assumption | refine fs_up hL rfl ?_ | refine fs_up hLJ rfl ?_)) | (repeat (first | assumption | refine fs_up hL rfl ?_ | refine fs_up hLJ rfl ?_))
  · refine pc_b (q_MD_qCode (L := L) (LJ := LJ) (I0 := I0) (J0 := J0) (sub_t (by decide) hL) (sub_t (by decide) hLJ) (by repeat (first | assumption | refine fs_up hL rfl ?_ | refine fs_up hLJ rfl ?_))) (fun r10 hr10 => ?_)
    refine pc_s ?_
    first | trivial | (refine ⟨?_, ?_⟩ <;> repeat (first | assumption | refine fs_up hL rfl ?_ | refine fs_up hLJ rfl ?_)) | (repeat (first | assumption | refine fs_up hL rfl ?_ | refine fs_up hLJ rfl ?_))
abbrev L_MD_qGoesOnTest_33 : List (Nat × Option Nat) := [(177, some 92), (177, some 94), (244, none)]
abbrev K_MD_qGoesOnTest_33 : List (Nat × Option Nat) := []
theorem q_MD_qGoesOnTest_33 {L LJ : List (Nat × Option Nat)} {I0 : MI} {J0 : MJ} {I : MI} (hL : subL L_MD_qGoesOnTest_33 L = true) (hLJ : subL K_MD_qGoesOnTest_33 LJ = true) (hI : fsL L I I0) : pc (F_MD_qGoesOnTest_33 I) (Sum.elim (fun r : MI => fsL L r I0) (fun r : MI => fsL L r I0)) := by
  unfold F_MD_qGoesOnTest_33
  refine pc_b' (fun r1 => ?_)
  refine pc_if ?_ ?_
  · refine pc_b (q_MD_qDrops (L := L) (LJ := LJ) (I0 := I0) (J0 := J0) (sub_t (by decide) hL) (sub_t (by decide) hLJ) (by repeat (first | assumption | refine fs_up hL rfl ?_ | refine fs_up hLJ rfl ?_))) (fun r3 hr3 => ?_)
    refine pc_s ?_
    first | trivial | (refine ⟨?_, ?_⟩ <;> repeat (first | assumption | refine fs_up hL rfl ?_ | refine fs_up hLJ rfl ?_)) | (repeat (first | assumption | refine fs_up hL rfl ?_ | refine fs_up hLJ rfl ?_))
  · refine pc_s ?_
    first | trivial | (refine ⟨?_, ?_⟩ <;> repeat (first | assumption | refine fs_up hL rfl ?_ | refine fs_up hLJ rfl ?_)) | (repeat (first | assumption | refine fs_up hL rfl ?_ | refine fs_up hLJ rfl ?_))
abbrev L_MD_qGoesOnTest_0 : List (Nat × Option Nat) := [(177, some 2), (177, some 92), (177, some 94), (177, some 95), (244, none)]
abbrev K_MD_qGoesOnTest_0 : List (Nat × Option Nat) := []
theorem q_MD_qGoesOnTest_0 {L LJ : List (Nat × Option Nat)} {I0 : MI} {J0 : MJ} {I : MI} (hL : subL L_MD_qGoesOnTest_0 L = true) (hLJ : subL K_MD_qGoesOnTest_0 LJ = true) (hI : fsL L I I0) : pc (F_MD_qGoesOnTest_0 I) (Sum.elim (fun r : MI => fsL L r I0) (fun r : MI => fsL L r I0)) := by
  unfold F_MD_qGoesOnTest_0
  refine pc_if ?_ ?_
  · refine pc_b (q_MD_look (L := L) (LJ := LJ) (I0 := I0) (J0 := J0) (sub_t (by decide) hL) (sub_t (by decide) hLJ) (by repeat (first | assumption | refine fs_up hL rfl ?_ | refine fs_up hLJ rfl ?_))) (fun r2 hr2 => ?_)
    refine pc_if ?_ ?_
    · refine pc_b' (fun r4 => ?_)
      refine pc_if ?_ ?_
      · refine pc_s ?_
        first | trivial | (refine ⟨?_, ?_⟩ <;> repeat (first | assumption | refine fs_up hL rfl ?_ | refine fs_up hLJ rfl ?_)) | (repeat (first | assumption | refine fs_up hL rfl ?_ | refine fs_up hLJ rfl ?_))
      · refine pc_b (pc_wl (fun s : MI => fsL L s I0) (fun s hs => by exact (q_MD_qGoesOnTest_33 (L := L) (LJ := LJ) (I0 := I0) (J0 := J0) (sub_t (by decide) hL) (sub_t (by decide) hLJ) (by repeat (first | assumption | refine fs_up hL rfl ?_ | refine fs_up hLJ rfl ?_)))) (by first | trivial | (refine ⟨?_, ?_⟩ <;> repeat (first | assumption | refine fs_up hL rfl ?_ | refine fs_up hLJ rfl ?_)) | (repeat (first | assumption | refine fs_up hL rfl ?_ | refine fs_up hLJ rfl ?_)))) (fun t6 ht6 => ?_)
        refine pc_b (q_MD_qDropsNots (L := L) (LJ := LJ) (I0 := I0) (J0 := J0) (sub_t (by decide) hL) (sub_t (by decide) hLJ) (by repeat (first | assumption | refine fs_up hL rfl ?_ | refine fs_up hLJ rfl ?_))) (fun r7 hr7 => ?_)
        refine pc_s ?_
        first | trivial | (refine ⟨?_, ?_⟩ <;> repeat (first | assumption | refine fs_up hL rfl ?_ | refine fs_up hLJ rfl ?_)) | (repeat (first | assumption | refine fs_up hL rfl ?_ | refine fs_up hLJ rfl ?_))
    · refine pc_s ?_
      first | trivial | (refine ⟨?_, ?_⟩ <;> repeat (first | assumption | refine fs_up hL rfl ?_ | refine fs_up hLJ rfl ?_)) | (repeat (first | assumption | refine fs_up hL rfl ?_ | refine fs_up hLJ rfl ?_))
  · refine pc_s ?_
    first | trivial | (refine ⟨?_, ?_⟩ <;> repeat (first | assumption | refine fs_up hL rfl ?_ | refine fs_up hLJ rfl ?_)) | (repeat (first | assumption | refine fs_up hL rfl ?_ | refine fs_up hLJ rfl ?_))
abbrev L_MD_qGoesOnTest_137 : List (Nat × Option Nat) := [(177, some 92), (177, some 94), (244, none)]
abbrev K_MD_qGoesOnTest_137 : List (Nat × Option Nat) := []
theorem q_MD_qGoesOnTest_137 {L LJ : List (Nat × Option Nat)} {I0 : MI} {J0 : MJ} {I : MI} (hL : subL L_MD_qGoesOnTest_137 L = true) (hLJ : subL K_MD_qGoesOnTest_137 LJ = true) (hI : fsL L I I0) : pc (F_MD_qGoesOnTest_137 I) (Sum.elim (fun r : MI => fsL L r I0) (fun r : MI => fsL L r I0)) := by
  unfold F_MD_qGoesOnTest_137
  refine pc_b' (fun r1 => ?_)
  refine pc_if ?_ ?_
  · refine pc_b' (fun r4 => ?_)
    refine pc_if ?_ ?_
    · refine pc_s ?_
      first | trivial | (refine ⟨?_, ?_⟩ <;> repeat (first | assumption | refine fs_up hL rfl ?_ | refine fs_up hLJ rfl ?_)) | (repeat (first | assumption | refine fs_up hL rfl ?_ | refine fs_up hLJ rfl ?_))
    · refine pc_b (q_MD_qDrops (L := L) (LJ := LJ) (I0 := I0) (J0 := J0) (sub_t (by decide) hL) (sub_t (by decide) hLJ) (by repeat (first | assumption | refine fs_up hL rfl ?_ | refine fs_up hLJ rfl ?_))) (fun r6 hr6 => ?_)
      refine pc_s ?_
      first | trivial | (refine ⟨?_, ?_⟩ <;> repeat (first | assumption | refine fs_up hL rfl ?_ | refine fs_up hLJ rfl ?_)) | (repeat (first | assumption | refine fs_up hL rfl ?_ | refine fs_up hLJ rfl ?_))
  · refine pc_b (q_MD_qDrops (L := L) (LJ := LJ) (I0 := I0) (J0 := J0) (sub_t (by decide) hL) (sub_t (by decide) hLJ) (by repeat (first | assumption | refine fs_up hL rfl ?_ | refine fs_up hLJ rfl ?_))) (fun r3 hr3 => ?_)
    refine pc_s ?_
    first | trivial | (refine ⟨?_, ?_⟩ <;> repeat (first | assumption | refine fs_up hL rfl ?_ | refine fs_up hLJ rfl ?_)) | (repeat (first | assumption | refine fs_up hL rfl ?_ | refine fs_up hLJ rfl ?_))
abbrev L_MD_qGoesOnTest_87 : List (Nat × Option Nat) := [(177, some 92), (177, some 94), (244, none)]
abbrev K_MD_qGoesOnTest_87 : List (Nat × Option Nat) := []
theorem q_MD_qGoesOnTest_87 {L LJ : List (Nat × Option Nat)} {I0 : MI} {J0 : MJ} {I : MI} (hL : subL L_MD_qGoesOnTest_87 L = true) (hLJ : subL K_MD_qGoesOnTest_87 LJ = true) (hI : fsL L I I0) : pc (F_MD_qGoesOnTest_87 I) (Sum.elim (fun r : MI => fsL L r I0) (fun r : MI => fsL L r I0)) := by
  unfold F_MD_qGoesOnTest_87
  refine pc_b' (fun r1 => ?_)
  refine pc_if ?_ ?_
  · refine pc_s ?_
    first | trivial | (refine ⟨?_, ?_⟩ <;> repeat (first | assumption | refine fs_up hL rfl ?_ | refine fs_up hLJ rfl ?_)) | (repeat (first | assumption | refine fs_up hL rfl ?_ | refine fs_up hLJ rfl ?_))
  · refine pc_b (q_MD_qDrops (L := L) (LJ := LJ) (I0 := I0) (J0 := J0) (sub_t (by decide) hL) (sub_t (by decide) hLJ) (by repeat (first | assumption | refine fs_up hL rfl ?_ | refine fs_up hLJ rfl ?_))) (fun r3 hr3 => ?_)
    refine pc_s ?_
    first | trivial | (refine ⟨?_, ?_⟩ <;> repeat (first | assumption | refine fs_up hL rfl ?_ | refine fs_up hLJ rfl ?_)) | (repeat (first | assumption | refine fs_up hL rfl ?_ | refine fs_up hLJ rfl ?_))
abbrev L_MD_qGoesOnTest_76 : List (Nat × Option Nat) := [(177, some 2), (177, some 4), (177, some 5), (177, some 6), (177, some 92), (177, some 94), (244, none), (245, none)]
abbrev K_MD_qGoesOnTest_76 : List (Nat × Option Nat) := []
theorem q_MD_qGoesOnTest_76 {L LJ : List (Nat × Option Nat)} {I0 : MI} {J0 : MJ} {I : MI} (hL : subL L_MD_qGoesOnTest_76 L = true) (hLJ : subL K_MD_qGoesOnTest_76 LJ = true) (hI : fsL L I I0) : pc (F_MD_qGoesOnTest_76 I) (fun r : Int32 × MI => fsL L r.2 I0) := by
  unfold F_MD_qGoesOnTest_76
  refine pc_b (q_MD_takes (L := L) (LJ := LJ) (I0 := I0) (J0 := J0) (sub_t (by decide) hL) (sub_t (by decide) hLJ) (by repeat (first | assumption | refine fs_up hL rfl ?_ | refine fs_up hLJ rfl ?_))) (fun r1 hr1 => ?_)
  refine pc_if ?_ ?_
  · refine pc_b (q_MD_takes (L := L) (LJ := LJ) (I0 := I0) (J0 := J0) (sub_t (by decide) hL) (sub_t (by decide) hLJ) (by repeat (first | assumption | refine fs_up hL rfl ?_ | refine fs_up hLJ rfl ?_))) (fun r3 hr3 => ?_)
    refine pc_if ?_ ?_
    · refine pc_if ?_ ?_
      · refine pc_b' (fun r6 => ?_)
        refine pc_if ?_ ?_
        · refine pc_s ?_
          first | trivial | (refine ⟨?_, ?_⟩ <;> repeat (first | assumption | refine fs_up hL rfl ?_ | refine fs_up hLJ rfl ?_)) | (repeat (first | assumption | refine fs_up hL rfl ?_ | refine fs_up hLJ rfl ?_))
        · refine pc_b (q_MD_fail (L := L) (LJ := LJ) (I0 := I0) (J0 := J0) (sub_t (by decide) hL) (sub_t (by decide) hLJ) (by repeat (first | assumption | refine fs_up hL rfl ?_ | refine fs_up hLJ rfl ?_))) (fun r8 hr8 => ?_)
          refine pc_s ?_
          first | trivial | (refine ⟨?_, ?_⟩ <;> repeat (first | assumption | refine fs_up hL rfl ?_ | refine fs_up hLJ rfl ?_)) | (repeat (first | assumption | refine fs_up hL rfl ?_ | refine fs_up hLJ rfl ?_))
      · refine pc_s ?_
        first | trivial | (refine ⟨?_, ?_⟩ <;> repeat (first | assumption | refine fs_up hL rfl ?_ | refine fs_up hLJ rfl ?_)) | (repeat (first | assumption | refine fs_up hL rfl ?_ | refine fs_up hLJ rfl ?_))
    · refine pc_b (pc_wl (fun s : MI => fsL L s I0) (fun s hs => by exact (q_MD_qGoesOnTest_137 (L := L) (LJ := LJ) (I0 := I0) (J0 := J0) (sub_t (by decide) hL) (sub_t (by decide) hLJ) (by repeat (first | assumption | refine fs_up hL rfl ?_ | refine fs_up hLJ rfl ?_)))) (by first | trivial | (refine ⟨?_, ?_⟩ <;> repeat (first | assumption | refine fs_up hL rfl ?_ | refine fs_up hLJ rfl ?_)) | (repeat (first | assumption | refine fs_up hL rfl ?_ | refine fs_up hLJ rfl ?_)))) (fun t9 ht9 => ?_)
      refine pc_gd ?_
      refine pc_s ?_
      first | trivial | (refine ⟨?_, ?_⟩ <;> repeat (first | assumption | refine fs_up hL rfl ?_ | refine fs_up hLJ rfl ?_)) | (repeat (first | assumption | refine fs_up hL rfl ?_ | refine fs_up hLJ rfl ?_))
  · refine pc_b (pc_wl (fun s : MI => fsL L s I0) (fun s hs => by exact (q_MD_qGoesOnTest_87 (L := L) (LJ := LJ) (I0 := I0) (J0 := J0) (sub_t (by decide) hL) (sub_t (by decide) hLJ) (by repeat (first | assumption | refine fs_up hL rfl ?_ | refine fs_up hLJ rfl ?_)))) (by first | trivial | (refine ⟨?_, ?_⟩ <;> repeat (first | assumption | refine fs_up hL rfl ?_ | refine fs_up hLJ rfl ?_)) | (repeat (first | assumption | refine fs_up hL rfl ?_ | refine fs_up hLJ rfl ?_)))) (fun t11 ht11 => ?_)
    refine pc_gd ?_
    refine pc_s ?_
    first | trivial | (refine ⟨?_, ?_⟩ <;> repeat (first | assumption | refine fs_up hL rfl ?_ | refine fs_up hLJ rfl ?_)) | (repeat (first | assumption | refine fs_up hL rfl ?_ | refine fs_up hLJ rfl ?_))
abbrev L_MD_qGoesOnTest : List (Nat × Option Nat) := [(177, some 2), (177, some 4), (177, some 5), (177, some 6), (177, some 92), (177, some 94), (177, some 95), (244, none), (245, none)]
abbrev K_MD_qGoesOnTest : List (Nat × Option Nat) := []
theorem q_MD_qGoesOnTest {L LJ : List (Nat × Option Nat)} {I0 : MI} {J0 : MJ} {I : MI} (hL : subL L_MD_qGoesOnTest L = true) (hLJ : subL K_MD_qGoesOnTest LJ = true) (hI : fsL L I I0) : pc (F_MD_qGoesOnTest I) (fun r : Int32 × MI => fsL L r.2 I0) := by
  unfold F_MD_qGoesOnTest
  refine pc_b (pc_wl (fun s : MI => fsL L s I0) (fun s hs => by exact (q_MD_qGoesOnTest_0 (L := L) (LJ := LJ) (I0 := I0) (J0 := J0) (sub_t (by decide) hL) (sub_t (by decide) hLJ) (by repeat (first | assumption | refine fs_up hL rfl ?_ | refine fs_up hLJ rfl ?_)))) (by first | trivial | (refine ⟨?_, ?_⟩ <;> repeat (first | assumption | refine fs_up hL rfl ?_ | refine fs_up hLJ rfl ?_)) | (repeat (first | assumption | refine fs_up hL rfl ?_ | refine fs_up hLJ rfl ?_)))) (fun t1 ht1 => ?_)
  exact (q_MD_qGoesOnTest_76 (L := L) (LJ := LJ) (I0 := I0) (J0 := J0) (sub_t (by decide) hL) (sub_t (by decide) hLJ) (by repeat (first | assumption | refine fs_up hL rfl ?_ | refine fs_up hLJ rfl ?_)))
abbrev L_MD_qTest_2 : List (Nat × Option Nat) := [(177, some 2), (177, some 4), (177, some 5), (177, some 6), (177, some 10), (177, some 92), (177, some 94), (177, some 95), (177, some 96), (244, none), (245, none)]
abbrev K_MD_qTest_2 : List (Nat × Option Nat) := []
theorem q_MD_qTest_2 {L LJ : List (Nat × Option Nat)} {I0 : MI} {J0 : MJ} {I : MI} {v1 : Int32} (hL : subL L_MD_qTest_2 L = true) (hLJ : subL K_MD_qTest_2 LJ = true) (hI : fsL L I I0) : pc (F_MD_qTest_2 I v1) (Sum.elim (fun r : Int32 × MI => fsL L r.2 I0) (fun r : MI => fsL L r I0)) := by
  unfold F_MD_qTest_2
  refine pc_if ?_ ?_
  · refine pc_s ?_
    first | trivial | (refine ⟨?_, ?_⟩ <;> repeat (first | assumption | refine fs_up hL rfl ?_ | refine fs_up hLJ rfl ?_)) | (repeat (first | assumption | refine fs_up hL rfl ?_ | refine fs_up hLJ rfl ?_))
  · refine pc_if ?_ ?_
    · refine pc_b (q_MD_look (L := L) (LJ := LJ) (I0 := I0) (J0 := J0) (sub_t (by decide) hL) (sub_t (by decide) hLJ) (by repeat (first | assumption | refine fs_up hL rfl ?_ | refine fs_up hLJ rfl ?_))) (fun r3 hr3 => ?_)
      refine pc_if ?_ ?_
      · refine pc_b (q_MD_qOpens (L := L) (LJ := LJ) (I0 := I0) (J0 := J0) (sub_t (by decide) hL) (sub_t (by decide) hLJ) (by repeat (first | assumption | refine fs_up hL rfl ?_ | refine fs_up hLJ rfl ?_))) (fun r14 hr14 => ?_)
        refine pc_s ?_
        first | trivial | (refine ⟨?_, ?_⟩ <;> repeat (first | assumption | refine fs_up hL rfl ?_ | refine fs_up hLJ rfl ?_)) | (repeat (first | assumption | refine fs_up hL rfl ?_ | refine fs_up hLJ rfl ?_))
      · refine pc_b (q_MD_isHere (L := L) (LJ := LJ) (I0 := I0) (J0 := J0) (sub_t (by decide) hL) (sub_t (by decide) hLJ) (by repeat (first | assumption | refine fs_up hL rfl ?_ | refine fs_up hLJ rfl ?_))) (fun r5 hr5 => ?_)
        refine pc_if ?_ ?_
        · refine pc_b (q_MD_qFact (L := L) (LJ := LJ) (I0 := I0) (J0 := J0) (sub_t (by decide) hL) (sub_t (by decide) hLJ) (by repeat (first | assumption | refine fs_up hL rfl ?_ | refine fs_up hLJ rfl ?_))) (fun r7 hr7 => ?_)
          refine pc_b (q_MD_qDropsNots (L := L) (LJ := LJ) (I0 := I0) (J0 := J0) (sub_t (by decide) hL) (sub_t (by decide) hLJ) (by repeat (first | assumption | refine fs_up hL rfl ?_ | refine fs_up hLJ rfl ?_))) (fun r8 hr8 => ?_)
          refine pc_if ?_ ?_
          · refine pc_b (q_MD_qGoesOnTest (L := L) (LJ := LJ) (I0 := I0) (J0 := J0) (sub_t (by decide) hL) (sub_t (by decide) hLJ) (by repeat (first | assumption | refine fs_up hL rfl ?_ | refine fs_up hLJ rfl ?_))) (fun r10 hr10 => ?_)
            refine pc_if ?_ ?_
            · refine pc_s ?_
              first | trivial | (refine ⟨?_, ?_⟩ <;> repeat (first | assumption | refine fs_up hL rfl ?_ | refine fs_up hLJ rfl ?_)) | (repeat (first | assumption | refine fs_up hL rfl ?_ | refine fs_up hLJ rfl ?_))
            · refine pc_s ?_
              first | trivial | (refine ⟨?_, ?_⟩ <;> repeat (first | assumption | refine fs_up hL rfl ?_ | refine fs_up hLJ rfl ?_)) | (repeat (first | assumption | refine fs_up hL rfl ?_ | refine fs_up hLJ rfl ?_))
          · refine pc_s ?_
            first | trivial | (refine ⟨?_, ?_⟩ <;> repeat (first | assumption | refine fs_up hL rfl ?_ | refine fs_up hLJ rfl ?_)) | (repeat (first | assumption | refine fs_up hL rfl ?_ | refine fs_up hLJ rfl ?_))
        · refine pc_b (q_MD_qOpens (L := L) (LJ := LJ) (I0 := I0) (J0 := J0) (sub_t (by decide) hL) (sub_t (by decide) hLJ) (by repeat (first | assumption | refine fs_up hL rfl ?_ | refine fs_up hLJ rfl ?_))) (fun r12 hr12 => ?_)
          refine pc_b (q_MD_asks (L := L) (LJ := LJ) (I0 := I0) (J0 := J0) (sub_t (by decide) hL) (sub_t (by decide) hLJ) (by repeat (first | assumption | refine fs_up hL rfl ?_ | refine fs_up hLJ rfl ?_))) (fun r13 hr13 => ?_)
          refine pc_s ?_
          first | trivial | (refine ⟨?_, ?_⟩ <;> repeat (first | assumption | refine fs_up hL rfl ?_ | refine fs_up hLJ rfl ?_)) | (repeat (first | assumption | refine fs_up hL rfl ?_ | refine fs_up hLJ rfl ?_))
    · refine pc_s ?_
      first | trivial | (refine ⟨?_, ?_⟩ <;> repeat (first | assumption | refine fs_up hL rfl ?_ | refine fs_up hLJ rfl ?_)) | (repeat (first | assumption | refine fs_up hL rfl ?_ | refine fs_up hLJ rfl ?_))
abbrev L_MD_qTest_110 : List (Nat × Option Nat) := [(177, some 92), (177, some 94), (244, none)]
abbrev K_MD_qTest_110 : List (Nat × Option Nat) := []
theorem q_MD_qTest_110 {L LJ : List (Nat × Option Nat)} {I0 : MI} {J0 : MJ} {I : MI} (hL : subL L_MD_qTest_110 L = true) (hLJ : subL K_MD_qTest_110 LJ = true) (hI : fsL L I I0) : pc (F_MD_qTest_110 I) (Sum.elim (fun r : MI => fsL L r I0) (fun r : MI => fsL L r I0)) := by
  unfold F_MD_qTest_110
  refine pc_if ?_ ?_
  · refine pc_if ?_ ?_
    · refine pc_s ?_
      first | trivial | (refine ⟨?_, ?_⟩ <;> repeat (first | assumption | refine fs_up hL rfl ?_ | refine fs_up hLJ rfl ?_)) | (repeat (first | assumption | refine fs_up hL rfl ?_ | refine fs_up hLJ rfl ?_))
    · refine pc_b (q_MD_qDrops (L := L) (LJ := LJ) (I0 := I0) (J0 := J0) (sub_t (by decide) hL) (sub_t (by decide) hLJ) (by repeat (first | assumption | refine fs_up hL rfl ?_ | refine fs_up hLJ rfl ?_))) (fun r3 hr3 => ?_)
      refine pc_s ?_
      first | trivial | (refine ⟨?_, ?_⟩ <;> repeat (first | assumption | refine fs_up hL rfl ?_ | refine fs_up hLJ rfl ?_)) | (repeat (first | assumption | refine fs_up hL rfl ?_ | refine fs_up hLJ rfl ?_))
  · refine pc_s ?_
    first | trivial | (refine ⟨?_, ?_⟩ <;> repeat (first | assumption | refine fs_up hL rfl ?_ | refine fs_up hLJ rfl ?_)) | (repeat (first | assumption | refine fs_up hL rfl ?_ | refine fs_up hLJ rfl ?_))
abbrev L_MD_qTest : List (Nat × Option Nat) := [(177, some 2), (177, some 4), (177, some 5), (177, some 6), (177, some 10), (177, some 92), (177, some 94), (177, some 95), (177, some 96), (244, none), (245, none)]
abbrev K_MD_qTest : List (Nat × Option Nat) := []
theorem q_MD_qTest {L LJ : List (Nat × Option Nat)} {I0 : MI} {J0 : MJ} {I : MI} (hL : subL L_MD_qTest L = true) (hLJ : subL K_MD_qTest LJ = true) (hI : fsL L I I0) : pc (F_MD_qTest I) (fun r : MI => fsL L r I0) := by
  unfold F_MD_qTest
  refine pc_b (pc_wl (fun s : Int32 × MI => fsL L s.2 I0) (fun s hs => by exact (q_MD_qTest_2 (L := L) (LJ := LJ) (I0 := I0) (J0 := J0) (sub_t (by decide) hL) (sub_t (by decide) hLJ) (by repeat (first | assumption | refine fs_up hL rfl ?_ | refine fs_up hLJ rfl ?_)))) (by first | trivial | (refine ⟨?_, ?_⟩ <;> repeat (first | assumption | refine fs_up hL rfl ?_ | refine fs_up hLJ rfl ?_)) | (repeat (first | assumption | refine fs_up hL rfl ?_ | refine fs_up hLJ rfl ?_)))) (fun t1 ht1 => ?_)
  refine pc_b (pc_wl (fun s : MI => fsL L s I0) (fun s hs => by exact (q_MD_qTest_110 (L := L) (LJ := LJ) (I0 := I0) (J0 := J0) (sub_t (by decide) hL) (sub_t (by decide) hLJ) (by repeat (first | assumption | refine fs_up hL rfl ?_ | refine fs_up hLJ rfl ?_)))) (by first | trivial | (refine ⟨?_, ?_⟩ <;> repeat (first | assumption | refine fs_up hL rfl ?_ | refine fs_up hLJ rfl ?_)) | (repeat (first | assumption | refine fs_up hL rfl ?_ | refine fs_up hLJ rfl ?_)))) (fun t2 ht2 => ?_)
  refine pc_s ?_
  first | trivial | (refine ⟨?_, ?_⟩ <;> repeat (first | assumption | refine fs_up hL rfl ?_ | refine fs_up hLJ rfl ?_)) | (repeat (first | assumption | refine fs_up hL rfl ?_ | refine fs_up hLJ rfl ?_))
abbrev L_MD_codesTold_92 : List (Nat × Option Nat) := [(177, some 47), (212, none)]
abbrev K_MD_codesTold_92 : List (Nat × Option Nat) := []
theorem q_MD_codesTold_92 {L LJ : List (Nat × Option Nat)} {I0 : MI} {J0 : MJ} {I : MI} {v1 : Int32} {v3 : Int32} (hL : subL L_MD_codesTold_92 L = true) (hLJ : subL K_MD_codesTold_92 LJ = true) (hI : fsL L I I0) : pc (F_MD_codesTold_92 I v1 v3) (Sum.elim (fun r : Int32 × MI => fsL L r.2 I0) (fun r : MI => fsL L r I0)) := by
  unfold F_MD_codesTold_92
  refine pc_if ?_ ?_
  · refine pc_s ?_
    first | trivial | (refine ⟨?_, ?_⟩ <;> repeat (first | assumption | refine fs_up hL rfl ?_ | refine fs_up hLJ rfl ?_)) | (repeat (first | assumption | refine fs_up hL rfl ?_ | refine fs_up hLJ rfl ?_))
  · refine pc_gd ?_
    refine pc_gd ?_
    refine pc_s ?_
    first | trivial | (refine ⟨?_, ?_⟩ <;> repeat (first | assumption | refine fs_up hL rfl ?_ | refine fs_up hLJ rfl ?_)) | (repeat (first | assumption | refine fs_up hL rfl ?_ | refine fs_up hLJ rfl ?_))
abbrev L_MD_codesTold_72 : List (Nat × Option Nat) := [(177, some 47), (210, none), (211, none), (212, none)]
abbrev K_MD_codesTold_72 : List (Nat × Option Nat) := []
theorem q_MD_codesTold_72 {L LJ : List (Nat × Option Nat)} {I0 : MI} {J0 : MJ} {I : MI} {v1 : Int32} (hL : subL L_MD_codesTold_72 L = true) (hLJ : subL K_MD_codesTold_72 LJ = true) (hI : fsL L I I0) : pc (F_MD_codesTold_72 I v1) (fun r : MI => fsL L r I0) := by
  unfold F_MD_codesTold_72
  refine pc_if ?_ ?_
  · refine pc_gd ?_
    refine pc_b (pc_wl (fun s : Int32 × MI => fsL L s.2 I0) (fun s hs => by exact (q_MD_codesTold_92 (L := L) (LJ := LJ) (I0 := I0) (J0 := J0) (sub_t (by decide) hL) (sub_t (by decide) hLJ) (by repeat (first | assumption | refine fs_up hL rfl ?_ | refine fs_up hLJ rfl ?_)))) (by first | trivial | (refine ⟨?_, ?_⟩ <;> repeat (first | assumption | refine fs_up hL rfl ?_ | refine fs_up hLJ rfl ?_)) | (repeat (first | assumption | refine fs_up hL rfl ?_ | refine fs_up hLJ rfl ?_)))) (fun t3 ht3 => ?_)
    refine pc_gd ?_
    refine pc_s ?_
    first | trivial | (refine ⟨?_, ?_⟩ <;> repeat (first | assumption | refine fs_up hL rfl ?_ | refine fs_up hLJ rfl ?_)) | (repeat (first | assumption | refine fs_up hL rfl ?_ | refine fs_up hLJ rfl ?_))
  · refine pc_s ?_
    first | trivial | (refine ⟨?_, ?_⟩ <;> repeat (first | assumption | refine fs_up hL rfl ?_ | refine fs_up hLJ rfl ?_)) | (repeat (first | assumption | refine fs_up hL rfl ?_ | refine fs_up hLJ rfl ?_))
abbrev L_MD_codesTold_23 : List (Nat × Option Nat) := [(177, some 2), (177, some 4), (177, some 5), (177, some 6), (177, some 10), (177, some 47), (177, some 50), (177, some 92), (177, some 94), (177, some 95), (177, some 96), (210, none), (211, none), (212, none), (244, none), (245, none)]
abbrev K_MD_codesTold_23 : List (Nat × Option Nat) := []
theorem q_MD_codesTold_23 {L LJ : List (Nat × Option Nat)} {I0 : MI} {J0 : MJ} {I : MI} {v1 : Int32} (hL : subL L_MD_codesTold_23 L = true) (hLJ : subL K_MD_codesTold_23 LJ = true) (hI : fsL L I I0) : pc (F_MD_codesTold_23 I v1) (fun r : MI => fsL L r I0) := by
  unfold F_MD_codesTold_23
  refine pc_if ?_ ?_
  · refine pc_bnd ?_
    refine pc_if ?_ ?_
    · refine pc_b (q_MD_qTest (L := L) (LJ := LJ) (I0 := I0) (J0 := J0) (sub_t (by decide) hL) (sub_t (by decide) hLJ) (by repeat (first | assumption | refine fs_up hL rfl ?_ | refine fs_up hLJ rfl ?_))) (fun r5 hr5 => ?_)
      exact (q_MD_codesTold_72 (L := L) (LJ := LJ) (I0 := I0) (J0 := J0) (sub_t (by decide) hL) (sub_t (by decide) hLJ) (by repeat (first | assumption | refine fs_up hL rfl ?_ | refine fs_up hLJ rfl ?_)))
    · refine pc_b (q_MD_qSums (L := L) (LJ := LJ) (I0 := I0) (J0 := J0) (sub_t (by decide) hL) (sub_t (by decide) hLJ) (by repeat (first | assumption | refine fs_up hL rfl ?_ | refine fs_up hLJ rfl ?_))) (fun r4 hr4 => ?_)
      exact (q_MD_codesTold_72 (L := L) (LJ := LJ) (I0 := I0) (J0 := J0) (sub_t (by decide) hL) (sub_t (by decide) hLJ) (by repeat (first | assumption | refine fs_up hL rfl ?_ | refine fs_up hLJ rfl ?_)))
  · refine pc_s ?_
    first | trivial | (refine ⟨?_, ?_⟩ <;> repeat (first | assumption | refine fs_up hL rfl ?_ | refine fs_up hLJ rfl ?_)) | (repeat (first | assumption | refine fs_up hL rfl ?_ | refine fs_up hLJ rfl ?_))
abbrev L_MD_codesTold : List (Nat × Option Nat) := [(177, some 2), (177, some 4), (177, some 5), (177, some 6), (177, some 10), (177, some 47), (177, some 50), (177, some 92), (177, some 94), (177, some 95), (177, some 96), (210, none), (211, none), (212, none), (244, none), (245, none)]
abbrev K_MD_codesTold : List (Nat × Option Nat) := []
theorem q_MD_codesTold {L LJ : List (Nat × Option Nat)} {I0 : MI} {J0 : MJ} {I : MI} {v1 : Int32} {v2 : Int32} (hL : subL L_MD_codesTold L = true) (hLJ : subL K_MD_codesTold LJ = true) (hI : fsL L I I0) : pc (F_MD_codesTold I v1 v2) (fun r : MI => fsL L r I0) := by
  unfold F_MD_codesTold
  refine pc_if ?_ ?_
  · refine pc_gd ?_
    refine pc_if ?_ ?_
    · exact (q_MD_codesTold_23 (L := L) (LJ := LJ) (I0 := I0) (J0 := J0) (sub_t (by decide) hL) (sub_t (by decide) hLJ) (by repeat (first | assumption | refine fs_up hL rfl ?_ | refine fs_up hLJ rfl ?_)))
    · refine pc_b (q_MD_fail (L := L) (LJ := LJ) (I0 := I0) (J0 := J0) (sub_t (by decide) hL) (sub_t (by decide) hLJ) (by repeat (first | assumption | refine fs_up hL rfl ?_ | refine fs_up hLJ rfl ?_))) (fun r4 hr4 => ?_)
      exact (q_MD_codesTold_23 (L := L) (LJ := LJ) (I0 := I0) (J0 := J0) (sub_t (by decide) hL) (sub_t (by decide) hLJ) (by repeat (first | assumption | refine fs_up hL rfl ?_ | refine fs_up hLJ rfl ?_)))
  · exact (q_MD_codesTold_23 (L := L) (LJ := LJ) (I0 := I0) (J0 := J0) (sub_t (by decide) hL) (sub_t (by decide) hLJ) (by repeat (first | assumption | refine fs_up hL rfl ?_ | refine fs_up hLJ rfl ?_)))
abbrev L_MD_isOwnHere_223 : List (Nat × Option Nat) := [(177, some 2)]
abbrev K_MD_isOwnHere_223 : List (Nat × Option Nat) := []
theorem q_MD_isOwnHere_223 {L LJ : List (Nat × Option Nat)} {I0 : MI} {J0 : MJ} {I : MI} {y0 : Int32} (hL : subL L_MD_isOwnHere_223 L = true) (hLJ : subL K_MD_isOwnHere_223 LJ = true) (hI : fsL L I I0) : pc (F_MD_isOwnHere_223 I y0) (fun r : Int32 × MI => fsL L r.2 I0) := by
  unfold F_MD_isOwnHere_223
  refine pc_if ?_ ?_
  · refine pc_b (q_MD_isHere (L := L) (LJ := LJ) (I0 := I0) (J0 := J0) (sub_t (by decide) hL) (sub_t (by decide) hLJ) (by repeat (first | assumption | refine fs_up hL rfl ?_ | refine fs_up hLJ rfl ?_))) (fun r2 hr2 => ?_)
    refine pc_if ?_ ?_
    · refine pc_b (q_MD_isHere (L := L) (LJ := LJ) (I0 := I0) (J0 := J0) (sub_t (by decide) hL) (sub_t (by decide) hLJ) (by repeat (first | assumption | refine fs_up hL rfl ?_ | refine fs_up hLJ rfl ?_))) (fun r4 hr4 => ?_)
      refine pc_if ?_ ?_
      · refine pc_b (q_MD_isHere (L := L) (LJ := LJ) (I0 := I0) (J0 := J0) (sub_t (by decide) hL) (sub_t (by decide) hLJ) (by repeat (first | assumption | refine fs_up hL rfl ?_ | refine fs_up hLJ rfl ?_))) (fun r6 hr6 => ?_)
        refine pc_if ?_ ?_
        · refine pc_b (q_MD_isHere (L := L) (LJ := LJ) (I0 := I0) (J0 := J0) (sub_t (by decide) hL) (sub_t (by decide) hLJ) (by repeat (first | assumption | refine fs_up hL rfl ?_ | refine fs_up hLJ rfl ?_))) (fun r8 hr8 => ?_)
          refine pc_if ?_ ?_
          · refine pc_b (q_MD_isHere (L := L) (LJ := LJ) (I0 := I0) (J0 := J0) (sub_t (by decide) hL) (sub_t (by decide) hLJ) (by repeat (first | assumption | refine fs_up hL rfl ?_ | refine fs_up hLJ rfl ?_))) (fun r10 hr10 => ?_)
            refine pc_if ?_ ?_
            · refine pc_b (q_MD_isHere (L := L) (LJ := LJ) (I0 := I0) (J0 := J0) (sub_t (by decide) hL) (sub_t (by decide) hLJ) (by repeat (first | assumption | refine fs_up hL rfl ?_ | refine fs_up hLJ rfl ?_))) (fun r12 hr12 => ?_)
              refine pc_if ?_ ?_
              · refine pc_s ?_
                first | trivial | (refine ⟨?_, ?_⟩ <;> repeat (first | assumption | refine fs_up hL rfl ?_ | refine fs_up hLJ rfl ?_)) | (repeat (first | assumption | refine fs_up hL rfl ?_ | refine fs_up hLJ rfl ?_))
              · refine pc_s ?_
                first | trivial | (refine ⟨?_, ?_⟩ <;> repeat (first | assumption | refine fs_up hL rfl ?_ | refine fs_up hLJ rfl ?_)) | (repeat (first | assumption | refine fs_up hL rfl ?_ | refine fs_up hLJ rfl ?_))
            · refine pc_s ?_
              first | trivial | (refine ⟨?_, ?_⟩ <;> repeat (first | assumption | refine fs_up hL rfl ?_ | refine fs_up hLJ rfl ?_)) | (repeat (first | assumption | refine fs_up hL rfl ?_ | refine fs_up hLJ rfl ?_))
          · refine pc_s ?_
            first | trivial | (refine ⟨?_, ?_⟩ <;> repeat (first | assumption | refine fs_up hL rfl ?_ | refine fs_up hLJ rfl ?_)) | (repeat (first | assumption | refine fs_up hL rfl ?_ | refine fs_up hLJ rfl ?_))
        · refine pc_s ?_
          first | trivial | (refine ⟨?_, ?_⟩ <;> repeat (first | assumption | refine fs_up hL rfl ?_ | refine fs_up hLJ rfl ?_)) | (repeat (first | assumption | refine fs_up hL rfl ?_ | refine fs_up hLJ rfl ?_))
      · refine pc_s ?_
        first | trivial | (refine ⟨?_, ?_⟩ <;> repeat (first | assumption | refine fs_up hL rfl ?_ | refine fs_up hLJ rfl ?_)) | (repeat (first | assumption | refine fs_up hL rfl ?_ | refine fs_up hLJ rfl ?_))
    · refine pc_s ?_
      first | trivial | (refine ⟨?_, ?_⟩ <;> repeat (first | assumption | refine fs_up hL rfl ?_ | refine fs_up hLJ rfl ?_)) | (repeat (first | assumption | refine fs_up hL rfl ?_ | refine fs_up hLJ rfl ?_))
  · refine pc_s ?_
    first | trivial | (refine ⟨?_, ?_⟩ <;> repeat (first | assumption | refine fs_up hL rfl ?_ | refine fs_up hLJ rfl ?_)) | (repeat (first | assumption | refine fs_up hL rfl ?_ | refine fs_up hLJ rfl ?_))
abbrev L_MD_isOwnHere_218 : List (Nat × Option Nat) := [(177, some 2)]
abbrev K_MD_isOwnHere_218 : List (Nat × Option Nat) := []
theorem q_MD_isOwnHere_218 {L LJ : List (Nat × Option Nat)} {I0 : MI} {J0 : MJ} {I : MI} (hL : subL L_MD_isOwnHere_218 L = true) (hLJ : subL K_MD_isOwnHere_218 LJ = true) (hI : fsL L I I0) : pc (F_MD_isOwnHere_218 I) (fun r : Int32 × MI => fsL L r.2 I0) := by
  unfold F_MD_isOwnHere_218
  exact (q_MD_isOwnHere_223 (L := L) (LJ := LJ) (I0 := I0) (J0 := J0) (sub_t (by decide) hL) (sub_t (by decide) hLJ) (by repeat (first | assumption | refine fs_up hL rfl ?_ | refine fs_up hLJ rfl ?_)))
abbrev L_MD_isOwnHere_147 : List (Nat × Option Nat) := [(177, some 2)]
abbrev K_MD_isOwnHere_147 : List (Nat × Option Nat) := []
theorem q_MD_isOwnHere_147 {L LJ : List (Nat × Option Nat)} {I0 : MI} {J0 : MJ} {I : MI} {y0 : Int32} (hL : subL L_MD_isOwnHere_147 L = true) (hLJ : subL K_MD_isOwnHere_147 LJ = true) (hI : fsL L I I0) : pc (F_MD_isOwnHere_147 I y0) (fun r : Int32 × MI => fsL L r.2 I0) := by
  unfold F_MD_isOwnHere_147
  refine pc_if ?_ ?_
  · refine pc_b (q_MD_isHere (L := L) (LJ := LJ) (I0 := I0) (J0 := J0) (sub_t (by decide) hL) (sub_t (by decide) hLJ) (by repeat (first | assumption | refine fs_up hL rfl ?_ | refine fs_up hLJ rfl ?_))) (fun r2 hr2 => ?_)
    refine pc_if ?_ ?_
    · refine pc_b (q_MD_isHere (L := L) (LJ := LJ) (I0 := I0) (J0 := J0) (sub_t (by decide) hL) (sub_t (by decide) hLJ) (by repeat (first | assumption | refine fs_up hL rfl ?_ | refine fs_up hLJ rfl ?_))) (fun r4 hr4 => ?_)
      refine pc_if ?_ ?_
      · refine pc_b (q_MD_isHere (L := L) (LJ := LJ) (I0 := I0) (J0 := J0) (sub_t (by decide) hL) (sub_t (by decide) hLJ) (by repeat (first | assumption | refine fs_up hL rfl ?_ | refine fs_up hLJ rfl ?_))) (fun r6 hr6 => ?_)
        refine pc_if ?_ ?_
        · refine pc_b (q_MD_isHere (L := L) (LJ := LJ) (I0 := I0) (J0 := J0) (sub_t (by decide) hL) (sub_t (by decide) hLJ) (by repeat (first | assumption | refine fs_up hL rfl ?_ | refine fs_up hLJ rfl ?_))) (fun r8 hr8 => ?_)
          refine pc_if ?_ ?_
          · refine pc_b (q_MD_isHere (L := L) (LJ := LJ) (I0 := I0) (J0 := J0) (sub_t (by decide) hL) (sub_t (by decide) hLJ) (by repeat (first | assumption | refine fs_up hL rfl ?_ | refine fs_up hLJ rfl ?_))) (fun r10 hr10 => ?_)
            refine pc_if ?_ ?_
            · refine pc_b (q_MD_isHere (L := L) (LJ := LJ) (I0 := I0) (J0 := J0) (sub_t (by decide) hL) (sub_t (by decide) hLJ) (by repeat (first | assumption | refine fs_up hL rfl ?_ | refine fs_up hLJ rfl ?_))) (fun r12 hr12 => ?_)
              refine pc_if ?_ ?_
              · exact (q_MD_isOwnHere_223 (L := L) (LJ := LJ) (I0 := I0) (J0 := J0) (sub_t (by decide) hL) (sub_t (by decide) hLJ) (by repeat (first | assumption | refine fs_up hL rfl ?_ | refine fs_up hLJ rfl ?_)))
              · exact (q_MD_isOwnHere_218 (L := L) (LJ := LJ) (I0 := I0) (J0 := J0) (sub_t (by decide) hL) (sub_t (by decide) hLJ) (by repeat (first | assumption | refine fs_up hL rfl ?_ | refine fs_up hLJ rfl ?_)))
            · exact (q_MD_isOwnHere_218 (L := L) (LJ := LJ) (I0 := I0) (J0 := J0) (sub_t (by decide) hL) (sub_t (by decide) hLJ) (by repeat (first | assumption | refine fs_up hL rfl ?_ | refine fs_up hLJ rfl ?_)))
          · exact (q_MD_isOwnHere_218 (L := L) (LJ := LJ) (I0 := I0) (J0 := J0) (sub_t (by decide) hL) (sub_t (by decide) hLJ) (by repeat (first | assumption | refine fs_up hL rfl ?_ | refine fs_up hLJ rfl ?_)))
        · exact (q_MD_isOwnHere_218 (L := L) (LJ := LJ) (I0 := I0) (J0 := J0) (sub_t (by decide) hL) (sub_t (by decide) hLJ) (by repeat (first | assumption | refine fs_up hL rfl ?_ | refine fs_up hLJ rfl ?_)))
      · exact (q_MD_isOwnHere_218 (L := L) (LJ := LJ) (I0 := I0) (J0 := J0) (sub_t (by decide) hL) (sub_t (by decide) hLJ) (by repeat (first | assumption | refine fs_up hL rfl ?_ | refine fs_up hLJ rfl ?_)))
    · exact (q_MD_isOwnHere_218 (L := L) (LJ := LJ) (I0 := I0) (J0 := J0) (sub_t (by decide) hL) (sub_t (by decide) hLJ) (by repeat (first | assumption | refine fs_up hL rfl ?_ | refine fs_up hLJ rfl ?_)))
  · exact (q_MD_isOwnHere_218 (L := L) (LJ := LJ) (I0 := I0) (J0 := J0) (sub_t (by decide) hL) (sub_t (by decide) hLJ) (by repeat (first | assumption | refine fs_up hL rfl ?_ | refine fs_up hLJ rfl ?_)))
abbrev L_MD_isOwnHere_142 : List (Nat × Option Nat) := [(177, some 2)]
abbrev K_MD_isOwnHere_142 : List (Nat × Option Nat) := []
theorem q_MD_isOwnHere_142 {L LJ : List (Nat × Option Nat)} {I0 : MI} {J0 : MJ} {I : MI} (hL : subL L_MD_isOwnHere_142 L = true) (hLJ : subL K_MD_isOwnHere_142 LJ = true) (hI : fsL L I I0) : pc (F_MD_isOwnHere_142 I) (fun r : Int32 × MI => fsL L r.2 I0) := by
  unfold F_MD_isOwnHere_142
  exact (q_MD_isOwnHere_147 (L := L) (LJ := LJ) (I0 := I0) (J0 := J0) (sub_t (by decide) hL) (sub_t (by decide) hLJ) (by repeat (first | assumption | refine fs_up hL rfl ?_ | refine fs_up hLJ rfl ?_)))
abbrev L_MD_isOwnHere_71 : List (Nat × Option Nat) := [(177, some 2)]
abbrev K_MD_isOwnHere_71 : List (Nat × Option Nat) := []
theorem q_MD_isOwnHere_71 {L LJ : List (Nat × Option Nat)} {I0 : MI} {J0 : MJ} {I : MI} {y0 : Int32} (hL : subL L_MD_isOwnHere_71 L = true) (hLJ : subL K_MD_isOwnHere_71 LJ = true) (hI : fsL L I I0) : pc (F_MD_isOwnHere_71 I y0) (fun r : Int32 × MI => fsL L r.2 I0) := by
  unfold F_MD_isOwnHere_71
  refine pc_if ?_ ?_
  · refine pc_b (q_MD_isHere (L := L) (LJ := LJ) (I0 := I0) (J0 := J0) (sub_t (by decide) hL) (sub_t (by decide) hLJ) (by repeat (first | assumption | refine fs_up hL rfl ?_ | refine fs_up hLJ rfl ?_))) (fun r2 hr2 => ?_)
    refine pc_if ?_ ?_
    · refine pc_b (q_MD_isHere (L := L) (LJ := LJ) (I0 := I0) (J0 := J0) (sub_t (by decide) hL) (sub_t (by decide) hLJ) (by repeat (first | assumption | refine fs_up hL rfl ?_ | refine fs_up hLJ rfl ?_))) (fun r4 hr4 => ?_)
      refine pc_if ?_ ?_
      · refine pc_b (q_MD_isHere (L := L) (LJ := LJ) (I0 := I0) (J0 := J0) (sub_t (by decide) hL) (sub_t (by decide) hLJ) (by repeat (first | assumption | refine fs_up hL rfl ?_ | refine fs_up hLJ rfl ?_))) (fun r6 hr6 => ?_)
        refine pc_if ?_ ?_
        · refine pc_b (q_MD_isHere (L := L) (LJ := LJ) (I0 := I0) (J0 := J0) (sub_t (by decide) hL) (sub_t (by decide) hLJ) (by repeat (first | assumption | refine fs_up hL rfl ?_ | refine fs_up hLJ rfl ?_))) (fun r8 hr8 => ?_)
          refine pc_if ?_ ?_
          · refine pc_b (q_MD_isHere (L := L) (LJ := LJ) (I0 := I0) (J0 := J0) (sub_t (by decide) hL) (sub_t (by decide) hLJ) (by repeat (first | assumption | refine fs_up hL rfl ?_ | refine fs_up hLJ rfl ?_))) (fun r10 hr10 => ?_)
            refine pc_if ?_ ?_
            · refine pc_b (q_MD_isHere (L := L) (LJ := LJ) (I0 := I0) (J0 := J0) (sub_t (by decide) hL) (sub_t (by decide) hLJ) (by repeat (first | assumption | refine fs_up hL rfl ?_ | refine fs_up hLJ rfl ?_))) (fun r12 hr12 => ?_)
              refine pc_if ?_ ?_
              · exact (q_MD_isOwnHere_147 (L := L) (LJ := LJ) (I0 := I0) (J0 := J0) (sub_t (by decide) hL) (sub_t (by decide) hLJ) (by repeat (first | assumption | refine fs_up hL rfl ?_ | refine fs_up hLJ rfl ?_)))
              · exact (q_MD_isOwnHere_142 (L := L) (LJ := LJ) (I0 := I0) (J0 := J0) (sub_t (by decide) hL) (sub_t (by decide) hLJ) (by repeat (first | assumption | refine fs_up hL rfl ?_ | refine fs_up hLJ rfl ?_)))
            · exact (q_MD_isOwnHere_142 (L := L) (LJ := LJ) (I0 := I0) (J0 := J0) (sub_t (by decide) hL) (sub_t (by decide) hLJ) (by repeat (first | assumption | refine fs_up hL rfl ?_ | refine fs_up hLJ rfl ?_)))
          · exact (q_MD_isOwnHere_142 (L := L) (LJ := LJ) (I0 := I0) (J0 := J0) (sub_t (by decide) hL) (sub_t (by decide) hLJ) (by repeat (first | assumption | refine fs_up hL rfl ?_ | refine fs_up hLJ rfl ?_)))
        · exact (q_MD_isOwnHere_142 (L := L) (LJ := LJ) (I0 := I0) (J0 := J0) (sub_t (by decide) hL) (sub_t (by decide) hLJ) (by repeat (first | assumption | refine fs_up hL rfl ?_ | refine fs_up hLJ rfl ?_)))
      · exact (q_MD_isOwnHere_142 (L := L) (LJ := LJ) (I0 := I0) (J0 := J0) (sub_t (by decide) hL) (sub_t (by decide) hLJ) (by repeat (first | assumption | refine fs_up hL rfl ?_ | refine fs_up hLJ rfl ?_)))
    · exact (q_MD_isOwnHere_142 (L := L) (LJ := LJ) (I0 := I0) (J0 := J0) (sub_t (by decide) hL) (sub_t (by decide) hLJ) (by repeat (first | assumption | refine fs_up hL rfl ?_ | refine fs_up hLJ rfl ?_)))
  · exact (q_MD_isOwnHere_142 (L := L) (LJ := LJ) (I0 := I0) (J0 := J0) (sub_t (by decide) hL) (sub_t (by decide) hLJ) (by repeat (first | assumption | refine fs_up hL rfl ?_ | refine fs_up hLJ rfl ?_)))
abbrev L_MD_isOwnHere_66 : List (Nat × Option Nat) := [(177, some 2)]
abbrev K_MD_isOwnHere_66 : List (Nat × Option Nat) := []
theorem q_MD_isOwnHere_66 {L LJ : List (Nat × Option Nat)} {I0 : MI} {J0 : MJ} {I : MI} (hL : subL L_MD_isOwnHere_66 L = true) (hLJ : subL K_MD_isOwnHere_66 LJ = true) (hI : fsL L I I0) : pc (F_MD_isOwnHere_66 I) (fun r : Int32 × MI => fsL L r.2 I0) := by
  unfold F_MD_isOwnHere_66
  exact (q_MD_isOwnHere_71 (L := L) (LJ := LJ) (I0 := I0) (J0 := J0) (sub_t (by decide) hL) (sub_t (by decide) hLJ) (by repeat (first | assumption | refine fs_up hL rfl ?_ | refine fs_up hLJ rfl ?_)))
abbrev L_MD_isOwnHere : List (Nat × Option Nat) := [(177, some 2)]
abbrev K_MD_isOwnHere : List (Nat × Option Nat) := []
theorem q_MD_isOwnHere {L LJ : List (Nat × Option Nat)} {I0 : MI} {J0 : MJ} {I : MI} (hL : subL L_MD_isOwnHere L = true) (hLJ : subL K_MD_isOwnHere LJ = true) (hI : fsL L I I0) : pc (F_MD_isOwnHere I) (fun r : Int32 × MI => fsL L r.2 I0) := by
  unfold F_MD_isOwnHere
  refine pc_b (q_MD_isHere (L := L) (LJ := LJ) (I0 := I0) (J0 := J0) (sub_t (by decide) hL) (sub_t (by decide) hLJ) (by repeat (first | assumption | refine fs_up hL rfl ?_ | refine fs_up hLJ rfl ?_))) (fun r1 hr1 => ?_)
  refine pc_if ?_ ?_
  · refine pc_b (q_MD_isHere (L := L) (LJ := LJ) (I0 := I0) (J0 := J0) (sub_t (by decide) hL) (sub_t (by decide) hLJ) (by repeat (first | assumption | refine fs_up hL rfl ?_ | refine fs_up hLJ rfl ?_))) (fun r3 hr3 => ?_)
    refine pc_if ?_ ?_
    · refine pc_b (q_MD_isHere (L := L) (LJ := LJ) (I0 := I0) (J0 := J0) (sub_t (by decide) hL) (sub_t (by decide) hLJ) (by repeat (first | assumption | refine fs_up hL rfl ?_ | refine fs_up hLJ rfl ?_))) (fun r5 hr5 => ?_)
      refine pc_if ?_ ?_
      · refine pc_b (q_MD_isHere (L := L) (LJ := LJ) (I0 := I0) (J0 := J0) (sub_t (by decide) hL) (sub_t (by decide) hLJ) (by repeat (first | assumption | refine fs_up hL rfl ?_ | refine fs_up hLJ rfl ?_))) (fun r7 hr7 => ?_)
        refine pc_if ?_ ?_
        · refine pc_b (q_MD_isHere (L := L) (LJ := LJ) (I0 := I0) (J0 := J0) (sub_t (by decide) hL) (sub_t (by decide) hLJ) (by repeat (first | assumption | refine fs_up hL rfl ?_ | refine fs_up hLJ rfl ?_))) (fun r9 hr9 => ?_)
          refine pc_if ?_ ?_
          · refine pc_b (q_MD_isHere (L := L) (LJ := LJ) (I0 := I0) (J0 := J0) (sub_t (by decide) hL) (sub_t (by decide) hLJ) (by repeat (first | assumption | refine fs_up hL rfl ?_ | refine fs_up hLJ rfl ?_))) (fun r11 hr11 => ?_)
            refine pc_if ?_ ?_
            · exact (q_MD_isOwnHere_71 (L := L) (LJ := LJ) (I0 := I0) (J0 := J0) (sub_t (by decide) hL) (sub_t (by decide) hLJ) (by repeat (first | assumption | refine fs_up hL rfl ?_ | refine fs_up hLJ rfl ?_)))
            · exact (q_MD_isOwnHere_66 (L := L) (LJ := LJ) (I0 := I0) (J0 := J0) (sub_t (by decide) hL) (sub_t (by decide) hLJ) (by repeat (first | assumption | refine fs_up hL rfl ?_ | refine fs_up hLJ rfl ?_)))
          · exact (q_MD_isOwnHere_66 (L := L) (LJ := LJ) (I0 := I0) (J0 := J0) (sub_t (by decide) hL) (sub_t (by decide) hLJ) (by repeat (first | assumption | refine fs_up hL rfl ?_ | refine fs_up hLJ rfl ?_)))
        · exact (q_MD_isOwnHere_66 (L := L) (LJ := LJ) (I0 := I0) (J0 := J0) (sub_t (by decide) hL) (sub_t (by decide) hLJ) (by repeat (first | assumption | refine fs_up hL rfl ?_ | refine fs_up hLJ rfl ?_)))
      · exact (q_MD_isOwnHere_66 (L := L) (LJ := LJ) (I0 := I0) (J0 := J0) (sub_t (by decide) hL) (sub_t (by decide) hLJ) (by repeat (first | assumption | refine fs_up hL rfl ?_ | refine fs_up hLJ rfl ?_)))
    · exact (q_MD_isOwnHere_66 (L := L) (LJ := LJ) (I0 := I0) (J0 := J0) (sub_t (by decide) hL) (sub_t (by decide) hLJ) (by repeat (first | assumption | refine fs_up hL rfl ?_ | refine fs_up hLJ rfl ?_)))
  · exact (q_MD_isOwnHere_66 (L := L) (LJ := LJ) (I0 := I0) (J0 := J0) (sub_t (by decide) hL) (sub_t (by decide) hLJ) (by repeat (first | assumption | refine fs_up hL rfl ?_ | refine fs_up hLJ rfl ?_)))
abbrev L_MD_name_58 : List (Nat × Option Nat) := [(177, some 2), (177, some 5), (177, some 6)]
abbrev K_MD_name_58 : List (Nat × Option Nat) := []
theorem q_MD_name_58 {L LJ : List (Nat × Option Nat)} {I0 : MI} {J0 : MJ} {I : MI} {v1 : Int64} (hL : subL L_MD_name_58 L = true) (hLJ : subL K_MD_name_58 LJ = true) (hI : fsL L I I0) : pc (F_MD_name_58 I v1) (Sum.elim (fun r : Int64 × MI => fsL L r.2 I0) (Sum.elim (fun r : Int64 × MI => fsL L r.2 I0) (fun r : Int64 × MI => fsL L r.2 I0))) := by
  unfold F_MD_name_58
  refine pc_if ?_ ?_
  · refine pc_s ?_
    first | trivial | (refine ⟨?_, ?_⟩ <;> repeat (first | assumption | refine fs_up hL rfl ?_ | refine fs_up hLJ rfl ?_)) | (repeat (first | assumption | refine fs_up hL rfl ?_ | refine fs_up hLJ rfl ?_))
  · refine pc_gd ?_
    refine pc_b' (fun r3 => ?_)
    refine pc_if ?_ ?_
    · refine pc_s ?_
      first | trivial | (refine ⟨?_, ?_⟩ <;> repeat (first | assumption | refine fs_up hL rfl ?_ | refine fs_up hLJ rfl ?_)) | (repeat (first | assumption | refine fs_up hL rfl ?_ | refine fs_up hLJ rfl ?_))
    · refine pc_if ?_ ?_
      · refine pc_b (q_MD_fail (L := L) (LJ := LJ) (I0 := I0) (J0 := J0) (sub_t (by decide) hL) (sub_t (by decide) hLJ) (by repeat (first | assumption | refine fs_up hL rfl ?_ | refine fs_up hLJ rfl ?_))) (fun r8 hr8 => ?_)
        refine pc_s ?_
        first | trivial | (refine ⟨?_, ?_⟩ <;> repeat (first | assumption | refine fs_up hL rfl ?_ | refine fs_up hLJ rfl ?_)) | (repeat (first | assumption | refine fs_up hL rfl ?_ | refine fs_up hLJ rfl ?_))
      · refine pc_gd ?_
        refine pc_bnd ?_
        refine pc_s ?_
        first | trivial | (refine ⟨?_, ?_⟩ <;> repeat (first | assumption | refine fs_up hL rfl ?_ | refine fs_up hLJ rfl ?_)) | (repeat (first | assumption | refine fs_up hL rfl ?_ | refine fs_up hLJ rfl ?_))
abbrev L_MD_name : List (Nat × Option Nat) := [(177, some 2), (177, some 4), (177, some 5), (177, some 6), (177, some 35)]
abbrev K_MD_name : List (Nat × Option Nat) := []
theorem q_MD_name {L LJ : List (Nat × Option Nat)} {I0 : MI} {J0 : MJ} {I : MI} (hL : subL L_MD_name L = true) (hLJ : subL K_MD_name LJ = true) (hI : fsL L I I0) : pc (F_MD_name I) (fun r : Int64 × MI => fsL L r.2 I0) := by
  unfold F_MD_name
  refine pc_if ?_ ?_
  · refine pc_b (q_MD_look (L := L) (LJ := LJ) (I0 := I0) (J0 := J0) (sub_t (by decide) hL) (sub_t (by decide) hLJ) (by repeat (first | assumption | refine fs_up hL rfl ?_ | refine fs_up hLJ rfl ?_))) (fun r2 hr2 => ?_)
    refine pc_b' (fun r3 => ?_)
    refine pc_if ?_ ?_
    · refine pc_b (q_MD_fail (L := L) (LJ := LJ) (I0 := I0) (J0 := J0) (sub_t (by decide) hL) (sub_t (by decide) hLJ) (by repeat (first | assumption | refine fs_up hL rfl ?_ | refine fs_up hLJ rfl ?_))) (fun r5 hr5 => ?_)
      refine pc_s ?_
      first | trivial | (refine ⟨?_, ?_⟩ <;> repeat (first | assumption | refine fs_up hL rfl ?_ | refine fs_up hLJ rfl ?_)) | (repeat (first | assumption | refine fs_up hL rfl ?_ | refine fs_up hLJ rfl ?_))
    · refine pc_if ?_ ?_
      · refine pc_b (q_MD_fail (L := L) (LJ := LJ) (I0 := I0) (J0 := J0) (sub_t (by decide) hL) (sub_t (by decide) hLJ) (by repeat (first | assumption | refine fs_up hL rfl ?_ | refine fs_up hLJ rfl ?_))) (fun r7 hr7 => ?_)
        refine pc_s ?_
        first | trivial | (refine ⟨?_, ?_⟩ <;> repeat (first | assumption | refine fs_up hL rfl ?_ | refine fs_up hLJ rfl ?_)) | (repeat (first | assumption | refine fs_up hL rfl ?_ | refine fs_up hLJ rfl ?_))
      · refine pc_b (q_MD_isOwnHere (L := L) (LJ := LJ) (I0 := I0) (J0 := J0) (sub_t (by decide) hL) (sub_t (by decide) hLJ) (by repeat (first | assumption | refine fs_up hL rfl ?_ | refine fs_up hLJ rfl ?_))) (fun r8 hr8 => ?_)
        refine pc_if ?_ ?_
        · refine pc_b (pc_wl (fun s : Int64 × MI => fsL L s.2 I0) (fun s hs => by exact (q_MD_name_58 (L := L) (LJ := LJ) (I0 := I0) (J0 := J0) (sub_t (by decide) hL) (sub_t (by decide) hLJ) (by repeat (first | assumption | refine fs_up hL rfl ?_ | refine fs_up hLJ rfl ?_)))) (by first | trivial | (refine ⟨?_, ?_⟩ <;> repeat (first | assumption | refine fs_up hL rfl ?_ | refine fs_up hLJ rfl ?_)) | (repeat (first | assumption | refine fs_up hL rfl ?_ | refine fs_up hLJ rfl ?_)))) (fun q hq => ?_)
          rcases q with t10 | q
          · skip
            have ht10 := hq
            refine pc_s ?_
            first | trivial | (refine ⟨?_, ?_⟩ <;> repeat (first | assumption | refine fs_up hL rfl ?_ | refine fs_up hLJ rfl ?_)) | (repeat (first | assumption | refine fs_up hL rfl ?_ | refine fs_up hLJ rfl ?_))
          · show pc (some q) _
            refine pc_s ?_
            first | exact hq | first | trivial | (refine ⟨?_, ?_⟩ <;> repeat (first | assumption | refine fs_up hL rfl ?_ | refine fs_up hLJ rfl ?_)) | (repeat (first | assumption | refine fs_up hL rfl ?_ | refine fs_up hLJ rfl ?_))
        · refine pc_b (q_MD_fail (L := L) (LJ := LJ) (I0 := I0) (J0 := J0) (sub_t (by decide) hL) (sub_t (by decide) hLJ) (by repeat (first | assumption | refine fs_up hL rfl ?_ | refine fs_up hLJ rfl ?_))) (fun r11 hr11 => ?_)
          refine pc_s ?_
          first | trivial | (refine ⟨?_, ?_⟩ <;> repeat (first | assumption | refine fs_up hL rfl ?_ | refine fs_up hLJ rfl ?_)) | (repeat (first | assumption | refine fs_up hL rfl ?_ | refine fs_up hLJ rfl ?_))
  · refine pc_s ?_
    first | trivial | (refine ⟨?_, ?_⟩ <;> repeat (first | assumption | refine fs_up hL rfl ?_ | refine fs_up hLJ rfl ?_)) | (repeat (first | assumption | refine fs_up hL rfl ?_ | refine fs_up hLJ rfl ?_))
abbrev L_MD_fenceTold_145 : List (Nat × Option Nat) := [(209, none)]
abbrev K_MD_fenceTold_145 : List (Nat × Option Nat) := []
theorem q_MD_fenceTold_145 {L LJ : List (Nat × Option Nat)} {I0 : MI} {J0 : MJ} {I : MI} {v4 : Int32} {v6 : Int32} {v7 : Int32} (hL : subL L_MD_fenceTold_145 L = true) (hLJ : subL K_MD_fenceTold_145 LJ = true) (hI : fsL L I I0) : pc (F_MD_fenceTold_145 I v4 v6 v7) (Sum.elim (fun r : Int32 × MI => fsL L r.2 I0) (fun r : MI => fsL L r I0)) := by
  unfold F_MD_fenceTold_145
  refine pc_if ?_ ?_
  · refine pc_s ?_
    first | trivial | (refine ⟨?_, ?_⟩ <;> repeat (first | assumption | refine fs_up hL rfl ?_ | refine fs_up hLJ rfl ?_)) | (repeat (first | assumption | refine fs_up hL rfl ?_ | refine fs_up hLJ rfl ?_))
  · refine pc_gd ?_
    refine pc_s ?_
    first | trivial | (refine ⟨?_, ?_⟩ <;> repeat (first | assumption | refine fs_up hL rfl ?_ | refine fs_up hLJ rfl ?_)) | (repeat (first | assumption | refine fs_up hL rfl ?_ | refine fs_up hLJ rfl ?_))
abbrev L_MD_fenceTold_62 : List (Nat × Option Nat) := [(177, some 2), (177, some 4), (177, some 5), (177, some 6), (177, some 10), (205, none), (209, none)]
abbrev K_MD_fenceTold_62 : List (Nat × Option Nat) := [(206, none)]
theorem q_MD_fenceTold_62 {L LJ : List (Nat × Option Nat)} {I0 : MI} {J0 : MJ} {I : MI} {J : MJ} {v2 : Int64} (hL : subL L_MD_fenceTold_62 L = true) (hLJ : subL K_MD_fenceTold_62 LJ = true) (hI : fsL L I I0) (hJ : fsL LJ J J0) : pc (F_MD_fenceTold_62 I J v2) (fun r : MI × MJ => fsL L r.1 I0 ∧ fsL LJ r.2 J0) := by
  unfold F_MD_fenceTold_62
  refine pc_b (q_MD_asks (L := L) (LJ := LJ) (I0 := I0) (J0 := J0) (sub_t (by decide) hL) (sub_t (by decide) hLJ) (by repeat (first | assumption | refine fs_up hL rfl ?_ | refine fs_up hLJ rfl ?_))) (fun r1 hr1 => ?_)
  refine pc_b (q_MD_number (L := L) (LJ := LJ) (I0 := I0) (J0 := J0) (sub_t (by decide) hL) (sub_t (by decide) hLJ) (by repeat (first | assumption | refine fs_up hL rfl ?_ | refine fs_up hLJ rfl ?_))) (fun r2 hr2 => ?_)
  refine pc_b (q_MD_asks (L := L) (LJ := LJ) (I0 := I0) (J0 := J0) (sub_t (by decide) hL) (sub_t (by decide) hLJ) (by repeat (first | assumption | refine fs_up hL rfl ?_ | refine fs_up hLJ rfl ?_))) (fun r3 hr3 => ?_)
  refine pc_b (q_MD_number (L := L) (LJ := LJ) (I0 := I0) (J0 := J0) (sub_t (by decide) hL) (sub_t (by decide) hLJ) (by repeat (first | assumption | refine fs_up hL rfl ?_ | refine fs_up hLJ rfl ?_))) (fun r4 hr4 => ?_)
  refine pc_if ?_ ?_
  · refine pc_gd ?_
    refine pc_gd ?_
    refine pc_b (pc_wl (fun s : Int32 × MI => fsL L s.2 I0) (fun s hs => by exact (q_MD_fenceTold_145 (L := L) (LJ := LJ) (I0 := I0) (J0 := J0) (sub_t (by decide) hL) (sub_t (by decide) hLJ) (by repeat (first | assumption | refine fs_up hL rfl ?_ | refine fs_up hLJ rfl ?_)))) (by first | trivial | (refine ⟨?_, ?_⟩ <;> repeat (first | assumption | refine fs_up hL rfl ?_ | refine fs_up hLJ rfl ?_)) | (repeat (first | assumption | refine fs_up hL rfl ?_ | refine fs_up hLJ rfl ?_)))) (fun t8 ht8 => ?_)
    refine pc_s ?_
    first | trivial | (refine ⟨?_, ?_⟩ <;> repeat (first | assumption | refine fs_up hL rfl ?_ | refine fs_up hLJ rfl ?_)) | (repeat (first | assumption | refine fs_up hL rfl ?_ | refine fs_up hLJ rfl ?_))
  · refine pc_s ?_
    first | trivial | (refine ⟨?_, ?_⟩ <;> repeat (first | assumption | refine fs_up hL rfl ?_ | refine fs_up hLJ rfl ?_)) | (repeat (first | assumption | refine fs_up hL rfl ?_ | refine fs_up hLJ rfl ?_))
abbrev L_MD_fenceTold_24 : List (Nat × Option Nat) := [(177, some 2), (177, some 4), (177, some 5), (177, some 6), (177, some 10), (177, some 35), (205, none), (209, none)]
abbrev K_MD_fenceTold_24 : List (Nat × Option Nat) := [(206, none)]
theorem q_MD_fenceTold_24 {L LJ : List (Nat × Option Nat)} {I0 : MI} {J0 : MJ} {I : MI} {J : MJ} (hL : subL L_MD_fenceTold_24 L = true) (hLJ : subL K_MD_fenceTold_24 LJ = true) (hI : fsL L I I0) (hJ : fsL LJ J J0) : pc (F_MD_fenceTold_24 I J) (fun r : MI × MJ => fsL L r.1 I0 ∧ fsL LJ r.2 J0) := by
  unfold F_MD_fenceTold_24
  refine pc_if ?_ ?_
  · refine pc_b (q_MD_name (L := L) (LJ := LJ) (I0 := I0) (J0 := J0) (sub_t (by decide) hL) (sub_t (by decide) hLJ) (by repeat (first | assumption | refine fs_up hL rfl ?_ | refine fs_up hLJ rfl ?_))) (fun r2 hr2 => ?_)
    refine pc_if ?_ ?_
    · refine pc_b' (fun r4 => ?_)
      refine pc_if ?_ ?_
      · exact (q_MD_fenceTold_62 (L := L) (LJ := LJ) (I0 := I0) (J0 := J0) (sub_t (by decide) hL) (sub_t (by decide) hLJ) (by repeat (first | assumption | refine fs_up hL rfl ?_ | refine fs_up hLJ rfl ?_)) (by repeat (first | assumption | refine fs_up hL rfl ?_ | refine fs_up hLJ rfl ?_)))
      · refine pc_b (q_MD_fail (L := L) (LJ := LJ) (I0 := I0) (J0 := J0) (sub_t (by decide) hL) (sub_t (by decide) hLJ) (by repeat (first | assumption | refine fs_up hL rfl ?_ | refine fs_up hLJ rfl ?_))) (fun r6 hr6 => ?_)
        exact (q_MD_fenceTold_62 (L := L) (LJ := LJ) (I0 := I0) (J0 := J0) (sub_t (by decide) hL) (sub_t (by decide) hLJ) (by repeat (first | assumption | refine fs_up hL rfl ?_ | refine fs_up hLJ rfl ?_)) (by repeat (first | assumption | refine fs_up hL rfl ?_ | refine fs_up hLJ rfl ?_)))
    · exact (q_MD_fenceTold_62 (L := L) (LJ := LJ) (I0 := I0) (J0 := J0) (sub_t (by decide) hL) (sub_t (by decide) hLJ) (by repeat (first | assumption | refine fs_up hL rfl ?_ | refine fs_up hLJ rfl ?_)) (by repeat (first | assumption | refine fs_up hL rfl ?_ | refine fs_up hLJ rfl ?_)))
  · refine pc_s ?_
    first | trivial | (refine ⟨?_, ?_⟩ <;> repeat (first | assumption | refine fs_up hL rfl ?_ | refine fs_up hLJ rfl ?_)) | (repeat (first | assumption | refine fs_up hL rfl ?_ | refine fs_up hLJ rfl ?_))
abbrev L_MD_fenceTold : List (Nat × Option Nat) := [(177, some 2), (177, some 4), (177, some 5), (177, some 6), (177, some 10), (177, some 35), (205, none), (209, none)]
abbrev K_MD_fenceTold : List (Nat × Option Nat) := [(206, none)]
theorem q_MD_fenceTold {L LJ : List (Nat × Option Nat)} {I0 : MI} {J0 : MJ} {I : MI} {J : MJ} {v1 : Int32} (hL : subL L_MD_fenceTold L = true) (hLJ : subL K_MD_fenceTold LJ = true) (hI : fsL L I I0) (hJ : fsL LJ J J0) : pc (F_MD_fenceTold I J v1) (fun r : MI × MJ => fsL L r.1 I0 ∧ fsL LJ r.2 J0) := by
  unfold F_MD_fenceTold
  refine pc_if ?_ ?_
  · refine pc_if ?_ ?_
    · refine pc_b (q_MD_fail (L := L) (LJ := LJ) (I0 := I0) (J0 := J0) (sub_t (by decide) hL) (sub_t (by decide) hLJ) (by repeat (first | assumption | refine fs_up hL rfl ?_ | refine fs_up hLJ rfl ?_))) (fun r3 hr3 => ?_)
      exact (q_MD_fenceTold_24 (L := L) (LJ := LJ) (I0 := I0) (J0 := J0) (sub_t (by decide) hL) (sub_t (by decide) hLJ) (by repeat (first | assumption | refine fs_up hL rfl ?_ | refine fs_up hLJ rfl ?_)) (by repeat (first | assumption | refine fs_up hL rfl ?_ | refine fs_up hLJ rfl ?_)))
    · exact (q_MD_fenceTold_24 (L := L) (LJ := LJ) (I0 := I0) (J0 := J0) (sub_t (by decide) hL) (sub_t (by decide) hLJ) (by repeat (first | assumption | refine fs_up hL rfl ?_ | refine fs_up hLJ rfl ?_)) (by repeat (first | assumption | refine fs_up hL rfl ?_ | refine fs_up hLJ rfl ?_)))
  · exact (q_MD_fenceTold_24 (L := L) (LJ := LJ) (I0 := I0) (J0 := J0) (sub_t (by decide) hL) (sub_t (by decide) hLJ) (by repeat (first | assumption | refine fs_up hL rfl ?_ | refine fs_up hLJ rfl ?_)) (by repeat (first | assumption | refine fs_up hL rfl ?_ | refine fs_up hLJ rfl ?_)))
abbrev L_MD_ironTold_82 : List (Nat × Option Nat) := [(205, none), (208, none)]
abbrev K_MD_ironTold_82 : List (Nat × Option Nat) := []
theorem q_MD_ironTold_82 {L LJ : List (Nat × Option Nat)} {I0 : MI} {J0 : MJ} {I : MI} {v2 : Int32} {v3 : Int32} (hL : subL L_MD_ironTold_82 L = true) (hLJ : subL K_MD_ironTold_82 LJ = true) (hI : fsL L I I0) : pc (F_MD_ironTold_82 I v2 v3) (fun r : MI => fsL L r I0) := by
  unfold F_MD_ironTold_82
  refine pc_if ?_ ?_
  · refine pc_gd ?_
    refine pc_gd ?_
    refine pc_bnd ?_
    refine pc_s ?_
    first | trivial | (refine ⟨?_, ?_⟩ <;> repeat (first | assumption | refine fs_up hL rfl ?_ | refine fs_up hLJ rfl ?_)) | (repeat (first | assumption | refine fs_up hL rfl ?_ | refine fs_up hLJ rfl ?_))
  · refine pc_s ?_
    first | trivial | (refine ⟨?_, ?_⟩ <;> repeat (first | assumption | refine fs_up hL rfl ?_ | refine fs_up hLJ rfl ?_)) | (repeat (first | assumption | refine fs_up hL rfl ?_ | refine fs_up hLJ rfl ?_))
abbrev L_MD_ironTold_24 : List (Nat × Option Nat) := [(177, some 2), (177, some 4), (177, some 5), (177, some 6), (177, some 10), (205, none), (208, none)]
abbrev K_MD_ironTold_24 : List (Nat × Option Nat) := []
theorem q_MD_ironTold_24 {L LJ : List (Nat × Option Nat)} {I0 : MI} {J0 : MJ} {I : MI} (hL : subL L_MD_ironTold_24 L = true) (hLJ : subL K_MD_ironTold_24 LJ = true) (hI : fsL L I I0) : pc (F_MD_ironTold_24 I) (fun r : MI => fsL L r I0) := by
  unfold F_MD_ironTold_24
  refine pc_b (q_MD_number (L := L) (LJ := LJ) (I0 := I0) (J0 := J0) (sub_t (by decide) hL) (sub_t (by decide) hLJ) (by repeat (first | assumption | refine fs_up hL rfl ?_ | refine fs_up hLJ rfl ?_))) (fun r1 hr1 => ?_)
  refine pc_b (q_MD_number (L := L) (LJ := LJ) (I0 := I0) (J0 := J0) (sub_t (by decide) hL) (sub_t (by decide) hLJ) (by repeat (first | assumption | refine fs_up hL rfl ?_ | refine fs_up hLJ rfl ?_))) (fun r2 hr2 => ?_)
  refine pc_if ?_ ?_
  · refine pc_gd ?_
    refine pc_if ?_ ?_
    · refine pc_b (q_MD_fail (L := L) (LJ := LJ) (I0 := I0) (J0 := J0) (sub_t (by decide) hL) (sub_t (by decide) hLJ) (by repeat (first | assumption | refine fs_up hL rfl ?_ | refine fs_up hLJ rfl ?_))) (fun r6 hr6 => ?_)
      exact (q_MD_ironTold_82 (L := L) (LJ := LJ) (I0 := I0) (J0 := J0) (sub_t (by decide) hL) (sub_t (by decide) hLJ) (by repeat (first | assumption | refine fs_up hL rfl ?_ | refine fs_up hLJ rfl ?_)))
    · exact (q_MD_ironTold_82 (L := L) (LJ := LJ) (I0 := I0) (J0 := J0) (sub_t (by decide) hL) (sub_t (by decide) hLJ) (by repeat (first | assumption | refine fs_up hL rfl ?_ | refine fs_up hLJ rfl ?_)))
  · exact (q_MD_ironTold_82 (L := L) (LJ := LJ) (I0 := I0) (J0 := J0) (sub_t (by decide) hL) (sub_t (by decide) hLJ) (by repeat (first | assumption | refine fs_up hL rfl ?_ | refine fs_up hLJ rfl ?_)))
abbrev L_MD_ironTold : List (Nat × Option Nat) := [(177, some 2), (177, some 4), (177, some 5), (177, some 6), (177, some 10), (205, none), (208, none)]
abbrev K_MD_ironTold : List (Nat × Option Nat) := []
theorem q_MD_ironTold {L LJ : List (Nat × Option Nat)} {I0 : MI} {J0 : MJ} {I : MI} {v1 : Int32} (hL : subL L_MD_ironTold L = true) (hLJ : subL K_MD_ironTold LJ = true) (hI : fsL L I I0) : pc (F_MD_ironTold I v1) (fun r : MI => fsL L r I0) := by
  unfold F_MD_ironTold
  refine pc_if ?_ ?_
  · refine pc_if ?_ ?_
    · refine pc_b (q_MD_fail (L := L) (LJ := LJ) (I0 := I0) (J0 := J0) (sub_t (by decide) hL) (sub_t (by decide) hLJ) (by repeat (first | assumption | refine fs_up hL rfl ?_ | refine fs_up hLJ rfl ?_))) (fun r3 hr3 => ?_)
      exact (q_MD_ironTold_24 (L := L) (LJ := LJ) (I0 := I0) (J0 := J0) (sub_t (by decide) hL) (sub_t (by decide) hLJ) (by repeat (first | assumption | refine fs_up hL rfl ?_ | refine fs_up hLJ rfl ?_)))
    · exact (q_MD_ironTold_24 (L := L) (LJ := LJ) (I0 := I0) (J0 := J0) (sub_t (by decide) hL) (sub_t (by decide) hLJ) (by repeat (first | assumption | refine fs_up hL rfl ?_ | refine fs_up hLJ rfl ?_)))
  · exact (q_MD_ironTold_24 (L := L) (LJ := LJ) (I0 := I0) (J0 := J0) (sub_t (by decide) hL) (sub_t (by decide) hLJ) (by repeat (first | assumption | refine fs_up hL rfl ?_ | refine fs_up hLJ rfl ?_)))
abbrev L_MD_stakeTold_32 : List (Nat × Option Nat) := [(177, some 2), (177, some 4), (177, some 5), (177, some 6), (177, some 10), (209, none)]
abbrev K_MD_stakeTold_32 : List (Nat × Option Nat) := []
theorem q_MD_stakeTold_32 {L LJ : List (Nat × Option Nat)} {I0 : MI} {J0 : MJ} {I : MI} {v3 : Int32} (hL : subL L_MD_stakeTold_32 L = true) (hLJ : subL K_MD_stakeTold_32 LJ = true) (hI : fsL L I I0) : pc (F_MD_stakeTold_32 I v3) (fun r : MI => fsL L r I0) := by
  unfold F_MD_stakeTold_32
  refine pc_b (q_MD_number (L := L) (LJ := LJ) (I0 := I0) (J0 := J0) (sub_t (by decide) hL) (sub_t (by decide) hLJ) (by repeat (first | assumption | refine fs_up hL rfl ?_ | refine fs_up hLJ rfl ?_))) (fun r1 hr1 => ?_)
  refine pc_b (q_MD_asks (L := L) (LJ := LJ) (I0 := I0) (J0 := J0) (sub_t (by decide) hL) (sub_t (by decide) hLJ) (by repeat (first | assumption | refine fs_up hL rfl ?_ | refine fs_up hLJ rfl ?_))) (fun r2 hr2 => ?_)
  refine pc_b (q_MD_number (L := L) (LJ := LJ) (I0 := I0) (J0 := J0) (sub_t (by decide) hL) (sub_t (by decide) hLJ) (by repeat (first | assumption | refine fs_up hL rfl ?_ | refine fs_up hLJ rfl ?_))) (fun r3 hr3 => ?_)
  refine pc_if ?_ ?_
  · refine pc_gd ?_
    refine pc_s ?_
    first | trivial | (refine ⟨?_, ?_⟩ <;> repeat (first | assumption | refine fs_up hL rfl ?_ | refine fs_up hLJ rfl ?_)) | (repeat (first | assumption | refine fs_up hL rfl ?_ | refine fs_up hLJ rfl ?_))
  · refine pc_s ?_
    first | trivial | (refine ⟨?_, ?_⟩ <;> repeat (first | assumption | refine fs_up hL rfl ?_ | refine fs_up hLJ rfl ?_)) | (repeat (first | assumption | refine fs_up hL rfl ?_ | refine fs_up hLJ rfl ?_))
abbrev L_MD_stakeTold : List (Nat × Option Nat) := [(177, some 2), (177, some 4), (177, some 5), (177, some 6), (177, some 10), (177, some 35), (209, none)]
abbrev K_MD_stakeTold : List (Nat × Option Nat) := []
theorem q_MD_stakeTold {L LJ : List (Nat × Option Nat)} {I0 : MI} {J0 : MJ} {I : MI} {J : MJ} (hL : subL L_MD_stakeTold L = true) (hLJ : subL K_MD_stakeTold LJ = true) (hI : fsL L I I0) (hJ : fsL LJ J J0) : pc (F_MD_stakeTold I J) (fun r : MI => fsL L r I0) := by
  unfold F_MD_stakeTold
  refine pc_b (q_MD_name (L := L) (LJ := LJ) (I0 := I0) (J0 := J0) (sub_t (by decide) hL) (sub_t (by decide) hLJ) (by repeat (first | assumption | refine fs_up hL rfl ?_ | refine fs_up hLJ rfl ?_))) (fun r1 hr1 => ?_)
  refine pc_b' (fun r2 => ?_)
  refine pc_if ?_ ?_
  · refine pc_if ?_ ?_
    · refine pc_b (q_MD_fail (L := L) (LJ := LJ) (I0 := I0) (J0 := J0) (sub_t (by decide) hL) (sub_t (by decide) hLJ) (by repeat (first | assumption | refine fs_up hL rfl ?_ | refine fs_up hLJ rfl ?_))) (fun r5 hr5 => ?_)
      exact (q_MD_stakeTold_32 (L := L) (LJ := LJ) (I0 := I0) (J0 := J0) (sub_t (by decide) hL) (sub_t (by decide) hLJ) (by repeat (first | assumption | refine fs_up hL rfl ?_ | refine fs_up hLJ rfl ?_)))
    · exact (q_MD_stakeTold_32 (L := L) (LJ := LJ) (I0 := I0) (J0 := J0) (sub_t (by decide) hL) (sub_t (by decide) hLJ) (by repeat (first | assumption | refine fs_up hL rfl ?_ | refine fs_up hLJ rfl ?_)))
  · exact (q_MD_stakeTold_32 (L := L) (LJ := LJ) (I0 := I0) (J0 := J0) (sub_t (by decide) hL) (sub_t (by decide) hLJ) (by repeat (first | assumption | refine fs_up hL rfl ?_ | refine fs_up hLJ rfl ?_)))
abbrev L_MD_steepTold : List (Nat × Option Nat) := [(177, some 2), (177, some 4), (177, some 5), (177, some 6), (177, some 10), (207, none)]
abbrev K_MD_steepTold : List (Nat × Option Nat) := []
theorem q_MD_steepTold {L LJ : List (Nat × Option Nat)} {I0 : MI} {J0 : MJ} {I : MI} (hL : subL L_MD_steepTold L = true) (hLJ : subL K_MD_steepTold LJ = true) (hI : fsL L I I0) : pc (F_MD_steepTold I) (fun r : MI => fsL L r I0) := by
  unfold F_MD_steepTold
  refine pc_b (q_MD_number (L := L) (LJ := LJ) (I0 := I0) (J0 := J0) (sub_t (by decide) hL) (sub_t (by decide) hLJ) (by repeat (first | assumption | refine fs_up hL rfl ?_ | refine fs_up hLJ rfl ?_))) (fun r1 hr1 => ?_)
  refine pc_b (q_MD_number (L := L) (LJ := LJ) (I0 := I0) (J0 := J0) (sub_t (by decide) hL) (sub_t (by decide) hLJ) (by repeat (first | assumption | refine fs_up hL rfl ?_ | refine fs_up hLJ rfl ?_))) (fun r2 hr2 => ?_)
  refine pc_if ?_ ?_
  · refine pc_gd ?_
    refine pc_s ?_
    first | trivial | (refine ⟨?_, ?_⟩ <;> repeat (first | assumption | refine fs_up hL rfl ?_ | refine fs_up hLJ rfl ?_)) | (repeat (first | assumption | refine fs_up hL rfl ?_ | refine fs_up hLJ rfl ?_))
  · refine pc_s ?_
    first | trivial | (refine ⟨?_, ?_⟩ <;> repeat (first | assumption | refine fs_up hL rfl ?_ | refine fs_up hLJ rfl ?_)) | (repeat (first | assumption | refine fs_up hL rfl ?_ | refine fs_up hLJ rfl ?_))
abbrev L_MD_statementTold_154 : List (Nat × Option Nat) := [(177, some 2), (177, some 5), (177, some 6), (177, some 48)]
abbrev K_MD_statementTold_154 : List (Nat × Option Nat) := []
theorem q_MD_statementTold_154 {L LJ : List (Nat × Option Nat)} {I0 : MI} {J0 : MJ} {I : MI} {J : MJ} (hL : subL L_MD_statementTold_154 L = true) (hLJ : subL K_MD_statementTold_154 LJ = true) (hI : fsL L I I0) (hJ : fsL LJ J J0) : pc (F_MD_statementTold_154 I J) (fun r : MI × MJ => fsL L r.1 I0 ∧ fsL LJ r.2 J0) := by
  unfold F_MD_statementTold_154
  refine pc_b (q_MD_asksSign (L := L) (LJ := LJ) (I0 := I0) (J0 := J0) (sub_t (by decide) hL) (sub_t (by decide) hLJ) (by repeat (first | assumption | refine fs_up hL rfl ?_ | refine fs_up hLJ rfl ?_))) (fun r1 hr1 => ?_)
  refine pc_s ?_
  first | trivial | (refine ⟨?_, ?_⟩ <;> repeat (first | assumption | refine fs_up hL rfl ?_ | refine fs_up hLJ rfl ?_)) | (repeat (first | assumption | refine fs_up hL rfl ?_ | refine fs_up hLJ rfl ?_))
abbrev L_MD_statementTold : List (Nat × Option Nat) := [(177, some 2), (177, some 4), (177, some 5), (177, some 6), (177, some 10), (177, some 35), (177, some 42), (177, some 47), (177, some 48), (177, some 50), (177, some 92), (177, some 94), (177, some 95), (177, some 96), (205, none), (207, none), (208, none), (209, none), (210, none), (211, none), (212, none), (244, none), (245, none)]
abbrev K_MD_statementTold : List (Nat × Option Nat) := [(206, none)]
theorem q_MD_statementTold {L LJ : List (Nat × Option Nat)} {I0 : MI} {J0 : MJ} {I : MI} {J : MJ} (hL : subL L_MD_statementTold L = true) (hLJ : subL K_MD_statementTold LJ = true) (hI : fsL L I I0) (hJ : fsL LJ J J0) : pc (F_MD_statementTold I J) (fun r : MI × MJ => fsL L r.1 I0 ∧ fsL LJ r.2 J0) := by
  unfold F_MD_statementTold
  refine pc_if ?_ ?_
  · refine pc_b (q_MD_fail (L := L) (LJ := LJ) (I0 := I0) (J0 := J0) (sub_t (by decide) hL) (sub_t (by decide) hLJ) (by repeat (first | assumption | refine fs_up hL rfl ?_ | refine fs_up hLJ rfl ?_))) (fun r22 hr22 => ?_)
    refine pc_s ?_
    first | trivial | (refine ⟨?_, ?_⟩ <;> repeat (first | assumption | refine fs_up hL rfl ?_ | refine fs_up hLJ rfl ?_)) | (repeat (first | assumption | refine fs_up hL rfl ?_ | refine fs_up hLJ rfl ?_))
  · refine pc_b (q_MD_takes (L := L) (LJ := LJ) (I0 := I0) (J0 := J0) (sub_t (by decide) hL) (sub_t (by decide) hLJ) (by repeat (first | assumption | refine fs_up hL rfl ?_ | refine fs_up hLJ rfl ?_))) (fun r2 hr2 => ?_)
    refine pc_if ?_ ?_
    · refine pc_b (q_MD_takes (L := L) (LJ := LJ) (I0 := I0) (J0 := J0) (sub_t (by decide) hL) (sub_t (by decide) hLJ) (by repeat (first | assumption | refine fs_up hL rfl ?_ | refine fs_up hLJ rfl ?_))) (fun r4 hr4 => ?_)
      refine pc_if ?_ ?_
      · refine pc_b (q_MD_takes (L := L) (LJ := LJ) (I0 := I0) (J0 := J0) (sub_t (by decide) hL) (sub_t (by decide) hLJ) (by repeat (first | assumption | refine fs_up hL rfl ?_ | refine fs_up hLJ rfl ?_))) (fun r6 hr6 => ?_)
        refine pc_if ?_ ?_
        · refine pc_b (q_MD_takes (L := L) (LJ := LJ) (I0 := I0) (J0 := J0) (sub_t (by decide) hL) (sub_t (by decide) hLJ) (by repeat (first | assumption | refine fs_up hL rfl ?_ | refine fs_up hLJ rfl ?_))) (fun r8 hr8 => ?_)
          refine pc_if ?_ ?_
          · refine pc_b (q_MD_takes (L := L) (LJ := LJ) (I0 := I0) (J0 := J0) (sub_t (by decide) hL) (sub_t (by decide) hLJ) (by repeat (first | assumption | refine fs_up hL rfl ?_ | refine fs_up hLJ rfl ?_))) (fun r10 hr10 => ?_)
            refine pc_if ?_ ?_
            · refine pc_b (q_MD_takes (L := L) (LJ := LJ) (I0 := I0) (J0 := J0) (sub_t (by decide) hL) (sub_t (by decide) hLJ) (by repeat (first | assumption | refine fs_up hL rfl ?_ | refine fs_up hLJ rfl ?_))) (fun r12 hr12 => ?_)
              refine pc_if ?_ ?_
              · refine pc_b (q_MD_asks (L := L) (LJ := LJ) (I0 := I0) (J0 := J0) (sub_t (by decide) hL) (sub_t (by decide) hLJ) (by repeat (first | assumption | refine fs_up hL rfl ?_ | refine fs_up hLJ rfl ?_))) (fun r14 hr14 => ?_)
                refine pc_b (q_MD_number (L := L) (LJ := LJ) (I0 := I0) (J0 := J0) (sub_t (by decide) hL) (sub_t (by decide) hLJ) (by repeat (first | assumption | refine fs_up hL rfl ?_ | refine fs_up hLJ rfl ?_))) (fun r15 hr15 => ?_)
                exact (q_MD_statementTold_154 (L := L) (LJ := LJ) (I0 := I0) (J0 := J0) (sub_t (by decide) hL) (sub_t (by decide) hLJ) (by repeat (first | assumption | refine fs_up hL rfl ?_ | refine fs_up hLJ rfl ?_)) (by repeat (first | assumption | refine fs_up hL rfl ?_ | refine fs_up hLJ rfl ?_)))
              · refine pc_b (q_MD_codesTold (L := L) (LJ := LJ) (I0 := I0) (J0 := J0) (sub_t (by decide) hL) (sub_t (by decide) hLJ) (by repeat (first | assumption | refine fs_up hL rfl ?_ | refine fs_up hLJ rfl ?_))) (fun r16 hr16 => ?_)
                exact (q_MD_statementTold_154 (L := L) (LJ := LJ) (I0 := I0) (J0 := J0) (sub_t (by decide) hL) (sub_t (by decide) hLJ) (by repeat (first | assumption | refine fs_up hL rfl ?_ | refine fs_up hLJ rfl ?_)) (by repeat (first | assumption | refine fs_up hL rfl ?_ | refine fs_up hLJ rfl ?_)))
            · refine pc_b (q_MD_codesTold (L := L) (LJ := LJ) (I0 := I0) (J0 := J0) (sub_t (by decide) hL) (sub_t (by decide) hLJ) (by repeat (first | assumption | refine fs_up hL rfl ?_ | refine fs_up hLJ rfl ?_))) (fun r17 hr17 => ?_)
              exact (q_MD_statementTold_154 (L := L) (LJ := LJ) (I0 := I0) (J0 := J0) (sub_t (by decide) hL) (sub_t (by decide) hLJ) (by repeat (first | assumption | refine fs_up hL rfl ?_ | refine fs_up hLJ rfl ?_)) (by repeat (first | assumption | refine fs_up hL rfl ?_ | refine fs_up hLJ rfl ?_)))
          · refine pc_b (q_MD_stakeTold (L := L) (LJ := LJ) (I0 := I0) (J0 := J0) (sub_t (by decide) hL) (sub_t (by decide) hLJ) (by repeat (first | assumption | refine fs_up hL rfl ?_ | refine fs_up hLJ rfl ?_)) (by repeat (first | assumption | refine fs_up hL rfl ?_ | refine fs_up hLJ rfl ?_))) (fun r18 hr18 => ?_)
            exact (q_MD_statementTold_154 (L := L) (LJ := LJ) (I0 := I0) (J0 := J0) (sub_t (by decide) hL) (sub_t (by decide) hLJ) (by repeat (first | assumption | refine fs_up hL rfl ?_ | refine fs_up hLJ rfl ?_)) (by repeat (first | assumption | refine fs_up hL rfl ?_ | refine fs_up hLJ rfl ?_)))
        · refine pc_b (q_MD_fenceTold (L := L) (LJ := LJ) (I0 := I0) (J0 := J0) (sub_t (by decide) hL) (sub_t (by decide) hLJ) (by repeat (first | assumption | refine fs_up hL rfl ?_ | refine fs_up hLJ rfl ?_)) (by repeat (first | assumption | refine fs_up hL rfl ?_ | refine fs_up hLJ rfl ?_))) (fun r19 hr19 => ?_)
          obtain ⟨hr19I, hr19J⟩ := hr19
          exact (q_MD_statementTold_154 (L := L) (LJ := LJ) (I0 := I0) (J0 := J0) (sub_t (by decide) hL) (sub_t (by decide) hLJ) (by repeat (first | assumption | refine fs_up hL rfl ?_ | refine fs_up hLJ rfl ?_)) (by repeat (first | assumption | refine fs_up hL rfl ?_ | refine fs_up hLJ rfl ?_)))
      · refine pc_b (q_MD_ironTold (L := L) (LJ := LJ) (I0 := I0) (J0 := J0) (sub_t (by decide) hL) (sub_t (by decide) hLJ) (by repeat (first | assumption | refine fs_up hL rfl ?_ | refine fs_up hLJ rfl ?_))) (fun r20 hr20 => ?_)
        exact (q_MD_statementTold_154 (L := L) (LJ := LJ) (I0 := I0) (J0 := J0) (sub_t (by decide) hL) (sub_t (by decide) hLJ) (by repeat (first | assumption | refine fs_up hL rfl ?_ | refine fs_up hLJ rfl ?_)) (by repeat (first | assumption | refine fs_up hL rfl ?_ | refine fs_up hLJ rfl ?_)))
    · refine pc_b (q_MD_steepTold (L := L) (LJ := LJ) (I0 := I0) (J0 := J0) (sub_t (by decide) hL) (sub_t (by decide) hLJ) (by repeat (first | assumption | refine fs_up hL rfl ?_ | refine fs_up hLJ rfl ?_))) (fun r21 hr21 => ?_)
      exact (q_MD_statementTold_154 (L := L) (LJ := LJ) (I0 := I0) (J0 := J0) (sub_t (by decide) hL) (sub_t (by decide) hLJ) (by repeat (first | assumption | refine fs_up hL rfl ?_ | refine fs_up hLJ rfl ?_)) (by repeat (first | assumption | refine fs_up hL rfl ?_ | refine fs_up hLJ rfl ?_)))
abbrev L_MD_slope_54 : List (Nat × Option Nat) := [(207, none), (208, none)]
abbrev K_MD_slope_54 : List (Nat × Option Nat) := []
theorem q_MD_slope_54 {L LJ : List (Nat × Option Nat)} {I0 : MI} {J0 : MJ} {I : MI} {v1 : Int32} (hL : subL L_MD_slope_54 L = true) (hLJ : subL K_MD_slope_54 LJ = true) (hI : fsL L I I0) : pc (F_MD_slope_54 I v1) (Sum.elim (fun r : Int32 × MI => fsL L r.2 I0) (fun r : MI => fsL L r I0)) := by
  unfold F_MD_slope_54
  refine pc_if ?_ ?_
  · refine pc_s ?_
    first | trivial | (refine ⟨?_, ?_⟩ <;> repeat (first | assumption | refine fs_up hL rfl ?_ | refine fs_up hLJ rfl ?_)) | (repeat (first | assumption | refine fs_up hL rfl ?_ | refine fs_up hLJ rfl ?_))
  · refine pc_gd ?_
    refine pc_gd ?_
    refine pc_s ?_
    first | trivial | (refine ⟨?_, ?_⟩ <;> repeat (first | assumption | refine fs_up hL rfl ?_ | refine fs_up hLJ rfl ?_)) | (repeat (first | assumption | refine fs_up hL rfl ?_ | refine fs_up hLJ rfl ?_))
abbrev L_MD_slope_108 : List (Nat × Option Nat) := [(177, some 2), (177, some 4), (177, some 5), (177, some 6), (177, some 10), (177, some 35), (177, some 42), (177, some 47), (177, some 48), (177, some 50), (177, some 92), (177, some 94), (177, some 95), (177, some 96), (205, none), (207, none), (208, none), (209, none), (210, none), (211, none), (212, none), (244, none), (245, none)]
abbrev K_MD_slope_108 : List (Nat × Option Nat) := [(206, none)]
theorem q_MD_slope_108 {L LJ : List (Nat × Option Nat)} {I0 : MI} {J0 : MJ} {I : MI} {J : MJ} (hL : subL L_MD_slope_108 L = true) (hLJ : subL K_MD_slope_108 LJ = true) (hI : fsL L I I0) (hJ : fsL LJ J J0) : pc (F_MD_slope_108 I J) (Sum.elim (fun r : MI × MJ => fsL L r.1 I0 ∧ fsL LJ r.2 J0) (fun r : MI × MJ => fsL L r.1 I0 ∧ fsL LJ r.2 J0)) := by
  unfold F_MD_slope_108
  refine pc_if ?_ ?_
  · refine pc_b (q_MD_look (L := L) (LJ := LJ) (I0 := I0) (J0 := J0) (sub_t (by decide) hL) (sub_t (by decide) hLJ) (by repeat (first | assumption | refine fs_up hL rfl ?_ | refine fs_up hLJ rfl ?_))) (fun r2 hr2 => ?_)
    refine pc_if ?_ ?_
    · refine pc_s ?_
      first | trivial | (refine ⟨?_, ?_⟩ <;> repeat (first | assumption | refine fs_up hL rfl ?_ | refine fs_up hLJ rfl ?_)) | (repeat (first | assumption | refine fs_up hL rfl ?_ | refine fs_up hLJ rfl ?_))
    · refine pc_b (q_MD_statementTold (L := L) (LJ := LJ) (I0 := I0) (J0 := J0) (sub_t (by decide) hL) (sub_t (by decide) hLJ) (by repeat (first | assumption | refine fs_up hL rfl ?_ | refine fs_up hLJ rfl ?_)) (by repeat (first | assumption | refine fs_up hL rfl ?_ | refine fs_up hLJ rfl ?_))) (fun r4 hr4 => ?_)
      obtain ⟨hr4I, hr4J⟩ := hr4
      refine pc_s ?_
      first | trivial | (refine ⟨?_, ?_⟩ <;> repeat (first | assumption | refine fs_up hL rfl ?_ | refine fs_up hLJ rfl ?_)) | (repeat (first | assumption | refine fs_up hL rfl ?_ | refine fs_up hLJ rfl ?_))
  · refine pc_s ?_
    first | trivial | (refine ⟨?_, ?_⟩ <;> repeat (first | assumption | refine fs_up hL rfl ?_ | refine fs_up hLJ rfl ?_)) | (repeat (first | assumption | refine fs_up hL rfl ?_ | refine fs_up hLJ rfl ?_))
abbrev L_MD_slope_130 : List (Nat × Option Nat) := [(177, some 7), (177, some 8), (177, some 43), (177, some 49), (177, some 59), (177, some 66), (179, none), (204, none), (205, none), (207, none), (210, none), (211, none), (212, none), (213, none)]
abbrev K_MD_slope_130 : List (Nat × Option Nat) := [(206, none)]
theorem q_MD_slope_130 {L LJ : List (Nat × Option Nat)} {I0 : MI} {J0 : MJ} {I : MI} {J : MJ} (hL : subL L_MD_slope_130 L = true) (hLJ : subL K_MD_slope_130 LJ = true) (hI : fsL L I I0) (hJ : fsL LJ J J0) : pc (F_MD_slope_130 I J) (fun r : Int32 × MI × MJ => fsL L r.2.1 I0 ∧ fsL LJ r.2.2 J0) := by
  unfold F_MD_slope_130
  refine pc_if ?_ ?_
  · refine pc_b (q_MD_stands (L := L) (LJ := LJ) (I0 := I0) (J0 := J0) (sub_t (by decide) hL) (sub_t (by decide) hLJ) (by repeat (first | assumption | refine fs_up hL rfl ?_ | refine fs_up hLJ rfl ?_)) (by repeat (first | assumption | refine fs_up hL rfl ?_ | refine fs_up hLJ rfl ?_))) (fun r2 hr2 => ?_)
    obtain ⟨hr2I, hr2J⟩ := hr2
    refine pc_s ?_
    first | trivial | (refine ⟨?_, ?_⟩ <;> repeat (first | assumption | refine fs_up hL rfl ?_ | refine fs_up hLJ rfl ?_)) | (repeat (first | assumption | refine fs_up hL rfl ?_ | refine fs_up hLJ rfl ?_))
  · refine pc_s ?_
    first | trivial | (refine ⟨?_, ?_⟩ <;> repeat (first | assumption | refine fs_up hL rfl ?_ | refine fs_up hLJ rfl ?_)) | (repeat (first | assumption | refine fs_up hL rfl ?_ | refine fs_up hLJ rfl ?_))
abbrev L_MD_slope : List (Nat × Option Nat) := [(177, some 1), (177, some 2), (177, some 3), (177, some 4), (177, some 5), (177, some 6), (177, some 7), (177, some 8), (177, some 10), (177, some 35), (177, some 42), (177, some 43), (177, some 47), (177, some 48), (177, some 49), (177, some 50), (177, some 59), (177, some 66), (177, some 92), (177, some 94), (177, some 95), (177, some 96), (179, none), (204, none), (205, none), (207, none), (208, none), (209, none), (210, none), (211, none), (212, none), (213, none), (244, none), (245, none)]
abbrev K_MD_slope : List (Nat × Option Nat) := [(206, none)]
theorem q_MD_slope {L LJ : List (Nat × Option Nat)} {I0 : MI} {J0 : MJ} {I : MI} {J : MJ} (hL : subL L_MD_slope L = true) (hLJ : subL K_MD_slope LJ = true) (hI : fsL L I I0) (hJ : fsL LJ J J0) : pc (F_MD_slope I J) (fun r : Int32 × MI × MJ => fsL L r.2.1 I0 ∧ fsL LJ r.2.2 J0) := by
  unfold F_MD_slope
  refine pc_bnd ?_
  refine pc_b (pc_wl (fun s : Int32 × MI => fsL L s.2 I0) (fun s hs => by exact (q_MD_slope_54 (L := L) (LJ := LJ) (I0 := I0) (J0 := J0) (sub_t (by decide) hL) (sub_t (by decide) hLJ) (by repeat (first | assumption | refine fs_up hL rfl ?_ | refine fs_up hLJ rfl ?_)))) (by first | trivial | (refine ⟨?_, ?_⟩ <;> repeat (first | assumption | refine fs_up hL rfl ?_ | refine fs_up hLJ rfl ?_)) | (repeat (first | assumption | refine fs_up hL rfl ?_ | refine fs_up hLJ rfl ?_)))) (fun t2 ht2 => ?_)
  refine pc_b (q_MD_slopeTold (L := L) (LJ := LJ) (I0 := I0) (J0 := J0) (sub_t (by decide) hL) (sub_t (by decide) hLJ) (by repeat (first | assumption | refine fs_up hL rfl ?_ | refine fs_up hLJ rfl ?_))) (fun r3 hr3 => ?_)
  refine pc_b (pc_wl (fun s : MI × MJ => fsL L s.1 I0 ∧ fsL LJ s.2 J0) (fun s hs => by obtain ⟨hsI, hsJ⟩ := hs; exact (q_MD_slope_108 (L := L) (LJ := LJ) (I0 := I0) (J0 := J0) (sub_t (by decide) hL) (sub_t (by decide) hLJ) (by repeat (first | assumption | refine fs_up hL rfl ?_ | refine fs_up hLJ rfl ?_)) (by repeat (first | assumption | refine fs_up hL rfl ?_ | refine fs_up hLJ rfl ?_)))) (by first | trivial | (refine ⟨?_, ?_⟩ <;> repeat (first | assumption | refine fs_up hL rfl ?_ | refine fs_up hLJ rfl ?_)) | (repeat (first | assumption | refine fs_up hL rfl ?_ | refine fs_up hLJ rfl ?_)))) (fun t4 ht4 => ?_)
  obtain ⟨ht4I, ht4J⟩ := ht4
  exact (q_MD_slope_130 (L := L) (LJ := LJ) (I0 := I0) (J0 := J0) (sub_t (by decide) hL) (sub_t (by decide) hLJ) (by repeat (first | assumption | refine fs_up hL rfl ?_ | refine fs_up hLJ rfl ?_)) (by repeat (first | assumption | refine fs_up hL rfl ?_ | refine fs_up hLJ rfl ?_)))
abbrev L_MD_qPuts : List (Nat × Option Nat) := [(177, some 98)]
abbrev K_MD_qPuts : List (Nat × Option Nat) := [(246, none)]
theorem q_MD_qPuts {L LJ : List (Nat × Option Nat)} {I0 : MI} {J0 : MJ} {I : MI} {J : MJ} {v1 : Int64} (hL : subL L_MD_qPuts L = true) (hLJ : subL K_MD_qPuts LJ = true) (hI : fsL L I I0) (hJ : fsL LJ J J0) : pc (F_MD_qPuts I J v1) (fun r : MI × MJ => fsL L r.1 I0 ∧ fsL LJ r.2 J0) := by
  unfold F_MD_qPuts
  refine pc_gd ?_
  refine pc_s ?_
  first | trivial | (refine ⟨?_, ?_⟩ <;> repeat (first | assumption | refine fs_up hL rfl ?_ | refine fs_up hLJ rfl ?_)) | (repeat (first | assumption | refine fs_up hL rfl ?_ | refine fs_up hLJ rfl ?_))
abbrev L_MD_qJoins : List (Nat × Option Nat) := [(177, some 98)]
abbrev K_MD_qJoins : List (Nat × Option Nat) := [(246, none)]
theorem q_MD_qJoins {L LJ : List (Nat × Option Nat)} {I0 : MI} {J0 : MJ} {I : MI} {J : MJ} {v1 : Int32} (hL : subL L_MD_qJoins L = true) (hLJ : subL K_MD_qJoins LJ = true) (hI : fsL L I I0) (hJ : fsL LJ J J0) : pc (F_MD_qJoins I J v1) (fun r : MI × MJ => fsL L r.1 I0 ∧ fsL LJ r.2 J0) := by
  unfold F_MD_qJoins
  refine pc_gd ?_
  refine pc_gd ?_
  refine pc_if ?_ ?_
  · refine pc_b' (fun r4 => ?_)
    refine pc_b (q_MD_qPuts (L := L) (LJ := LJ) (I0 := I0) (J0 := J0) (sub_t (by decide) hL) (sub_t (by decide) hLJ) (by repeat (first | assumption | refine fs_up hL rfl ?_ | refine fs_up hLJ rfl ?_)) (by repeat (first | assumption | refine fs_up hL rfl ?_ | refine fs_up hLJ rfl ?_))) (fun r5 hr5 => ?_)
    obtain ⟨hr5I, hr5J⟩ := hr5
    refine pc_s ?_
    first | trivial | (refine ⟨?_, ?_⟩ <;> repeat (first | assumption | refine fs_up hL rfl ?_ | refine fs_up hLJ rfl ?_)) | (repeat (first | assumption | refine fs_up hL rfl ?_ | refine fs_up hLJ rfl ?_))
  · refine pc_if ?_ ?_
    · refine pc_b' (fun r7 => ?_)
      refine pc_b (q_MD_qPuts (L := L) (LJ := LJ) (I0 := I0) (J0 := J0) (sub_t (by decide) hL) (sub_t (by decide) hLJ) (by repeat (first | assumption | refine fs_up hL rfl ?_ | refine fs_up hLJ rfl ?_)) (by repeat (first | assumption | refine fs_up hL rfl ?_ | refine fs_up hLJ rfl ?_))) (fun r8 hr8 => ?_)
      obtain ⟨hr8I, hr8J⟩ := hr8
      refine pc_s ?_
      first | trivial | (refine ⟨?_, ?_⟩ <;> repeat (first | assumption | refine fs_up hL rfl ?_ | refine fs_up hLJ rfl ?_)) | (repeat (first | assumption | refine fs_up hL rfl ?_ | refine fs_up hLJ rfl ?_))
    · refine pc_if ?_ ?_
      · refine pc_b' (fun r10 => ?_)
        refine pc_b (q_MD_qPuts (L := L) (LJ := LJ) (I0 := I0) (J0 := J0) (sub_t (by decide) hL) (sub_t (by decide) hLJ) (by repeat (first | assumption | refine fs_up hL rfl ?_ | refine fs_up hLJ rfl ?_)) (by repeat (first | assumption | refine fs_up hL rfl ?_ | refine fs_up hLJ rfl ?_))) (fun r11 hr11 => ?_)
        obtain ⟨hr11I, hr11J⟩ := hr11
        refine pc_s ?_
        first | trivial | (refine ⟨?_, ?_⟩ <;> repeat (first | assumption | refine fs_up hL rfl ?_ | refine fs_up hLJ rfl ?_)) | (repeat (first | assumption | refine fs_up hL rfl ?_ | refine fs_up hLJ rfl ?_))
      · refine pc_if ?_ ?_
        · refine pc_b' (fun r13 => ?_)
          refine pc_b (q_MD_qPuts (L := L) (LJ := LJ) (I0 := I0) (J0 := J0) (sub_t (by decide) hL) (sub_t (by decide) hLJ) (by repeat (first | assumption | refine fs_up hL rfl ?_ | refine fs_up hLJ rfl ?_)) (by repeat (first | assumption | refine fs_up hL rfl ?_ | refine fs_up hLJ rfl ?_))) (fun r14 hr14 => ?_)
          obtain ⟨hr14I, hr14J⟩ := hr14
          refine pc_s ?_
          first | trivial | (refine ⟨?_, ?_⟩ <;> repeat (first | assumption | refine fs_up hL rfl ?_ | refine fs_up hLJ rfl ?_)) | (repeat (first | assumption | refine fs_up hL rfl ?_ | refine fs_up hLJ rfl ?_))
        · refine pc_if ?_ ?_
          · refine pc_if ?_ ?_
            · refine pc_b (q_MD_qPuts (L := L) (LJ := LJ) (I0 := I0) (J0 := J0) (sub_t (by decide) hL) (sub_t (by decide) hLJ) (by repeat (first | assumption | refine fs_up hL rfl ?_ | refine fs_up hLJ rfl ?_)) (by repeat (first | assumption | refine fs_up hL rfl ?_ | refine fs_up hLJ rfl ?_))) (fun r17 hr17 => ?_)
              obtain ⟨hr17I, hr17J⟩ := hr17
              refine pc_s ?_
              first | trivial | (refine ⟨?_, ?_⟩ <;> repeat (first | assumption | refine fs_up hL rfl ?_ | refine fs_up hLJ rfl ?_)) | (repeat (first | assumption | refine fs_up hL rfl ?_ | refine fs_up hLJ rfl ?_))
            · refine pc_b (q_MD_qPuts (L := L) (LJ := LJ) (I0 := I0) (J0 := J0) (sub_t (by decide) hL) (sub_t (by decide) hLJ) (by repeat (first | assumption | refine fs_up hL rfl ?_ | refine fs_up hLJ rfl ?_)) (by repeat (first | assumption | refine fs_up hL rfl ?_ | refine fs_up hLJ rfl ?_))) (fun r18 hr18 => ?_)
              obtain ⟨hr18I, hr18J⟩ := hr18
              refine pc_s ?_
              first | trivial | (refine ⟨?_, ?_⟩ <;> repeat (first | assumption | refine fs_up hL rfl ?_ | refine fs_up hLJ rfl ?_)) | (repeat (first | assumption | refine fs_up hL rfl ?_ | refine fs_up hLJ rfl ?_))
          · refine pc_if ?_ ?_
            · refine pc_if ?_ ?_
              · refine pc_b (q_MD_qPuts (L := L) (LJ := LJ) (I0 := I0) (J0 := J0) (sub_t (by decide) hL) (sub_t (by decide) hLJ) (by repeat (first | assumption | refine fs_up hL rfl ?_ | refine fs_up hLJ rfl ?_)) (by repeat (first | assumption | refine fs_up hL rfl ?_ | refine fs_up hLJ rfl ?_))) (fun r21 hr21 => ?_)
                obtain ⟨hr21I, hr21J⟩ := hr21
                refine pc_s ?_
                first | trivial | (refine ⟨?_, ?_⟩ <;> repeat (first | assumption | refine fs_up hL rfl ?_ | refine fs_up hLJ rfl ?_)) | (repeat (first | assumption | refine fs_up hL rfl ?_ | refine fs_up hLJ rfl ?_))
              · refine pc_b (q_MD_qPuts (L := L) (LJ := LJ) (I0 := I0) (J0 := J0) (sub_t (by decide) hL) (sub_t (by decide) hLJ) (by repeat (first | assumption | refine fs_up hL rfl ?_ | refine fs_up hLJ rfl ?_)) (by repeat (first | assumption | refine fs_up hL rfl ?_ | refine fs_up hLJ rfl ?_))) (fun r22 hr22 => ?_)
                obtain ⟨hr22I, hr22J⟩ := hr22
                refine pc_s ?_
                first | trivial | (refine ⟨?_, ?_⟩ <;> repeat (first | assumption | refine fs_up hL rfl ?_ | refine fs_up hLJ rfl ?_)) | (repeat (first | assumption | refine fs_up hL rfl ?_ | refine fs_up hLJ rfl ?_))
            · refine pc_if ?_ ?_
              · refine pc_if ?_ ?_
                · refine pc_b (q_MD_qPuts (L := L) (LJ := LJ) (I0 := I0) (J0 := J0) (sub_t (by decide) hL) (sub_t (by decide) hLJ) (by repeat (first | assumption | refine fs_up hL rfl ?_ | refine fs_up hLJ rfl ?_)) (by repeat (first | assumption | refine fs_up hL rfl ?_ | refine fs_up hLJ rfl ?_))) (fun r25 hr25 => ?_)
                  obtain ⟨hr25I, hr25J⟩ := hr25
                  refine pc_s ?_
                  first | trivial | (refine ⟨?_, ?_⟩ <;> repeat (first | assumption | refine fs_up hL rfl ?_ | refine fs_up hLJ rfl ?_)) | (repeat (first | assumption | refine fs_up hL rfl ?_ | refine fs_up hLJ rfl ?_))
                · refine pc_b (q_MD_qPuts (L := L) (LJ := LJ) (I0 := I0) (J0 := J0) (sub_t (by decide) hL) (sub_t (by decide) hLJ) (by repeat (first | assumption | refine fs_up hL rfl ?_ | refine fs_up hLJ rfl ?_)) (by repeat (first | assumption | refine fs_up hL rfl ?_ | refine fs_up hLJ rfl ?_))) (fun r26 hr26 => ?_)
                  obtain ⟨hr26I, hr26J⟩ := hr26
                  refine pc_s ?_
                  first | trivial | (refine ⟨?_, ?_⟩ <;> repeat (first | assumption | refine fs_up hL rfl ?_ | refine fs_up hLJ rfl ?_)) | (repeat (first | assumption | refine fs_up hL rfl ?_ | refine fs_up hLJ rfl ?_))
              · refine pc_if ?_ ?_
                · refine pc_if ?_ ?_
                  · refine pc_b (q_MD_qPuts (L := L) (LJ := LJ) (I0 := I0) (J0 := J0) (sub_t (by decide) hL) (sub_t (by decide) hLJ) (by repeat (first | assumption | refine fs_up hL rfl ?_ | refine fs_up hLJ rfl ?_)) (by repeat (first | assumption | refine fs_up hL rfl ?_ | refine fs_up hLJ rfl ?_))) (fun r29 hr29 => ?_)
                    obtain ⟨hr29I, hr29J⟩ := hr29
                    refine pc_s ?_
                    first | trivial | (refine ⟨?_, ?_⟩ <;> repeat (first | assumption | refine fs_up hL rfl ?_ | refine fs_up hLJ rfl ?_)) | (repeat (first | assumption | refine fs_up hL rfl ?_ | refine fs_up hLJ rfl ?_))
                  · refine pc_b (q_MD_qPuts (L := L) (LJ := LJ) (I0 := I0) (J0 := J0) (sub_t (by decide) hL) (sub_t (by decide) hLJ) (by repeat (first | assumption | refine fs_up hL rfl ?_ | refine fs_up hLJ rfl ?_)) (by repeat (first | assumption | refine fs_up hL rfl ?_ | refine fs_up hLJ rfl ?_))) (fun r30 hr30 => ?_)
                    obtain ⟨hr30I, hr30J⟩ := hr30
                    refine pc_s ?_
                    first | trivial | (refine ⟨?_, ?_⟩ <;> repeat (first | assumption | refine fs_up hL rfl ?_ | refine fs_up hLJ rfl ?_)) | (repeat (first | assumption | refine fs_up hL rfl ?_ | refine fs_up hLJ rfl ?_))
                · refine pc_if ?_ ?_
                  · refine pc_if ?_ ?_
                    · refine pc_b (q_MD_qPuts (L := L) (LJ := LJ) (I0 := I0) (J0 := J0) (sub_t (by decide) hL) (sub_t (by decide) hLJ) (by repeat (first | assumption | refine fs_up hL rfl ?_ | refine fs_up hLJ rfl ?_)) (by repeat (first | assumption | refine fs_up hL rfl ?_ | refine fs_up hLJ rfl ?_))) (fun r34 hr34 => ?_)
                      obtain ⟨hr34I, hr34J⟩ := hr34
                      refine pc_s ?_
                      first | trivial | (refine ⟨?_, ?_⟩ <;> repeat (first | assumption | refine fs_up hL rfl ?_ | refine fs_up hLJ rfl ?_)) | (repeat (first | assumption | refine fs_up hL rfl ?_ | refine fs_up hLJ rfl ?_))
                    · refine pc_b (q_MD_qPuts (L := L) (LJ := LJ) (I0 := I0) (J0 := J0) (sub_t (by decide) hL) (sub_t (by decide) hLJ) (by repeat (first | assumption | refine fs_up hL rfl ?_ | refine fs_up hLJ rfl ?_)) (by repeat (first | assumption | refine fs_up hL rfl ?_ | refine fs_up hLJ rfl ?_))) (fun r33 hr33 => ?_)
                      obtain ⟨hr33I, hr33J⟩ := hr33
                      refine pc_s ?_
                      first | trivial | (refine ⟨?_, ?_⟩ <;> repeat (first | assumption | refine fs_up hL rfl ?_ | refine fs_up hLJ rfl ?_)) | (repeat (first | assumption | refine fs_up hL rfl ?_ | refine fs_up hLJ rfl ?_))
                  · refine pc_if ?_ ?_
                    · refine pc_b (q_MD_qPuts (L := L) (LJ := LJ) (I0 := I0) (J0 := J0) (sub_t (by decide) hL) (sub_t (by decide) hLJ) (by repeat (first | assumption | refine fs_up hL rfl ?_ | refine fs_up hLJ rfl ?_)) (by repeat (first | assumption | refine fs_up hL rfl ?_ | refine fs_up hLJ rfl ?_))) (fun r36 hr36 => ?_)
                      obtain ⟨hr36I, hr36J⟩ := hr36
                      refine pc_s ?_
                      first | trivial | (refine ⟨?_, ?_⟩ <;> repeat (first | assumption | refine fs_up hL rfl ?_ | refine fs_up hLJ rfl ?_)) | (repeat (first | assumption | refine fs_up hL rfl ?_ | refine fs_up hLJ rfl ?_))
                    · refine pc_if ?_ ?_
                      · refine pc_b (q_MD_qPuts (L := L) (LJ := LJ) (I0 := I0) (J0 := J0) (sub_t (by decide) hL) (sub_t (by decide) hLJ) (by repeat (first | assumption | refine fs_up hL rfl ?_ | refine fs_up hLJ rfl ?_)) (by repeat (first | assumption | refine fs_up hL rfl ?_ | refine fs_up hLJ rfl ?_))) (fun r38 hr38 => ?_)
                        obtain ⟨hr38I, hr38J⟩ := hr38
                        refine pc_s ?_
                        first | trivial | (refine ⟨?_, ?_⟩ <;> repeat (first | assumption | refine fs_up hL rfl ?_ | refine fs_up hLJ rfl ?_)) | (repeat (first | assumption | refine fs_up hL rfl ?_ | refine fs_up hLJ rfl ?_))
                      · refine pc_b (q_MD_qPuts (L := L) (LJ := LJ) (I0 := I0) (J0 := J0) (sub_t (by decide) hL) (sub_t (by decide) hLJ) (by repeat (first | assumption | refine fs_up hL rfl ?_ | refine fs_up hLJ rfl ?_)) (by repeat (first | assumption | refine fs_up hL rfl ?_ | refine fs_up hLJ rfl ?_))) (fun r39 hr39 => ?_)
                        obtain ⟨hr39I, hr39J⟩ := hr39
                        refine pc_s ?_
                        first | trivial | (refine ⟨?_, ?_⟩ <;> repeat (first | assumption | refine fs_up hL rfl ?_ | refine fs_up hLJ rfl ?_)) | (repeat (first | assumption | refine fs_up hL rfl ?_ | refine fs_up hLJ rfl ?_))
abbrev L_MD_codesTell_19 : List (Nat × Option Nat) := [(177, some 98)]
abbrev K_MD_codesTell_19 : List (Nat × Option Nat) := [(246, none)]
theorem q_MD_codesTell_19 {L LJ : List (Nat × Option Nat)} {I0 : MI} {J0 : MJ} {I : MI} {J : MJ} {v1 : Int32} {v2 : Int32} {v3 : Int32} (hL : subL L_MD_codesTell_19 L = true) (hLJ : subL K_MD_codesTell_19 LJ = true) (hI : fsL L I I0) (hJ : fsL LJ J J0) : pc (F_MD_codesTell_19 I J v1 v2 v3) (Sum.elim (fun r : Int32 × MI × MJ => fsL L r.2.1 I0 ∧ fsL LJ r.2.2 J0) (fun r : MI × MJ => fsL L r.1 I0 ∧ fsL LJ r.2 J0)) := by
  unfold F_MD_codesTell_19
  refine pc_gd ?_
  refine pc_if ?_ ?_
  · refine pc_s ?_
    first | trivial | (refine ⟨?_, ?_⟩ <;> repeat (first | assumption | refine fs_up hL rfl ?_ | refine fs_up hLJ rfl ?_)) | (repeat (first | assumption | refine fs_up hL rfl ?_ | refine fs_up hLJ rfl ?_))
  · refine pc_gd ?_
    refine pc_if ?_ ?_
    · refine pc_if ?_ ?_
      · refine pc_if ?_ ?_
        · refine pc_b (q_MD_qPuts (L := L) (LJ := LJ) (I0 := I0) (J0 := J0) (sub_t (by decide) hL) (sub_t (by decide) hLJ) (by repeat (first | assumption | refine fs_up hL rfl ?_ | refine fs_up hLJ rfl ?_)) (by repeat (first | assumption | refine fs_up hL rfl ?_ | refine fs_up hLJ rfl ?_))) (fun r12 hr12 => ?_)
          obtain ⟨hr12I, hr12J⟩ := hr12
          refine pc_s ?_
          first | trivial | (refine ⟨?_, ?_⟩ <;> repeat (first | assumption | refine fs_up hL rfl ?_ | refine fs_up hLJ rfl ?_)) | (repeat (first | assumption | refine fs_up hL rfl ?_ | refine fs_up hLJ rfl ?_))
        · refine pc_if ?_ ?_
          · refine pc_gd ?_
            refine pc_gd ?_
            refine pc_bnd ?_
            refine pc_s ?_
            first | trivial | (refine ⟨?_, ?_⟩ <;> repeat (first | assumption | refine fs_up hL rfl ?_ | refine fs_up hLJ rfl ?_)) | (repeat (first | assumption | refine fs_up hL rfl ?_ | refine fs_up hLJ rfl ?_))
          · refine pc_b (q_MD_qJoins (L := L) (LJ := LJ) (I0 := I0) (J0 := J0) (sub_t (by decide) hL) (sub_t (by decide) hLJ) (by repeat (first | assumption | refine fs_up hL rfl ?_ | refine fs_up hLJ rfl ?_)) (by repeat (first | assumption | refine fs_up hL rfl ?_ | refine fs_up hLJ rfl ?_))) (fun r8 hr8 => ?_)
            obtain ⟨hr8I, hr8J⟩ := hr8
            refine pc_s ?_
            first | trivial | (refine ⟨?_, ?_⟩ <;> repeat (first | assumption | refine fs_up hL rfl ?_ | refine fs_up hLJ rfl ?_)) | (repeat (first | assumption | refine fs_up hL rfl ?_ | refine fs_up hLJ rfl ?_))
      · refine pc_b' (fun r13 => ?_)
        refine pc_b (q_MD_qPuts (L := L) (LJ := LJ) (I0 := I0) (J0 := J0) (sub_t (by decide) hL) (sub_t (by decide) hLJ) (by repeat (first | assumption | refine fs_up hL rfl ?_ | refine fs_up hLJ rfl ?_)) (by repeat (first | assumption | refine fs_up hL rfl ?_ | refine fs_up hLJ rfl ?_))) (fun r14 hr14 => ?_)
        obtain ⟨hr14I, hr14J⟩ := hr14
        refine pc_s ?_
        first | trivial | (refine ⟨?_, ?_⟩ <;> repeat (first | assumption | refine fs_up hL rfl ?_ | refine fs_up hLJ rfl ?_)) | (repeat (first | assumption | refine fs_up hL rfl ?_ | refine fs_up hLJ rfl ?_))
    · refine pc_b (q_MD_qPuts (L := L) (LJ := LJ) (I0 := I0) (J0 := J0) (sub_t (by decide) hL) (sub_t (by decide) hLJ) (by repeat (first | assumption | refine fs_up hL rfl ?_ | refine fs_up hLJ rfl ?_)) (by repeat (first | assumption | refine fs_up hL rfl ?_ | refine fs_up hLJ rfl ?_))) (fun r15 hr15 => ?_)
      obtain ⟨hr15I, hr15J⟩ := hr15
      refine pc_s ?_
      first | trivial | (refine ⟨?_, ?_⟩ <;> repeat (first | assumption | refine fs_up hL rfl ?_ | refine fs_up hLJ rfl ?_)) | (repeat (first | assumption | refine fs_up hL rfl ?_ | refine fs_up hLJ rfl ?_))
abbrev L_MD_codesTell : List (Nat × Option Nat) := [(177, some 50), (177, some 98)]
abbrev K_MD_codesTell : List (Nat × Option Nat) := [(246, none)]
theorem q_MD_codesTell {L LJ : List (Nat × Option Nat)} {I0 : MI} {J0 : MJ} {I : MI} {J : MJ} {v1 : Int32} {v2 : Int32} (hL : subL L_MD_codesTell L = true) (hLJ : subL K_MD_codesTell LJ = true) (hI : fsL L I I0) (hJ : fsL LJ J J0) : pc (F_MD_codesTell I J v1 v2) (fun r : Int64 × MI × MJ => fsL L r.2.1 I0 ∧ fsL LJ r.2.2 J0) := by
  unfold F_MD_codesTell
  refine pc_gd ?_
  refine pc_b (pc_wl (fun s : Int32 × MI × MJ => fsL L s.2.1 I0 ∧ fsL LJ s.2.2 J0) (fun s hs => by obtain ⟨hsI, hsJ⟩ := hs; exact (q_MD_codesTell_19 (L := L) (LJ := LJ) (I0 := I0) (J0 := J0) (sub_t (by decide) hL) (sub_t (by decide) hLJ) (by repeat (first | assumption | refine fs_up hL rfl ?_ | refine fs_up hLJ rfl ?_)) (by repeat (first | assumption | refine fs_up hL rfl ?_ | refine fs_up hLJ rfl ?_)))) (by first | trivial | (refine ⟨?_, ?_⟩ <;> repeat (first | assumption | refine fs_up hL rfl ?_ | refine fs_up hLJ rfl ?_)) | (repeat (first | assumption | refine fs_up hL rfl ?_ | refine fs_up hLJ rfl ?_)))) (fun t2 ht2 => ?_)
  obtain ⟨ht2I, ht2J⟩ := ht2
  refine pc_s ?_
  first | trivial | (refine ⟨?_, ?_⟩ <;> repeat (first | assumption | refine fs_up hL rfl ?_ | refine fs_up hLJ rfl ?_)) | (repeat (first | assumption | refine fs_up hL rfl ?_ | refine fs_up hLJ rfl ?_))
abbrev L_MD_walkOf : List (Nat × Option Nat) := [(177, some 50), (177, some 53), (177, some 54), (177, some 98)]
abbrev K_MD_walkOf : List (Nat × Option Nat) := [(246, none)]
theorem q_MD_walkOf {L LJ : List (Nat × Option Nat)} {I0 : MI} {J0 : MJ} {I : MI} {J : MJ} {v1 : Int32} {v2 : Int32} (hL : subL L_MD_walkOf L = true) (hLJ : subL K_MD_walkOf LJ = true) (hI : fsL L I I0) (hJ : fsL LJ J J0) : pc (F_MD_walkOf I J v1 v2) (fun r : Int32 × MI × MJ => fsL L r.2.1 I0 ∧ fsL LJ r.2.2 J0) := by
  unfold F_MD_walkOf
  refine pc_if ?_ ?_
  · refine pc_gd ?_
    refine pc_s ?_
    first | trivial | (refine ⟨?_, ?_⟩ <;> repeat (first | assumption | refine fs_up hL rfl ?_ | refine fs_up hLJ rfl ?_)) | (repeat (first | assumption | refine fs_up hL rfl ?_ | refine fs_up hLJ rfl ?_))
  · refine pc_b' (fun r2 => ?_)
    refine pc_b (q_MD_codesTell (L := L) (LJ := LJ) (I0 := I0) (J0 := J0) (sub_t (by decide) hL) (sub_t (by decide) hLJ) (by repeat (first | assumption | refine fs_up hL rfl ?_ | refine fs_up hLJ rfl ?_)) (by repeat (first | assumption | refine fs_up hL rfl ?_ | refine fs_up hLJ rfl ?_))) (fun r3 hr3 => ?_)
    obtain ⟨hr3I, hr3J⟩ := hr3
    refine pc_if ?_ ?_
    · refine pc_if ?_ ?_
      · refine pc_s ?_
        first | trivial | (refine ⟨?_, ?_⟩ <;> repeat (first | assumption | refine fs_up hL rfl ?_ | refine fs_up hLJ rfl ?_)) | (repeat (first | assumption | refine fs_up hL rfl ?_ | refine fs_up hLJ rfl ?_))
      · refine pc_s ?_
        first | trivial | (refine ⟨?_, ?_⟩ <;> repeat (first | assumption | refine fs_up hL rfl ?_ | refine fs_up hLJ rfl ?_)) | (repeat (first | assumption | refine fs_up hL rfl ?_ | refine fs_up hLJ rfl ?_))
    · refine pc_s ?_
      first | trivial | (refine ⟨?_, ?_⟩ <;> repeat (first | assumption | refine fs_up hL rfl ?_ | refine fs_up hLJ rfl ?_)) | (repeat (first | assumption | refine fs_up hL rfl ?_ | refine fs_up hLJ rfl ?_))
abbrev L_MD_walks : List (Nat × Option Nat) := [(177, some 50), (177, some 53), (177, some 54), (177, some 98)]
abbrev K_MD_walks : List (Nat × Option Nat) := [(246, none)]
theorem q_MD_walks {L LJ : List (Nat × Option Nat)} {I0 : MI} {J0 : MJ} {I : MI} {J : MJ} {v1 : Int32} {v2 : Int32} (hL : subL L_MD_walks L = true) (hLJ : subL K_MD_walks LJ = true) (hI : fsL L I I0) (hJ : fsL LJ J J0) : pc (F_MD_walks I J v1 v2) (fun r : Int32 × MI × MJ => fsL L r.2.1 I0 ∧ fsL LJ r.2.2 J0) := by
  unfold F_MD_walks
  refine pc_b' (fun r1 => ?_)
  refine pc_if ?_ ?_
  · refine pc_s ?_
    first | trivial | (refine ⟨?_, ?_⟩ <;> repeat (first | assumption | refine fs_up hL rfl ?_ | refine fs_up hLJ rfl ?_)) | (repeat (first | assumption | refine fs_up hL rfl ?_ | refine fs_up hLJ rfl ?_))
  · refine pc_b' (fun r3 => ?_)
    refine pc_if ?_ ?_
    · refine pc_s ?_
      first | trivial | (refine ⟨?_, ?_⟩ <;> repeat (first | assumption | refine fs_up hL rfl ?_ | refine fs_up hLJ rfl ?_)) | (repeat (first | assumption | refine fs_up hL rfl ?_ | refine fs_up hLJ rfl ?_))
    · refine pc_b' (fun r5 => ?_)
      refine pc_if ?_ ?_
      · refine pc_s ?_
        first | trivial | (refine ⟨?_, ?_⟩ <;> repeat (first | assumption | refine fs_up hL rfl ?_ | refine fs_up hLJ rfl ?_)) | (repeat (first | assumption | refine fs_up hL rfl ?_ | refine fs_up hLJ rfl ?_))
      · refine pc_b (q_MD_walkOf (L := L) (LJ := LJ) (I0 := I0) (J0 := J0) (sub_t (by decide) hL) (sub_t (by decide) hLJ) (by repeat (first | assumption | refine fs_up hL rfl ?_ | refine fs_up hLJ rfl ?_)) (by repeat (first | assumption | refine fs_up hL rfl ?_ | refine fs_up hLJ rfl ?_))) (fun r7 hr7 => ?_)
        obtain ⟨hr7I, hr7J⟩ := hr7
        refine pc_s ?_
        first | trivial | (refine ⟨?_, ?_⟩ <;> repeat (first | assumption | refine fs_up hL rfl ?_ | refine fs_up hLJ rfl ?_)) | (repeat (first | assumption | refine fs_up hL rfl ?_ | refine fs_up hLJ rfl ?_))
abbrev L_MD_putsAside_7 : List (Nat × Option Nat) := [(214, none)]
abbrev K_MD_putsAside_7 : List (Nat × Option Nat) := []
theorem q_MD_putsAside_7 {L LJ : List (Nat × Option Nat)} {I0 : MI} {J0 : MJ} {I : MI} {v1 : Int32} (hL : subL L_MD_putsAside_7 L = true) (hLJ : subL K_MD_putsAside_7 LJ = true) (hI : fsL L I I0) : pc (F_MD_putsAside_7 I v1) (Sum.elim (fun r : Int32 × MI => fsL L r.2 I0) (fun r : MI => fsL L r I0)) := by
  unfold F_MD_putsAside_7
  refine pc_if ?_ ?_
  · refine pc_s ?_
    first | trivial | (refine ⟨?_, ?_⟩ <;> repeat (first | assumption | refine fs_up hL rfl ?_ | refine fs_up hLJ rfl ?_)) | (repeat (first | assumption | refine fs_up hL rfl ?_ | refine fs_up hLJ rfl ?_))
  · refine pc_gd ?_
    refine pc_gd ?_
    refine pc_s ?_
    first | trivial | (refine ⟨?_, ?_⟩ <;> repeat (first | assumption | refine fs_up hL rfl ?_ | refine fs_up hLJ rfl ?_)) | (repeat (first | assumption | refine fs_up hL rfl ?_ | refine fs_up hLJ rfl ?_))
abbrev L_MD_putsAside : List (Nat × Option Nat) := [(177, some 55), (214, none)]
abbrev K_MD_putsAside : List (Nat × Option Nat) := []
theorem q_MD_putsAside {L LJ : List (Nat × Option Nat)} {I0 : MI} {J0 : MJ} {I : MI} (hL : subL L_MD_putsAside L = true) (hLJ : subL K_MD_putsAside LJ = true) (hI : fsL L I I0) : pc (F_MD_putsAside I) (fun r : MI => fsL L r I0) := by
  unfold F_MD_putsAside
  refine pc_b (pc_wl (fun s : Int32 × MI => fsL L s.2 I0) (fun s hs => by exact (q_MD_putsAside_7 (L := L) (LJ := LJ) (I0 := I0) (J0 := J0) (sub_t (by decide) hL) (sub_t (by decide) hLJ) (by repeat (first | assumption | refine fs_up hL rfl ?_ | refine fs_up hLJ rfl ?_)))) (by first | trivial | (refine ⟨?_, ?_⟩ <;> repeat (first | assumption | refine fs_up hL rfl ?_ | refine fs_up hLJ rfl ?_)) | (repeat (first | assumption | refine fs_up hL rfl ?_ | refine fs_up hLJ rfl ?_)))) (fun t1 ht1 => ?_)
  refine pc_s ?_
  first | trivial | (refine ⟨?_, ?_⟩ <;> repeat (first | assumption | refine fs_up hL rfl ?_ | refine fs_up hLJ rfl ?_)) | (repeat (first | assumption | refine fs_up hL rfl ?_ | refine fs_up hLJ rfl ?_))
abbrev L_MD_triesAnew_2 : List (Nat × Option Nat) := [(213, none)]
abbrev K_MD_triesAnew_2 : List (Nat × Option Nat) := []
theorem q_MD_triesAnew_2 {L LJ : List (Nat × Option Nat)} {I0 : MI} {J0 : MJ} {I : MI} {v1 : Int32} (hL : subL L_MD_triesAnew_2 L = true) (hLJ : subL K_MD_triesAnew_2 LJ = true) (hI : fsL L I I0) : pc (F_MD_triesAnew_2 I v1) (Sum.elim (fun r : Int32 × MI => fsL L r.2 I0) (fun r : MI => fsL L r I0)) := by
  unfold F_MD_triesAnew_2
  refine pc_if ?_ ?_
  · refine pc_s ?_
    first | trivial | (refine ⟨?_, ?_⟩ <;> repeat (first | assumption | refine fs_up hL rfl ?_ | refine fs_up hLJ rfl ?_)) | (repeat (first | assumption | refine fs_up hL rfl ?_ | refine fs_up hLJ rfl ?_))
  · refine pc_gd ?_
    refine pc_gd ?_
    refine pc_s ?_
    first | trivial | (refine ⟨?_, ?_⟩ <;> repeat (first | assumption | refine fs_up hL rfl ?_ | refine fs_up hLJ rfl ?_)) | (repeat (first | assumption | refine fs_up hL rfl ?_ | refine fs_up hLJ rfl ?_))
abbrev L_MD_triesAnew : List (Nat × Option Nat) := [(213, none)]
abbrev K_MD_triesAnew : List (Nat × Option Nat) := []
theorem q_MD_triesAnew {L LJ : List (Nat × Option Nat)} {I0 : MI} {J0 : MJ} {I : MI} (hL : subL L_MD_triesAnew L = true) (hLJ : subL K_MD_triesAnew LJ = true) (hI : fsL L I I0) : pc (F_MD_triesAnew I) (fun r : MI => fsL L r I0) := by
  unfold F_MD_triesAnew
  refine pc_b (pc_wl (fun s : Int32 × MI => fsL L s.2 I0) (fun s hs => by exact (q_MD_triesAnew_2 (L := L) (LJ := LJ) (I0 := I0) (J0 := J0) (sub_t (by decide) hL) (sub_t (by decide) hLJ) (by repeat (first | assumption | refine fs_up hL rfl ?_ | refine fs_up hLJ rfl ?_)))) (by first | trivial | (refine ⟨?_, ?_⟩ <;> repeat (first | assumption | refine fs_up hL rfl ?_ | refine fs_up hLJ rfl ?_)) | (repeat (first | assumption | refine fs_up hL rfl ?_ | refine fs_up hLJ rfl ?_)))) (fun t1 ht1 => ?_)
  refine pc_s ?_
  first | trivial | (refine ⟨?_, ?_⟩ <;> repeat (first | assumption | refine fs_up hL rfl ?_ | refine fs_up hLJ rfl ?_)) | (repeat (first | assumption | refine fs_up hL rfl ?_ | refine fs_up hLJ rfl ?_))
abbrev L_MD_takesBack : List (Nat × Option Nat) := [(177, some 55), (213, none)]
abbrev K_MD_takesBack : List (Nat × Option Nat) := []
theorem q_MD_takesBack {L LJ : List (Nat × Option Nat)} {I0 : MI} {J0 : MJ} {I : MI} (hL : subL L_MD_takesBack L = true) (hLJ : subL K_MD_takesBack LJ = true) (hI : fsL L I I0) : pc (F_MD_takesBack I) (fun r : MI => fsL L r I0) := by
  unfold F_MD_takesBack
  refine pc_b (q_MD_triesAnew (L := L) (LJ := LJ) (I0 := I0) (J0 := J0) (sub_t (by decide) hL) (sub_t (by decide) hLJ) (by repeat (first | assumption | refine fs_up hL rfl ?_ | refine fs_up hLJ rfl ?_))) (fun r1 hr1 => ?_)
  refine pc_s ?_
  first | trivial | (refine ⟨?_, ?_⟩ <;> repeat (first | assumption | refine fs_up hL rfl ?_ | refine fs_up hLJ rfl ?_)) | (repeat (first | assumption | refine fs_up hL rfl ?_ | refine fs_up hLJ rfl ?_))
abbrev L_MD_doesRoot : List (Nat × Option Nat) := [(177, some 50), (177, some 53), (177, some 98)]
abbrev K_MD_doesRoot : List (Nat × Option Nat) := [(246, none)]
theorem q_MD_doesRoot {L LJ : List (Nat × Option Nat)} {I0 : MI} {J0 : MJ} {I : MI} {J : MJ} {v1 : Int32} (hL : subL L_MD_doesRoot L = true) (hLJ : subL K_MD_doesRoot LJ = true) (hI : fsL L I I0) (hJ : fsL LJ J J0) : pc (F_MD_doesRoot I J v1) (fun r : Int32 × MI × MJ => fsL L r.2.1 I0 ∧ fsL LJ r.2.2 J0) := by
  unfold F_MD_doesRoot
  refine pc_if ?_ ?_
  · refine pc_s ?_
    first | trivial | (refine ⟨?_, ?_⟩ <;> repeat (first | assumption | refine fs_up hL rfl ?_ | refine fs_up hLJ rfl ?_)) | (repeat (first | assumption | refine fs_up hL rfl ?_ | refine fs_up hLJ rfl ?_))
  · refine pc_b (q_MD_codesTell (L := L) (LJ := LJ) (I0 := I0) (J0 := J0) (sub_t (by decide) hL) (sub_t (by decide) hLJ) (by repeat (first | assumption | refine fs_up hL rfl ?_ | refine fs_up hLJ rfl ?_)) (by repeat (first | assumption | refine fs_up hL rfl ?_ | refine fs_up hLJ rfl ?_))) (fun r2 hr2 => ?_)
    obtain ⟨hr2I, hr2J⟩ := hr2
    refine pc_if ?_ ?_
    · refine pc_s ?_
      first | trivial | (refine ⟨?_, ?_⟩ <;> repeat (first | assumption | refine fs_up hL rfl ?_ | refine fs_up hLJ rfl ?_)) | (repeat (first | assumption | refine fs_up hL rfl ?_ | refine fs_up hLJ rfl ?_))
    · refine pc_s ?_
      first | trivial | (refine ⟨?_, ?_⟩ <;> repeat (first | assumption | refine fs_up hL rfl ?_ | refine fs_up hLJ rfl ?_)) | (repeat (first | assumption | refine fs_up hL rfl ?_ | refine fs_up hLJ rfl ?_))
abbrev L_MD_isKept_64 : List (Nat × Option Nat) := [(213, none)]
abbrev K_MD_isKept_64 : List (Nat × Option Nat) := []
theorem q_MD_isKept_64 {L LJ : List (Nat × Option Nat)} {I0 : MI} {J0 : MJ} {I : MI} {v1 : Int32} {v2 : Int32} (hL : subL L_MD_isKept_64 L = true) (hLJ : subL K_MD_isKept_64 LJ = true) (hI : fsL L I I0) : pc (F_MD_isKept_64 I v1 v2) (fun r : MI => fsL L r I0) := by
  unfold F_MD_isKept_64
  refine pc_gd ?_
  refine pc_gd ?_
  refine pc_gd ?_
  refine pc_bnd ?_
  refine pc_s ?_
  first | trivial | (refine ⟨?_, ?_⟩ <;> repeat (first | assumption | refine fs_up hL rfl ?_ | refine fs_up hLJ rfl ?_)) | (repeat (first | assumption | refine fs_up hL rfl ?_ | refine fs_up hLJ rfl ?_))
abbrev L_MD_isKept_23 : List (Nat × Option Nat) := [(213, none)]
abbrev K_MD_isKept_23 : List (Nat × Option Nat) := []
theorem q_MD_isKept_23 {L LJ : List (Nat × Option Nat)} {I0 : MI} {J0 : MJ} {I : MI} {v1 : Int32} {v2 : Int32} {v3 : Int32} (hL : subL L_MD_isKept_23 L = true) (hLJ : subL K_MD_isKept_23 LJ = true) (hI : fsL L I I0) : pc (F_MD_isKept_23 I v1 v2 v3) (Sum.elim (fun r : Int32 × MI => fsL L r.2 I0) (fun r : MI => fsL L r I0)) := by
  unfold F_MD_isKept_23
  refine pc_if ?_ ?_
  · refine pc_s ?_
    first | trivial | (refine ⟨?_, ?_⟩ <;> repeat (first | assumption | refine fs_up hL rfl ?_ | refine fs_up hLJ rfl ?_)) | (repeat (first | assumption | refine fs_up hL rfl ?_ | refine fs_up hLJ rfl ?_))
  · refine pc_gd ?_
    refine pc_gd ?_
    refine pc_s ?_
    first | trivial | (refine ⟨?_, ?_⟩ <;> repeat (first | assumption | refine fs_up hL rfl ?_ | refine fs_up hLJ rfl ?_)) | (repeat (first | assumption | refine fs_up hL rfl ?_ | refine fs_up hLJ rfl ?_))
abbrev L_MD_isKept : List (Nat × Option Nat) := [(213, none)]
abbrev K_MD_isKept : List (Nat × Option Nat) := []
theorem q_MD_isKept {L LJ : List (Nat × Option Nat)} {I0 : MI} {J0 : MJ} {I : MI} {v1 : Int32} {v2 : Int32} (hL : subL L_MD_isKept L = true) (hLJ : subL K_MD_isKept LJ = true) (hI : fsL L I I0) : pc (F_MD_isKept I v1 v2) (fun r : MI => fsL L r I0) := by
  unfold F_MD_isKept
  refine pc_if ?_ ?_
  · refine pc_if ?_ ?_
    · refine pc_b (pc_wl (fun s : Int32 × MI => fsL L s.2 I0) (fun s hs => by exact (q_MD_isKept_23 (L := L) (LJ := LJ) (I0 := I0) (J0 := J0) (sub_t (by decide) hL) (sub_t (by decide) hLJ) (by repeat (first | assumption | refine fs_up hL rfl ?_ | refine fs_up hLJ rfl ?_)))) (by first | trivial | (refine ⟨?_, ?_⟩ <;> repeat (first | assumption | refine fs_up hL rfl ?_ | refine fs_up hLJ rfl ?_)) | (repeat (first | assumption | refine fs_up hL rfl ?_ | refine fs_up hLJ rfl ?_)))) (fun t3 ht3 => ?_)
      exact (q_MD_isKept_64 (L := L) (LJ := LJ) (I0 := I0) (J0 := J0) (sub_t (by decide) hL) (sub_t (by decide) hLJ) (by repeat (first | assumption | refine fs_up hL rfl ?_ | refine fs_up hLJ rfl ?_)))
    · exact (q_MD_isKept_64 (L := L) (LJ := LJ) (I0 := I0) (J0 := J0) (sub_t (by decide) hL) (sub_t (by decide) hLJ) (by repeat (first | assumption | refine fs_up hL rfl ?_ | refine fs_up hLJ rfl ?_)))
  · refine pc_s ?_
    first | trivial | (refine ⟨?_, ?_⟩ <;> repeat (first | assumption | refine fs_up hL rfl ?_ | refine fs_up hLJ rfl ?_)) | (repeat (first | assumption | refine fs_up hL rfl ?_ | refine fs_up hLJ rfl ?_))
abbrev L_MD_rowIs : List (Nat × Option Nat) := [(213, none)]
abbrev K_MD_rowIs : List (Nat × Option Nat) := []
theorem q_MD_rowIs {L LJ : List (Nat × Option Nat)} {I0 : MI} {J0 : MJ} {I : MI} {v1 : Int32} {v2 : Int32} {v3 : Int32} (hL : subL L_MD_rowIs L = true) (hLJ : subL K_MD_rowIs LJ = true) (hI : fsL L I I0) : pc (F_MD_rowIs I v1 v2 v3) (fun r : MI => fsL L r I0) := by
  unfold F_MD_rowIs
  refine pc_gd ?_
  refine pc_s ?_
  first | trivial | (refine ⟨?_, ?_⟩ <;> repeat (first | assumption | refine fs_up hL rfl ?_ | refine fs_up hLJ rfl ?_)) | (repeat (first | assumption | refine fs_up hL rfl ?_ | refine fs_up hLJ rfl ?_))
abbrev L_MD_isSet_15 : List (Nat × Option Nat) := [(213, none)]
abbrev K_MD_isSet_15 : List (Nat × Option Nat) := []
theorem q_MD_isSet_15 {L LJ : List (Nat × Option Nat)} {I0 : MI} {J0 : MJ} {I : MI} {v1 : Int32} {v2 : Int32} (hL : subL L_MD_isSet_15 L = true) (hLJ : subL K_MD_isSet_15 LJ = true) (hI : fsL L I I0) : pc (F_MD_isSet_15 I v1 v2) (Sum.elim (fun r : Int32 × MI => fsL L r.2 I0) (fun r : MI => fsL L r I0)) := by
  unfold F_MD_isSet_15
  refine pc_if ?_ ?_
  · refine pc_s ?_
    first | trivial | (refine ⟨?_, ?_⟩ <;> repeat (first | assumption | refine fs_up hL rfl ?_ | refine fs_up hLJ rfl ?_)) | (repeat (first | assumption | refine fs_up hL rfl ?_ | refine fs_up hLJ rfl ?_))
  · refine pc_b (q_MD_rowIs (L := L) (LJ := LJ) (I0 := I0) (J0 := J0) (sub_t (by decide) hL) (sub_t (by decide) hLJ) (by repeat (first | assumption | refine fs_up hL rfl ?_ | refine fs_up hLJ rfl ?_))) (fun r2 hr2 => ?_)
    refine pc_s ?_
    first | trivial | (refine ⟨?_, ?_⟩ <;> repeat (first | assumption | refine fs_up hL rfl ?_ | refine fs_up hLJ rfl ?_)) | (repeat (first | assumption | refine fs_up hL rfl ?_ | refine fs_up hLJ rfl ?_))
abbrev L_MD_isSet : List (Nat × Option Nat) := [(213, none)]
abbrev K_MD_isSet : List (Nat × Option Nat) := []
theorem q_MD_isSet {L LJ : List (Nat × Option Nat)} {I0 : MI} {J0 : MJ} {I : MI} {v1 : Int32} (hL : subL L_MD_isSet L = true) (hLJ : subL K_MD_isSet LJ = true) (hI : fsL L I I0) : pc (F_MD_isSet I v1) (fun r : MI => fsL L r I0) := by
  unfold F_MD_isSet
  refine pc_gd ?_
  refine pc_b (pc_wl (fun s : Int32 × MI => fsL L s.2 I0) (fun s hs => by exact (q_MD_isSet_15 (L := L) (LJ := LJ) (I0 := I0) (J0 := J0) (sub_t (by decide) hL) (sub_t (by decide) hLJ) (by repeat (first | assumption | refine fs_up hL rfl ?_ | refine fs_up hLJ rfl ?_)))) (by first | trivial | (refine ⟨?_, ?_⟩ <;> repeat (first | assumption | refine fs_up hL rfl ?_ | refine fs_up hLJ rfl ?_)) | (repeat (first | assumption | refine fs_up hL rfl ?_ | refine fs_up hLJ rfl ?_)))) (fun t2 ht2 => ?_)
  refine pc_s ?_
  first | trivial | (refine ⟨?_, ?_⟩ <;> repeat (first | assumption | refine fs_up hL rfl ?_ | refine fs_up hLJ rfl ?_)) | (repeat (first | assumption | refine fs_up hL rfl ?_ | refine fs_up hLJ rfl ?_))
abbrev L_MD_isGone : List (Nat × Option Nat) := [(177, some 56), (213, none)]
abbrev K_MD_isGone : List (Nat × Option Nat) := []
theorem q_MD_isGone {L LJ : List (Nat × Option Nat)} {I0 : MI} {J0 : MJ} {I : MI} {v1 : Int32} {v2 : Int32} (hL : subL L_MD_isGone L = true) (hLJ : subL K_MD_isGone LJ = true) (hI : fsL L I I0) : pc (F_MD_isGone I v1 v2) (fun r : MI => fsL L r I0) := by
  unfold F_MD_isGone
  refine pc_b (q_MD_rowIs (L := L) (LJ := LJ) (I0 := I0) (J0 := J0) (sub_t (by decide) hL) (sub_t (by decide) hLJ) (by repeat (first | assumption | refine fs_up hL rfl ?_ | refine fs_up hLJ rfl ?_))) (fun r1 hr1 => ?_)
  refine pc_b (q_MD_isKept (L := L) (LJ := LJ) (I0 := I0) (J0 := J0) (sub_t (by decide) hL) (sub_t (by decide) hLJ) (by repeat (first | assumption | refine fs_up hL rfl ?_ | refine fs_up hLJ rfl ?_))) (fun r2 hr2 => ?_)
  refine pc_s ?_
  first | trivial | (refine ⟨?_, ?_⟩ <;> repeat (first | assumption | refine fs_up hL rfl ?_ | refine fs_up hLJ rfl ?_)) | (repeat (first | assumption | refine fs_up hL rfl ?_ | refine fs_up hLJ rfl ?_))
abbrev L_MD_stakeWalks_3 : List (Nat × Option Nat) := [(177, some 56), (213, none)]
abbrev K_MD_stakeWalks_3 : List (Nat × Option Nat) := []
theorem q_MD_stakeWalks_3 {L LJ : List (Nat × Option Nat)} {I0 : MI} {J0 : MJ} {I : MI} {v1 : Int32} {v2 : Int32} {v3 : Int32} {v4 : Int32} (hL : subL L_MD_stakeWalks_3 L = true) (hLJ : subL K_MD_stakeWalks_3 LJ = true) (hI : fsL L I I0) : pc (F_MD_stakeWalks_3 I v1 v2 v3 v4) (Sum.elim (fun r : Int32 × MI => fsL L r.2 I0) (Sum.elim (fun r : MI => fsL L r I0) (fun r : MI => fsL L r I0))) := by
  unfold F_MD_stakeWalks_3
  refine pc_if ?_ ?_
  · refine pc_s ?_
    first | trivial | (refine ⟨?_, ?_⟩ <;> repeat (first | assumption | refine fs_up hL rfl ?_ | refine fs_up hLJ rfl ?_)) | (repeat (first | assumption | refine fs_up hL rfl ?_ | refine fs_up hLJ rfl ?_))
  · refine pc_b' (fun r2 => ?_)
    refine pc_b' (fun r3 => ?_)
    refine pc_if ?_ ?_
    · refine pc_if ?_ ?_
      · refine pc_b (q_MD_isGone (L := L) (LJ := LJ) (I0 := I0) (J0 := J0) (sub_t (by decide) hL) (sub_t (by decide) hLJ) (by repeat (first | assumption | refine fs_up hL rfl ?_ | refine fs_up hLJ rfl ?_))) (fun r7 hr7 => ?_)
        refine pc_s ?_
        first | trivial | (refine ⟨?_, ?_⟩ <;> repeat (first | assumption | refine fs_up hL rfl ?_ | refine fs_up hLJ rfl ?_)) | (repeat (first | assumption | refine fs_up hL rfl ?_ | refine fs_up hLJ rfl ?_))
      · refine pc_b (q_MD_rowIs (L := L) (LJ := LJ) (I0 := I0) (J0 := J0) (sub_t (by decide) hL) (sub_t (by decide) hLJ) (by repeat (first | assumption | refine fs_up hL rfl ?_ | refine fs_up hLJ rfl ?_))) (fun r6 hr6 => ?_)
        refine pc_s ?_
        first | trivial | (refine ⟨?_, ?_⟩ <;> repeat (first | assumption | refine fs_up hL rfl ?_ | refine fs_up hLJ rfl ?_)) | (repeat (first | assumption | refine fs_up hL rfl ?_ | refine fs_up hLJ rfl ?_))
    · refine pc_s ?_
      first | trivial | (refine ⟨?_, ?_⟩ <;> repeat (first | assumption | refine fs_up hL rfl ?_ | refine fs_up hLJ rfl ?_)) | (repeat (first | assumption | refine fs_up hL rfl ?_ | refine fs_up hLJ rfl ?_))
abbrev L_MD_stakeWalks : List (Nat × Option Nat) := [(177, some 56), (213, none)]
abbrev K_MD_stakeWalks : List (Nat × Option Nat) := []
theorem q_MD_stakeWalks {L LJ : List (Nat × Option Nat)} {I0 : MI} {J0 : MJ} {I : MI} {v1 : Int32} {v2 : Int32} {v3 : Int32} (hL : subL L_MD_stakeWalks L = true) (hLJ : subL K_MD_stakeWalks LJ = true) (hI : fsL L I I0) : pc (F_MD_stakeWalks I v1 v2 v3) (fun r : MI => fsL L r I0) := by
  unfold F_MD_stakeWalks
  refine pc_b (pc_wl (fun s : Int32 × MI => fsL L s.2 I0) (fun s hs => by exact (q_MD_stakeWalks_3 (L := L) (LJ := LJ) (I0 := I0) (J0 := J0) (sub_t (by decide) hL) (sub_t (by decide) hLJ) (by repeat (first | assumption | refine fs_up hL rfl ?_ | refine fs_up hLJ rfl ?_)))) (by first | trivial | (refine ⟨?_, ?_⟩ <;> repeat (first | assumption | refine fs_up hL rfl ?_ | refine fs_up hLJ rfl ?_)) | (repeat (first | assumption | refine fs_up hL rfl ?_ | refine fs_up hLJ rfl ?_)))) (fun q hq => ?_)
  rcases q with t1 | q
  · skip
    have ht1 := hq
    refine pc_s ?_
    first | trivial | (refine ⟨?_, ?_⟩ <;> repeat (first | assumption | refine fs_up hL rfl ?_ | refine fs_up hLJ rfl ?_)) | (repeat (first | assumption | refine fs_up hL rfl ?_ | refine fs_up hLJ rfl ?_))
  · show pc (some q) _
    refine pc_s ?_
    first | exact hq | first | trivial | (refine ⟨?_, ?_⟩ <;> repeat (first | assumption | refine fs_up hL rfl ?_ | refine fs_up hLJ rfl ?_)) | (repeat (first | assumption | refine fs_up hL rfl ?_ | refine fs_up hLJ rfl ?_))
abbrev L_MD_yearGoes_12 : List (Nat × Option Nat) := [(177, some 50), (177, some 53), (177, some 54), (177, some 98), (215, none)]
abbrev K_MD_yearGoes_12 : List (Nat × Option Nat) := [(246, none)]
theorem q_MD_yearGoes_12 {L LJ : List (Nat × Option Nat)} {I0 : MI} {J0 : MJ} {I : MI} {J : MJ} {v1 : Int32} {v2 : Int32} (hL : subL L_MD_yearGoes_12 L = true) (hLJ : subL K_MD_yearGoes_12 LJ = true) (hI : fsL L I I0) (hJ : fsL LJ J J0) : pc (F_MD_yearGoes_12 I J v1 v2) (Sum.elim (fun r : Int32 × MI × MJ => fsL L r.2.1 I0 ∧ fsL LJ r.2.2 J0) (fun r : MI × MJ => fsL L r.1 I0 ∧ fsL LJ r.2 J0)) := by
  unfold F_MD_yearGoes_12
  refine pc_if ?_ ?_
  · refine pc_s ?_
    first | trivial | (refine ⟨?_, ?_⟩ <;> repeat (first | assumption | refine fs_up hL rfl ?_ | refine fs_up hLJ rfl ?_)) | (repeat (first | assumption | refine fs_up hL rfl ?_ | refine fs_up hLJ rfl ?_))
  · refine pc_b' (fun r2 => ?_)
    refine pc_if ?_ ?_
    · refine pc_b' (fun r5 => ?_)
      refine pc_if ?_ ?_
      · refine pc_gd ?_
        refine pc_s ?_
        first | trivial | (refine ⟨?_, ?_⟩ <;> repeat (first | assumption | refine fs_up hL rfl ?_ | refine fs_up hLJ rfl ?_)) | (repeat (first | assumption | refine fs_up hL rfl ?_ | refine fs_up hLJ rfl ?_))
      · refine pc_b (q_MD_walkOf (L := L) (LJ := LJ) (I0 := I0) (J0 := J0) (sub_t (by decide) hL) (sub_t (by decide) hLJ) (by repeat (first | assumption | refine fs_up hL rfl ?_ | refine fs_up hLJ rfl ?_)) (by repeat (first | assumption | refine fs_up hL rfl ?_ | refine fs_up hLJ rfl ?_))) (fun r7 hr7 => ?_)
        obtain ⟨hr7I, hr7J⟩ := hr7
        refine pc_gd ?_
        refine pc_s ?_
        first | trivial | (refine ⟨?_, ?_⟩ <;> repeat (first | assumption | refine fs_up hL rfl ?_ | refine fs_up hLJ rfl ?_)) | (repeat (first | assumption | refine fs_up hL rfl ?_ | refine fs_up hLJ rfl ?_))
    · refine pc_gd ?_
      refine pc_s ?_
      first | trivial | (refine ⟨?_, ?_⟩ <;> repeat (first | assumption | refine fs_up hL rfl ?_ | refine fs_up hLJ rfl ?_)) | (repeat (first | assumption | refine fs_up hL rfl ?_ | refine fs_up hLJ rfl ?_))
abbrev L_MD_yearGoes_2 : List (Nat × Option Nat) := [(177, some 50), (177, some 53), (177, some 54), (177, some 98), (215, none)]
abbrev K_MD_yearGoes_2 : List (Nat × Option Nat) := [(246, none)]
theorem q_MD_yearGoes_2 {L LJ : List (Nat × Option Nat)} {I0 : MI} {J0 : MJ} {I : MI} {J : MJ} {v1 : Int32} (hL : subL L_MD_yearGoes_2 L = true) (hLJ : subL K_MD_yearGoes_2 LJ = true) (hI : fsL L I I0) (hJ : fsL LJ J J0) : pc (F_MD_yearGoes_2 I J v1) (Sum.elim (fun r : Int32 × MI × MJ => fsL L r.2.1 I0 ∧ fsL LJ r.2.2 J0) (fun r : MI × MJ => fsL L r.1 I0 ∧ fsL LJ r.2 J0)) := by
  unfold F_MD_yearGoes_2
  refine pc_b' (fun r1 => ?_)
  refine pc_if ?_ ?_
  · refine pc_s ?_
    first | trivial | (refine ⟨?_, ?_⟩ <;> repeat (first | assumption | refine fs_up hL rfl ?_ | refine fs_up hLJ rfl ?_)) | (repeat (first | assumption | refine fs_up hL rfl ?_ | refine fs_up hLJ rfl ?_))
  · refine pc_b (pc_wl (fun s : Int32 × MI × MJ => fsL L s.2.1 I0 ∧ fsL LJ s.2.2 J0) (fun s hs => by obtain ⟨hsI, hsJ⟩ := hs; exact (q_MD_yearGoes_12 (L := L) (LJ := LJ) (I0 := I0) (J0 := J0) (sub_t (by decide) hL) (sub_t (by decide) hLJ) (by repeat (first | assumption | refine fs_up hL rfl ?_ | refine fs_up hLJ rfl ?_)) (by repeat (first | assumption | refine fs_up hL rfl ?_ | refine fs_up hLJ rfl ?_)))) (by first | trivial | (refine ⟨?_, ?_⟩ <;> repeat (first | assumption | refine fs_up hL rfl ?_ | refine fs_up hLJ rfl ?_)) | (repeat (first | assumption | refine fs_up hL rfl ?_ | refine fs_up hLJ rfl ?_)))) (fun t3 ht3 => ?_)
    obtain ⟨ht3I, ht3J⟩ := ht3
    refine pc_s ?_
    first | trivial | (refine ⟨?_, ?_⟩ <;> repeat (first | assumption | refine fs_up hL rfl ?_ | refine fs_up hLJ rfl ?_)) | (repeat (first | assumption | refine fs_up hL rfl ?_ | refine fs_up hLJ rfl ?_))
abbrev L_MD_yearGoes_85 : List (Nat × Option Nat) := [(177, some 56), (213, none)]
abbrev K_MD_yearGoes_85 : List (Nat × Option Nat) := []
theorem q_MD_yearGoes_85 {L LJ : List (Nat × Option Nat)} {I0 : MI} {J0 : MJ} {I : MI} {v1 : Int32} {v2 : Int32} (hL : subL L_MD_yearGoes_85 L = true) (hLJ : subL K_MD_yearGoes_85 LJ = true) (hI : fsL L I I0) : pc (F_MD_yearGoes_85 I v1 v2) (Sum.elim (fun r : Int32 × MI => fsL L r.2 I0) (fun r : MI => fsL L r I0)) := by
  unfold F_MD_yearGoes_85
  refine pc_if ?_ ?_
  · refine pc_s ?_
    first | trivial | (refine ⟨?_, ?_⟩ <;> repeat (first | assumption | refine fs_up hL rfl ?_ | refine fs_up hLJ rfl ?_)) | (repeat (first | assumption | refine fs_up hL rfl ?_ | refine fs_up hLJ rfl ?_))
  · refine pc_b' (fun r2 => ?_)
    refine pc_if ?_ ?_
    · refine pc_s ?_
      first | trivial | (refine ⟨?_, ?_⟩ <;> repeat (first | assumption | refine fs_up hL rfl ?_ | refine fs_up hLJ rfl ?_)) | (repeat (first | assumption | refine fs_up hL rfl ?_ | refine fs_up hLJ rfl ?_))
    · refine pc_gd ?_
      refine pc_b (q_MD_stakeWalks (L := L) (LJ := LJ) (I0 := I0) (J0 := J0) (sub_t (by decide) hL) (sub_t (by decide) hLJ) (by repeat (first | assumption | refine fs_up hL rfl ?_ | refine fs_up hLJ rfl ?_))) (fun r5 hr5 => ?_)
      refine pc_s ?_
      first | trivial | (refine ⟨?_, ?_⟩ <;> repeat (first | assumption | refine fs_up hL rfl ?_ | refine fs_up hLJ rfl ?_)) | (repeat (first | assumption | refine fs_up hL rfl ?_ | refine fs_up hLJ rfl ?_))
abbrev L_MD_yearGoes_75 : List (Nat × Option Nat) := [(177, some 56), (213, none)]
abbrev K_MD_yearGoes_75 : List (Nat × Option Nat) := []
theorem q_MD_yearGoes_75 {L LJ : List (Nat × Option Nat)} {I0 : MI} {J0 : MJ} {I : MI} {v1 : Int32} (hL : subL L_MD_yearGoes_75 L = true) (hLJ : subL K_MD_yearGoes_75 LJ = true) (hI : fsL L I I0) : pc (F_MD_yearGoes_75 I v1) (Sum.elim (fun r : Int32 × MI => fsL L r.2 I0) (fun r : MI => fsL L r I0)) := by
  unfold F_MD_yearGoes_75
  refine pc_b' (fun r1 => ?_)
  refine pc_if ?_ ?_
  · refine pc_s ?_
    first | trivial | (refine ⟨?_, ?_⟩ <;> repeat (first | assumption | refine fs_up hL rfl ?_ | refine fs_up hLJ rfl ?_)) | (repeat (first | assumption | refine fs_up hL rfl ?_ | refine fs_up hLJ rfl ?_))
  · refine pc_b (pc_wl (fun s : Int32 × MI => fsL L s.2 I0) (fun s hs => by exact (q_MD_yearGoes_85 (L := L) (LJ := LJ) (I0 := I0) (J0 := J0) (sub_t (by decide) hL) (sub_t (by decide) hLJ) (by repeat (first | assumption | refine fs_up hL rfl ?_ | refine fs_up hLJ rfl ?_)))) (by first | trivial | (refine ⟨?_, ?_⟩ <;> repeat (first | assumption | refine fs_up hL rfl ?_ | refine fs_up hLJ rfl ?_)) | (repeat (first | assumption | refine fs_up hL rfl ?_ | refine fs_up hLJ rfl ?_)))) (fun t3 ht3 => ?_)
    refine pc_s ?_
    first | trivial | (refine ⟨?_, ?_⟩ <;> repeat (first | assumption | refine fs_up hL rfl ?_ | refine fs_up hLJ rfl ?_)) | (repeat (first | assumption | refine fs_up hL rfl ?_ | refine fs_up hLJ rfl ?_))
abbrev L_MD_yearGoes_170 : List (Nat × Option Nat) := [(213, none)]
abbrev K_MD_yearGoes_170 : List (Nat × Option Nat) := []
theorem q_MD_yearGoes_170 {L LJ : List (Nat × Option Nat)} {I0 : MI} {J0 : MJ} {I : MI} {v1 : Int32} (hL : subL L_MD_yearGoes_170 L = true) (hLJ : subL K_MD_yearGoes_170 LJ = true) (hI : fsL L I I0) : pc (F_MD_yearGoes_170 I v1) (Sum.elim (fun r : Int32 × MI => fsL L r.2 I0) (fun r : MI => fsL L r I0)) := by
  unfold F_MD_yearGoes_170
  refine pc_gd ?_
  refine pc_s ?_
  first | trivial | (refine ⟨?_, ?_⟩ <;> repeat (first | assumption | refine fs_up hL rfl ?_ | refine fs_up hLJ rfl ?_)) | (repeat (first | assumption | refine fs_up hL rfl ?_ | refine fs_up hLJ rfl ?_))
abbrev L_MD_yearGoes_136 : List (Nat × Option Nat) := [(213, none)]
abbrev K_MD_yearGoes_136 : List (Nat × Option Nat) := []
theorem q_MD_yearGoes_136 {L LJ : List (Nat × Option Nat)} {I0 : MI} {J0 : MJ} {I : MI} {v1 : Int32} (hL : subL L_MD_yearGoes_136 L = true) (hLJ : subL K_MD_yearGoes_136 LJ = true) (hI : fsL L I I0) : pc (F_MD_yearGoes_136 I v1) (Sum.elim (fun r : Int32 × MI => fsL L r.2 I0) (fun r : MI => fsL L r I0)) := by
  unfold F_MD_yearGoes_136
  refine pc_b' (fun r1 => ?_)
  refine pc_if ?_ ?_
  · refine pc_s ?_
    first | trivial | (refine ⟨?_, ?_⟩ <;> repeat (first | assumption | refine fs_up hL rfl ?_ | refine fs_up hLJ rfl ?_)) | (repeat (first | assumption | refine fs_up hL rfl ?_ | refine fs_up hLJ rfl ?_))
  · refine pc_b' (fun r3 => ?_)
    refine pc_if ?_ ?_
    · exact (q_MD_yearGoes_170 (L := L) (LJ := LJ) (I0 := I0) (J0 := J0) (sub_t (by decide) hL) (sub_t (by decide) hLJ) (by repeat (first | assumption | refine fs_up hL rfl ?_ | refine fs_up hLJ rfl ?_)))
    · refine pc_gd ?_
      refine pc_gd ?_
      refine pc_bnd ?_
      exact (q_MD_yearGoes_170 (L := L) (LJ := LJ) (I0 := I0) (J0 := J0) (sub_t (by decide) hL) (sub_t (by decide) hLJ) (by repeat (first | assumption | refine fs_up hL rfl ?_ | refine fs_up hLJ rfl ?_)))
abbrev L_MD_yearGoes_193 : List (Nat × Option Nat) := [(177, some 50), (177, some 53), (177, some 98), (213, none)]
abbrev K_MD_yearGoes_193 : List (Nat × Option Nat) := [(246, none)]
theorem q_MD_yearGoes_193 {L LJ : List (Nat × Option Nat)} {I0 : MI} {J0 : MJ} {I : MI} {J : MJ} {v1 : Int32} (hL : subL L_MD_yearGoes_193 L = true) (hLJ : subL K_MD_yearGoes_193 LJ = true) (hI : fsL L I I0) (hJ : fsL LJ J J0) : pc (F_MD_yearGoes_193 I J v1) (Sum.elim (fun r : Int32 × MI × MJ => fsL L r.2.1 I0 ∧ fsL LJ r.2.2 J0) (fun r : MI × MJ => fsL L r.1 I0 ∧ fsL LJ r.2 J0)) := by
  unfold F_MD_yearGoes_193
  refine pc_b' (fun r1 => ?_)
  refine pc_if ?_ ?_
  · refine pc_s ?_
    first | trivial | (refine ⟨?_, ?_⟩ <;> repeat (first | assumption | refine fs_up hL rfl ?_ | refine fs_up hLJ rfl ?_)) | (repeat (first | assumption | refine fs_up hL rfl ?_ | refine fs_up hLJ rfl ?_))
  · refine pc_b (q_MD_doesRoot (L := L) (LJ := LJ) (I0 := I0) (J0 := J0) (sub_t (by decide) hL) (sub_t (by decide) hLJ) (by repeat (first | assumption | refine fs_up hL rfl ?_ | refine fs_up hLJ rfl ?_)) (by repeat (first | assumption | refine fs_up hL rfl ?_ | refine fs_up hLJ rfl ?_))) (fun r3 hr3 => ?_)
    obtain ⟨hr3I, hr3J⟩ := hr3
    refine pc_if ?_ ?_
    · refine pc_s ?_
      first | trivial | (refine ⟨?_, ?_⟩ <;> repeat (first | assumption | refine fs_up hL rfl ?_ | refine fs_up hLJ rfl ?_)) | (repeat (first | assumption | refine fs_up hL rfl ?_ | refine fs_up hLJ rfl ?_))
    · refine pc_b (q_MD_isSet (L := L) (LJ := LJ) (I0 := I0) (J0 := J0) (sub_t (by decide) hL) (sub_t (by decide) hLJ) (by repeat (first | assumption | refine fs_up hL rfl ?_ | refine fs_up hLJ rfl ?_))) (fun r5 hr5 => ?_)
      refine pc_b (q_MD_isKept (L := L) (LJ := LJ) (I0 := I0) (J0 := J0) (sub_t (by decide) hL) (sub_t (by decide) hLJ) (by repeat (first | assumption | refine fs_up hL rfl ?_ | refine fs_up hLJ rfl ?_))) (fun r6 hr6 => ?_)
      refine pc_s ?_
      first | trivial | (refine ⟨?_, ?_⟩ <;> repeat (first | assumption | refine fs_up hL rfl ?_ | refine fs_up hLJ rfl ?_)) | (repeat (first | assumption | refine fs_up hL rfl ?_ | refine fs_up hLJ rfl ?_))
abbrev L_MD_yearGoes : List (Nat × Option Nat) := [(177, some 50), (177, some 53), (177, some 54), (177, some 56), (177, some 98), (213, none), (215, none)]
abbrev K_MD_yearGoes : List (Nat × Option Nat) := [(246, none)]
theorem q_MD_yearGoes {L LJ : List (Nat × Option Nat)} {I0 : MI} {J0 : MJ} {I : MI} {J : MJ} (hL : subL L_MD_yearGoes L = true) (hLJ : subL K_MD_yearGoes LJ = true) (hI : fsL L I I0) (hJ : fsL LJ J J0) : pc (F_MD_yearGoes I J) (fun r : MI × MJ => fsL L r.1 I0 ∧ fsL LJ r.2 J0) := by
  unfold F_MD_yearGoes
  refine pc_b (pc_wl (fun s : Int32 × MI × MJ => fsL L s.2.1 I0 ∧ fsL LJ s.2.2 J0) (fun s hs => by obtain ⟨hsI, hsJ⟩ := hs; exact (q_MD_yearGoes_2 (L := L) (LJ := LJ) (I0 := I0) (J0 := J0) (sub_t (by decide) hL) (sub_t (by decide) hLJ) (by repeat (first | assumption | refine fs_up hL rfl ?_ | refine fs_up hLJ rfl ?_)) (by repeat (first | assumption | refine fs_up hL rfl ?_ | refine fs_up hLJ rfl ?_)))) (by first | trivial | (refine ⟨?_, ?_⟩ <;> repeat (first | assumption | refine fs_up hL rfl ?_ | refine fs_up hLJ rfl ?_)) | (repeat (first | assumption | refine fs_up hL rfl ?_ | refine fs_up hLJ rfl ?_)))) (fun t1 ht1 => ?_)
  obtain ⟨ht1I, ht1J⟩ := ht1
  refine pc_b (pc_wl (fun s : Int32 × MI => fsL L s.2 I0) (fun s hs => by exact (q_MD_yearGoes_75 (L := L) (LJ := LJ) (I0 := I0) (J0 := J0) (sub_t (by decide) hL) (sub_t (by decide) hLJ) (by repeat (first | assumption | refine fs_up hL rfl ?_ | refine fs_up hLJ rfl ?_)))) (by first | trivial | (refine ⟨?_, ?_⟩ <;> repeat (first | assumption | refine fs_up hL rfl ?_ | refine fs_up hLJ rfl ?_)) | (repeat (first | assumption | refine fs_up hL rfl ?_ | refine fs_up hLJ rfl ?_)))) (fun t2 ht2 => ?_)
  refine pc_b (pc_wl (fun s : Int32 × MI => fsL L s.2 I0) (fun s hs => by exact (q_MD_yearGoes_136 (L := L) (LJ := LJ) (I0 := I0) (J0 := J0) (sub_t (by decide) hL) (sub_t (by decide) hLJ) (by repeat (first | assumption | refine fs_up hL rfl ?_ | refine fs_up hLJ rfl ?_)))) (by first | trivial | (refine ⟨?_, ?_⟩ <;> repeat (first | assumption | refine fs_up hL rfl ?_ | refine fs_up hLJ rfl ?_)) | (repeat (first | assumption | refine fs_up hL rfl ?_ | refine fs_up hLJ rfl ?_)))) (fun t3 ht3 => ?_)
  refine pc_b (pc_wl (fun s : Int32 × MI × MJ => fsL L s.2.1 I0 ∧ fsL LJ s.2.2 J0) (fun s hs => by obtain ⟨hsI, hsJ⟩ := hs; exact (q_MD_yearGoes_193 (L := L) (LJ := LJ) (I0 := I0) (J0 := J0) (sub_t (by decide) hL) (sub_t (by decide) hLJ) (by repeat (first | assumption | refine fs_up hL rfl ?_ | refine fs_up hLJ rfl ?_)) (by repeat (first | assumption | refine fs_up hL rfl ?_ | refine fs_up hLJ rfl ?_)))) (by first | trivial | (refine ⟨?_, ?_⟩ <;> repeat (first | assumption | refine fs_up hL rfl ?_ | refine fs_up hLJ rfl ?_)) | (repeat (first | assumption | refine fs_up hL rfl ?_ | refine fs_up hLJ rfl ?_)))) (fun t4 ht4 => ?_)
  obtain ⟨ht4I, ht4J⟩ := ht4
  refine pc_s ?_
  first | trivial | (refine ⟨?_, ?_⟩ <;> repeat (first | assumption | refine fs_up hL rfl ?_ | refine fs_up hLJ rfl ?_)) | (repeat (first | assumption | refine fs_up hL rfl ?_ | refine fs_up hLJ rfl ?_))
abbrev L_MD_yearsGo_2 : List (Nat × Option Nat) := [(177, some 50), (177, some 53), (177, some 54), (177, some 56), (177, some 98), (213, none), (215, none)]
abbrev K_MD_yearsGo_2 : List (Nat × Option Nat) := [(246, none)]
theorem q_MD_yearsGo_2 {L LJ : List (Nat × Option Nat)} {I0 : MI} {J0 : MJ} {I : MI} {J : MJ} {v1 : Int32} {v2 : Int32} (hL : subL L_MD_yearsGo_2 L = true) (hLJ : subL K_MD_yearsGo_2 LJ = true) (hI : fsL L I I0) (hJ : fsL LJ J J0) : pc (F_MD_yearsGo_2 I J v1 v2) (Sum.elim (fun r : Int32 × MI × MJ => fsL L r.2.1 I0 ∧ fsL LJ r.2.2 J0) (fun r : MI × MJ => fsL L r.1 I0 ∧ fsL LJ r.2 J0)) := by
  unfold F_MD_yearsGo_2
  refine pc_if ?_ ?_
  · refine pc_s ?_
    first | trivial | (refine ⟨?_, ?_⟩ <;> repeat (first | assumption | refine fs_up hL rfl ?_ | refine fs_up hLJ rfl ?_)) | (repeat (first | assumption | refine fs_up hL rfl ?_ | refine fs_up hLJ rfl ?_))
  · refine pc_b (q_MD_yearGoes (L := L) (LJ := LJ) (I0 := I0) (J0 := J0) (sub_t (by decide) hL) (sub_t (by decide) hLJ) (by repeat (first | assumption | refine fs_up hL rfl ?_ | refine fs_up hLJ rfl ?_)) (by repeat (first | assumption | refine fs_up hL rfl ?_ | refine fs_up hLJ rfl ?_))) (fun r2 hr2 => ?_)
    obtain ⟨hr2I, hr2J⟩ := hr2
    refine pc_s ?_
    first | trivial | (refine ⟨?_, ?_⟩ <;> repeat (first | assumption | refine fs_up hL rfl ?_ | refine fs_up hLJ rfl ?_)) | (repeat (first | assumption | refine fs_up hL rfl ?_ | refine fs_up hLJ rfl ?_))
abbrev L_MD_yearsGo : List (Nat × Option Nat) := [(177, some 50), (177, some 53), (177, some 54), (177, some 56), (177, some 98), (213, none), (215, none)]
abbrev K_MD_yearsGo : List (Nat × Option Nat) := [(246, none)]
theorem q_MD_yearsGo {L LJ : List (Nat × Option Nat)} {I0 : MI} {J0 : MJ} {I : MI} {J : MJ} {v1 : Int32} (hL : subL L_MD_yearsGo L = true) (hLJ : subL K_MD_yearsGo LJ = true) (hI : fsL L I I0) (hJ : fsL LJ J J0) : pc (F_MD_yearsGo I J v1) (fun r : MI × MJ => fsL L r.1 I0 ∧ fsL LJ r.2 J0) := by
  unfold F_MD_yearsGo
  refine pc_b (pc_wl (fun s : Int32 × MI × MJ => fsL L s.2.1 I0 ∧ fsL LJ s.2.2 J0) (fun s hs => by obtain ⟨hsI, hsJ⟩ := hs; exact (q_MD_yearsGo_2 (L := L) (LJ := LJ) (I0 := I0) (J0 := J0) (sub_t (by decide) hL) (sub_t (by decide) hLJ) (by repeat (first | assumption | refine fs_up hL rfl ?_ | refine fs_up hLJ rfl ?_)) (by repeat (first | assumption | refine fs_up hL rfl ?_ | refine fs_up hLJ rfl ?_)))) (by first | trivial | (refine ⟨?_, ?_⟩ <;> repeat (first | assumption | refine fs_up hL rfl ?_ | refine fs_up hLJ rfl ?_)) | (repeat (first | assumption | refine fs_up hL rfl ?_ | refine fs_up hLJ rfl ?_)))) (fun t1 ht1 => ?_)
  obtain ⟨ht1I, ht1J⟩ := ht1
  refine pc_s ?_
  first | trivial | (refine ⟨?_, ?_⟩ <;> repeat (first | assumption | refine fs_up hL rfl ?_ | refine fs_up hLJ rfl ?_)) | (repeat (first | assumption | refine fs_up hL rfl ?_ | refine fs_up hLJ rfl ?_))
abbrev L_MD_later : List (Nat × Option Nat) := [(177, some 50), (177, some 53), (177, some 54), (177, some 55), (177, some 56), (177, some 98), (213, none), (214, none), (215, none)]
abbrev K_MD_later : List (Nat × Option Nat) := [(246, none)]
theorem q_MD_later {L LJ : List (Nat × Option Nat)} {I0 : MI} {J0 : MJ} {I : MI} {J : MJ} {v1 : Int32} {v2 : Int32} {v3 : Int32} (hL : subL L_MD_later L = true) (hLJ : subL K_MD_later LJ = true) (hI : fsL L I I0) (hJ : fsL LJ J J0) : pc (F_MD_later I J v1 v2 v3) (fun r : Int32 × MI × MJ => fsL L r.2.1 I0 ∧ fsL LJ r.2.2 J0) := by
  unfold F_MD_later
  refine pc_b' (fun r1 => ?_)
  refine pc_if ?_ ?_
  · refine pc_s ?_
    first | trivial | (refine ⟨?_, ?_⟩ <;> repeat (first | assumption | refine fs_up hL rfl ?_ | refine fs_up hLJ rfl ?_)) | (repeat (first | assumption | refine fs_up hL rfl ?_ | refine fs_up hLJ rfl ?_))
  · refine pc_b' (fun r3 => ?_)
    refine pc_if ?_ ?_
    · refine pc_s ?_
      first | trivial | (refine ⟨?_, ?_⟩ <;> repeat (first | assumption | refine fs_up hL rfl ?_ | refine fs_up hLJ rfl ?_)) | (repeat (first | assumption | refine fs_up hL rfl ?_ | refine fs_up hLJ rfl ?_))
    · refine pc_b' (fun r5 => ?_)
      refine pc_if ?_ ?_
      · refine pc_s ?_
        first | trivial | (refine ⟨?_, ?_⟩ <;> repeat (first | assumption | refine fs_up hL rfl ?_ | refine fs_up hLJ rfl ?_)) | (repeat (first | assumption | refine fs_up hL rfl ?_ | refine fs_up hLJ rfl ?_))
      · refine pc_b (q_MD_putsAside (L := L) (LJ := LJ) (I0 := I0) (J0 := J0) (sub_t (by decide) hL) (sub_t (by decide) hLJ) (by repeat (first | assumption | refine fs_up hL rfl ?_ | refine fs_up hLJ rfl ?_))) (fun r7 hr7 => ?_)
        refine pc_b (q_MD_yearsGo (L := L) (LJ := LJ) (I0 := I0) (J0 := J0) (sub_t (by decide) hL) (sub_t (by decide) hLJ) (by repeat (first | assumption | refine fs_up hL rfl ?_ | refine fs_up hLJ rfl ?_)) (by repeat (first | assumption | refine fs_up hL rfl ?_ | refine fs_up hLJ rfl ?_))) (fun r8 hr8 => ?_)
        obtain ⟨hr8I, hr8J⟩ := hr8
        refine pc_if ?_ ?_
        · refine pc_b' (fun r15 => ?_)
          refine pc_b (q_MD_takesBack (L := L) (LJ := LJ) (I0 := I0) (J0 := J0) (sub_t (by decide) hL) (sub_t (by decide) hLJ) (by repeat (first | assumption | refine fs_up hL rfl ?_ | refine fs_up hLJ rfl ?_))) (fun r16 hr16 => ?_)
          refine pc_s ?_
          first | trivial | (refine ⟨?_, ?_⟩ <;> repeat (first | assumption | refine fs_up hL rfl ?_ | refine fs_up hLJ rfl ?_)) | (repeat (first | assumption | refine fs_up hL rfl ?_ | refine fs_up hLJ rfl ?_))
        · refine pc_if ?_ ?_
          · refine pc_b' (fun r13 => ?_)
            refine pc_b (q_MD_takesBack (L := L) (LJ := LJ) (I0 := I0) (J0 := J0) (sub_t (by decide) hL) (sub_t (by decide) hLJ) (by repeat (first | assumption | refine fs_up hL rfl ?_ | refine fs_up hLJ rfl ?_))) (fun r14 hr14 => ?_)
            refine pc_s ?_
            first | trivial | (refine ⟨?_, ?_⟩ <;> repeat (first | assumption | refine fs_up hL rfl ?_ | refine fs_up hLJ rfl ?_)) | (repeat (first | assumption | refine fs_up hL rfl ?_ | refine fs_up hLJ rfl ?_))
          · refine pc_b' (fun r11 => ?_)
            refine pc_b (q_MD_takesBack (L := L) (LJ := LJ) (I0 := I0) (J0 := J0) (sub_t (by decide) hL) (sub_t (by decide) hLJ) (by repeat (first | assumption | refine fs_up hL rfl ?_ | refine fs_up hLJ rfl ?_))) (fun r12 hr12 => ?_)
            refine pc_s ?_
            first | trivial | (refine ⟨?_, ?_⟩ <;> repeat (first | assumption | refine fs_up hL rfl ?_ | refine fs_up hLJ rfl ?_)) | (repeat (first | assumption | refine fs_up hL rfl ?_ | refine fs_up hLJ rfl ?_))
abbrev L_MD_whose : List (Nat × Option Nat) := [(177, some 50), (177, some 53), (177, some 54), (177, some 55), (177, some 56), (177, some 98), (213, none), (214, none), (215, none)]
abbrev K_MD_whose : List (Nat × Option Nat) := [(246, none)]
theorem q_MD_whose {L LJ : List (Nat × Option Nat)} {I0 : MI} {J0 : MJ} {I : MI} {J : MJ} {v1 : Int32} {v2 : Int32} {v3 : Int32} (hL : subL L_MD_whose L = true) (hLJ : subL K_MD_whose LJ = true) (hI : fsL L I I0) (hJ : fsL LJ J J0) : pc (F_MD_whose I J v1 v2 v3) (fun r : Int32 × MI × MJ => fsL L r.2.1 I0 ∧ fsL LJ r.2.2 J0) := by
  unfold F_MD_whose
  refine pc_b' (fun r1 => ?_)
  refine pc_if ?_ ?_
  · refine pc_s ?_
    first | trivial | (refine ⟨?_, ?_⟩ <;> repeat (first | assumption | refine fs_up hL rfl ?_ | refine fs_up hLJ rfl ?_)) | (repeat (first | assumption | refine fs_up hL rfl ?_ | refine fs_up hLJ rfl ?_))
  · refine pc_b' (fun r3 => ?_)
    refine pc_if ?_ ?_
    · refine pc_s ?_
      first | trivial | (refine ⟨?_, ?_⟩ <;> repeat (first | assumption | refine fs_up hL rfl ?_ | refine fs_up hLJ rfl ?_)) | (repeat (first | assumption | refine fs_up hL rfl ?_ | refine fs_up hLJ rfl ?_))
    · refine pc_b (q_MD_putsAside (L := L) (LJ := LJ) (I0 := I0) (J0 := J0) (sub_t (by decide) hL) (sub_t (by decide) hLJ) (by repeat (first | assumption | refine fs_up hL rfl ?_ | refine fs_up hLJ rfl ?_))) (fun r5 hr5 => ?_)
      refine pc_b (q_MD_yearsGo (L := L) (LJ := LJ) (I0 := I0) (J0 := J0) (sub_t (by decide) hL) (sub_t (by decide) hLJ) (by repeat (first | assumption | refine fs_up hL rfl ?_ | refine fs_up hLJ rfl ?_)) (by repeat (first | assumption | refine fs_up hL rfl ?_ | refine fs_up hLJ rfl ?_))) (fun r6 hr6 => ?_)
      obtain ⟨hr6I, hr6J⟩ := hr6
      refine pc_b' (fun r7 => ?_)
      refine pc_b (q_MD_takesBack (L := L) (LJ := LJ) (I0 := I0) (J0 := J0) (sub_t (by decide) hL) (sub_t (by decide) hLJ) (by repeat (first | assumption | refine fs_up hL rfl ?_ | refine fs_up hLJ rfl ?_))) (fun r8 hr8 => ?_)
      refine pc_s ?_
      first | trivial | (refine ⟨?_, ?_⟩ <;> repeat (first | assumption | refine fs_up hL rfl ?_ | refine fs_up hLJ rfl ?_)) | (repeat (first | assumption | refine fs_up hL rfl ?_ | refine fs_up hLJ rfl ?_))
abbrev L_MD_meets_17 : List (Nat × Option Nat) := [(177, some 50), (177, some 53), (177, some 54), (177, some 56), (177, some 98), (213, none), (215, none)]
abbrev K_MD_meets_17 : List (Nat × Option Nat) := [(246, none)]
theorem q_MD_meets_17 {L LJ : List (Nat × Option Nat)} {I0 : MI} {J0 : MJ} {I : MI} {J : MJ} {v1 : Int32} {v2 : Int32} {v3 : Int32} (hL : subL L_MD_meets_17 L = true) (hLJ : subL K_MD_meets_17 LJ = true) (hI : fsL L I I0) (hJ : fsL LJ J J0) : pc (F_MD_meets_17 I J v1 v2 v3) (Sum.elim (fun r : Int32 × MI × MJ => fsL L r.2.1 I0 ∧ fsL LJ r.2.2 J0) (fun r : Int32 × MI × MJ => fsL L r.2.1 I0 ∧ fsL LJ r.2.2 J0)) := by
  unfold F_MD_meets_17
  refine pc_b' (fun r1 => ?_)
  refine pc_if ?_ ?_
  · refine pc_if ?_ ?_
    · refine pc_s ?_
      first | trivial | (refine ⟨?_, ?_⟩ <;> repeat (first | assumption | refine fs_up hL rfl ?_ | refine fs_up hLJ rfl ?_)) | (repeat (first | assumption | refine fs_up hL rfl ?_ | refine fs_up hLJ rfl ?_))
    · refine pc_if ?_ ?_
      · refine pc_s ?_
        first | trivial | (refine ⟨?_, ?_⟩ <;> repeat (first | assumption | refine fs_up hL rfl ?_ | refine fs_up hLJ rfl ?_)) | (repeat (first | assumption | refine fs_up hL rfl ?_ | refine fs_up hLJ rfl ?_))
      · refine pc_b (q_MD_yearGoes (L := L) (LJ := LJ) (I0 := I0) (J0 := J0) (sub_t (by decide) hL) (sub_t (by decide) hLJ) (by repeat (first | assumption | refine fs_up hL rfl ?_ | refine fs_up hLJ rfl ?_)) (by repeat (first | assumption | refine fs_up hL rfl ?_ | refine fs_up hLJ rfl ?_))) (fun r5 hr5 => ?_)
        obtain ⟨hr5I, hr5J⟩ := hr5
        refine pc_s ?_
        first | trivial | (refine ⟨?_, ?_⟩ <;> repeat (first | assumption | refine fs_up hL rfl ?_ | refine fs_up hLJ rfl ?_)) | (repeat (first | assumption | refine fs_up hL rfl ?_ | refine fs_up hLJ rfl ?_))
  · refine pc_s ?_
    first | trivial | (refine ⟨?_, ?_⟩ <;> repeat (first | assumption | refine fs_up hL rfl ?_ | refine fs_up hLJ rfl ?_)) | (repeat (first | assumption | refine fs_up hL rfl ?_ | refine fs_up hLJ rfl ?_))
abbrev L_MD_meets_54 : List (Nat × Option Nat) := [(177, some 55), (213, none)]
abbrev K_MD_meets_54 : List (Nat × Option Nat) := []
theorem q_MD_meets_54 {L LJ : List (Nat × Option Nat)} {I0 : MI} {J0 : MJ} {I : MI} {J : MJ} {v1 : Int32} {v2 : Int32} {v3 : Int32} (hL : subL L_MD_meets_54 L = true) (hLJ : subL K_MD_meets_54 LJ = true) (hI : fsL L I I0) (hJ : fsL LJ J J0) : pc (F_MD_meets_54 I J v1 v2 v3) (fun r : Int32 × MI × MJ => fsL L r.2.1 I0 ∧ fsL LJ r.2.2 J0) := by
  unfold F_MD_meets_54
  refine pc_b' (fun r1 => ?_)
  refine pc_b (q_MD_takesBack (L := L) (LJ := LJ) (I0 := I0) (J0 := J0) (sub_t (by decide) hL) (sub_t (by decide) hLJ) (by repeat (first | assumption | refine fs_up hL rfl ?_ | refine fs_up hLJ rfl ?_))) (fun r2 hr2 => ?_)
  refine pc_if ?_ ?_
  · refine pc_s ?_
    first | trivial | (refine ⟨?_, ?_⟩ <;> repeat (first | assumption | refine fs_up hL rfl ?_ | refine fs_up hLJ rfl ?_)) | (repeat (first | assumption | refine fs_up hL rfl ?_ | refine fs_up hLJ rfl ?_))
  · refine pc_s ?_
    first | trivial | (refine ⟨?_, ?_⟩ <;> repeat (first | assumption | refine fs_up hL rfl ?_ | refine fs_up hLJ rfl ?_)) | (repeat (first | assumption | refine fs_up hL rfl ?_ | refine fs_up hLJ rfl ?_))
abbrev L_MD_meets : List (Nat × Option Nat) := [(177, some 50), (177, some 53), (177, some 54), (177, some 55), (177, some 56), (177, some 98), (213, none), (214, none), (215, none)]
abbrev K_MD_meets : List (Nat × Option Nat) := [(246, none)]
theorem q_MD_meets {L LJ : List (Nat × Option Nat)} {I0 : MI} {J0 : MJ} {I : MI} {J : MJ} {v1 : Int32} {v2 : Int32} (hL : subL L_MD_meets L = true) (hLJ : subL K_MD_meets LJ = true) (hI : fsL L I I0) (hJ : fsL LJ J J0) : pc (F_MD_meets I J v1 v2) (fun r : Int32 × MI × MJ => fsL L r.2.1 I0 ∧ fsL LJ r.2.2 J0) := by
  unfold F_MD_meets
  refine pc_b' (fun r1 => ?_)
  refine pc_if ?_ ?_
  · refine pc_s ?_
    first | trivial | (refine ⟨?_, ?_⟩ <;> repeat (first | assumption | refine fs_up hL rfl ?_ | refine fs_up hLJ rfl ?_)) | (repeat (first | assumption | refine fs_up hL rfl ?_ | refine fs_up hLJ rfl ?_))
  · refine pc_b (q_MD_putsAside (L := L) (LJ := LJ) (I0 := I0) (J0 := J0) (sub_t (by decide) hL) (sub_t (by decide) hLJ) (by repeat (first | assumption | refine fs_up hL rfl ?_ | refine fs_up hLJ rfl ?_))) (fun r3 hr3 => ?_)
    refine pc_b (pc_wl (fun s : Int32 × MI × MJ => fsL L s.2.1 I0 ∧ fsL LJ s.2.2 J0) (fun s hs => by obtain ⟨hsI, hsJ⟩ := hs; exact (q_MD_meets_17 (L := L) (LJ := LJ) (I0 := I0) (J0 := J0) (sub_t (by decide) hL) (sub_t (by decide) hLJ) (by repeat (first | assumption | refine fs_up hL rfl ?_ | refine fs_up hLJ rfl ?_)) (by repeat (first | assumption | refine fs_up hL rfl ?_ | refine fs_up hLJ rfl ?_)))) (by first | trivial | (refine ⟨?_, ?_⟩ <;> repeat (first | assumption | refine fs_up hL rfl ?_ | refine fs_up hLJ rfl ?_)) | (repeat (first | assumption | refine fs_up hL rfl ?_ | refine fs_up hLJ rfl ?_)))) (fun t4 ht4 => ?_)
    obtain ⟨ht4I, ht4J⟩ := ht4
    exact (q_MD_meets_54 (L := L) (LJ := LJ) (I0 := I0) (J0 := J0) (sub_t (by decide) hL) (sub_t (by decide) hLJ) (by repeat (first | assumption | refine fs_up hL rfl ?_ | refine fs_up hLJ rfl ?_)) (by repeat (first | assumption | refine fs_up hL rfl ?_ | refine fs_up hLJ rfl ?_)))
abbrev L_MD_leastField_23 : List (Nat × Option Nat) := [(177, some 50), (177, some 53), (177, some 54), (177, some 56), (177, some 98), (213, none), (215, none)]
abbrev K_MD_leastField_23 : List (Nat × Option Nat) := [(246, none)]
theorem q_MD_leastField_23 {L LJ : List (Nat × Option Nat)} {I0 : MI} {J0 : MJ} {I : MI} {J : MJ} {v1 : Int32} {v2 : Int32} {v3 : Int32} {v4 : Int32} {v5 : Int32} (hL : subL L_MD_leastField_23 L = true) (hLJ : subL K_MD_leastField_23 LJ = true) (hI : fsL L I I0) (hJ : fsL LJ J J0) : pc (F_MD_leastField_23 I J v1 v2 v3 v4 v5) (Sum.elim (fun r : Int32 × Int32 × MI × MJ => fsL L r.2.2.1 I0 ∧ fsL LJ r.2.2.2 J0) (fun r : Int32 × MI × MJ => fsL L r.2.1 I0 ∧ fsL LJ r.2.2 J0)) := by
  unfold F_MD_leastField_23
  refine pc_b (q_MD_yearGoes (L := L) (LJ := LJ) (I0 := I0) (J0 := J0) (sub_t (by decide) hL) (sub_t (by decide) hLJ) (by repeat (first | assumption | refine fs_up hL rfl ?_ | refine fs_up hLJ rfl ?_)) (by repeat (first | assumption | refine fs_up hL rfl ?_ | refine fs_up hLJ rfl ?_))) (fun r1 hr1 => ?_)
  obtain ⟨hr1I, hr1J⟩ := hr1
  refine pc_b' (fun r2 => ?_)
  refine pc_if ?_ ?_
  · refine pc_s ?_
    first | trivial | (refine ⟨?_, ?_⟩ <;> repeat (first | assumption | refine fs_up hL rfl ?_ | refine fs_up hLJ rfl ?_)) | (repeat (first | assumption | refine fs_up hL rfl ?_ | refine fs_up hLJ rfl ?_))
  · refine pc_if ?_ ?_
    · refine pc_s ?_
      first | trivial | (refine ⟨?_, ?_⟩ <;> repeat (first | assumption | refine fs_up hL rfl ?_ | refine fs_up hLJ rfl ?_)) | (repeat (first | assumption | refine fs_up hL rfl ?_ | refine fs_up hLJ rfl ?_))
    · refine pc_s ?_
      first | trivial | (refine ⟨?_, ?_⟩ <;> repeat (first | assumption | refine fs_up hL rfl ?_ | refine fs_up hLJ rfl ?_)) | (repeat (first | assumption | refine fs_up hL rfl ?_ | refine fs_up hLJ rfl ?_))
abbrev L_MD_leastField_6 : List (Nat × Option Nat) := [(177, some 50), (177, some 53), (177, some 54), (177, some 56), (177, some 98), (213, none), (215, none)]
abbrev K_MD_leastField_6 : List (Nat × Option Nat) := [(246, none)]
theorem q_MD_leastField_6 {L LJ : List (Nat × Option Nat)} {I0 : MI} {J0 : MJ} {I : MI} {J : MJ} {v1 : Int32} {v2 : Int32} {v3 : Int32} {v4 : Int32} {v5 : Int32} (hL : subL L_MD_leastField_6 L = true) (hLJ : subL K_MD_leastField_6 LJ = true) (hI : fsL L I I0) (hJ : fsL LJ J J0) : pc (F_MD_leastField_6 I J v1 v2 v3 v4 v5) (Sum.elim (fun r : Int32 × Int32 × MI × MJ => fsL L r.2.2.1 I0 ∧ fsL LJ r.2.2.2 J0) (fun r : Int32 × MI × MJ => fsL L r.2.1 I0 ∧ fsL LJ r.2.2 J0)) := by
  unfold F_MD_leastField_6
  refine pc_if ?_ ?_
  · refine pc_s ?_
    first | trivial | (refine ⟨?_, ?_⟩ <;> repeat (first | assumption | refine fs_up hL rfl ?_ | refine fs_up hLJ rfl ?_)) | (repeat (first | assumption | refine fs_up hL rfl ?_ | refine fs_up hLJ rfl ?_))
  · refine pc_if ?_ ?_
    · refine pc_b (q_MD_isSet (L := L) (LJ := LJ) (I0 := I0) (J0 := J0) (sub_t (by decide) hL) (sub_t (by decide) hLJ) (by repeat (first | assumption | refine fs_up hL rfl ?_ | refine fs_up hLJ rfl ?_))) (fun r3 hr3 => ?_)
      exact (q_MD_leastField_23 (L := L) (LJ := LJ) (I0 := I0) (J0 := J0) (sub_t (by decide) hL) (sub_t (by decide) hLJ) (by repeat (first | assumption | refine fs_up hL rfl ?_ | refine fs_up hLJ rfl ?_)) (by repeat (first | assumption | refine fs_up hL rfl ?_ | refine fs_up hLJ rfl ?_)))
    · exact (q_MD_leastField_23 (L := L) (LJ := LJ) (I0 := I0) (J0 := J0) (sub_t (by decide) hL) (sub_t (by decide) hLJ) (by repeat (first | assumption | refine fs_up hL rfl ?_ | refine fs_up hLJ rfl ?_)) (by repeat (first | assumption | refine fs_up hL rfl ?_ | refine fs_up hLJ rfl ?_)))
abbrev L_MD_leastField : List (Nat × Option Nat) := [(177, some 50), (177, some 53), (177, some 54), (177, some 56), (177, some 98), (213, none), (215, none)]
abbrev K_MD_leastField : List (Nat × Option Nat) := [(246, none)]
theorem q_MD_leastField {L LJ : List (Nat × Option Nat)} {I0 : MI} {J0 : MJ} {I : MI} {J : MJ} {v1 : Int32} {v2 : Int32} {v3 : Int32} (hL : subL L_MD_leastField L = true) (hLJ : subL K_MD_leastField LJ = true) (hI : fsL L I I0) (hJ : fsL LJ J J0) : pc (F_MD_leastField I J v1 v2 v3) (fun r : Int32 × MI × MJ => fsL L r.2.1 I0 ∧ fsL LJ r.2.2 J0) := by
  unfold F_MD_leastField
  refine pc_b (pc_wl (fun s : Int32 × Int32 × MI × MJ => fsL L s.2.2.1 I0 ∧ fsL LJ s.2.2.2 J0) (fun s hs => by obtain ⟨hsI, hsJ⟩ := hs; exact (q_MD_leastField_6 (L := L) (LJ := LJ) (I0 := I0) (J0 := J0) (sub_t (by decide) hL) (sub_t (by decide) hLJ) (by repeat (first | assumption | refine fs_up hL rfl ?_ | refine fs_up hLJ rfl ?_)) (by repeat (first | assumption | refine fs_up hL rfl ?_ | refine fs_up hLJ rfl ?_)))) (by first | trivial | (refine ⟨?_, ?_⟩ <;> repeat (first | assumption | refine fs_up hL rfl ?_ | refine fs_up hLJ rfl ?_)) | (repeat (first | assumption | refine fs_up hL rfl ?_ | refine fs_up hLJ rfl ?_)))) (fun t1 ht1 => ?_)
  obtain ⟨ht1I, ht1J⟩ := ht1
  refine pc_b (q_MD_triesAnew (L := L) (LJ := LJ) (I0 := I0) (J0 := J0) (sub_t (by decide) hL) (sub_t (by decide) hLJ) (by repeat (first | assumption | refine fs_up hL rfl ?_ | refine fs_up hLJ rfl ?_))) (fun r2 hr2 => ?_)
  refine pc_s ?_
  first | trivial | (refine ⟨?_, ?_⟩ <;> repeat (first | assumption | refine fs_up hL rfl ?_ | refine fs_up hLJ rfl ?_)) | (repeat (first | assumption | refine fs_up hL rfl ?_ | refine fs_up hLJ rfl ?_))
abbrev L_MD_sets_50 : List (Nat × Option Nat) := [(177, some 50), (177, some 53), (177, some 54), (177, some 56), (177, some 98), (213, none), (215, none)]
abbrev K_MD_sets_50 : List (Nat × Option Nat) := [(246, none)]
theorem q_MD_sets_50 {L LJ : List (Nat × Option Nat)} {I0 : MI} {J0 : MJ} {I : MI} {J : MJ} {v1 : Int32} {v2 : Int32} {v3 : Int32} {v4 : Int32} {v5 : Int32} {v6 : Int32} (hL : subL L_MD_sets_50 L = true) (hLJ : subL K_MD_sets_50 LJ = true) (hI : fsL L I I0) (hJ : fsL LJ J J0) : pc (F_MD_sets_50 I J v1 v2 v3 v4 v5 v6) (Sum.elim (fun r : Int32 × Int32 × Int32 × MI × MJ => fsL L r.2.2.2.1 I0 ∧ fsL LJ r.2.2.2.2 J0) (fun r : Int32 × Int32 × MI × MJ => fsL L r.2.2.1 I0 ∧ fsL LJ r.2.2.2 J0)) := by
  unfold F_MD_sets_50
  refine pc_if ?_ ?_
  · refine pc_s ?_
    first | trivial | (refine ⟨?_, ?_⟩ <;> repeat (first | assumption | refine fs_up hL rfl ?_ | refine fs_up hLJ rfl ?_)) | (repeat (first | assumption | refine fs_up hL rfl ?_ | refine fs_up hLJ rfl ?_))
  · refine pc_b (q_MD_leastField (L := L) (LJ := LJ) (I0 := I0) (J0 := J0) (sub_t (by decide) hL) (sub_t (by decide) hLJ) (by repeat (first | assumption | refine fs_up hL rfl ?_ | refine fs_up hLJ rfl ?_)) (by repeat (first | assumption | refine fs_up hL rfl ?_ | refine fs_up hLJ rfl ?_))) (fun r2 hr2 => ?_)
    obtain ⟨hr2I, hr2J⟩ := hr2
    refine pc_if ?_ ?_
    · refine pc_s ?_
      first | trivial | (refine ⟨?_, ?_⟩ <;> repeat (first | assumption | refine fs_up hL rfl ?_ | refine fs_up hLJ rfl ?_)) | (repeat (first | assumption | refine fs_up hL rfl ?_ | refine fs_up hLJ rfl ?_))
    · refine pc_s ?_
      first | trivial | (refine ⟨?_, ?_⟩ <;> repeat (first | assumption | refine fs_up hL rfl ?_ | refine fs_up hLJ rfl ?_)) | (repeat (first | assumption | refine fs_up hL rfl ?_ | refine fs_up hLJ rfl ?_))
abbrev L_MD_sets : List (Nat × Option Nat) := [(177, some 50), (177, some 53), (177, some 54), (177, some 55), (177, some 56), (177, some 98), (213, none), (214, none), (215, none)]
abbrev K_MD_sets : List (Nat × Option Nat) := [(246, none)]
theorem q_MD_sets {L LJ : List (Nat × Option Nat)} {I0 : MI} {J0 : MJ} {I : MI} {J : MJ} {v1 : Int32} {v2 : Int32} {v3 : Int32} (hL : subL L_MD_sets L = true) (hLJ : subL K_MD_sets LJ = true) (hI : fsL L I I0) (hJ : fsL LJ J J0) : pc (F_MD_sets I J v1 v2 v3) (fun r : Int32 × MI × MJ => fsL L r.2.1 I0 ∧ fsL LJ r.2.2 J0) := by
  unfold F_MD_sets
  refine pc_b' (fun r1 => ?_)
  refine pc_if ?_ ?_
  · refine pc_s ?_
    first | trivial | (refine ⟨?_, ?_⟩ <;> repeat (first | assumption | refine fs_up hL rfl ?_ | refine fs_up hLJ rfl ?_)) | (repeat (first | assumption | refine fs_up hL rfl ?_ | refine fs_up hLJ rfl ?_))
  · refine pc_b' (fun r3 => ?_)
    refine pc_if ?_ ?_
    · refine pc_s ?_
      first | trivial | (refine ⟨?_, ?_⟩ <;> repeat (first | assumption | refine fs_up hL rfl ?_ | refine fs_up hLJ rfl ?_)) | (repeat (first | assumption | refine fs_up hL rfl ?_ | refine fs_up hLJ rfl ?_))
    · refine pc_b' (fun r5 => ?_)
      refine pc_if ?_ ?_
      · refine pc_s ?_
        first | trivial | (refine ⟨?_, ?_⟩ <;> repeat (first | assumption | refine fs_up hL rfl ?_ | refine fs_up hLJ rfl ?_)) | (repeat (first | assumption | refine fs_up hL rfl ?_ | refine fs_up hLJ rfl ?_))
      · refine pc_b (q_MD_putsAside (L := L) (LJ := LJ) (I0 := I0) (J0 := J0) (sub_t (by decide) hL) (sub_t (by decide) hLJ) (by repeat (first | assumption | refine fs_up hL rfl ?_ | refine fs_up hLJ rfl ?_))) (fun r7 hr7 => ?_)
        refine pc_b (q_MD_leastField (L := L) (LJ := LJ) (I0 := I0) (J0 := J0) (sub_t (by decide) hL) (sub_t (by decide) hLJ) (by repeat (first | assumption | refine fs_up hL rfl ?_ | refine fs_up hLJ rfl ?_)) (by repeat (first | assumption | refine fs_up hL rfl ?_ | refine fs_up hLJ rfl ?_))) (fun r8 hr8 => ?_)
        obtain ⟨hr8I, hr8J⟩ := hr8
        refine pc_b (pc_wl (fun s : Int32 × Int32 × Int32 × MI × MJ => fsL L s.2.2.2.1 I0 ∧ fsL LJ s.2.2.2.2 J0) (fun s hs => by obtain ⟨hsI, hsJ⟩ := hs; exact (q_MD_sets_50 (L := L) (LJ := LJ) (I0 := I0) (J0 := J0) (sub_t (by decide) hL) (sub_t (by decide) hLJ) (by repeat (first | assumption | refine fs_up hL rfl ?_ | refine fs_up hLJ rfl ?_)) (by repeat (first | assumption | refine fs_up hL rfl ?_ | refine fs_up hLJ rfl ?_)))) (by first | trivial | (refine ⟨?_, ?_⟩ <;> repeat (first | assumption | refine fs_up hL rfl ?_ | refine fs_up hLJ rfl ?_)) | (repeat (first | assumption | refine fs_up hL rfl ?_ | refine fs_up hLJ rfl ?_)))) (fun t9 ht9 => ?_)
        obtain ⟨ht9I, ht9J⟩ := ht9
        refine pc_b (q_MD_takesBack (L := L) (LJ := LJ) (I0 := I0) (J0 := J0) (sub_t (by decide) hL) (sub_t (by decide) hLJ) (by repeat (first | assumption | refine fs_up hL rfl ?_ | refine fs_up hLJ rfl ?_))) (fun r10 hr10 => ?_)
        refine pc_if ?_ ?_
        · refine pc_s ?_
          first | trivial | (refine ⟨?_, ?_⟩ <;> repeat (first | assumption | refine fs_up hL rfl ?_ | refine fs_up hLJ rfl ?_)) | (repeat (first | assumption | refine fs_up hL rfl ?_ | refine fs_up hLJ rfl ?_))
        · refine pc_s ?_
          first | trivial | (refine ⟨?_, ?_⟩ <;> repeat (first | assumption | refine fs_up hL rfl ?_ | refine fs_up hLJ rfl ?_)) | (repeat (first | assumption | refine fs_up hL rfl ?_ | refine fs_up hLJ rfl ?_))
abbrev L_MD_irons_85 : List (Nat × Option Nat) := [(177, some 50), (177, some 53), (177, some 54), (177, some 56), (177, some 98), (213, none), (215, none)]
abbrev K_MD_irons_85 : List (Nat × Option Nat) := [(246, none)]
theorem q_MD_irons_85 {L LJ : List (Nat × Option Nat)} {I0 : MI} {J0 : MJ} {I : MI} {J : MJ} {v1 : Int32} {v2 : Int32} {v3 : Int32} {v4 : Int32} {v5 : Int32} {v6 : Int32} {v7 : Int32} {v8 : Int32} (hL : subL L_MD_irons_85 L = true) (hLJ : subL K_MD_irons_85 LJ = true) (hI : fsL L I I0) (hJ : fsL LJ J J0) : pc (F_MD_irons_85 I J v1 v2 v3 v4 v5 v6 v7 v8) (Sum.elim (fun r : Int32 × Int32 × Int32 × Int32 × MI × MJ => fsL L r.2.2.2.2.1 I0 ∧ fsL LJ r.2.2.2.2.2 J0) (fun r : Int32 × Int32 × Int32 × MI × MJ => fsL L r.2.2.2.1 I0 ∧ fsL LJ r.2.2.2.2 J0)) := by
  unfold F_MD_irons_85
  refine pc_if ?_ ?_
  · refine pc_s ?_
    first | trivial | (refine ⟨?_, ?_⟩ <;> repeat (first | assumption | refine fs_up hL rfl ?_ | refine fs_up hLJ rfl ?_)) | (repeat (first | assumption | refine fs_up hL rfl ?_ | refine fs_up hLJ rfl ?_))
  · refine pc_b' (fun r2 => ?_)
    refine pc_if ?_ ?_
    · refine pc_gd ?_
      refine pc_gd ?_
      refine pc_bnd ?_
      refine pc_b (q_MD_yearsGo (L := L) (LJ := LJ) (I0 := I0) (J0 := J0) (sub_t (by decide) hL) (sub_t (by decide) hLJ) (by repeat (first | assumption | refine fs_up hL rfl ?_ | refine fs_up hLJ rfl ?_)) (by repeat (first | assumption | refine fs_up hL rfl ?_ | refine fs_up hLJ rfl ?_))) (fun r7 hr7 => ?_)
      obtain ⟨hr7I, hr7J⟩ := hr7
      refine pc_b' (fun r8 => ?_)
      refine pc_b (q_MD_triesAnew (L := L) (LJ := LJ) (I0 := I0) (J0 := J0) (sub_t (by decide) hL) (sub_t (by decide) hLJ) (by repeat (first | assumption | refine fs_up hL rfl ?_ | refine fs_up hLJ rfl ?_))) (fun r9 hr9 => ?_)
      refine pc_if ?_ ?_
      · refine pc_s ?_
        first | trivial | (refine ⟨?_, ?_⟩ <;> repeat (first | assumption | refine fs_up hL rfl ?_ | refine fs_up hLJ rfl ?_)) | (repeat (first | assumption | refine fs_up hL rfl ?_ | refine fs_up hLJ rfl ?_))
      · refine pc_s ?_
        first | trivial | (refine ⟨?_, ?_⟩ <;> repeat (first | assumption | refine fs_up hL rfl ?_ | refine fs_up hLJ rfl ?_)) | (repeat (first | assumption | refine fs_up hL rfl ?_ | refine fs_up hLJ rfl ?_))
    · refine pc_s ?_
      first | trivial | (refine ⟨?_, ?_⟩ <;> repeat (first | assumption | refine fs_up hL rfl ?_ | refine fs_up hLJ rfl ?_)) | (repeat (first | assumption | refine fs_up hL rfl ?_ | refine fs_up hLJ rfl ?_))
abbrev L_MD_irons_71 : List (Nat × Option Nat) := [(177, some 50), (177, some 53), (177, some 54), (177, some 56), (177, some 98), (213, none), (215, none)]
abbrev K_MD_irons_71 : List (Nat × Option Nat) := [(246, none)]
theorem q_MD_irons_71 {L LJ : List (Nat × Option Nat)} {I0 : MI} {J0 : MJ} {I : MI} {J : MJ} {v1 : Int32} {v2 : Int32} {v3 : Int32} {v4 : Int32} {v5 : Int32} {v6 : Int32} {v7 : Int32} (hL : subL L_MD_irons_71 L = true) (hLJ : subL K_MD_irons_71 LJ = true) (hI : fsL L I I0) (hJ : fsL LJ J J0) : pc (F_MD_irons_71 I J v1 v2 v3 v4 v5 v6 v7) (Sum.elim (fun r : Int32 × Int32 × Int32 × Int32 × MI × MJ => fsL L r.2.2.2.2.1 I0 ∧ fsL LJ r.2.2.2.2.2 J0) (fun r : Int32 × Int32 × Int32 × MI × MJ => fsL L r.2.2.2.1 I0 ∧ fsL LJ r.2.2.2.2 J0)) := by
  unfold F_MD_irons_71
  refine pc_if ?_ ?_
  · refine pc_s ?_
    first | trivial | (refine ⟨?_, ?_⟩ <;> repeat (first | assumption | refine fs_up hL rfl ?_ | refine fs_up hLJ rfl ?_)) | (repeat (first | assumption | refine fs_up hL rfl ?_ | refine fs_up hLJ rfl ?_))
  · refine pc_b (pc_wl (fun s : Int32 × Int32 × Int32 × Int32 × MI × MJ => fsL L s.2.2.2.2.1 I0 ∧ fsL LJ s.2.2.2.2.2 J0) (fun s hs => by obtain ⟨hsI, hsJ⟩ := hs; exact (q_MD_irons_85 (L := L) (LJ := LJ) (I0 := I0) (J0 := J0) (sub_t (by decide) hL) (sub_t (by decide) hLJ) (by repeat (first | assumption | refine fs_up hL rfl ?_ | refine fs_up hLJ rfl ?_)) (by repeat (first | assumption | refine fs_up hL rfl ?_ | refine fs_up hLJ rfl ?_)))) (by first | trivial | (refine ⟨?_, ?_⟩ <;> repeat (first | assumption | refine fs_up hL rfl ?_ | refine fs_up hLJ rfl ?_)) | (repeat (first | assumption | refine fs_up hL rfl ?_ | refine fs_up hLJ rfl ?_)))) (fun t2 ht2 => ?_)
    obtain ⟨ht2I, ht2J⟩ := ht2
    refine pc_s ?_
    first | trivial | (refine ⟨?_, ?_⟩ <;> repeat (first | assumption | refine fs_up hL rfl ?_ | refine fs_up hLJ rfl ?_)) | (repeat (first | assumption | refine fs_up hL rfl ?_ | refine fs_up hLJ rfl ?_))
abbrev L_MD_irons : List (Nat × Option Nat) := [(177, some 50), (177, some 53), (177, some 54), (177, some 55), (177, some 56), (177, some 98), (213, none), (214, none), (215, none)]
abbrev K_MD_irons : List (Nat × Option Nat) := [(246, none)]
theorem q_MD_irons {L LJ : List (Nat × Option Nat)} {I0 : MI} {J0 : MJ} {I : MI} {J : MJ} {v1 : Int32} {v2 : Int32} {v3 : Int32} (hL : subL L_MD_irons L = true) (hLJ : subL K_MD_irons LJ = true) (hI : fsL L I I0) (hJ : fsL LJ J J0) : pc (F_MD_irons I J v1 v2 v3) (fun r : Int32 × MI × MJ => fsL L r.2.1 I0 ∧ fsL LJ r.2.2 J0) := by
  unfold F_MD_irons
  refine pc_b' (fun r1 => ?_)
  refine pc_if ?_ ?_
  · refine pc_s ?_
    first | trivial | (refine ⟨?_, ?_⟩ <;> repeat (first | assumption | refine fs_up hL rfl ?_ | refine fs_up hLJ rfl ?_)) | (repeat (first | assumption | refine fs_up hL rfl ?_ | refine fs_up hLJ rfl ?_))
  · refine pc_b' (fun r3 => ?_)
    refine pc_if ?_ ?_
    · refine pc_s ?_
      first | trivial | (refine ⟨?_, ?_⟩ <;> repeat (first | assumption | refine fs_up hL rfl ?_ | refine fs_up hLJ rfl ?_)) | (repeat (first | assumption | refine fs_up hL rfl ?_ | refine fs_up hLJ rfl ?_))
    · refine pc_b' (fun r5 => ?_)
      refine pc_if ?_ ?_
      · refine pc_s ?_
        first | trivial | (refine ⟨?_, ?_⟩ <;> repeat (first | assumption | refine fs_up hL rfl ?_ | refine fs_up hLJ rfl ?_)) | (repeat (first | assumption | refine fs_up hL rfl ?_ | refine fs_up hLJ rfl ?_))
      · refine pc_b' (fun r7 => ?_)
        refine pc_if ?_ ?_
        · refine pc_s ?_
          first | trivial | (refine ⟨?_, ?_⟩ <;> repeat (first | assumption | refine fs_up hL rfl ?_ | refine fs_up hLJ rfl ?_)) | (repeat (first | assumption | refine fs_up hL rfl ?_ | refine fs_up hLJ rfl ?_))
        · refine pc_b (q_MD_putsAside (L := L) (LJ := LJ) (I0 := I0) (J0 := J0) (sub_t (by decide) hL) (sub_t (by decide) hLJ) (by repeat (first | assumption | refine fs_up hL rfl ?_ | refine fs_up hLJ rfl ?_))) (fun r9 hr9 => ?_)
          refine pc_b (q_MD_yearsGo (L := L) (LJ := LJ) (I0 := I0) (J0 := J0) (sub_t (by decide) hL) (sub_t (by decide) hLJ) (by repeat (first | assumption | refine fs_up hL rfl ?_ | refine fs_up hLJ rfl ?_)) (by repeat (first | assumption | refine fs_up hL rfl ?_ | refine fs_up hLJ rfl ?_))) (fun r10 hr10 => ?_)
          obtain ⟨hr10I, hr10J⟩ := hr10
          refine pc_b' (fun r11 => ?_)
          refine pc_b (q_MD_triesAnew (L := L) (LJ := LJ) (I0 := I0) (J0 := J0) (sub_t (by decide) hL) (sub_t (by decide) hLJ) (by repeat (first | assumption | refine fs_up hL rfl ?_ | refine fs_up hLJ rfl ?_))) (fun r12 hr12 => ?_)
          refine pc_b (pc_wl (fun s : Int32 × Int32 × Int32 × Int32 × MI × MJ => fsL L s.2.2.2.2.1 I0 ∧ fsL LJ s.2.2.2.2.2 J0) (fun s hs => by obtain ⟨hsI, hsJ⟩ := hs; exact (q_MD_irons_71 (L := L) (LJ := LJ) (I0 := I0) (J0 := J0) (sub_t (by decide) hL) (sub_t (by decide) hLJ) (by repeat (first | assumption | refine fs_up hL rfl ?_ | refine fs_up hLJ rfl ?_)) (by repeat (first | assumption | refine fs_up hL rfl ?_ | refine fs_up hLJ rfl ?_)))) (by first | trivial | (refine ⟨?_, ?_⟩ <;> repeat (first | assumption | refine fs_up hL rfl ?_ | refine fs_up hLJ rfl ?_)) | (repeat (first | assumption | refine fs_up hL rfl ?_ | refine fs_up hLJ rfl ?_)))) (fun t13 ht13 => ?_)
          obtain ⟨ht13I, ht13J⟩ := ht13
          refine pc_b (q_MD_takesBack (L := L) (LJ := LJ) (I0 := I0) (J0 := J0) (sub_t (by decide) hL) (sub_t (by decide) hLJ) (by repeat (first | assumption | refine fs_up hL rfl ?_ | refine fs_up hLJ rfl ?_))) (fun r14 hr14 => ?_)
          refine pc_if ?_ ?_
          · refine pc_s ?_
            first | trivial | (refine ⟨?_, ?_⟩ <;> repeat (first | assumption | refine fs_up hL rfl ?_ | refine fs_up hLJ rfl ?_)) | (repeat (first | assumption | refine fs_up hL rfl ?_ | refine fs_up hLJ rfl ?_))
          · refine pc_if ?_ ?_
            · refine pc_s ?_
              first | trivial | (refine ⟨?_, ?_⟩ <;> repeat (first | assumption | refine fs_up hL rfl ?_ | refine fs_up hLJ rfl ?_)) | (repeat (first | assumption | refine fs_up hL rfl ?_ | refine fs_up hLJ rfl ?_))
            · refine pc_if ?_ ?_
              · refine pc_s ?_
                first | trivial | (refine ⟨?_, ?_⟩ <;> repeat (first | assumption | refine fs_up hL rfl ?_ | refine fs_up hLJ rfl ?_)) | (repeat (first | assumption | refine fs_up hL rfl ?_ | refine fs_up hLJ rfl ?_))
              · refine pc_s ?_
                first | trivial | (refine ⟨?_, ?_⟩ <;> repeat (first | assumption | refine fs_up hL rfl ?_ | refine fs_up hLJ rfl ?_)) | (repeat (first | assumption | refine fs_up hL rfl ?_ | refine fs_up hLJ rfl ?_))
abbrev L_MD_laysFields_18 : List (Nat × Option Nat) := [(213, none)]
abbrev K_MD_laysFields_18 : List (Nat × Option Nat) := []
theorem q_MD_laysFields_18 {L LJ : List (Nat × Option Nat)} {I0 : MI} {J0 : MJ} {I : MI} {v1 : Int32} {v2 : Int32} {v3 : Int32} (hL : subL L_MD_laysFields_18 L = true) (hLJ : subL K_MD_laysFields_18 LJ = true) (hI : fsL L I I0) : pc (F_MD_laysFields_18 I v1 v2 v3) (Sum.elim (fun r : Int32 × MI => fsL L r.2 I0) (fun r : MI => fsL L r I0)) := by
  unfold F_MD_laysFields_18
  refine pc_b' (fun r1 => ?_)
  refine pc_if ?_ ?_
  · refine pc_s ?_
    first | trivial | (refine ⟨?_, ?_⟩ <;> repeat (first | assumption | refine fs_up hL rfl ?_ | refine fs_up hLJ rfl ?_)) | (repeat (first | assumption | refine fs_up hL rfl ?_ | refine fs_up hLJ rfl ?_))
  · refine pc_gd ?_
    refine pc_bnd ?_
    refine pc_s ?_
    first | trivial | (refine ⟨?_, ?_⟩ <;> repeat (first | assumption | refine fs_up hL rfl ?_ | refine fs_up hLJ rfl ?_)) | (repeat (first | assumption | refine fs_up hL rfl ?_ | refine fs_up hLJ rfl ?_))
abbrev L_MD_laysFields_58 : List (Nat × Option Nat) := [(216, none)]
abbrev K_MD_laysFields_58 : List (Nat × Option Nat) := []
theorem q_MD_laysFields_58 {L LJ : List (Nat × Option Nat)} {I0 : MI} {J0 : MJ} {I : MI} {v1 : Int32} {v2 : Int32} {v3 : Int32} (hL : subL L_MD_laysFields_58 L = true) (hLJ : subL K_MD_laysFields_58 LJ = true) (hI : fsL L I I0) : pc (F_MD_laysFields_58 I v1 v2 v3) (Sum.elim (fun r : Int32 × MI => fsL L r.2 I0) (fun r : MI => fsL L r I0)) := by
  unfold F_MD_laysFields_58
  refine pc_b' (fun r1 => ?_)
  refine pc_if ?_ ?_
  · refine pc_s ?_
    first | trivial | (refine ⟨?_, ?_⟩ <;> repeat (first | assumption | refine fs_up hL rfl ?_ | refine fs_up hLJ rfl ?_)) | (repeat (first | assumption | refine fs_up hL rfl ?_ | refine fs_up hLJ rfl ?_))
  · refine pc_b' (fun r3 => ?_)
    refine pc_gd ?_
    refine pc_s ?_
    first | trivial | (refine ⟨?_, ?_⟩ <;> repeat (first | assumption | refine fs_up hL rfl ?_ | refine fs_up hLJ rfl ?_)) | (repeat (first | assumption | refine fs_up hL rfl ?_ | refine fs_up hLJ rfl ?_))
abbrev L_MD_laysFields_6 : List (Nat × Option Nat) := [(177, some 50), (177, some 53), (177, some 54), (177, some 56), (177, some 98), (213, none), (215, none), (216, none)]
abbrev K_MD_laysFields_6 : List (Nat × Option Nat) := [(246, none)]
theorem q_MD_laysFields_6 {L LJ : List (Nat × Option Nat)} {I0 : MI} {J0 : MJ} {I : MI} {J : MJ} {v1 : Int32} {v2 : Int32} (hL : subL L_MD_laysFields_6 L = true) (hLJ : subL K_MD_laysFields_6 LJ = true) (hI : fsL L I I0) (hJ : fsL LJ J J0) : pc (F_MD_laysFields_6 I J v1 v2) (Sum.elim (fun r : Int32 × MI × MJ => fsL L r.2.1 I0 ∧ fsL LJ r.2.2 J0) (fun r : MI × MJ => fsL L r.1 I0 ∧ fsL LJ r.2 J0)) := by
  unfold F_MD_laysFields_6
  refine pc_b' (fun r1 => ?_)
  refine pc_if ?_ ?_
  · refine pc_s ?_
    first | trivial | (refine ⟨?_, ?_⟩ <;> repeat (first | assumption | refine fs_up hL rfl ?_ | refine fs_up hLJ rfl ?_)) | (repeat (first | assumption | refine fs_up hL rfl ?_ | refine fs_up hLJ rfl ?_))
  · refine pc_b (pc_wl (fun s : Int32 × MI => fsL L s.2 I0) (fun s hs => by exact (q_MD_laysFields_18 (L := L) (LJ := LJ) (I0 := I0) (J0 := J0) (sub_t (by decide) hL) (sub_t (by decide) hLJ) (by repeat (first | assumption | refine fs_up hL rfl ?_ | refine fs_up hLJ rfl ?_)))) (by first | trivial | (refine ⟨?_, ?_⟩ <;> repeat (first | assumption | refine fs_up hL rfl ?_ | refine fs_up hLJ rfl ?_)) | (repeat (first | assumption | refine fs_up hL rfl ?_ | refine fs_up hLJ rfl ?_)))) (fun t3 ht3 => ?_)
    refine pc_b (q_MD_yearsGo (L := L) (LJ := LJ) (I0 := I0) (J0 := J0) (sub_t (by decide) hL) (sub_t (by decide) hLJ) (by repeat (first | assumption | refine fs_up hL rfl ?_ | refine fs_up hLJ rfl ?_)) (by repeat (first | assumption | refine fs_up hL rfl ?_ | refine fs_up hLJ rfl ?_))) (fun r4 hr4 => ?_)
    obtain ⟨hr4I, hr4J⟩ := hr4
    refine pc_b (pc_wl (fun s : Int32 × MI => fsL L s.2 I0) (fun s hs => by exact (q_MD_laysFields_58 (L := L) (LJ := LJ) (I0 := I0) (J0 := J0) (sub_t (by decide) hL) (sub_t (by decide) hLJ) (by repeat (first | assumption | refine fs_up hL rfl ?_ | refine fs_up hLJ rfl ?_)))) (by first | trivial | (refine ⟨?_, ?_⟩ <;> repeat (first | assumption | refine fs_up hL rfl ?_ | refine fs_up hLJ rfl ?_)) | (repeat (first | assumption | refine fs_up hL rfl ?_ | refine fs_up hLJ rfl ?_)))) (fun t5 ht5 => ?_)
    refine pc_b (q_MD_triesAnew (L := L) (LJ := LJ) (I0 := I0) (J0 := J0) (sub_t (by decide) hL) (sub_t (by decide) hLJ) (by repeat (first | assumption | refine fs_up hL rfl ?_ | refine fs_up hLJ rfl ?_))) (fun r6 hr6 => ?_)
    refine pc_s ?_
    first | trivial | (refine ⟨?_, ?_⟩ <;> repeat (first | assumption | refine fs_up hL rfl ?_ | refine fs_up hLJ rfl ?_)) | (repeat (first | assumption | refine fs_up hL rfl ?_ | refine fs_up hLJ rfl ?_))
abbrev L_MD_laysFields : List (Nat × Option Nat) := [(177, some 50), (177, some 53), (177, some 54), (177, some 55), (177, some 56), (177, some 98), (213, none), (214, none), (215, none), (216, none)]
abbrev K_MD_laysFields : List (Nat × Option Nat) := [(246, none)]
theorem q_MD_laysFields {L LJ : List (Nat × Option Nat)} {I0 : MI} {J0 : MJ} {I : MI} {J : MJ} {v1 : Int32} (hL : subL L_MD_laysFields L = true) (hLJ : subL K_MD_laysFields LJ = true) (hI : fsL L I I0) (hJ : fsL LJ J J0) : pc (F_MD_laysFields I J v1) (fun r : MI × MJ => fsL L r.1 I0 ∧ fsL LJ r.2 J0) := by
  unfold F_MD_laysFields
  refine pc_b (q_MD_putsAside (L := L) (LJ := LJ) (I0 := I0) (J0 := J0) (sub_t (by decide) hL) (sub_t (by decide) hLJ) (by repeat (first | assumption | refine fs_up hL rfl ?_ | refine fs_up hLJ rfl ?_))) (fun r1 hr1 => ?_)
  refine pc_b (pc_wl (fun s : Int32 × MI × MJ => fsL L s.2.1 I0 ∧ fsL LJ s.2.2 J0) (fun s hs => by obtain ⟨hsI, hsJ⟩ := hs; exact (q_MD_laysFields_6 (L := L) (LJ := LJ) (I0 := I0) (J0 := J0) (sub_t (by decide) hL) (sub_t (by decide) hLJ) (by repeat (first | assumption | refine fs_up hL rfl ?_ | refine fs_up hLJ rfl ?_)) (by repeat (first | assumption | refine fs_up hL rfl ?_ | refine fs_up hLJ rfl ?_)))) (by first | trivial | (refine ⟨?_, ?_⟩ <;> repeat (first | assumption | refine fs_up hL rfl ?_ | refine fs_up hLJ rfl ?_)) | (repeat (first | assumption | refine fs_up hL rfl ?_ | refine fs_up hLJ rfl ?_)))) (fun t2 ht2 => ?_)
  obtain ⟨ht2I, ht2J⟩ := ht2
  refine pc_b (q_MD_takesBack (L := L) (LJ := LJ) (I0 := I0) (J0 := J0) (sub_t (by decide) hL) (sub_t (by decide) hLJ) (by repeat (first | assumption | refine fs_up hL rfl ?_ | refine fs_up hLJ rfl ?_))) (fun r3 hr3 => ?_)
  refine pc_s ?_
  first | trivial | (refine ⟨?_, ?_⟩ <;> repeat (first | assumption | refine fs_up hL rfl ?_ | refine fs_up hLJ rfl ?_)) | (repeat (first | assumption | refine fs_up hL rfl ?_ | refine fs_up hLJ rfl ?_))
abbrev L_MD_rest : List (Nat × Option Nat) := [(177, some 50), (177, some 53), (177, some 54), (177, some 55), (177, some 56), (177, some 98), (213, none), (214, none), (215, none), (216, none)]
abbrev K_MD_rest : List (Nat × Option Nat) := [(246, none)]
theorem q_MD_rest {L LJ : List (Nat × Option Nat)} {I0 : MI} {J0 : MJ} {I : MI} {J : MJ} {v1 : Int32} (hL : subL L_MD_rest L = true) (hLJ : subL K_MD_rest LJ = true) (hI : fsL L I I0) (hJ : fsL LJ J J0) : pc (F_MD_rest I J v1) (fun r : Int32 × MI × MJ => fsL L r.2.1 I0 ∧ fsL LJ r.2.2 J0) := by
  unfold F_MD_rest
  refine pc_b' (fun r1 => ?_)
  refine pc_if ?_ ?_
  · refine pc_s ?_
    first | trivial | (refine ⟨?_, ?_⟩ <;> repeat (first | assumption | refine fs_up hL rfl ?_ | refine fs_up hLJ rfl ?_)) | (repeat (first | assumption | refine fs_up hL rfl ?_ | refine fs_up hLJ rfl ?_))
  · refine pc_b (q_MD_laysFields (L := L) (LJ := LJ) (I0 := I0) (J0 := J0) (sub_t (by decide) hL) (sub_t (by decide) hLJ) (by repeat (first | assumption | refine fs_up hL rfl ?_ | refine fs_up hLJ rfl ?_)) (by repeat (first | assumption | refine fs_up hL rfl ?_ | refine fs_up hLJ rfl ?_))) (fun r3 hr3 => ?_)
    obtain ⟨hr3I, hr3J⟩ := hr3
    refine pc_b' (fun t4 => ?_)
    refine pc_s ?_
    first | trivial | (refine ⟨?_, ?_⟩ <;> repeat (first | assumption | refine fs_up hL rfl ?_ | refine fs_up hLJ rfl ?_)) | (repeat (first | assumption | refine fs_up hL rfl ?_ | refine fs_up hLJ rfl ?_))
abbrev L_MD_refuses : List (Nat × Option Nat) := [(179, none)]
abbrev K_MD_refuses : List (Nat × Option Nat) := []
theorem q_MD_refuses {L LJ : List (Nat × Option Nat)} {I0 : MI} {J0 : MJ} {I : MI} {v1 : Int32} (hL : subL L_MD_refuses L = true) (hLJ : subL K_MD_refuses LJ = true) (hI : fsL L I I0) : pc (F_MD_refuses I v1) (fun r : Int32 × MI => fsL L r.2 I0) := by
  unfold F_MD_refuses
  refine pc_gd ?_
  refine pc_gd ?_
  refine pc_s ?_
  first | trivial | (refine ⟨?_, ?_⟩ <;> repeat (first | assumption | refine fs_up hL rfl ?_ | refine fs_up hLJ rfl ?_)) | (repeat (first | assumption | refine fs_up hL rfl ?_ | refine fs_up hLJ rfl ?_))
abbrev L_MD_see_126 : List (Nat × Option Nat) := [(217, none)]
abbrev K_MD_see_126 : List (Nat × Option Nat) := []
theorem q_MD_see_126 {L LJ : List (Nat × Option Nat)} {I0 : MI} {J0 : MJ} {I : MI} {v1 : Int32} {v3 : Int32} (hL : subL L_MD_see_126 L = true) (hLJ : subL K_MD_see_126 LJ = true) (hI : fsL L I I0) : pc (F_MD_see_126 I v1 v3) (Sum.elim (fun r : Int32 × MI => fsL L r.2 I0) (fun r : MI => fsL L r I0)) := by
  unfold F_MD_see_126
  refine pc_if ?_ ?_
  · refine pc_s ?_
    first | trivial | (refine ⟨?_, ?_⟩ <;> repeat (first | assumption | refine fs_up hL rfl ?_ | refine fs_up hLJ rfl ?_)) | (repeat (first | assumption | refine fs_up hL rfl ?_ | refine fs_up hLJ rfl ?_))
  · refine pc_if ?_ ?_
    · refine pc_gd ?_
      refine pc_if ?_ ?_
      · refine pc_gd ?_
        refine pc_s ?_
        first | trivial | (refine ⟨?_, ?_⟩ <;> repeat (first | assumption | refine fs_up hL rfl ?_ | refine fs_up hLJ rfl ?_)) | (repeat (first | assumption | refine fs_up hL rfl ?_ | refine fs_up hLJ rfl ?_))
      · refine pc_gd ?_
        refine pc_gd ?_
        refine pc_s ?_
        first | trivial | (refine ⟨?_, ?_⟩ <;> repeat (first | assumption | refine fs_up hL rfl ?_ | refine fs_up hLJ rfl ?_)) | (repeat (first | assumption | refine fs_up hL rfl ?_ | refine fs_up hLJ rfl ?_))
    · refine pc_gd ?_
      refine pc_gd ?_
      refine pc_s ?_
      first | trivial | (refine ⟨?_, ?_⟩ <;> repeat (first | assumption | refine fs_up hL rfl ?_ | refine fs_up hLJ rfl ?_)) | (repeat (first | assumption | refine fs_up hL rfl ?_ | refine fs_up hLJ rfl ?_))
abbrev L_MD_see_114 : List (Nat × Option Nat) := [(177, some 59), (179, none), (217, none)]
abbrev K_MD_see_114 : List (Nat × Option Nat) := []
theorem q_MD_see_114 {L LJ : List (Nat × Option Nat)} {I0 : MI} {J0 : MJ} {I : MI} {v1 : Int32} {v2 : Int32} (hL : subL L_MD_see_114 L = true) (hLJ : subL K_MD_see_114 LJ = true) (hI : fsL L I I0) : pc (F_MD_see_114 I v1 v2) (fun r : Int32 × MI => fsL L r.2 I0) := by
  unfold F_MD_see_114
  refine pc_if ?_ ?_
  · refine pc_b (q_MD_refuses (L := L) (LJ := LJ) (I0 := I0) (J0 := J0) (sub_t (by decide) hL) (sub_t (by decide) hLJ) (by repeat (first | assumption | refine fs_up hL rfl ?_ | refine fs_up hLJ rfl ?_))) (fun r3 hr3 => ?_)
    refine pc_s ?_
    first | trivial | (refine ⟨?_, ?_⟩ <;> repeat (first | assumption | refine fs_up hL rfl ?_ | refine fs_up hLJ rfl ?_)) | (repeat (first | assumption | refine fs_up hL rfl ?_ | refine fs_up hLJ rfl ?_))
  · refine pc_b (pc_wl (fun s : Int32 × MI => fsL L s.2 I0) (fun s hs => by exact (q_MD_see_126 (L := L) (LJ := LJ) (I0 := I0) (J0 := J0) (sub_t (by decide) hL) (sub_t (by decide) hLJ) (by repeat (first | assumption | refine fs_up hL rfl ?_ | refine fs_up hLJ rfl ?_)))) (by first | trivial | (refine ⟨?_, ?_⟩ <;> repeat (first | assumption | refine fs_up hL rfl ?_ | refine fs_up hLJ rfl ?_)) | (repeat (first | assumption | refine fs_up hL rfl ?_ | refine fs_up hLJ rfl ?_)))) (fun t2 ht2 => ?_)
    refine pc_s ?_
    first | trivial | (refine ⟨?_, ?_⟩ <;> repeat (first | assumption | refine fs_up hL rfl ?_ | refine fs_up hLJ rfl ?_)) | (repeat (first | assumption | refine fs_up hL rfl ?_ | refine fs_up hLJ rfl ?_))
abbrev L_MD_see_40 : List (Nat × Option Nat) := [(177, some 59), (179, none), (217, none)]
abbrev K_MD_see_40 : List (Nat × Option Nat) := []
theorem q_MD_see_40 {L LJ : List (Nat × Option Nat)} {I0 : MI} {J0 : MJ} {I : MI} {v1 : Int32} {y0 : Int32} (hL : subL L_MD_see_40 L = true) (hLJ : subL K_MD_see_40 LJ = true) (hI : fsL L I I0) : pc (F_MD_see_40 I v1 y0) (fun r : Int32 × MI => fsL L r.2 I0) := by
  unfold F_MD_see_40
  refine pc_b' (fun t1 => ?_)
  exact (q_MD_see_114 (L := L) (LJ := LJ) (I0 := I0) (J0 := J0) (sub_t (by decide) hL) (sub_t (by decide) hLJ) (by repeat (first | assumption | refine fs_up hL rfl ?_ | refine fs_up hLJ rfl ?_)))
abbrev L_MD_see_39 : List (Nat × Option Nat) := [(177, some 59), (179, none), (217, none)]
abbrev K_MD_see_39 : List (Nat × Option Nat) := []
theorem q_MD_see_39 {L LJ : List (Nat × Option Nat)} {I0 : MI} {J0 : MJ} {I : MI} {v1 : Int32} (hL : subL L_MD_see_39 L = true) (hLJ : subL K_MD_see_39 LJ = true) (hI : fsL L I I0) : pc (F_MD_see_39 I v1) (fun r : Int32 × MI => fsL L r.2 I0) := by
  unfold F_MD_see_39
  exact (q_MD_see_40 (L := L) (LJ := LJ) (I0 := I0) (J0 := J0) (sub_t (by decide) hL) (sub_t (by decide) hLJ) (by repeat (first | assumption | refine fs_up hL rfl ?_ | refine fs_up hLJ rfl ?_)))
abbrev L_MD_see : List (Nat × Option Nat) := [(177, some 1), (177, some 59), (179, none), (217, none)]
abbrev K_MD_see : List (Nat × Option Nat) := []
theorem q_MD_see {L LJ : List (Nat × Option Nat)} {I0 : MI} {J0 : MJ} {I : MI} (hL : subL L_MD_see L = true) (hLJ : subL K_MD_see LJ = true) (hI : fsL L I I0) : pc (F_MD_see I) (fun r : Int32 × MI => fsL L r.2 I0) := by
  unfold F_MD_see
  refine pc_if ?_ ?_
  · exact (q_MD_see_39 (L := L) (LJ := LJ) (I0 := I0) (J0 := J0) (sub_t (by decide) hL) (sub_t (by decide) hLJ) (by repeat (first | assumption | refine fs_up hL rfl ?_ | refine fs_up hLJ rfl ?_)))
  · refine pc_if ?_ ?_
    · exact (q_MD_see_39 (L := L) (LJ := LJ) (I0 := I0) (J0 := J0) (sub_t (by decide) hL) (sub_t (by decide) hLJ) (by repeat (first | assumption | refine fs_up hL rfl ?_ | refine fs_up hLJ rfl ?_)))
    · refine pc_if ?_ ?_
      · refine pc_if ?_ ?_
        · exact (q_MD_see_39 (L := L) (LJ := LJ) (I0 := I0) (J0 := J0) (sub_t (by decide) hL) (sub_t (by decide) hLJ) (by repeat (first | assumption | refine fs_up hL rfl ?_ | refine fs_up hLJ rfl ?_)))
        · exact (q_MD_see_40 (L := L) (LJ := LJ) (I0 := I0) (J0 := J0) (sub_t (by decide) hL) (sub_t (by decide) hLJ) (by repeat (first | assumption | refine fs_up hL rfl ?_ | refine fs_up hLJ rfl ?_)))
      · exact (q_MD_see_39 (L := L) (LJ := LJ) (I0 := I0) (J0 := J0) (sub_t (by decide) hL) (sub_t (by decide) hLJ) (by repeat (first | assumption | refine fs_up hL rfl ?_ | refine fs_up hLJ rfl ?_)))
abbrev L_MD_laysFits_80 : List (Nat × Option Nat) := [(218, none)]
abbrev K_MD_laysFits_80 : List (Nat × Option Nat) := []
theorem q_MD_laysFits_80 {L LJ : List (Nat × Option Nat)} {I0 : MI} {J0 : MJ} {I : MI} {v1 : Int32} {v2 : Int32} {v3 : Int32} (hL : subL L_MD_laysFits_80 L = true) (hLJ : subL K_MD_laysFits_80 LJ = true) (hI : fsL L I I0) : pc (F_MD_laysFits_80 I v1 v2 v3) (Sum.elim (fun r : Int32 × MI => fsL L r.2 I0) (fun r : MI => fsL L r I0)) := by
  unfold F_MD_laysFits_80
  refine pc_if ?_ ?_
  · refine pc_s ?_
    first | trivial | (refine ⟨?_, ?_⟩ <;> repeat (first | assumption | refine fs_up hL rfl ?_ | refine fs_up hLJ rfl ?_)) | (repeat (first | assumption | refine fs_up hL rfl ?_ | refine fs_up hLJ rfl ?_))
  · refine pc_b' (fun r2 => ?_)
    refine pc_gd ?_
    refine pc_s ?_
    first | trivial | (refine ⟨?_, ?_⟩ <;> repeat (first | assumption | refine fs_up hL rfl ?_ | refine fs_up hLJ rfl ?_)) | (repeat (first | assumption | refine fs_up hL rfl ?_ | refine fs_up hLJ rfl ?_))
abbrev L_MD_laysFits_68 : List (Nat × Option Nat) := [(218, none)]
abbrev K_MD_laysFits_68 : List (Nat × Option Nat) := []
theorem q_MD_laysFits_68 {L LJ : List (Nat × Option Nat)} {I0 : MI} {J0 : MJ} {I : MI} {v1 : Int32} {v2 : Int32} (hL : subL L_MD_laysFits_68 L = true) (hLJ : subL K_MD_laysFits_68 LJ = true) (hI : fsL L I I0) : pc (F_MD_laysFits_68 I v1 v2) (Sum.elim (fun r : Int32 × MI => fsL L r.2 I0) (fun r : MI => fsL L r I0)) := by
  unfold F_MD_laysFits_68
  refine pc_if ?_ ?_
  · refine pc_s ?_
    first | trivial | (refine ⟨?_, ?_⟩ <;> repeat (first | assumption | refine fs_up hL rfl ?_ | refine fs_up hLJ rfl ?_)) | (repeat (first | assumption | refine fs_up hL rfl ?_ | refine fs_up hLJ rfl ?_))
  · refine pc_b (pc_wl (fun s : Int32 × MI => fsL L s.2 I0) (fun s hs => by exact (q_MD_laysFits_80 (L := L) (LJ := LJ) (I0 := I0) (J0 := J0) (sub_t (by decide) hL) (sub_t (by decide) hLJ) (by repeat (first | assumption | refine fs_up hL rfl ?_ | refine fs_up hLJ rfl ?_)))) (by first | trivial | (refine ⟨?_, ?_⟩ <;> repeat (first | assumption | refine fs_up hL rfl ?_ | refine fs_up hLJ rfl ?_)) | (repeat (first | assumption | refine fs_up hL rfl ?_ | refine fs_up hLJ rfl ?_)))) (fun t2 ht2 => ?_)
    refine pc_s ?_
    first | trivial | (refine ⟨?_, ?_⟩ <;> repeat (first | assumption | refine fs_up hL rfl ?_ | refine fs_up hLJ rfl ?_)) | (repeat (first | assumption | refine fs_up hL rfl ?_ | refine fs_up hLJ rfl ?_))
abbrev L_MD_laysFits_66 : List (Nat × Option Nat) := [(177, some 50), (177, some 53), (177, some 54), (177, some 56), (177, some 98), (213, none), (215, none), (218, none)]
abbrev K_MD_laysFits_66 : List (Nat × Option Nat) := [(246, none)]
theorem q_MD_laysFits_66 {L LJ : List (Nat × Option Nat)} {I0 : MI} {J0 : MJ} {I : MI} {J : MJ} {v1 : Int32} (hL : subL L_MD_laysFits_66 L = true) (hLJ : subL K_MD_laysFits_66 LJ = true) (hI : fsL L I I0) (hJ : fsL LJ J J0) : pc (F_MD_laysFits_66 I J v1) (Sum.elim (fun r : Int32 × MI × MJ => fsL L r.2.1 I0 ∧ fsL LJ r.2.2 J0) (fun r : MI × MJ => fsL L r.1 I0 ∧ fsL LJ r.2 J0)) := by
  unfold F_MD_laysFits_66
  refine pc_b (pc_wl (fun s : Int32 × MI => fsL L s.2 I0) (fun s hs => by exact (q_MD_laysFits_68 (L := L) (LJ := LJ) (I0 := I0) (J0 := J0) (sub_t (by decide) hL) (sub_t (by decide) hLJ) (by repeat (first | assumption | refine fs_up hL rfl ?_ | refine fs_up hLJ rfl ?_)))) (by first | trivial | (refine ⟨?_, ?_⟩ <;> repeat (first | assumption | refine fs_up hL rfl ?_ | refine fs_up hLJ rfl ?_)) | (repeat (first | assumption | refine fs_up hL rfl ?_ | refine fs_up hLJ rfl ?_)))) (fun t1 ht1 => ?_)
  refine pc_b (q_MD_yearGoes (L := L) (LJ := LJ) (I0 := I0) (J0 := J0) (sub_t (by decide) hL) (sub_t (by decide) hLJ) (by repeat (first | assumption | refine fs_up hL rfl ?_ | refine fs_up hLJ rfl ?_)) (by repeat (first | assumption | refine fs_up hL rfl ?_ | refine fs_up hLJ rfl ?_))) (fun r2 hr2 => ?_)
  obtain ⟨hr2I, hr2J⟩ := hr2
  refine pc_s ?_
  first | trivial | (refine ⟨?_, ?_⟩ <;> repeat (first | assumption | refine fs_up hL rfl ?_ | refine fs_up hLJ rfl ?_)) | (repeat (first | assumption | refine fs_up hL rfl ?_ | refine fs_up hLJ rfl ?_))
abbrev L_MD_laysFits_46 : List (Nat × Option Nat) := [(177, some 50), (177, some 53), (177, some 54), (177, some 56), (177, some 63), (177, some 98), (213, none), (215, none), (218, none), (219, none)]
abbrev K_MD_laysFits_46 : List (Nat × Option Nat) := [(246, none)]
theorem q_MD_laysFits_46 {L LJ : List (Nat × Option Nat)} {I0 : MI} {J0 : MJ} {I : MI} {J : MJ} {v1 : Int32} {y0 : Int32} {y1 : Int32} (hL : subL L_MD_laysFits_46 L = true) (hLJ : subL K_MD_laysFits_46 LJ = true) (hI : fsL L I I0) (hJ : fsL LJ J J0) : pc (F_MD_laysFits_46 I J v1 y0 y1) (Sum.elim (fun r : Int32 × MI × MJ => fsL L r.2.1 I0 ∧ fsL LJ r.2.2 J0) (fun r : MI × MJ => fsL L r.1 I0 ∧ fsL LJ r.2 J0)) := by
  unfold F_MD_laysFits_46
  refine pc_gd ?_
  refine pc_gd ?_
  refine pc_if ?_ ?_
  · exact (q_MD_laysFits_66 (L := L) (LJ := LJ) (I0 := I0) (J0 := J0) (sub_t (by decide) hL) (sub_t (by decide) hLJ) (by repeat (first | assumption | refine fs_up hL rfl ?_ | refine fs_up hLJ rfl ?_)) (by repeat (first | assumption | refine fs_up hL rfl ?_ | refine fs_up hLJ rfl ?_)))
  · exact (q_MD_laysFits_66 (L := L) (LJ := LJ) (I0 := I0) (J0 := J0) (sub_t (by decide) hL) (sub_t (by decide) hLJ) (by repeat (first | assumption | refine fs_up hL rfl ?_ | refine fs_up hLJ rfl ?_)) (by repeat (first | assumption | refine fs_up hL rfl ?_ | refine fs_up hLJ rfl ?_)))
abbrev L_MD_laysFits_45 : List (Nat × Option Nat) := [(177, some 50), (177, some 53), (177, some 54), (177, some 56), (177, some 63), (177, some 98), (213, none), (215, none), (218, none), (219, none)]
abbrev K_MD_laysFits_45 : List (Nat × Option Nat) := [(246, none)]
theorem q_MD_laysFits_45 {L LJ : List (Nat × Option Nat)} {I0 : MI} {J0 : MJ} {I : MI} {J : MJ} {v1 : Int32} {y0 : Int32} (hL : subL L_MD_laysFits_45 L = true) (hLJ : subL K_MD_laysFits_45 LJ = true) (hI : fsL L I I0) (hJ : fsL LJ J J0) : pc (F_MD_laysFits_45 I J v1 y0) (Sum.elim (fun r : Int32 × MI × MJ => fsL L r.2.1 I0 ∧ fsL LJ r.2.2 J0) (fun r : MI × MJ => fsL L r.1 I0 ∧ fsL LJ r.2 J0)) := by
  unfold F_MD_laysFits_45
  exact (q_MD_laysFits_46 (L := L) (LJ := LJ) (I0 := I0) (J0 := J0) (sub_t (by decide) hL) (sub_t (by decide) hLJ) (by repeat (first | assumption | refine fs_up hL rfl ?_ | refine fs_up hLJ rfl ?_)) (by repeat (first | assumption | refine fs_up hL rfl ?_ | refine fs_up hLJ rfl ?_)))
abbrev L_MD_laysFits_11 : List (Nat × Option Nat) := [(177, some 50), (177, some 53), (177, some 54), (177, some 56), (177, some 63), (177, some 98), (213, none), (215, none), (218, none), (219, none)]
abbrev K_MD_laysFits_11 : List (Nat × Option Nat) := [(246, none)]
theorem q_MD_laysFits_11 {L LJ : List (Nat × Option Nat)} {I0 : MI} {J0 : MJ} {I : MI} {J : MJ} {v1 : Int32} (hL : subL L_MD_laysFits_11 L = true) (hLJ : subL K_MD_laysFits_11 LJ = true) (hI : fsL L I I0) (hJ : fsL LJ J J0) : pc (F_MD_laysFits_11 I J v1) (Sum.elim (fun r : Int32 × MI × MJ => fsL L r.2.1 I0 ∧ fsL LJ r.2.2 J0) (fun r : MI × MJ => fsL L r.1 I0 ∧ fsL LJ r.2 J0)) := by
  unfold F_MD_laysFits_11
  refine pc_if ?_ ?_
  · refine pc_s ?_
    first | trivial | (refine ⟨?_, ?_⟩ <;> repeat (first | assumption | refine fs_up hL rfl ?_ | refine fs_up hLJ rfl ?_)) | (repeat (first | assumption | refine fs_up hL rfl ?_ | refine fs_up hLJ rfl ?_))
  · refine pc_if ?_ ?_
    · exact (q_MD_laysFits_45 (L := L) (LJ := LJ) (I0 := I0) (J0 := J0) (sub_t (by decide) hL) (sub_t (by decide) hLJ) (by repeat (first | assumption | refine fs_up hL rfl ?_ | refine fs_up hLJ rfl ?_)) (by repeat (first | assumption | refine fs_up hL rfl ?_ | refine fs_up hLJ rfl ?_)))
    · refine pc_b' (fun r3 => ?_)
      refine pc_if ?_ ?_
      · exact (q_MD_laysFits_45 (L := L) (LJ := LJ) (I0 := I0) (J0 := J0) (sub_t (by decide) hL) (sub_t (by decide) hLJ) (by repeat (first | assumption | refine fs_up hL rfl ?_ | refine fs_up hLJ rfl ?_)) (by repeat (first | assumption | refine fs_up hL rfl ?_ | refine fs_up hLJ rfl ?_)))
      · exact (q_MD_laysFits_46 (L := L) (LJ := LJ) (I0 := I0) (J0 := J0) (sub_t (by decide) hL) (sub_t (by decide) hLJ) (by repeat (first | assumption | refine fs_up hL rfl ?_ | refine fs_up hLJ rfl ?_)) (by repeat (first | assumption | refine fs_up hL rfl ?_ | refine fs_up hLJ rfl ?_)))
abbrev L_MD_laysFits : List (Nat × Option Nat) := [(177, some 50), (177, some 53), (177, some 54), (177, some 55), (177, some 56), (177, some 63), (177, some 98), (213, none), (214, none), (215, none), (218, none), (219, none)]
abbrev K_MD_laysFits : List (Nat × Option Nat) := [(246, none)]
theorem q_MD_laysFits {L LJ : List (Nat × Option Nat)} {I0 : MI} {J0 : MJ} {I : MI} {J : MJ} (hL : subL L_MD_laysFits L = true) (hLJ : subL K_MD_laysFits LJ = true) (hI : fsL L I I0) (hJ : fsL LJ J J0) : pc (F_MD_laysFits I J) (fun r : MI × MJ => fsL L r.1 I0 ∧ fsL LJ r.2 J0) := by
  unfold F_MD_laysFits
  refine pc_b (q_MD_putsAside (L := L) (LJ := LJ) (I0 := I0) (J0 := J0) (sub_t (by decide) hL) (sub_t (by decide) hLJ) (by repeat (first | assumption | refine fs_up hL rfl ?_ | refine fs_up hLJ rfl ?_))) (fun r1 hr1 => ?_)
  refine pc_b (pc_wl (fun s : Int32 × MI × MJ => fsL L s.2.1 I0 ∧ fsL LJ s.2.2 J0) (fun s hs => by obtain ⟨hsI, hsJ⟩ := hs; exact (q_MD_laysFits_11 (L := L) (LJ := LJ) (I0 := I0) (J0 := J0) (sub_t (by decide) hL) (sub_t (by decide) hLJ) (by repeat (first | assumption | refine fs_up hL rfl ?_ | refine fs_up hLJ rfl ?_)) (by repeat (first | assumption | refine fs_up hL rfl ?_ | refine fs_up hLJ rfl ?_)))) (by first | trivial | (refine ⟨?_, ?_⟩ <;> repeat (first | assumption | refine fs_up hL rfl ?_ | refine fs_up hLJ rfl ?_)) | (repeat (first | assumption | refine fs_up hL rfl ?_ | refine fs_up hLJ rfl ?_)))) (fun t2 ht2 => ?_)
  obtain ⟨ht2I, ht2J⟩ := ht2
  refine pc_b (q_MD_takesBack (L := L) (LJ := LJ) (I0 := I0) (J0 := J0) (sub_t (by decide) hL) (sub_t (by decide) hLJ) (by repeat (first | assumption | refine fs_up hL rfl ?_ | refine fs_up hLJ rfl ?_))) (fun r3 hr3 => ?_)
  refine pc_s ?_
  first | trivial | (refine ⟨?_, ?_⟩ <;> repeat (first | assumption | refine fs_up hL rfl ?_ | refine fs_up hLJ rfl ?_)) | (repeat (first | assumption | refine fs_up hL rfl ?_ | refine fs_up hLJ rfl ?_))
abbrev L_MD_fits : List (Nat × Option Nat) := [(177, some 50), (177, some 53), (177, some 54), (177, some 55), (177, some 56), (177, some 63), (177, some 98), (213, none), (214, none), (215, none), (218, none), (219, none)]
abbrev K_MD_fits : List (Nat × Option Nat) := [(246, none)]
theorem q_MD_fits {L LJ : List (Nat × Option Nat)} {I0 : MI} {J0 : MJ} {I : MI} {J : MJ} {v1 : Int32} (hL : subL L_MD_fits L = true) (hLJ : subL K_MD_fits LJ = true) (hI : fsL L I I0) (hJ : fsL LJ J J0) : pc (F_MD_fits I J v1) (fun r : Int32 × MI × MJ => fsL L r.2.1 I0 ∧ fsL LJ r.2.2 J0) := by
  unfold F_MD_fits
  refine pc_if ?_ ?_
  · refine pc_s ?_
    first | trivial | (refine ⟨?_, ?_⟩ <;> repeat (first | assumption | refine fs_up hL rfl ?_ | refine fs_up hLJ rfl ?_)) | (repeat (first | assumption | refine fs_up hL rfl ?_ | refine fs_up hLJ rfl ?_))
  · refine pc_b' (fun r2 => ?_)
    refine pc_if ?_ ?_
    · refine pc_s ?_
      first | trivial | (refine ⟨?_, ?_⟩ <;> repeat (first | assumption | refine fs_up hL rfl ?_ | refine fs_up hLJ rfl ?_)) | (repeat (first | assumption | refine fs_up hL rfl ?_ | refine fs_up hLJ rfl ?_))
    · refine pc_b (q_MD_laysFits (L := L) (LJ := LJ) (I0 := I0) (J0 := J0) (sub_t (by decide) hL) (sub_t (by decide) hLJ) (by repeat (first | assumption | refine fs_up hL rfl ?_ | refine fs_up hLJ rfl ?_)) (by repeat (first | assumption | refine fs_up hL rfl ?_ | refine fs_up hLJ rfl ?_))) (fun r4 hr4 => ?_)
      obtain ⟨hr4I, hr4J⟩ := hr4
      refine pc_b' (fun t5 => ?_)
      refine pc_if ?_ ?_
      · refine pc_s ?_
        first | trivial | (refine ⟨?_, ?_⟩ <;> repeat (first | assumption | refine fs_up hL rfl ?_ | refine fs_up hLJ rfl ?_)) | (repeat (first | assumption | refine fs_up hL rfl ?_ | refine fs_up hLJ rfl ?_))
      · refine pc_if ?_ ?_
        · refine pc_s ?_
          first | trivial | (refine ⟨?_, ?_⟩ <;> repeat (first | assumption | refine fs_up hL rfl ?_ | refine fs_up hLJ rfl ?_)) | (repeat (first | assumption | refine fs_up hL rfl ?_ | refine fs_up hLJ rfl ?_))
        · refine pc_s ?_
          first | trivial | (refine ⟨?_, ?_⟩ <;> repeat (first | assumption | refine fs_up hL rfl ?_ | refine fs_up hLJ rfl ?_)) | (repeat (first | assumption | refine fs_up hL rfl ?_ | refine fs_up hLJ rfl ?_))
abbrev L_MD_mostAlike_5 : List (Nat × Option Nat) := [(220, none)]
abbrev K_MD_mostAlike_5 : List (Nat × Option Nat) := []
theorem q_MD_mostAlike_5 {L LJ : List (Nat × Option Nat)} {I0 : MI} {J0 : MJ} {I : MI} {v1 : Int32} {v2 : Int32} {v3 : Int32} {v4 : Int32} (hL : subL L_MD_mostAlike_5 L = true) (hLJ : subL K_MD_mostAlike_5 LJ = true) (hI : fsL L I I0) : pc (F_MD_mostAlike_5 I v1 v2 v3 v4) (Sum.elim (fun r : Int32 × MI => fsL L r.2 I0) (fun r : MI => fsL L r I0)) := by
  unfold F_MD_mostAlike_5
  refine pc_if ?_ ?_
  · refine pc_s ?_
    first | trivial | (refine ⟨?_, ?_⟩ <;> repeat (first | assumption | refine fs_up hL rfl ?_ | refine fs_up hLJ rfl ?_)) | (repeat (first | assumption | refine fs_up hL rfl ?_ | refine fs_up hLJ rfl ?_))
  · refine pc_gd ?_
    refine pc_s ?_
    first | trivial | (refine ⟨?_, ?_⟩ <;> repeat (first | assumption | refine fs_up hL rfl ?_ | refine fs_up hLJ rfl ?_)) | (repeat (first | assumption | refine fs_up hL rfl ?_ | refine fs_up hLJ rfl ?_))
abbrev L_MD_mostAlike_29 : List (Nat × Option Nat) := [(220, none)]
abbrev K_MD_mostAlike_29 : List (Nat × Option Nat) := []
theorem q_MD_mostAlike_29 {L LJ : List (Nat × Option Nat)} {I0 : MI} {J0 : MJ} {I : MI} {v1 : Int32} {v2 : Int32} {v3 : Int32} {v4 : Int32} (hL : subL L_MD_mostAlike_29 L = true) (hLJ : subL K_MD_mostAlike_29 LJ = true) (hI : fsL L I I0) : pc (F_MD_mostAlike_29 I v1 v2 v3 v4) (Sum.elim (fun r : Int32 × Int32 × MI => fsL L r.2.2 I0) (fun r : Int32 × MI => fsL L r.2 I0)) := by
  unfold F_MD_mostAlike_29
  refine pc_if ?_ ?_
  · refine pc_s ?_
    first | trivial | (refine ⟨?_, ?_⟩ <;> repeat (first | assumption | refine fs_up hL rfl ?_ | refine fs_up hLJ rfl ?_)) | (repeat (first | assumption | refine fs_up hL rfl ?_ | refine fs_up hLJ rfl ?_))
  · refine pc_gd ?_
    refine pc_if ?_ ?_
    · refine pc_s ?_
      first | trivial | (refine ⟨?_, ?_⟩ <;> repeat (first | assumption | refine fs_up hL rfl ?_ | refine fs_up hLJ rfl ?_)) | (repeat (first | assumption | refine fs_up hL rfl ?_ | refine fs_up hLJ rfl ?_))
    · refine pc_gd ?_
      refine pc_gd ?_
      refine pc_gd ?_
      refine pc_bnd ?_
      refine pc_gd ?_
      refine pc_if ?_ ?_
      · refine pc_s ?_
        first | trivial | (refine ⟨?_, ?_⟩ <;> repeat (first | assumption | refine fs_up hL rfl ?_ | refine fs_up hLJ rfl ?_)) | (repeat (first | assumption | refine fs_up hL rfl ?_ | refine fs_up hLJ rfl ?_))
      · refine pc_gd ?_
        refine pc_bnd ?_
        refine pc_s ?_
        first | trivial | (refine ⟨?_, ?_⟩ <;> repeat (first | assumption | refine fs_up hL rfl ?_ | refine fs_up hLJ rfl ?_)) | (repeat (first | assumption | refine fs_up hL rfl ?_ | refine fs_up hLJ rfl ?_))
abbrev L_MD_mostAlike : List (Nat × Option Nat) := [(220, none)]
abbrev K_MD_mostAlike : List (Nat × Option Nat) := []
theorem q_MD_mostAlike {L LJ : List (Nat × Option Nat)} {I0 : MI} {J0 : MJ} {I : MI} {v1 : Int32} {v2 : Int32} (hL : subL L_MD_mostAlike L = true) (hLJ : subL K_MD_mostAlike LJ = true) (hI : fsL L I I0) : pc (F_MD_mostAlike I v1 v2) (fun r : Int32 × MI => fsL L r.2 I0) := by
  unfold F_MD_mostAlike
  refine pc_b (pc_wl (fun s : Int32 × MI => fsL L s.2 I0) (fun s hs => by exact (q_MD_mostAlike_5 (L := L) (LJ := LJ) (I0 := I0) (J0 := J0) (sub_t (by decide) hL) (sub_t (by decide) hLJ) (by repeat (first | assumption | refine fs_up hL rfl ?_ | refine fs_up hLJ rfl ?_)))) (by first | trivial | (refine ⟨?_, ?_⟩ <;> repeat (first | assumption | refine fs_up hL rfl ?_ | refine fs_up hLJ rfl ?_)) | (repeat (first | assumption | refine fs_up hL rfl ?_ | refine fs_up hLJ rfl ?_)))) (fun t1 ht1 => ?_)
  refine pc_b (pc_wl (fun s : Int32 × Int32 × MI => fsL L s.2.2 I0) (fun s hs => by exact (q_MD_mostAlike_29 (L := L) (LJ := LJ) (I0 := I0) (J0 := J0) (sub_t (by decide) hL) (sub_t (by decide) hLJ) (by repeat (first | assumption | refine fs_up hL rfl ?_ | refine fs_up hLJ rfl ?_)))) (by first | trivial | (refine ⟨?_, ?_⟩ <;> repeat (first | assumption | refine fs_up hL rfl ?_ | refine fs_up hLJ rfl ?_)) | (repeat (first | assumption | refine fs_up hL rfl ?_ | refine fs_up hLJ rfl ?_)))) (fun t2 ht2 => ?_)
  refine pc_s ?_
  first | trivial | (refine ⟨?_, ?_⟩ <;> repeat (first | assumption | refine fs_up hL rfl ?_ | refine fs_up hLJ rfl ?_)) | (repeat (first | assumption | refine fs_up hL rfl ?_ | refine fs_up hLJ rfl ?_))
abbrev L_MD_tells_56 : List (Nat × Option Nat) := [(220, none)]
abbrev K_MD_tells_56 : List (Nat × Option Nat) := []
theorem q_MD_tells_56 {L LJ : List (Nat × Option Nat)} {I0 : MI} {J0 : MJ} {I : MI} {v1 : Int32} {v2 : Int32} {v3 : Int32} {v4 : Int32} {v5 : Int32} {v6 : Int32} (hL : subL L_MD_tells_56 L = true) (hLJ : subL K_MD_tells_56 LJ = true) (hI : fsL L I I0) : pc (F_MD_tells_56 I v1 v2 v3 v4 v5 v6) (Sum.elim (fun r : Int32 × Int32 × Int32 × Int32 × MI => fsL L r.2.2.2.2 I0) (fun r : Int32 × Int32 × Int32 × MI => fsL L r.2.2.2 I0)) := by
  unfold F_MD_tells_56
  refine pc_if ?_ ?_
  · refine pc_s ?_
    first | trivial | (refine ⟨?_, ?_⟩ <;> repeat (first | assumption | refine fs_up hL rfl ?_ | refine fs_up hLJ rfl ?_)) | (repeat (first | assumption | refine fs_up hL rfl ?_ | refine fs_up hLJ rfl ?_))
  · refine pc_b (q_MD_mostAlike (L := L) (LJ := LJ) (I0 := I0) (J0 := J0) (sub_t (by decide) hL) (sub_t (by decide) hLJ) (by repeat (first | assumption | refine fs_up hL rfl ?_ | refine fs_up hLJ rfl ?_))) (fun r2 hr2 => ?_)
    refine pc_if ?_ ?_
    · refine pc_s ?_
      first | trivial | (refine ⟨?_, ?_⟩ <;> repeat (first | assumption | refine fs_up hL rfl ?_ | refine fs_up hLJ rfl ?_)) | (repeat (first | assumption | refine fs_up hL rfl ?_ | refine fs_up hLJ rfl ?_))
    · refine pc_if ?_ ?_
      · refine pc_s ?_
        first | trivial | (refine ⟨?_, ?_⟩ <;> repeat (first | assumption | refine fs_up hL rfl ?_ | refine fs_up hLJ rfl ?_)) | (repeat (first | assumption | refine fs_up hL rfl ?_ | refine fs_up hLJ rfl ?_))
      · refine pc_s ?_
        first | trivial | (refine ⟨?_, ?_⟩ <;> repeat (first | assumption | refine fs_up hL rfl ?_ | refine fs_up hLJ rfl ?_)) | (repeat (first | assumption | refine fs_up hL rfl ?_ | refine fs_up hLJ rfl ?_))
abbrev L_MD_tells_35 : List (Nat × Option Nat) := [(220, none)]
abbrev K_MD_tells_35 : List (Nat × Option Nat) := []
theorem q_MD_tells_35 {L LJ : List (Nat × Option Nat)} {I0 : MI} {J0 : MJ} {I : MI} {v1 : Int32} {v2 : Int32} {v3 : Int32} {v4 : Int32} {v5 : Int32} (hL : subL L_MD_tells_35 L = true) (hLJ : subL K_MD_tells_35 LJ = true) (hI : fsL L I I0) : pc (F_MD_tells_35 I v1 v2 v3 v4 v5) (Sum.elim (fun r : Int32 × Int32 × Int32 × Int32 × MI => fsL L r.2.2.2.2 I0) (fun r : Int32 × Int32 × Int32 × MI => fsL L r.2.2.2 I0)) := by
  unfold F_MD_tells_35
  refine pc_if ?_ ?_
  · refine pc_s ?_
    first | trivial | (refine ⟨?_, ?_⟩ <;> repeat (first | assumption | refine fs_up hL rfl ?_ | refine fs_up hLJ rfl ?_)) | (repeat (first | assumption | refine fs_up hL rfl ?_ | refine fs_up hLJ rfl ?_))
  · refine pc_if ?_ ?_
    · refine pc_s ?_
      first | trivial | (refine ⟨?_, ?_⟩ <;> repeat (first | assumption | refine fs_up hL rfl ?_ | refine fs_up hLJ rfl ?_)) | (repeat (first | assumption | refine fs_up hL rfl ?_ | refine fs_up hLJ rfl ?_))
    · refine pc_b (pc_wl (fun s : Int32 × Int32 × Int32 × Int32 × MI => fsL L s.2.2.2.2 I0) (fun s hs => by exact (q_MD_tells_56 (L := L) (LJ := LJ) (I0 := I0) (J0 := J0) (sub_t (by decide) hL) (sub_t (by decide) hLJ) (by repeat (first | assumption | refine fs_up hL rfl ?_ | refine fs_up hLJ rfl ?_)))) (by first | trivial | (refine ⟨?_, ?_⟩ <;> repeat (first | assumption | refine fs_up hL rfl ?_ | refine fs_up hLJ rfl ?_)) | (repeat (first | assumption | refine fs_up hL rfl ?_ | refine fs_up hLJ rfl ?_)))) (fun t3 ht3 => ?_)
      refine pc_s ?_
      first | trivial | (refine ⟨?_, ?_⟩ <;> repeat (first | assumption | refine fs_up hL rfl ?_ | refine fs_up hLJ rfl ?_)) | (repeat (first | assumption | refine fs_up hL rfl ?_ | refine fs_up hLJ rfl ?_))
abbrev L_MD_tells_114 : List (Nat × Option Nat) := []
abbrev K_MD_tells_114 : List (Nat × Option Nat) := []
theorem q_MD_tells_114 {L LJ : List (Nat × Option Nat)} {I0 : MI} {J0 : MJ} {I : MI} {J : MJ} {v1 : Int32} {v2 : Int32} {v3 : Int32} {v4 : Int32} (hL : subL L_MD_tells_114 L = true) (hLJ : subL K_MD_tells_114 LJ = true) (hI : fsL L I I0) (hJ : fsL LJ J J0) : pc (F_MD_tells_114 I J v1 v2 v3 v4) (fun r : Int32 × MI × MJ => fsL L r.2.1 I0 ∧ fsL LJ r.2.2 J0) := by
  unfold F_MD_tells_114
  refine pc_if ?_ ?_
  · refine pc_s ?_
    first | trivial | (refine ⟨?_, ?_⟩ <;> repeat (first | assumption | refine fs_up hL rfl ?_ | refine fs_up hLJ rfl ?_)) | (repeat (first | assumption | refine fs_up hL rfl ?_ | refine fs_up hLJ rfl ?_))
  · refine pc_if ?_ ?_
    · refine pc_s ?_
      first | trivial | (refine ⟨?_, ?_⟩ <;> repeat (first | assumption | refine fs_up hL rfl ?_ | refine fs_up hLJ rfl ?_)) | (repeat (first | assumption | refine fs_up hL rfl ?_ | refine fs_up hLJ rfl ?_))
    · refine pc_if ?_ ?_
      · refine pc_s ?_
        first | trivial | (refine ⟨?_, ?_⟩ <;> repeat (first | assumption | refine fs_up hL rfl ?_ | refine fs_up hLJ rfl ?_)) | (repeat (first | assumption | refine fs_up hL rfl ?_ | refine fs_up hLJ rfl ?_))
      · refine pc_s ?_
        first | trivial | (refine ⟨?_, ?_⟩ <;> repeat (first | assumption | refine fs_up hL rfl ?_ | refine fs_up hLJ rfl ?_)) | (repeat (first | assumption | refine fs_up hL rfl ?_ | refine fs_up hLJ rfl ?_))
abbrev L_MD_tells : List (Nat × Option Nat) := [(177, some 50), (177, some 53), (177, some 54), (177, some 55), (177, some 56), (177, some 63), (177, some 98), (213, none), (214, none), (215, none), (218, none), (219, none), (220, none)]
abbrev K_MD_tells : List (Nat × Option Nat) := [(246, none)]
theorem q_MD_tells {L LJ : List (Nat × Option Nat)} {I0 : MI} {J0 : MJ} {I : MI} {J : MJ} {v1 : Int32} (hL : subL L_MD_tells L = true) (hLJ : subL K_MD_tells LJ = true) (hI : fsL L I I0) (hJ : fsL LJ J J0) : pc (F_MD_tells I J v1) (fun r : Int32 × MI × MJ => fsL L r.2.1 I0 ∧ fsL LJ r.2.2 J0) := by
  unfold F_MD_tells
  refine pc_if ?_ ?_
  · refine pc_s ?_
    first | trivial | (refine ⟨?_, ?_⟩ <;> repeat (first | assumption | refine fs_up hL rfl ?_ | refine fs_up hLJ rfl ?_)) | (repeat (first | assumption | refine fs_up hL rfl ?_ | refine fs_up hLJ rfl ?_))
  · refine pc_b' (fun r2 => ?_)
    refine pc_if ?_ ?_
    · refine pc_s ?_
      first | trivial | (refine ⟨?_, ?_⟩ <;> repeat (first | assumption | refine fs_up hL rfl ?_ | refine fs_up hLJ rfl ?_)) | (repeat (first | assumption | refine fs_up hL rfl ?_ | refine fs_up hLJ rfl ?_))
    · refine pc_b (q_MD_laysFits (L := L) (LJ := LJ) (I0 := I0) (J0 := J0) (sub_t (by decide) hL) (sub_t (by decide) hLJ) (by repeat (first | assumption | refine fs_up hL rfl ?_ | refine fs_up hLJ rfl ?_)) (by repeat (first | assumption | refine fs_up hL rfl ?_ | refine fs_up hLJ rfl ?_))) (fun r4 hr4 => ?_)
      obtain ⟨hr4I, hr4J⟩ := hr4
      refine pc_b (pc_wl (fun s : Int32 × Int32 × Int32 × Int32 × MI => fsL L s.2.2.2.2 I0) (fun s hs => by exact (q_MD_tells_35 (L := L) (LJ := LJ) (I0 := I0) (J0 := J0) (sub_t (by decide) hL) (sub_t (by decide) hLJ) (by repeat (first | assumption | refine fs_up hL rfl ?_ | refine fs_up hLJ rfl ?_)))) (by first | trivial | (refine ⟨?_, ?_⟩ <;> repeat (first | assumption | refine fs_up hL rfl ?_ | refine fs_up hLJ rfl ?_)) | (repeat (first | assumption | refine fs_up hL rfl ?_ | refine fs_up hLJ rfl ?_)))) (fun t5 ht5 => ?_)
      exact (q_MD_tells_114 (L := L) (LJ := LJ) (I0 := I0) (J0 := J0) (sub_t (by decide) hL) (sub_t (by decide) hLJ) (by repeat (first | assumption | refine fs_up hL rfl ?_ | refine fs_up hLJ rfl ?_)) (by repeat (first | assumption | refine fs_up hL rfl ?_ | refine fs_up hLJ rfl ?_)))
abbrev L_MD_undo_21 : List (Nat × Option Nat) := [(213, none)]
abbrev K_MD_undo_21 : List (Nat × Option Nat) := []
theorem q_MD_undo_21 {L LJ : List (Nat × Option Nat)} {I0 : MI} {J0 : MJ} {I : MI} {v1 : Int32} (hL : subL L_MD_undo_21 L = true) (hLJ : subL K_MD_undo_21 LJ = true) (hI : fsL L I I0) : pc (F_MD_undo_21 I v1) (Sum.elim (fun r : Int32 × MI => fsL L r.2 I0) (fun r : MI => fsL L r I0)) := by
  unfold F_MD_undo_21
  refine pc_if ?_ ?_
  · refine pc_s ?_
    first | trivial | (refine ⟨?_, ?_⟩ <;> repeat (first | assumption | refine fs_up hL rfl ?_ | refine fs_up hLJ rfl ?_)) | (repeat (first | assumption | refine fs_up hL rfl ?_ | refine fs_up hLJ rfl ?_))
  · refine pc_gd ?_
    refine pc_gd ?_
    refine pc_s ?_
    first | trivial | (refine ⟨?_, ?_⟩ <;> repeat (first | assumption | refine fs_up hL rfl ?_ | refine fs_up hLJ rfl ?_)) | (repeat (first | assumption | refine fs_up hL rfl ?_ | refine fs_up hLJ rfl ?_))
abbrev L_MD_undo : List (Nat × Option Nat) := [(177, some 66), (177, some 67), (179, none), (213, none)]
abbrev K_MD_undo : List (Nat × Option Nat) := []
theorem q_MD_undo {L LJ : List (Nat × Option Nat)} {I0 : MI} {J0 : MJ} {I : MI} (hL : subL L_MD_undo L = true) (hLJ : subL K_MD_undo LJ = true) (hI : fsL L I I0) : pc (F_MD_undo I) (fun r : Int32 × MI => fsL L r.2 I0) := by
  unfold F_MD_undo
  refine pc_if ?_ ?_
  · refine pc_s ?_
    first | trivial | (refine ⟨?_, ?_⟩ <;> repeat (first | assumption | refine fs_up hL rfl ?_ | refine fs_up hLJ rfl ?_)) | (repeat (first | assumption | refine fs_up hL rfl ?_ | refine fs_up hLJ rfl ?_))
  · refine pc_b (pc_wl (fun s : Int32 × MI => fsL L s.2 I0) (fun s hs => by exact (q_MD_undo_21 (L := L) (LJ := LJ) (I0 := I0) (J0 := J0) (sub_t (by decide) hL) (sub_t (by decide) hLJ) (by repeat (first | assumption | refine fs_up hL rfl ?_ | refine fs_up hLJ rfl ?_)))) (by first | trivial | (refine ⟨?_, ?_⟩ <;> repeat (first | assumption | refine fs_up hL rfl ?_ | refine fs_up hLJ rfl ?_)) | (repeat (first | assumption | refine fs_up hL rfl ?_ | refine fs_up hLJ rfl ?_)))) (fun t2 ht2 => ?_)
    refine pc_bnd ?_
    refine pc_s ?_
    first | trivial | (refine ⟨?_, ?_⟩ <;> repeat (first | assumption | refine fs_up hL rfl ?_ | refine fs_up hLJ rfl ?_)) | (repeat (first | assumption | refine fs_up hL rfl ?_ | refine fs_up hLJ rfl ?_))
abbrev L_MD_isRefused : List (Nat × Option Nat) := [(179, none)]
abbrev K_MD_isRefused : List (Nat × Option Nat) := []
theorem q_MD_isRefused {L LJ : List (Nat × Option Nat)} {I0 : MI} {J0 : MJ} {I : MI} (hL : subL L_MD_isRefused L = true) (hLJ : subL K_MD_isRefused LJ = true) (hI : fsL L I I0) : pc (F_MD_isRefused I) (fun r : Int32 × MI => fsL L r.2 I0) := by
  unfold F_MD_isRefused
  refine pc_s ?_
  first | trivial | (refine ⟨?_, ?_⟩ <;> repeat (first | assumption | refine fs_up hL rfl ?_ | refine fs_up hLJ rfl ?_)) | (repeat (first | assumption | refine fs_up hL rfl ?_ | refine fs_up hLJ rfl ?_))
abbrev L_MD_keeps_15 : List (Nat × Option Nat) := [(221, none)]
abbrev K_MD_keeps_15 : List (Nat × Option Nat) := []
theorem q_MD_keeps_15 {L LJ : List (Nat × Option Nat)} {I0 : MI} {J0 : MJ} {I : MI} {v1 : Int32} (hL : subL L_MD_keeps_15 L = true) (hLJ : subL K_MD_keeps_15 LJ = true) (hI : fsL L I I0) : pc (F_MD_keeps_15 I v1) (Sum.elim (fun r : Int32 × MI => fsL L r.2 I0) (fun r : MI => fsL L r I0)) := by
  unfold F_MD_keeps_15
  refine pc_if ?_ ?_
  · refine pc_s ?_
    first | trivial | (refine ⟨?_, ?_⟩ <;> repeat (first | assumption | refine fs_up hL rfl ?_ | refine fs_up hLJ rfl ?_)) | (repeat (first | assumption | refine fs_up hL rfl ?_ | refine fs_up hLJ rfl ?_))
  · refine pc_gd ?_
    refine pc_gd ?_
    refine pc_s ?_
    first | trivial | (refine ⟨?_, ?_⟩ <;> repeat (first | assumption | refine fs_up hL rfl ?_ | refine fs_up hLJ rfl ?_)) | (repeat (first | assumption | refine fs_up hL rfl ?_ | refine fs_up hLJ rfl ?_))
abbrev L_MD_keeps : List (Nat × Option Nat) := [(177, some 66), (177, some 67), (221, none)]
abbrev K_MD_keeps : List (Nat × Option Nat) := []
theorem q_MD_keeps {L LJ : List (Nat × Option Nat)} {I0 : MI} {J0 : MJ} {I : MI} (hL : subL L_MD_keeps L = true) (hLJ : subL K_MD_keeps LJ = true) (hI : fsL L I I0) : pc (F_MD_keeps I) (fun r : MI => fsL L r I0) := by
  unfold F_MD_keeps
  refine pc_b (pc_wl (fun s : Int32 × MI => fsL L s.2 I0) (fun s hs => by exact (q_MD_keeps_15 (L := L) (LJ := LJ) (I0 := I0) (J0 := J0) (sub_t (by decide) hL) (sub_t (by decide) hLJ) (by repeat (first | assumption | refine fs_up hL rfl ?_ | refine fs_up hLJ rfl ?_)))) (by first | trivial | (refine ⟨?_, ?_⟩ <;> repeat (first | assumption | refine fs_up hL rfl ?_ | refine fs_up hLJ rfl ?_)) | (repeat (first | assumption | refine fs_up hL rfl ?_ | refine fs_up hLJ rfl ?_)))) (fun t1 ht1 => ?_)
  refine pc_if ?_ ?_
  · refine pc_s ?_
    first | trivial | (refine ⟨?_, ?_⟩ <;> repeat (first | assumption | refine fs_up hL rfl ?_ | refine fs_up hLJ rfl ?_)) | (repeat (first | assumption | refine fs_up hL rfl ?_ | refine fs_up hLJ rfl ?_))
  · refine pc_s ?_
    first | trivial | (refine ⟨?_, ?_⟩ <;> repeat (first | assumption | refine fs_up hL rfl ?_ | refine fs_up hLJ rfl ?_)) | (repeat (first | assumption | refine fs_up hL rfl ?_ | refine fs_up hLJ rfl ?_))
abbrev L_MD_set : List (Nat × Option Nat) := [(177, some 66), (177, some 67), (179, none), (213, none), (221, none)]
abbrev K_MD_set : List (Nat × Option Nat) := []
theorem q_MD_set {L LJ : List (Nat × Option Nat)} {I0 : MI} {J0 : MJ} {I : MI} {v1 : Int32} (hL : subL L_MD_set L = true) (hLJ : subL K_MD_set LJ = true) (hI : fsL L I I0) : pc (F_MD_set I v1) (fun r : Int32 × MI => fsL L r.2 I0) := by
  unfold F_MD_set
  refine pc_b' (fun r1 => ?_)
  refine pc_if ?_ ?_
  · refine pc_b (q_MD_isRefused (L := L) (LJ := LJ) (I0 := I0) (J0 := J0) (sub_t (by decide) hL) (sub_t (by decide) hLJ) (by repeat (first | assumption | refine fs_up hL rfl ?_ | refine fs_up hLJ rfl ?_))) (fun r5 hr5 => ?_)
    refine pc_gq ?_
    refine pc_s ?_
    first | trivial | (refine ⟨?_, ?_⟩ <;> repeat (first | assumption | refine fs_up hL rfl ?_ | refine fs_up hLJ rfl ?_)) | (repeat (first | assumption | refine fs_up hL rfl ?_ | refine fs_up hLJ rfl ?_))
  · refine pc_b (q_MD_keeps (L := L) (LJ := LJ) (I0 := I0) (J0 := J0) (sub_t (by decide) hL) (sub_t (by decide) hLJ) (by repeat (first | assumption | refine fs_up hL rfl ?_ | refine fs_up hLJ rfl ?_))) (fun r3 hr3 => ?_)
    refine pc_b (q_MD_isSet (L := L) (LJ := LJ) (I0 := I0) (J0 := J0) (sub_t (by decide) hL) (sub_t (by decide) hLJ) (by repeat (first | assumption | refine fs_up hL rfl ?_ | refine fs_up hLJ rfl ?_))) (fun r4 hr4 => ?_)
    refine pc_s ?_
    first | trivial | (refine ⟨?_, ?_⟩ <;> repeat (first | assumption | refine fs_up hL rfl ?_ | refine fs_up hLJ rfl ?_)) | (repeat (first | assumption | refine fs_up hL rfl ?_ | refine fs_up hLJ rfl ?_))
abbrev L_MD_cut : List (Nat × Option Nat) := [(177, some 66), (177, some 67), (179, none), (213, none), (221, none)]
abbrev K_MD_cut : List (Nat × Option Nat) := []
theorem q_MD_cut {L LJ : List (Nat × Option Nat)} {I0 : MI} {J0 : MJ} {I : MI} {v1 : Int32} (hL : subL L_MD_cut L = true) (hLJ : subL K_MD_cut LJ = true) (hI : fsL L I I0) : pc (F_MD_cut I v1) (fun r : Int32 × MI => fsL L r.2 I0) := by
  unfold F_MD_cut
  refine pc_b' (fun r1 => ?_)
  refine pc_if ?_ ?_
  · refine pc_b (q_MD_isRefused (L := L) (LJ := LJ) (I0 := I0) (J0 := J0) (sub_t (by decide) hL) (sub_t (by decide) hLJ) (by repeat (first | assumption | refine fs_up hL rfl ?_ | refine fs_up hLJ rfl ?_))) (fun r3 hr3 => ?_)
    refine pc_gq ?_
    refine pc_s ?_
    first | trivial | (refine ⟨?_, ?_⟩ <;> repeat (first | assumption | refine fs_up hL rfl ?_ | refine fs_up hLJ rfl ?_)) | (repeat (first | assumption | refine fs_up hL rfl ?_ | refine fs_up hLJ rfl ?_))
  · refine pc_b' (fun r5 => ?_)
    refine pc_if ?_ ?_
    · refine pc_b (q_MD_keeps (L := L) (LJ := LJ) (I0 := I0) (J0 := J0) (sub_t (by decide) hL) (sub_t (by decide) hLJ) (by repeat (first | assumption | refine fs_up hL rfl ?_ | refine fs_up hLJ rfl ?_))) (fun r7 hr7 => ?_)
      refine pc_gd ?_
      refine pc_s ?_
      first | trivial | (refine ⟨?_, ?_⟩ <;> repeat (first | assumption | refine fs_up hL rfl ?_ | refine fs_up hLJ rfl ?_)) | (repeat (first | assumption | refine fs_up hL rfl ?_ | refine fs_up hLJ rfl ?_))
    · refine pc_b (q_MD_isRefused (L := L) (LJ := LJ) (I0 := I0) (J0 := J0) (sub_t (by decide) hL) (sub_t (by decide) hLJ) (by repeat (first | assumption | refine fs_up hL rfl ?_ | refine fs_up hLJ rfl ?_))) (fun r9 hr9 => ?_)
      refine pc_gq ?_
      refine pc_s ?_
      first | trivial | (refine ⟨?_, ?_⟩ <;> repeat (first | assumption | refine fs_up hL rfl ?_ | refine fs_up hLJ rfl ?_)) | (repeat (first | assumption | refine fs_up hL rfl ?_ | refine fs_up hLJ rfl ?_))
abbrev L_MD_iron : List (Nat × Option Nat) := [(177, some 66), (177, some 67), (179, none), (213, none), (221, none)]
abbrev K_MD_iron : List (Nat × Option Nat) := []
theorem q_MD_iron {L LJ : List (Nat × Option Nat)} {I0 : MI} {J0 : MJ} {I : MI} {v1 : Int32} {v2 : Int32} (hL : subL L_MD_iron L = true) (hLJ : subL K_MD_iron LJ = true) (hI : fsL L I I0) : pc (F_MD_iron I v1 v2) (fun r : Int32 × MI => fsL L r.2 I0) := by
  unfold F_MD_iron
  refine pc_b' (fun r1 => ?_)
  refine pc_if ?_ ?_
  · refine pc_b (q_MD_refuses (L := L) (LJ := LJ) (I0 := I0) (J0 := J0) (sub_t (by decide) hL) (sub_t (by decide) hLJ) (by repeat (first | assumption | refine fs_up hL rfl ?_ | refine fs_up hLJ rfl ?_))) (fun r3 hr3 => ?_)
    refine pc_s ?_
    first | trivial | (refine ⟨?_, ?_⟩ <;> repeat (first | assumption | refine fs_up hL rfl ?_ | refine fs_up hLJ rfl ?_)) | (repeat (first | assumption | refine fs_up hL rfl ?_ | refine fs_up hLJ rfl ?_))
  · refine pc_b' (fun r4 => ?_)
    refine pc_if ?_ ?_
    · refine pc_b' (fun r7 => ?_)
      refine pc_if ?_ ?_
      · refine pc_b (q_MD_refuses (L := L) (LJ := LJ) (I0 := I0) (J0 := J0) (sub_t (by decide) hL) (sub_t (by decide) hLJ) (by repeat (first | assumption | refine fs_up hL rfl ?_ | refine fs_up hLJ rfl ?_))) (fun r14 hr14 => ?_)
        refine pc_s ?_
        first | trivial | (refine ⟨?_, ?_⟩ <;> repeat (first | assumption | refine fs_up hL rfl ?_ | refine fs_up hLJ rfl ?_)) | (repeat (first | assumption | refine fs_up hL rfl ?_ | refine fs_up hLJ rfl ?_))
      · refine pc_b (q_MD_keeps (L := L) (LJ := LJ) (I0 := I0) (J0 := J0) (sub_t (by decide) hL) (sub_t (by decide) hLJ) (by repeat (first | assumption | refine fs_up hL rfl ?_ | refine fs_up hLJ rfl ?_))) (fun r9 hr9 => ?_)
        refine pc_gd ?_
        refine pc_gd ?_
        refine pc_bnd ?_
        refine pc_b' (fun r13 => ?_)
        refine pc_s ?_
        first | trivial | (refine ⟨?_, ?_⟩ <;> repeat (first | assumption | refine fs_up hL rfl ?_ | refine fs_up hLJ rfl ?_)) | (repeat (first | assumption | refine fs_up hL rfl ?_ | refine fs_up hLJ rfl ?_))
    · refine pc_b (q_MD_refuses (L := L) (LJ := LJ) (I0 := I0) (J0 := J0) (sub_t (by decide) hL) (sub_t (by decide) hLJ) (by repeat (first | assumption | refine fs_up hL rfl ?_ | refine fs_up hLJ rfl ?_))) (fun r6 hr6 => ?_)
      refine pc_s ?_
      first | trivial | (refine ⟨?_, ?_⟩ <;> repeat (first | assumption | refine fs_up hL rfl ?_ | refine fs_up hLJ rfl ?_)) | (repeat (first | assumption | refine fs_up hL rfl ?_ | refine fs_up hLJ rfl ?_))
abbrev L_MD_years : List (Nat × Option Nat) := [(177, some 50), (177, some 53), (177, some 54), (177, some 56), (177, some 66), (177, some 67), (177, some 98), (179, none), (213, none), (215, none), (221, none)]
abbrev K_MD_years : List (Nat × Option Nat) := [(246, none)]
theorem q_MD_years {L LJ : List (Nat × Option Nat)} {I0 : MI} {J0 : MJ} {I : MI} {J : MJ} {v1 : Int32} (hL : subL L_MD_years L = true) (hLJ : subL K_MD_years LJ = true) (hI : fsL L I I0) (hJ : fsL LJ J J0) : pc (F_MD_years I J v1) (fun r : Int32 × MI × MJ => fsL L r.2.1 I0 ∧ fsL LJ r.2.2 J0) := by
  unfold F_MD_years
  refine pc_b' (fun r1 => ?_)
  refine pc_if ?_ ?_
  · refine pc_b (q_MD_refuses (L := L) (LJ := LJ) (I0 := I0) (J0 := J0) (sub_t (by decide) hL) (sub_t (by decide) hLJ) (by repeat (first | assumption | refine fs_up hL rfl ?_ | refine fs_up hLJ rfl ?_))) (fun r5 hr5 => ?_)
    refine pc_s ?_
    first | trivial | (refine ⟨?_, ?_⟩ <;> repeat (first | assumption | refine fs_up hL rfl ?_ | refine fs_up hLJ rfl ?_)) | (repeat (first | assumption | refine fs_up hL rfl ?_ | refine fs_up hLJ rfl ?_))
  · refine pc_b (q_MD_keeps (L := L) (LJ := LJ) (I0 := I0) (J0 := J0) (sub_t (by decide) hL) (sub_t (by decide) hLJ) (by repeat (first | assumption | refine fs_up hL rfl ?_ | refine fs_up hLJ rfl ?_))) (fun r3 hr3 => ?_)
    refine pc_b (q_MD_yearsGo (L := L) (LJ := LJ) (I0 := I0) (J0 := J0) (sub_t (by decide) hL) (sub_t (by decide) hLJ) (by repeat (first | assumption | refine fs_up hL rfl ?_ | refine fs_up hLJ rfl ?_)) (by repeat (first | assumption | refine fs_up hL rfl ?_ | refine fs_up hLJ rfl ?_))) (fun r4 hr4 => ?_)
    obtain ⟨hr4I, hr4J⟩ := hr4
    refine pc_s ?_
    first | trivial | (refine ⟨?_, ?_⟩ <;> repeat (first | assumption | refine fs_up hL rfl ?_ | refine fs_up hLJ rfl ?_)) | (repeat (first | assumption | refine fs_up hL rfl ?_ | refine fs_up hLJ rfl ?_))
abbrev L_MD_seed : List (Nat × Option Nat) := [(179, none)]
abbrev K_MD_seed : List (Nat × Option Nat) := [(177, some 68)]
theorem q_MD_seed {L LJ : List (Nat × Option Nat)} {I0 : MI} {J0 : MJ} {I : MI} {J : MJ} {v1 : Int32} (hL : subL L_MD_seed L = true) (hLJ : subL K_MD_seed LJ = true) (hI : fsL L I I0) (hJ : fsL LJ J J0) : pc (F_MD_seed I J v1) (fun r : Int32 × MI × MJ => fsL L r.2.1 I0 ∧ fsL LJ r.2.2 J0) := by
  unfold F_MD_seed
  refine pc_if ?_ ?_
  · refine pc_s ?_
    first | trivial | (refine ⟨?_, ?_⟩ <;> repeat (first | assumption | refine fs_up hL rfl ?_ | refine fs_up hLJ rfl ?_)) | (repeat (first | assumption | refine fs_up hL rfl ?_ | refine fs_up hLJ rfl ?_))
  · refine pc_s ?_
    first | trivial | (refine ⟨?_, ?_⟩ <;> repeat (first | assumption | refine fs_up hL rfl ?_ | refine fs_up hLJ rfl ?_)) | (repeat (first | assumption | refine fs_up hL rfl ?_ | refine fs_up hLJ rfl ?_))
abbrev L_MD_drawOf : List (Nat × Option Nat) := []
abbrev K_MD_drawOf : List (Nat × Option Nat) := [(177, some 68)]
theorem q_MD_drawOf {L LJ : List (Nat × Option Nat)} {I0 : MI} {J0 : MJ} {J : MJ} {v1 : Int32} (hL : subL L_MD_drawOf L = true) (hLJ : subL K_MD_drawOf LJ = true) (hJ : fsL LJ J J0) : pc (F_MD_drawOf J v1) (fun r : Int32 × MJ => fsL LJ r.2 J0) := by
  unfold F_MD_drawOf
  refine pc_gq ?_
  refine pc_bnd ?_
  refine pc_s ?_
  first | trivial | (refine ⟨?_, ?_⟩ <;> repeat (first | assumption | refine fs_up hL rfl ?_ | refine fs_up hLJ rfl ?_)) | (repeat (first | assumption | refine fs_up hL rfl ?_ | refine fs_up hLJ rfl ?_))
abbrev L_MD_chance_25 : List (Nat × Option Nat) := [(177, some 50), (177, some 53), (177, some 54), (177, some 56), (177, some 98), (213, none), (215, none)]
abbrev K_MD_chance_25 : List (Nat × Option Nat) := [(177, some 68), (246, none)]
theorem q_MD_chance_25 {L LJ : List (Nat × Option Nat)} {I0 : MI} {J0 : MJ} {I : MI} {J : MJ} {v1 : Int32} {v2 : Int32} {v3 : Int32} (hL : subL L_MD_chance_25 L = true) (hLJ : subL K_MD_chance_25 LJ = true) (hI : fsL L I I0) (hJ : fsL LJ J J0) : pc (F_MD_chance_25 I J v1 v2 v3) (Sum.elim (fun r : Int32 × Int32 × MI × MJ => fsL L r.2.2.1 I0 ∧ fsL LJ r.2.2.2 J0) (fun r : Int32 × MI × MJ => fsL L r.2.1 I0 ∧ fsL LJ r.2.2 J0)) := by
  unfold F_MD_chance_25
  refine pc_if ?_ ?_
  · refine pc_s ?_
    first | trivial | (refine ⟨?_, ?_⟩ <;> repeat (first | assumption | refine fs_up hL rfl ?_ | refine fs_up hLJ rfl ?_)) | (repeat (first | assumption | refine fs_up hL rfl ?_ | refine fs_up hLJ rfl ?_))
  · refine pc_b (q_MD_drawOf (L := L) (LJ := LJ) (I0 := I0) (J0 := J0) (sub_t (by decide) hL) (sub_t (by decide) hLJ) (by repeat (first | assumption | refine fs_up hL rfl ?_ | refine fs_up hLJ rfl ?_))) (fun r2 hr2 => ?_)
    refine pc_if ?_ ?_
    · refine pc_b (q_MD_yearGoes (L := L) (LJ := LJ) (I0 := I0) (J0 := J0) (sub_t (by decide) hL) (sub_t (by decide) hLJ) (by repeat (first | assumption | refine fs_up hL rfl ?_ | refine fs_up hLJ rfl ?_)) (by repeat (first | assumption | refine fs_up hL rfl ?_ | refine fs_up hLJ rfl ?_))) (fun r4 hr4 => ?_)
      obtain ⟨hr4I, hr4J⟩ := hr4
      refine pc_s ?_
      first | trivial | (refine ⟨?_, ?_⟩ <;> repeat (first | assumption | refine fs_up hL rfl ?_ | refine fs_up hLJ rfl ?_)) | (repeat (first | assumption | refine fs_up hL rfl ?_ | refine fs_up hLJ rfl ?_))
    · refine pc_b' (fun r5 => ?_)
      refine pc_if ?_ ?_
      · refine pc_b (q_MD_yearGoes (L := L) (LJ := LJ) (I0 := I0) (J0 := J0) (sub_t (by decide) hL) (sub_t (by decide) hLJ) (by repeat (first | assumption | refine fs_up hL rfl ?_ | refine fs_up hLJ rfl ?_)) (by repeat (first | assumption | refine fs_up hL rfl ?_ | refine fs_up hLJ rfl ?_))) (fun r7 hr7 => ?_)
        obtain ⟨hr7I, hr7J⟩ := hr7
        refine pc_s ?_
        first | trivial | (refine ⟨?_, ?_⟩ <;> repeat (first | assumption | refine fs_up hL rfl ?_ | refine fs_up hLJ rfl ?_)) | (repeat (first | assumption | refine fs_up hL rfl ?_ | refine fs_up hLJ rfl ?_))
      · refine pc_b' (fun r8 => ?_)
        refine pc_b (q_MD_drawOf (L := L) (LJ := LJ) (I0 := I0) (J0 := J0) (sub_t (by decide) hL) (sub_t (by decide) hLJ) (by repeat (first | assumption | refine fs_up hL rfl ?_ | refine fs_up hLJ rfl ?_))) (fun r9 hr9 => ?_)
        refine pc_b (q_MD_drawOf (L := L) (LJ := LJ) (I0 := I0) (J0 := J0) (sub_t (by decide) hL) (sub_t (by decide) hLJ) (by repeat (first | assumption | refine fs_up hL rfl ?_ | refine fs_up hLJ rfl ?_))) (fun r10 hr10 => ?_)
        refine pc_b' (fun r11 => ?_)
        refine pc_if ?_ ?_
        · refine pc_b (q_MD_yearGoes (L := L) (LJ := LJ) (I0 := I0) (J0 := J0) (sub_t (by decide) hL) (sub_t (by decide) hLJ) (by repeat (first | assumption | refine fs_up hL rfl ?_ | refine fs_up hLJ rfl ?_)) (by repeat (first | assumption | refine fs_up hL rfl ?_ | refine fs_up hLJ rfl ?_))) (fun r13 hr13 => ?_)
          obtain ⟨hr13I, hr13J⟩ := hr13
          refine pc_s ?_
          first | trivial | (refine ⟨?_, ?_⟩ <;> repeat (first | assumption | refine fs_up hL rfl ?_ | refine fs_up hLJ rfl ?_)) | (repeat (first | assumption | refine fs_up hL rfl ?_ | refine fs_up hLJ rfl ?_))
        · refine pc_b (q_MD_isGone (L := L) (LJ := LJ) (I0 := I0) (J0 := J0) (sub_t (by decide) hL) (sub_t (by decide) hLJ) (by repeat (first | assumption | refine fs_up hL rfl ?_ | refine fs_up hLJ rfl ?_))) (fun r14 hr14 => ?_)
          refine pc_b (q_MD_yearGoes (L := L) (LJ := LJ) (I0 := I0) (J0 := J0) (sub_t (by decide) hL) (sub_t (by decide) hLJ) (by repeat (first | assumption | refine fs_up hL rfl ?_ | refine fs_up hLJ rfl ?_)) (by repeat (first | assumption | refine fs_up hL rfl ?_ | refine fs_up hLJ rfl ?_))) (fun r15 hr15 => ?_)
          obtain ⟨hr15I, hr15J⟩ := hr15
          refine pc_s ?_
          first | trivial | (refine ⟨?_, ?_⟩ <;> repeat (first | assumption | refine fs_up hL rfl ?_ | refine fs_up hLJ rfl ?_)) | (repeat (first | assumption | refine fs_up hL rfl ?_ | refine fs_up hLJ rfl ?_))
abbrev L_MD_chance : List (Nat × Option Nat) := [(177, some 50), (177, some 53), (177, some 54), (177, some 56), (177, some 66), (177, some 67), (177, some 98), (179, none), (213, none), (215, none), (221, none)]
abbrev K_MD_chance : List (Nat × Option Nat) := [(177, some 68), (246, none)]
theorem q_MD_chance {L LJ : List (Nat × Option Nat)} {I0 : MI} {J0 : MJ} {I : MI} {J : MJ} {v1 : Int32} (hL : subL L_MD_chance L = true) (hLJ : subL K_MD_chance LJ = true) (hI : fsL L I I0) (hJ : fsL LJ J J0) : pc (F_MD_chance I J v1) (fun r : Int32 × MI × MJ => fsL L r.2.1 I0 ∧ fsL LJ r.2.2 J0) := by
  unfold F_MD_chance
  refine pc_b' (fun r1 => ?_)
  refine pc_if ?_ ?_
  · refine pc_b (q_MD_refuses (L := L) (LJ := LJ) (I0 := I0) (J0 := J0) (sub_t (by decide) hL) (sub_t (by decide) hLJ) (by repeat (first | assumption | refine fs_up hL rfl ?_ | refine fs_up hLJ rfl ?_))) (fun r5 hr5 => ?_)
    refine pc_s ?_
    first | trivial | (refine ⟨?_, ?_⟩ <;> repeat (first | assumption | refine fs_up hL rfl ?_ | refine fs_up hLJ rfl ?_)) | (repeat (first | assumption | refine fs_up hL rfl ?_ | refine fs_up hLJ rfl ?_))
  · refine pc_b (q_MD_keeps (L := L) (LJ := LJ) (I0 := I0) (J0 := J0) (sub_t (by decide) hL) (sub_t (by decide) hLJ) (by repeat (first | assumption | refine fs_up hL rfl ?_ | refine fs_up hLJ rfl ?_))) (fun r3 hr3 => ?_)
    refine pc_b (pc_wl (fun s : Int32 × Int32 × MI × MJ => fsL L s.2.2.1 I0 ∧ fsL LJ s.2.2.2 J0) (fun s hs => by obtain ⟨hsI, hsJ⟩ := hs; exact (q_MD_chance_25 (L := L) (LJ := LJ) (I0 := I0) (J0 := J0) (sub_t (by decide) hL) (sub_t (by decide) hLJ) (by repeat (first | assumption | refine fs_up hL rfl ?_ | refine fs_up hLJ rfl ?_)) (by repeat (first | assumption | refine fs_up hL rfl ?_ | refine fs_up hLJ rfl ?_)))) (by first | trivial | (refine ⟨?_, ?_⟩ <;> repeat (first | assumption | refine fs_up hL rfl ?_ | refine fs_up hLJ rfl ?_)) | (repeat (first | assumption | refine fs_up hL rfl ?_ | refine fs_up hLJ rfl ?_)))) (fun t4 ht4 => ?_)
    obtain ⟨ht4I, ht4J⟩ := ht4
    refine pc_s ?_
    first | trivial | (refine ⟨?_, ?_⟩ <;> repeat (first | assumption | refine fs_up hL rfl ?_ | refine fs_up hLJ rfl ?_)) | (repeat (first | assumption | refine fs_up hL rfl ?_ | refine fs_up hLJ rfl ?_))
abbrev L_MD_qKind_76 : List (Nat × Option Nat) := [(177, some 2), (177, some 4), (177, some 5), (177, some 6)]
abbrev K_MD_qKind_76 : List (Nat × Option Nat) := []
theorem q_MD_qKind_76 {L LJ : List (Nat × Option Nat)} {I0 : MI} {J0 : MJ} {I : MI} {y0 : Int32} (hL : subL L_MD_qKind_76 L = true) (hLJ : subL K_MD_qKind_76 LJ = true) (hI : fsL L I I0) : pc (F_MD_qKind_76 I y0) (fun r : Int32 × MI => fsL L r.2 I0) := by
  unfold F_MD_qKind_76
  refine pc_if ?_ ?_
  · refine pc_b (q_MD_asks (L := L) (LJ := LJ) (I0 := I0) (J0 := J0) (sub_t (by decide) hL) (sub_t (by decide) hLJ) (by repeat (first | assumption | refine fs_up hL rfl ?_ | refine fs_up hLJ rfl ?_))) (fun r2 hr2 => ?_)
    refine pc_s ?_
    first | trivial | (refine ⟨?_, ?_⟩ <;> repeat (first | assumption | refine fs_up hL rfl ?_ | refine fs_up hLJ rfl ?_)) | (repeat (first | assumption | refine fs_up hL rfl ?_ | refine fs_up hLJ rfl ?_))
  · refine pc_s ?_
    first | trivial | (refine ⟨?_, ?_⟩ <;> repeat (first | assumption | refine fs_up hL rfl ?_ | refine fs_up hLJ rfl ?_)) | (repeat (first | assumption | refine fs_up hL rfl ?_ | refine fs_up hLJ rfl ?_))
abbrev L_MD_qKind : List (Nat × Option Nat) := [(177, some 2), (177, some 4), (177, some 5), (177, some 6)]
abbrev K_MD_qKind : List (Nat × Option Nat) := []
theorem q_MD_qKind {L LJ : List (Nat × Option Nat)} {I0 : MI} {J0 : MJ} {I : MI} (hL : subL L_MD_qKind L = true) (hLJ : subL K_MD_qKind LJ = true) (hI : fsL L I I0) : pc (F_MD_qKind I) (fun r : Int32 × MI => fsL L r.2 I0) := by
  unfold F_MD_qKind
  refine pc_b (q_MD_takes (L := L) (LJ := LJ) (I0 := I0) (J0 := J0) (sub_t (by decide) hL) (sub_t (by decide) hLJ) (by repeat (first | assumption | refine fs_up hL rfl ?_ | refine fs_up hLJ rfl ?_))) (fun r1 hr1 => ?_)
  refine pc_if ?_ ?_
  · refine pc_b (q_MD_takes (L := L) (LJ := LJ) (I0 := I0) (J0 := J0) (sub_t (by decide) hL) (sub_t (by decide) hLJ) (by repeat (first | assumption | refine fs_up hL rfl ?_ | refine fs_up hLJ rfl ?_))) (fun r3 hr3 => ?_)
    refine pc_if ?_ ?_
    · refine pc_b (q_MD_takes (L := L) (LJ := LJ) (I0 := I0) (J0 := J0) (sub_t (by decide) hL) (sub_t (by decide) hLJ) (by repeat (first | assumption | refine fs_up hL rfl ?_ | refine fs_up hLJ rfl ?_))) (fun r5 hr5 => ?_)
      refine pc_if ?_ ?_
      · refine pc_b (q_MD_takes (L := L) (LJ := LJ) (I0 := I0) (J0 := J0) (sub_t (by decide) hL) (sub_t (by decide) hLJ) (by repeat (first | assumption | refine fs_up hL rfl ?_ | refine fs_up hLJ rfl ?_))) (fun r7 hr7 => ?_)
        refine pc_if ?_ ?_
        · refine pc_b (q_MD_takes (L := L) (LJ := LJ) (I0 := I0) (J0 := J0) (sub_t (by decide) hL) (sub_t (by decide) hLJ) (by repeat (first | assumption | refine fs_up hL rfl ?_ | refine fs_up hLJ rfl ?_))) (fun r9 hr9 => ?_)
          refine pc_if ?_ ?_
          · exact (q_MD_qKind_76 (L := L) (LJ := LJ) (I0 := I0) (J0 := J0) (sub_t (by decide) hL) (sub_t (by decide) hLJ) (by repeat (first | assumption | refine fs_up hL rfl ?_ | refine fs_up hLJ rfl ?_)))
          · exact (q_MD_qKind_76 (L := L) (LJ := LJ) (I0 := I0) (J0 := J0) (sub_t (by decide) hL) (sub_t (by decide) hLJ) (by repeat (first | assumption | refine fs_up hL rfl ?_ | refine fs_up hLJ rfl ?_)))
        · exact (q_MD_qKind_76 (L := L) (LJ := LJ) (I0 := I0) (J0 := J0) (sub_t (by decide) hL) (sub_t (by decide) hLJ) (by repeat (first | assumption | refine fs_up hL rfl ?_ | refine fs_up hLJ rfl ?_)))
      · exact (q_MD_qKind_76 (L := L) (LJ := LJ) (I0 := I0) (J0 := J0) (sub_t (by decide) hL) (sub_t (by decide) hLJ) (by repeat (first | assumption | refine fs_up hL rfl ?_ | refine fs_up hLJ rfl ?_)))
    · exact (q_MD_qKind_76 (L := L) (LJ := LJ) (I0 := I0) (J0 := J0) (sub_t (by decide) hL) (sub_t (by decide) hLJ) (by repeat (first | assumption | refine fs_up hL rfl ?_ | refine fs_up hLJ rfl ?_)))
  · exact (q_MD_qKind_76 (L := L) (LJ := LJ) (I0 := I0) (J0 := J0) (sub_t (by decide) hL) (sub_t (by decide) hLJ) (by repeat (first | assumption | refine fs_up hL rfl ?_ | refine fs_up hLJ rfl ?_)))
abbrev L_MD_qTakes_90 : List (Nat × Option Nat) := [(177, some 100)]
abbrev K_MD_qTakes_90 : List (Nat × Option Nat) := [(177, some 99)]
theorem q_MD_qTakes_90 {L LJ : List (Nat × Option Nat)} {I0 : MI} {J0 : MJ} {I : MI} {J : MJ} {v1 : Int32} {v2 : Int64} (hL : subL L_MD_qTakes_90 L = true) (hLJ : subL K_MD_qTakes_90 LJ = true) (hI : fsL L I I0) (hJ : fsL LJ J J0) : pc (F_MD_qTakes_90 I J v1 v2) (fun r : MI × MJ => fsL L r.1 I0 ∧ fsL LJ r.2 J0) := by
  unfold F_MD_qTakes_90
  refine pc_if ?_ ?_
  · refine pc_s ?_
    first | trivial | (refine ⟨?_, ?_⟩ <;> repeat (first | assumption | refine fs_up hL rfl ?_ | refine fs_up hLJ rfl ?_)) | (repeat (first | assumption | refine fs_up hL rfl ?_ | refine fs_up hLJ rfl ?_))
  · refine pc_if ?_ ?_
    · refine pc_if ?_ ?_
      · refine pc_if ?_ ?_
        · refine pc_s ?_
          first | trivial | (refine ⟨?_, ?_⟩ <;> repeat (first | assumption | refine fs_up hL rfl ?_ | refine fs_up hLJ rfl ?_)) | (repeat (first | assumption | refine fs_up hL rfl ?_ | refine fs_up hLJ rfl ?_))
        · refine pc_s ?_
          first | trivial | (refine ⟨?_, ?_⟩ <;> repeat (first | assumption | refine fs_up hL rfl ?_ | refine fs_up hLJ rfl ?_)) | (repeat (first | assumption | refine fs_up hL rfl ?_ | refine fs_up hLJ rfl ?_))
      · refine pc_if ?_ ?_
        · refine pc_s ?_
          first | trivial | (refine ⟨?_, ?_⟩ <;> repeat (first | assumption | refine fs_up hL rfl ?_ | refine fs_up hLJ rfl ?_)) | (repeat (first | assumption | refine fs_up hL rfl ?_ | refine fs_up hLJ rfl ?_))
        · refine pc_s ?_
          first | trivial | (refine ⟨?_, ?_⟩ <;> repeat (first | assumption | refine fs_up hL rfl ?_ | refine fs_up hLJ rfl ?_)) | (repeat (first | assumption | refine fs_up hL rfl ?_ | refine fs_up hLJ rfl ?_))
    · refine pc_s ?_
      first | trivial | (refine ⟨?_, ?_⟩ <;> repeat (first | assumption | refine fs_up hL rfl ?_ | refine fs_up hLJ rfl ?_)) | (repeat (first | assumption | refine fs_up hL rfl ?_ | refine fs_up hLJ rfl ?_))
abbrev L_MD_qTakes_75 : List (Nat × Option Nat) := [(177, some 100)]
abbrev K_MD_qTakes_75 : List (Nat × Option Nat) := [(177, some 99)]
theorem q_MD_qTakes_75 {L LJ : List (Nat × Option Nat)} {I0 : MI} {J0 : MJ} {I : MI} {J : MJ} {v1 : Int32} {v2 : Int64} (hL : subL L_MD_qTakes_75 L = true) (hLJ : subL K_MD_qTakes_75 LJ = true) (hI : fsL L I I0) (hJ : fsL LJ J J0) : pc (F_MD_qTakes_75 I J v1 v2) (fun r : MI × MJ => fsL L r.1 I0 ∧ fsL LJ r.2 J0) := by
  unfold F_MD_qTakes_75
  refine pc_if ?_ ?_
  · exact (q_MD_qTakes_90 (L := L) (LJ := LJ) (I0 := I0) (J0 := J0) (sub_t (by decide) hL) (sub_t (by decide) hLJ) (by repeat (first | assumption | refine fs_up hL rfl ?_ | refine fs_up hLJ rfl ?_)) (by repeat (first | assumption | refine fs_up hL rfl ?_ | refine fs_up hLJ rfl ?_)))
  · exact (q_MD_qTakes_90 (L := L) (LJ := LJ) (I0 := I0) (J0 := J0) (sub_t (by decide) hL) (sub_t (by decide) hLJ) (by repeat (first | assumption | refine fs_up hL rfl ?_ | refine fs_up hLJ rfl ?_)) (by repeat (first | assumption | refine fs_up hL rfl ?_ | refine fs_up hLJ rfl ?_)))
abbrev L_MD_qTakes_55 : List (Nat × Option Nat) := [(177, some 100)]
abbrev K_MD_qTakes_55 : List (Nat × Option Nat) := [(177, some 99)]
theorem q_MD_qTakes_55 {L LJ : List (Nat × Option Nat)} {I0 : MI} {J0 : MJ} {I : MI} {J : MJ} {v1 : Int32} {v2 : Int64} {v5 : Int32} (hL : subL L_MD_qTakes_55 L = true) (hLJ : subL K_MD_qTakes_55 LJ = true) (hI : fsL L I I0) (hJ : fsL LJ J J0) : pc (F_MD_qTakes_55 I J v1 v2 v5) (fun r : MI × MJ => fsL L r.1 I0 ∧ fsL LJ r.2 J0) := by
  unfold F_MD_qTakes_55
  refine pc_if ?_ ?_
  · refine pc_if ?_ ?_
    · exact (q_MD_qTakes_75 (L := L) (LJ := LJ) (I0 := I0) (J0 := J0) (sub_t (by decide) hL) (sub_t (by decide) hLJ) (by repeat (first | assumption | refine fs_up hL rfl ?_ | refine fs_up hLJ rfl ?_)) (by repeat (first | assumption | refine fs_up hL rfl ?_ | refine fs_up hLJ rfl ?_)))
    · exact (q_MD_qTakes_75 (L := L) (LJ := LJ) (I0 := I0) (J0 := J0) (sub_t (by decide) hL) (sub_t (by decide) hLJ) (by repeat (first | assumption | refine fs_up hL rfl ?_ | refine fs_up hLJ rfl ?_)) (by repeat (first | assumption | refine fs_up hL rfl ?_ | refine fs_up hLJ rfl ?_)))
  · exact (q_MD_qTakes_75 (L := L) (LJ := LJ) (I0 := I0) (J0 := J0) (sub_t (by decide) hL) (sub_t (by decide) hLJ) (by repeat (first | assumption | refine fs_up hL rfl ?_ | refine fs_up hLJ rfl ?_)) (by repeat (first | assumption | refine fs_up hL rfl ?_ | refine fs_up hLJ rfl ?_)))
abbrev L_MD_qTakes_48 : List (Nat × Option Nat) := [(177, some 100)]
abbrev K_MD_qTakes_48 : List (Nat × Option Nat) := [(177, some 99)]
theorem q_MD_qTakes_48 {L LJ : List (Nat × Option Nat)} {I0 : MI} {J0 : MJ} {I : MI} {J : MJ} {v1 : Int32} {v2 : Int64} {v4 : Int32} {v5 : Int32} (hL : subL L_MD_qTakes_48 L = true) (hLJ : subL K_MD_qTakes_48 LJ = true) (hI : fsL L I I0) (hJ : fsL LJ J J0) : pc (F_MD_qTakes_48 I J v1 v2 v4 v5) (fun r : MI × MJ => fsL L r.1 I0 ∧ fsL LJ r.2 J0) := by
  unfold F_MD_qTakes_48
  exact (q_MD_qTakes_55 (L := L) (LJ := LJ) (I0 := I0) (J0 := J0) (sub_t (by decide) hL) (sub_t (by decide) hLJ) (by repeat (first | assumption | refine fs_up hL rfl ?_ | refine fs_up hLJ rfl ?_)) (by repeat (first | assumption | refine fs_up hL rfl ?_ | refine fs_up hLJ rfl ?_)))
abbrev L_MD_qTakes_38 : List (Nat × Option Nat) := [(177, some 100)]
abbrev K_MD_qTakes_38 : List (Nat × Option Nat) := [(177, some 99)]
theorem q_MD_qTakes_38 {L LJ : List (Nat × Option Nat)} {I0 : MI} {J0 : MJ} {I : MI} {J : MJ} {v1 : Int32} {v2 : Int64} {v4 : Int32} {v5 : Int32} (hL : subL L_MD_qTakes_38 L = true) (hLJ : subL K_MD_qTakes_38 LJ = true) (hI : fsL L I I0) (hJ : fsL LJ J J0) : pc (F_MD_qTakes_38 I J v1 v2 v4 v5) (fun r : MI × MJ => fsL L r.1 I0 ∧ fsL LJ r.2 J0) := by
  unfold F_MD_qTakes_38
  refine pc_if ?_ ?_
  · refine pc_if ?_ ?_
    · exact (q_MD_qTakes_55 (L := L) (LJ := LJ) (I0 := I0) (J0 := J0) (sub_t (by decide) hL) (sub_t (by decide) hLJ) (by repeat (first | assumption | refine fs_up hL rfl ?_ | refine fs_up hLJ rfl ?_)) (by repeat (first | assumption | refine fs_up hL rfl ?_ | refine fs_up hLJ rfl ?_)))
    · exact (q_MD_qTakes_48 (L := L) (LJ := LJ) (I0 := I0) (J0 := J0) (sub_t (by decide) hL) (sub_t (by decide) hLJ) (by repeat (first | assumption | refine fs_up hL rfl ?_ | refine fs_up hLJ rfl ?_)) (by repeat (first | assumption | refine fs_up hL rfl ?_ | refine fs_up hLJ rfl ?_)))
  · exact (q_MD_qTakes_55 (L := L) (LJ := LJ) (I0 := I0) (J0 := J0) (sub_t (by decide) hL) (sub_t (by decide) hLJ) (by repeat (first | assumption | refine fs_up hL rfl ?_ | refine fs_up hLJ rfl ?_)) (by repeat (first | assumption | refine fs_up hL rfl ?_ | refine fs_up hLJ rfl ?_)))
abbrev L_MD_qTakes_16 : List (Nat × Option Nat) := [(177, some 100)]
abbrev K_MD_qTakes_16 : List (Nat × Option Nat) := [(177, some 99)]
theorem q_MD_qTakes_16 {L LJ : List (Nat × Option Nat)} {I0 : MI} {J0 : MJ} {I : MI} {J : MJ} {v1 : Int32} {v2 : Int64} {v4 : Int32} {y0 : Int32} (hL : subL L_MD_qTakes_16 L = true) (hLJ : subL K_MD_qTakes_16 LJ = true) (hI : fsL L I I0) (hJ : fsL LJ J J0) : pc (F_MD_qTakes_16 I J v1 v2 v4 y0) (fun r : MI × MJ => fsL L r.1 I0 ∧ fsL LJ r.2 J0) := by
  unfold F_MD_qTakes_16
  refine pc_if ?_ ?_
  · refine pc_if ?_ ?_
    · exact (q_MD_qTakes_38 (L := L) (LJ := LJ) (I0 := I0) (J0 := J0) (sub_t (by decide) hL) (sub_t (by decide) hLJ) (by repeat (first | assumption | refine fs_up hL rfl ?_ | refine fs_up hLJ rfl ?_)) (by repeat (first | assumption | refine fs_up hL rfl ?_ | refine fs_up hLJ rfl ?_)))
    · refine pc_if ?_ ?_
      · exact (q_MD_qTakes_48 (L := L) (LJ := LJ) (I0 := I0) (J0 := J0) (sub_t (by decide) hL) (sub_t (by decide) hLJ) (by repeat (first | assumption | refine fs_up hL rfl ?_ | refine fs_up hLJ rfl ?_)) (by repeat (first | assumption | refine fs_up hL rfl ?_ | refine fs_up hLJ rfl ?_)))
      · exact (q_MD_qTakes_38 (L := L) (LJ := LJ) (I0 := I0) (J0 := J0) (sub_t (by decide) hL) (sub_t (by decide) hLJ) (by repeat (first | assumption | refine fs_up hL rfl ?_ | refine fs_up hLJ rfl ?_)) (by repeat (first | assumption | refine fs_up hL rfl ?_ | refine fs_up hLJ rfl ?_)))
  · exact (q_MD_qTakes_38 (L := L) (LJ := LJ) (I0 := I0) (J0 := J0) (sub_t (by decide) hL) (sub_t (by decide) hLJ) (by repeat (first | assumption | refine fs_up hL rfl ?_ | refine fs_up hLJ rfl ?_)) (by repeat (first | assumption | refine fs_up hL rfl ?_ | refine fs_up hLJ rfl ?_)))
abbrev L_MD_qTakes_15 : List (Nat × Option Nat) := [(177, some 100)]
abbrev K_MD_qTakes_15 : List (Nat × Option Nat) := [(177, some 99)]
theorem q_MD_qTakes_15 {L LJ : List (Nat × Option Nat)} {I0 : MI} {J0 : MJ} {I : MI} {J : MJ} {v1 : Int32} {v2 : Int64} {v4 : Int32} (hL : subL L_MD_qTakes_15 L = true) (hLJ : subL K_MD_qTakes_15 LJ = true) (hI : fsL L I I0) (hJ : fsL LJ J J0) : pc (F_MD_qTakes_15 I J v1 v2 v4) (fun r : MI × MJ => fsL L r.1 I0 ∧ fsL LJ r.2 J0) := by
  unfold F_MD_qTakes_15
  exact (q_MD_qTakes_16 (L := L) (LJ := LJ) (I0 := I0) (J0 := J0) (sub_t (by decide) hL) (sub_t (by decide) hLJ) (by repeat (first | assumption | refine fs_up hL rfl ?_ | refine fs_up hLJ rfl ?_)) (by repeat (first | assumption | refine fs_up hL rfl ?_ | refine fs_up hLJ rfl ?_)))
abbrev L_MD_qTakes : List (Nat × Option Nat) := [(177, some 100)]
abbrev K_MD_qTakes : List (Nat × Option Nat) := [(177, some 99)]
theorem q_MD_qTakes {L LJ : List (Nat × Option Nat)} {I0 : MI} {J0 : MJ} {I : MI} {J : MJ} {v1 : Int32} {v2 : Int64} {v4 : Int32} (hL : subL L_MD_qTakes L = true) (hLJ : subL K_MD_qTakes LJ = true) (hI : fsL L I I0) (hJ : fsL LJ J J0) : pc (F_MD_qTakes I J v1 v2 v4) (fun r : MI × MJ => fsL L r.1 I0 ∧ fsL LJ r.2 J0) := by
  unfold F_MD_qTakes
  refine pc_if ?_ ?_
  · exact (q_MD_qTakes_15 (L := L) (LJ := LJ) (I0 := I0) (J0 := J0) (sub_t (by decide) hL) (sub_t (by decide) hLJ) (by repeat (first | assumption | refine fs_up hL rfl ?_ | refine fs_up hLJ rfl ?_)) (by repeat (first | assumption | refine fs_up hL rfl ?_ | refine fs_up hLJ rfl ?_)))
  · refine pc_if ?_ ?_
    · exact (q_MD_qTakes_16 (L := L) (LJ := LJ) (I0 := I0) (J0 := J0) (sub_t (by decide) hL) (sub_t (by decide) hLJ) (by repeat (first | assumption | refine fs_up hL rfl ?_ | refine fs_up hLJ rfl ?_)) (by repeat (first | assumption | refine fs_up hL rfl ?_ | refine fs_up hLJ rfl ?_)))
    · exact (q_MD_qTakes_15 (L := L) (LJ := LJ) (I0 := I0) (J0 := J0) (sub_t (by decide) hL) (sub_t (by decide) hLJ) (by repeat (first | assumption | refine fs_up hL rfl ?_ | refine fs_up hLJ rfl ?_)) (by repeat (first | assumption | refine fs_up hL rfl ?_ | refine fs_up hLJ rfl ?_)))
abbrev L_MD_qTold_7 : List (Nat × Option Nat) := [(177, some 98)]
abbrev K_MD_qTold_7 : List (Nat × Option Nat) := [(246, none)]
theorem q_MD_qTold_7 {L LJ : List (Nat × Option Nat)} {I0 : MI} {J0 : MJ} {I : MI} {J : MJ} {v1 : Int32} {v2 : Int32} (hL : subL L_MD_qTold_7 L = true) (hLJ : subL K_MD_qTold_7 LJ = true) (hI : fsL L I I0) (hJ : fsL LJ J J0) : pc (F_MD_qTold_7 I J v1 v2) (Sum.elim (fun r : Int32 × MI × MJ => fsL L r.2.1 I0 ∧ fsL LJ r.2.2 J0) (fun r : MI × MJ => fsL L r.1 I0 ∧ fsL LJ r.2 J0)) := by
  unfold F_MD_qTold_7
  refine pc_if ?_ ?_
  · refine pc_s ?_
    first | trivial | (refine ⟨?_, ?_⟩ <;> repeat (first | assumption | refine fs_up hL rfl ?_ | refine fs_up hLJ rfl ?_)) | (repeat (first | assumption | refine fs_up hL rfl ?_ | refine fs_up hLJ rfl ?_))
  · refine pc_gd ?_
    refine pc_if ?_ ?_
    · refine pc_if ?_ ?_
      · refine pc_if ?_ ?_
        · refine pc_if ?_ ?_
          · refine pc_b (q_MD_qPuts (L := L) (LJ := LJ) (I0 := I0) (J0 := J0) (sub_t (by decide) hL) (sub_t (by decide) hLJ) (by repeat (first | assumption | refine fs_up hL rfl ?_ | refine fs_up hLJ rfl ?_)) (by repeat (first | assumption | refine fs_up hL rfl ?_ | refine fs_up hLJ rfl ?_))) (fun r12 hr12 => ?_)
            obtain ⟨hr12I, hr12J⟩ := hr12
            refine pc_s ?_
            first | trivial | (refine ⟨?_, ?_⟩ <;> repeat (first | assumption | refine fs_up hL rfl ?_ | refine fs_up hLJ rfl ?_)) | (repeat (first | assumption | refine fs_up hL rfl ?_ | refine fs_up hLJ rfl ?_))
          · refine pc_if ?_ ?_
            · refine pc_gd ?_
              refine pc_gd ?_
              refine pc_bnd ?_
              refine pc_s ?_
              first | trivial | (refine ⟨?_, ?_⟩ <;> repeat (first | assumption | refine fs_up hL rfl ?_ | refine fs_up hLJ rfl ?_)) | (repeat (first | assumption | refine fs_up hL rfl ?_ | refine fs_up hLJ rfl ?_))
            · refine pc_b (q_MD_qJoins (L := L) (LJ := LJ) (I0 := I0) (J0 := J0) (sub_t (by decide) hL) (sub_t (by decide) hLJ) (by repeat (first | assumption | refine fs_up hL rfl ?_ | refine fs_up hLJ rfl ?_)) (by repeat (first | assumption | refine fs_up hL rfl ?_ | refine fs_up hLJ rfl ?_))) (fun r8 hr8 => ?_)
              obtain ⟨hr8I, hr8J⟩ := hr8
              refine pc_s ?_
              first | trivial | (refine ⟨?_, ?_⟩ <;> repeat (first | assumption | refine fs_up hL rfl ?_ | refine fs_up hLJ rfl ?_)) | (repeat (first | assumption | refine fs_up hL rfl ?_ | refine fs_up hLJ rfl ?_))
        · refine pc_b' (fun r13 => ?_)
          refine pc_b' (fun r14 => ?_)
          refine pc_b (q_MD_qPuts (L := L) (LJ := LJ) (I0 := I0) (J0 := J0) (sub_t (by decide) hL) (sub_t (by decide) hLJ) (by repeat (first | assumption | refine fs_up hL rfl ?_ | refine fs_up hLJ rfl ?_)) (by repeat (first | assumption | refine fs_up hL rfl ?_ | refine fs_up hLJ rfl ?_))) (fun r15 hr15 => ?_)
          obtain ⟨hr15I, hr15J⟩ := hr15
          refine pc_s ?_
          first | trivial | (refine ⟨?_, ?_⟩ <;> repeat (first | assumption | refine fs_up hL rfl ?_ | refine fs_up hLJ rfl ?_)) | (repeat (first | assumption | refine fs_up hL rfl ?_ | refine fs_up hLJ rfl ?_))
      · refine pc_gd ?_
        refine pc_b' (fun r17 => ?_)
        refine pc_b' (fun r18 => ?_)
        refine pc_gd ?_
        refine pc_s ?_
        first | trivial | (refine ⟨?_, ?_⟩ <;> repeat (first | assumption | refine fs_up hL rfl ?_ | refine fs_up hLJ rfl ?_)) | (repeat (first | assumption | refine fs_up hL rfl ?_ | refine fs_up hLJ rfl ?_))
    · refine pc_b (q_MD_qPuts (L := L) (LJ := LJ) (I0 := I0) (J0 := J0) (sub_t (by decide) hL) (sub_t (by decide) hLJ) (by repeat (first | assumption | refine fs_up hL rfl ?_ | refine fs_up hLJ rfl ?_)) (by repeat (first | assumption | refine fs_up hL rfl ?_ | refine fs_up hLJ rfl ?_))) (fun r20 hr20 => ?_)
      obtain ⟨hr20I, hr20J⟩ := hr20
      refine pc_s ?_
      first | trivial | (refine ⟨?_, ?_⟩ <;> repeat (first | assumption | refine fs_up hL rfl ?_ | refine fs_up hLJ rfl ?_)) | (repeat (first | assumption | refine fs_up hL rfl ?_ | refine fs_up hLJ rfl ?_))
abbrev L_MD_qTold : List (Nat × Option Nat) := [(177, some 98)]
abbrev K_MD_qTold : List (Nat × Option Nat) := [(246, none)]
theorem q_MD_qTold {L LJ : List (Nat × Option Nat)} {I0 : MI} {J0 : MJ} {I : MI} {J : MJ} {v1 : Int32} (hL : subL L_MD_qTold L = true) (hLJ : subL K_MD_qTold LJ = true) (hI : fsL L I I0) (hJ : fsL LJ J J0) : pc (F_MD_qTold I J v1) (fun r : Int64 × MI × MJ => fsL L r.2.1 I0 ∧ fsL LJ r.2.2 J0) := by
  unfold F_MD_qTold
  refine pc_b (pc_wl (fun s : Int32 × MI × MJ => fsL L s.2.1 I0 ∧ fsL LJ s.2.2 J0) (fun s hs => by obtain ⟨hsI, hsJ⟩ := hs; exact (q_MD_qTold_7 (L := L) (LJ := LJ) (I0 := I0) (J0 := J0) (sub_t (by decide) hL) (sub_t (by decide) hLJ) (by repeat (first | assumption | refine fs_up hL rfl ?_ | refine fs_up hLJ rfl ?_)) (by repeat (first | assumption | refine fs_up hL rfl ?_ | refine fs_up hLJ rfl ?_)))) (by first | trivial | (refine ⟨?_, ?_⟩ <;> repeat (first | assumption | refine fs_up hL rfl ?_ | refine fs_up hLJ rfl ?_)) | (repeat (first | assumption | refine fs_up hL rfl ?_ | refine fs_up hLJ rfl ?_)))) (fun t1 ht1 => ?_)
  obtain ⟨ht1I, ht1J⟩ := ht1
  refine pc_s ?_
  first | trivial | (refine ⟨?_, ?_⟩ <;> repeat (first | assumption | refine fs_up hL rfl ?_ | refine fs_up hLJ rfl ?_)) | (repeat (first | assumption | refine fs_up hL rfl ?_ | refine fs_up hLJ rfl ?_))
abbrev L_MD_ask_188 : List (Nat × Option Nat) := [(177, some 98), (177, some 100)]
abbrev K_MD_ask_188 : List (Nat × Option Nat) := [(177, some 99), (246, none)]
theorem q_MD_ask_188 {L LJ : List (Nat × Option Nat)} {I0 : MI} {J0 : MJ} {I : MI} {J : MJ} {v1 : Int32} {v2 : Int32} (hL : subL L_MD_ask_188 L = true) (hLJ : subL K_MD_ask_188 LJ = true) (hI : fsL L I I0) (hJ : fsL LJ J J0) : pc (F_MD_ask_188 I J v1 v2) (Sum.elim (fun r : Int32 × MI × MJ => fsL L r.2.1 I0 ∧ fsL LJ r.2.2 J0) (fun r : MI × MJ => fsL L r.1 I0 ∧ fsL LJ r.2 J0)) := by
  unfold F_MD_ask_188
  refine pc_b' (fun r1 => ?_)
  refine pc_if ?_ ?_
  · refine pc_s ?_
    first | trivial | (refine ⟨?_, ?_⟩ <;> repeat (first | assumption | refine fs_up hL rfl ?_ | refine fs_up hLJ rfl ?_)) | (repeat (first | assumption | refine fs_up hL rfl ?_ | refine fs_up hLJ rfl ?_))
  · refine pc_b (q_MD_qTold (L := L) (LJ := LJ) (I0 := I0) (J0 := J0) (sub_t (by decide) hL) (sub_t (by decide) hLJ) (by repeat (first | assumption | refine fs_up hL rfl ?_ | refine fs_up hLJ rfl ?_)) (by repeat (first | assumption | refine fs_up hL rfl ?_ | refine fs_up hLJ rfl ?_))) (fun r3 hr3 => ?_)
    obtain ⟨hr3I, hr3J⟩ := hr3
    refine pc_b (q_MD_qTakes (L := L) (LJ := LJ) (I0 := I0) (J0 := J0) (sub_t (by decide) hL) (sub_t (by decide) hLJ) (by repeat (first | assumption | refine fs_up hL rfl ?_ | refine fs_up hLJ rfl ?_)) (by repeat (first | assumption | refine fs_up hL rfl ?_ | refine fs_up hLJ rfl ?_))) (fun r4 hr4 => ?_)
    obtain ⟨hr4I, hr4J⟩ := hr4
    refine pc_s ?_
    first | trivial | (refine ⟨?_, ?_⟩ <;> repeat (first | assumption | refine fs_up hL rfl ?_ | refine fs_up hLJ rfl ?_)) | (repeat (first | assumption | refine fs_up hL rfl ?_ | refine fs_up hLJ rfl ?_))
abbrev L_MD_ask_173 : List (Nat × Option Nat) := [(177, some 50), (177, some 98), (177, some 100)]
abbrev K_MD_ask_173 : List (Nat × Option Nat) := [(177, some 99), (246, none)]
theorem q_MD_ask_173 {L LJ : List (Nat × Option Nat)} {I0 : MI} {J0 : MJ} {I : MI} {J : MJ} {v1 : Int32} {y0 : Int64} (hL : subL L_MD_ask_173 L = true) (hLJ : subL K_MD_ask_173 LJ = true) (hI : fsL L I I0) (hJ : fsL LJ J J0) : pc (F_MD_ask_173 I J v1 y0) (fun r : Int64 × MI × MJ => fsL L r.2.1 I0 ∧ fsL LJ r.2.2 J0) := by
  unfold F_MD_ask_173
  refine pc_b (pc_wl (fun s : Int32 × MI × MJ => fsL L s.2.1 I0 ∧ fsL LJ s.2.2 J0) (fun s hs => by obtain ⟨hsI, hsJ⟩ := hs; exact (q_MD_ask_188 (L := L) (LJ := LJ) (I0 := I0) (J0 := J0) (sub_t (by decide) hL) (sub_t (by decide) hLJ) (by repeat (first | assumption | refine fs_up hL rfl ?_ | refine fs_up hLJ rfl ?_)) (by repeat (first | assumption | refine fs_up hL rfl ?_ | refine fs_up hLJ rfl ?_)))) (by first | trivial | (refine ⟨?_, ?_⟩ <;> repeat (first | assumption | refine fs_up hL rfl ?_ | refine fs_up hLJ rfl ?_)) | (repeat (first | assumption | refine fs_up hL rfl ?_ | refine fs_up hLJ rfl ?_)))) (fun t1 ht1 => ?_)
  obtain ⟨ht1I, ht1J⟩ := ht1
  refine pc_s ?_
  first | trivial | (refine ⟨?_, ?_⟩ <;> repeat (first | assumption | refine fs_up hL rfl ?_ | refine fs_up hLJ rfl ?_)) | (repeat (first | assumption | refine fs_up hL rfl ?_ | refine fs_up hLJ rfl ?_))
abbrev L_MD_ask_133 : List (Nat × Option Nat) := [(177, some 7), (177, some 8), (177, some 50), (177, some 98), (177, some 100)]
abbrev K_MD_ask_133 : List (Nat × Option Nat) := [(177, some 99), (246, none)]
theorem q_MD_ask_133 {L LJ : List (Nat × Option Nat)} {I0 : MI} {J0 : MJ} {I : MI} {J : MJ} {v1 : Int32} (hL : subL L_MD_ask_133 L = true) (hLJ : subL K_MD_ask_133 LJ = true) (hI : fsL L I I0) (hJ : fsL LJ J J0) : pc (F_MD_ask_133 I J v1) (fun r : Int64 × MI × MJ => fsL L r.2.1 I0 ∧ fsL LJ r.2.2 J0) := by
  unfold F_MD_ask_133
  refine pc_if ?_ ?_
  · refine pc_if ?_ ?_
    · exact (q_MD_ask_173 (L := L) (LJ := LJ) (I0 := I0) (J0 := J0) (sub_t (by decide) hL) (sub_t (by decide) hLJ) (by repeat (first | assumption | refine fs_up hL rfl ?_ | refine fs_up hLJ rfl ?_)) (by repeat (first | assumption | refine fs_up hL rfl ?_ | refine fs_up hLJ rfl ?_)))
    · exact (q_MD_ask_173 (L := L) (LJ := LJ) (I0 := I0) (J0 := J0) (sub_t (by decide) hL) (sub_t (by decide) hLJ) (by repeat (first | assumption | refine fs_up hL rfl ?_ | refine fs_up hLJ rfl ?_)) (by repeat (first | assumption | refine fs_up hL rfl ?_ | refine fs_up hLJ rfl ?_)))
  · refine pc_s ?_
    first | trivial | (refine ⟨?_, ?_⟩ <;> repeat (first | assumption | refine fs_up hL rfl ?_ | refine fs_up hLJ rfl ?_)) | (repeat (first | assumption | refine fs_up hL rfl ?_ | refine fs_up hLJ rfl ?_))
abbrev L_MD_ask_109 : List (Nat × Option Nat) := [(177, some 2), (177, some 5), (177, some 6), (177, some 7), (177, some 8), (177, some 50), (177, some 98), (177, some 100)]
abbrev K_MD_ask_109 : List (Nat × Option Nat) := [(177, some 99), (246, none)]
theorem q_MD_ask_109 {L LJ : List (Nat × Option Nat)} {I0 : MI} {J0 : MJ} {I : MI} {J : MJ} {v1 : Int32} (hL : subL L_MD_ask_109 L = true) (hLJ : subL K_MD_ask_109 LJ = true) (hI : fsL L I I0) (hJ : fsL LJ J J0) : pc (F_MD_ask_109 I J v1) (fun r : Int64 × MI × MJ => fsL L r.2.1 I0 ∧ fsL LJ r.2.2 J0) := by
  unfold F_MD_ask_109
  refine pc_if ?_ ?_
  · refine pc_b (q_MD_look (L := L) (LJ := LJ) (I0 := I0) (J0 := J0) (sub_t (by decide) hL) (sub_t (by decide) hLJ) (by repeat (first | assumption | refine fs_up hL rfl ?_ | refine fs_up hLJ rfl ?_))) (fun r2 hr2 => ?_)
    refine pc_if ?_ ?_
    · exact (q_MD_ask_133 (L := L) (LJ := LJ) (I0 := I0) (J0 := J0) (sub_t (by decide) hL) (sub_t (by decide) hLJ) (by repeat (first | assumption | refine fs_up hL rfl ?_ | refine fs_up hLJ rfl ?_)) (by repeat (first | assumption | refine fs_up hL rfl ?_ | refine fs_up hLJ rfl ?_)))
    · refine pc_b (q_MD_fail (L := L) (LJ := LJ) (I0 := I0) (J0 := J0) (sub_t (by decide) hL) (sub_t (by decide) hLJ) (by repeat (first | assumption | refine fs_up hL rfl ?_ | refine fs_up hLJ rfl ?_))) (fun r4 hr4 => ?_)
      exact (q_MD_ask_133 (L := L) (LJ := LJ) (I0 := I0) (J0 := J0) (sub_t (by decide) hL) (sub_t (by decide) hLJ) (by repeat (first | assumption | refine fs_up hL rfl ?_ | refine fs_up hLJ rfl ?_)) (by repeat (first | assumption | refine fs_up hL rfl ?_ | refine fs_up hLJ rfl ?_)))
  · exact (q_MD_ask_133 (L := L) (LJ := LJ) (I0 := I0) (J0 := J0) (sub_t (by decide) hL) (sub_t (by decide) hLJ) (by repeat (first | assumption | refine fs_up hL rfl ?_ | refine fs_up hLJ rfl ?_)) (by repeat (first | assumption | refine fs_up hL rfl ?_ | refine fs_up hLJ rfl ?_)))
abbrev L_MD_ask_98 : List (Nat × Option Nat) := [(177, some 2), (177, some 4), (177, some 5), (177, some 6), (177, some 7), (177, some 8), (177, some 10), (177, some 50), (177, some 92), (177, some 94), (177, some 95), (177, some 96), (177, some 98), (177, some 100), (244, none), (245, none)]
abbrev K_MD_ask_98 : List (Nat × Option Nat) := [(177, some 99), (246, none)]
theorem q_MD_ask_98 {L LJ : List (Nat × Option Nat)} {I0 : MI} {J0 : MJ} {I : MI} {J : MJ} {v1 : Int32} (hL : subL L_MD_ask_98 L = true) (hLJ : subL K_MD_ask_98 LJ = true) (hI : fsL L I I0) (hJ : fsL LJ J J0) : pc (F_MD_ask_98 I J v1) (fun r : Int64 × MI × MJ => fsL L r.2.1 I0 ∧ fsL LJ r.2.2 J0) := by
  unfold F_MD_ask_98
  refine pc_if ?_ ?_
  · refine pc_b (q_MD_qSums (L := L) (LJ := LJ) (I0 := I0) (J0 := J0) (sub_t (by decide) hL) (sub_t (by decide) hLJ) (by repeat (first | assumption | refine fs_up hL rfl ?_ | refine fs_up hLJ rfl ?_))) (fun r2 hr2 => ?_)
    exact (q_MD_ask_109 (L := L) (LJ := LJ) (I0 := I0) (J0 := J0) (sub_t (by decide) hL) (sub_t (by decide) hLJ) (by repeat (first | assumption | refine fs_up hL rfl ?_ | refine fs_up hLJ rfl ?_)) (by repeat (first | assumption | refine fs_up hL rfl ?_ | refine fs_up hLJ rfl ?_)))
  · exact (q_MD_ask_109 (L := L) (LJ := LJ) (I0 := I0) (J0 := J0) (sub_t (by decide) hL) (sub_t (by decide) hLJ) (by repeat (first | assumption | refine fs_up hL rfl ?_ | refine fs_up hLJ rfl ?_)) (by repeat (first | assumption | refine fs_up hL rfl ?_ | refine fs_up hLJ rfl ?_)))
abbrev L_MD_ask : List (Nat × Option Nat) := [(177, some 1), (177, some 2), (177, some 3), (177, some 4), (177, some 5), (177, some 6), (177, some 7), (177, some 8), (177, some 10), (177, some 50), (177, some 92), (177, some 94), (177, some 95), (177, some 96), (177, some 98), (177, some 100), (244, none), (245, none)]
abbrev K_MD_ask : List (Nat × Option Nat) := [(177, some 99), (246, none)]
theorem q_MD_ask {L LJ : List (Nat × Option Nat)} {I0 : MI} {J0 : MJ} {I : MI} {J : MJ} (hL : subL L_MD_ask L = true) (hLJ : subL K_MD_ask LJ = true) (hI : fsL L I I0) (hJ : fsL LJ J J0) : pc (F_MD_ask I J) (fun r : Int64 × MI × MJ => fsL L r.2.1 I0 ∧ fsL LJ r.2.2 J0) := by
  unfold F_MD_ask
  refine pc_if ?_ ?_
  · refine pc_s ?_
    first | trivial | (refine ⟨?_, ?_⟩ <;> repeat (first | assumption | refine fs_up hL rfl ?_ | refine fs_up hLJ rfl ?_)) | (repeat (first | assumption | refine fs_up hL rfl ?_ | refine fs_up hLJ rfl ?_))
  · refine pc_bnd ?_
    refine pc_b (q_MD_qKind (L := L) (LJ := LJ) (I0 := I0) (J0 := J0) (sub_t (by decide) hL) (sub_t (by decide) hLJ) (by repeat (first | assumption | refine fs_up hL rfl ?_ | refine fs_up hLJ rfl ?_))) (fun r3 hr3 => ?_)
    refine pc_if ?_ ?_
    · refine pc_if ?_ ?_
      · exact (q_MD_ask_98 (L := L) (LJ := LJ) (I0 := I0) (J0 := J0) (sub_t (by decide) hL) (sub_t (by decide) hLJ) (by repeat (first | assumption | refine fs_up hL rfl ?_ | refine fs_up hLJ rfl ?_)) (by repeat (first | assumption | refine fs_up hL rfl ?_ | refine fs_up hLJ rfl ?_)))
      · refine pc_b (q_MD_qTest (L := L) (LJ := LJ) (I0 := I0) (J0 := J0) (sub_t (by decide) hL) (sub_t (by decide) hLJ) (by repeat (first | assumption | refine fs_up hL rfl ?_ | refine fs_up hLJ rfl ?_))) (fun r6 hr6 => ?_)
        exact (q_MD_ask_109 (L := L) (LJ := LJ) (I0 := I0) (J0 := J0) (sub_t (by decide) hL) (sub_t (by decide) hLJ) (by repeat (first | assumption | refine fs_up hL rfl ?_ | refine fs_up hLJ rfl ?_)) (by repeat (first | assumption | refine fs_up hL rfl ?_ | refine fs_up hLJ rfl ?_)))
    · exact (q_MD_ask_98 (L := L) (LJ := LJ) (I0 := I0) (J0 := J0) (sub_t (by decide) hL) (sub_t (by decide) hLJ) (by repeat (first | assumption | refine fs_up hL rfl ?_ | refine fs_up hLJ rfl ?_)) (by repeat (first | assumption | refine fs_up hL rfl ?_ | refine fs_up hLJ rfl ?_)))
abbrev L_MD_writes : List (Nat × Option Nat) := [(177, some 102), (247, none)]
abbrev K_MD_writes : List (Nat × Option Nat) := []
theorem q_MD_writes {L LJ : List (Nat × Option Nat)} {I0 : MI} {J0 : MJ} {I : MI} {v1 : Int32} (hL : subL L_MD_writes L = true) (hLJ : subL K_MD_writes LJ = true) (hI : fsL L I I0) : pc (F_MD_writes I v1) (fun r : MI => fsL L r I0) := by
  unfold F_MD_writes
  refine pc_gd ?_
  refine pc_s ?_
  first | trivial | (refine ⟨?_, ?_⟩ <;> repeat (first | assumption | refine fs_up hL rfl ?_ | refine fs_up hLJ rfl ?_)) | (repeat (first | assumption | refine fs_up hL rfl ?_ | refine fs_up hLJ rfl ?_))
abbrev L_MD_image_55 : List (Nat × Option Nat) := [(177, some 102), (247, none)]
abbrev K_MD_image_55 : List (Nat × Option Nat) := []
theorem q_MD_image_55 {L LJ : List (Nat × Option Nat)} {I0 : MI} {J0 : MJ} {I : MI} {v1 : Int32} {v2 : Int32} (hL : subL L_MD_image_55 L = true) (hLJ : subL K_MD_image_55 LJ = true) (hI : fsL L I I0) : pc (F_MD_image_55 I v1 v2) (Sum.elim (fun r : Int32 × MI => fsL L r.2 I0) (fun r : MI => fsL L r I0)) := by
  unfold F_MD_image_55
  refine pc_if ?_ ?_
  · refine pc_s ?_
    first | trivial | (refine ⟨?_, ?_⟩ <;> repeat (first | assumption | refine fs_up hL rfl ?_ | refine fs_up hLJ rfl ?_)) | (repeat (first | assumption | refine fs_up hL rfl ?_ | refine fs_up hLJ rfl ?_))
  · refine pc_b' (fun r2 => ?_)
    refine pc_if ?_ ?_
    · refine pc_s ?_
      first | trivial | (refine ⟨?_, ?_⟩ <;> repeat (first | assumption | refine fs_up hL rfl ?_ | refine fs_up hLJ rfl ?_)) | (repeat (first | assumption | refine fs_up hL rfl ?_ | refine fs_up hLJ rfl ?_))
    · refine pc_b (q_MD_writes (L := L) (LJ := LJ) (I0 := I0) (J0 := J0) (sub_t (by decide) hL) (sub_t (by decide) hLJ) (by repeat (first | assumption | refine fs_up hL rfl ?_ | refine fs_up hLJ rfl ?_))) (fun r4 hr4 => ?_)
      refine pc_b (q_MD_writes (L := L) (LJ := LJ) (I0 := I0) (J0 := J0) (sub_t (by decide) hL) (sub_t (by decide) hLJ) (by repeat (first | assumption | refine fs_up hL rfl ?_ | refine fs_up hLJ rfl ?_))) (fun r5 hr5 => ?_)
      refine pc_s ?_
      first | trivial | (refine ⟨?_, ?_⟩ <;> repeat (first | assumption | refine fs_up hL rfl ?_ | refine fs_up hLJ rfl ?_)) | (repeat (first | assumption | refine fs_up hL rfl ?_ | refine fs_up hLJ rfl ?_))
abbrev L_MD_image_43 : List (Nat × Option Nat) := [(177, some 102), (247, none)]
abbrev K_MD_image_43 : List (Nat × Option Nat) := []
theorem q_MD_image_43 {L LJ : List (Nat × Option Nat)} {I0 : MI} {J0 : MJ} {I : MI} {v1 : Int32} (hL : subL L_MD_image_43 L = true) (hLJ : subL K_MD_image_43 LJ = true) (hI : fsL L I I0) : pc (F_MD_image_43 I v1) (Sum.elim (fun r : Int32 × MI => fsL L r.2 I0) (fun r : MI => fsL L r I0)) := by
  unfold F_MD_image_43
  refine pc_if ?_ ?_
  · refine pc_s ?_
    first | trivial | (refine ⟨?_, ?_⟩ <;> repeat (first | assumption | refine fs_up hL rfl ?_ | refine fs_up hLJ rfl ?_)) | (repeat (first | assumption | refine fs_up hL rfl ?_ | refine fs_up hLJ rfl ?_))
  · refine pc_b (pc_wl (fun s : Int32 × MI => fsL L s.2 I0) (fun s hs => by exact (q_MD_image_55 (L := L) (LJ := LJ) (I0 := I0) (J0 := J0) (sub_t (by decide) hL) (sub_t (by decide) hLJ) (by repeat (first | assumption | refine fs_up hL rfl ?_ | refine fs_up hLJ rfl ?_)))) (by first | trivial | (refine ⟨?_, ?_⟩ <;> repeat (first | assumption | refine fs_up hL rfl ?_ | refine fs_up hLJ rfl ?_)) | (repeat (first | assumption | refine fs_up hL rfl ?_ | refine fs_up hLJ rfl ?_)))) (fun t2 ht2 => ?_)
    refine pc_s ?_
    first | trivial | (refine ⟨?_, ?_⟩ <;> repeat (first | assumption | refine fs_up hL rfl ?_ | refine fs_up hLJ rfl ?_)) | (repeat (first | assumption | refine fs_up hL rfl ?_ | refine fs_up hLJ rfl ?_))
abbrev L_MD_image_134 : List (Nat × Option Nat) := [(177, some 102), (247, none)]
abbrev K_MD_image_134 : List (Nat × Option Nat) := []
theorem q_MD_image_134 {L LJ : List (Nat × Option Nat)} {I0 : MI} {J0 : MJ} {I : MI} {v1 : Int32} {v2 : Int32} (hL : subL L_MD_image_134 L = true) (hLJ : subL K_MD_image_134 LJ = true) (hI : fsL L I I0) : pc (F_MD_image_134 I v1 v2) (Sum.elim (fun r : Int32 × MI => fsL L r.2 I0) (fun r : MI => fsL L r I0)) := by
  unfold F_MD_image_134
  refine pc_if ?_ ?_
  · refine pc_s ?_
    first | trivial | (refine ⟨?_, ?_⟩ <;> repeat (first | assumption | refine fs_up hL rfl ?_ | refine fs_up hLJ rfl ?_)) | (repeat (first | assumption | refine fs_up hL rfl ?_ | refine fs_up hLJ rfl ?_))
  · refine pc_b' (fun r2 => ?_)
    refine pc_if ?_ ?_
    · refine pc_b (q_MD_writes (L := L) (LJ := LJ) (I0 := I0) (J0 := J0) (sub_t (by decide) hL) (sub_t (by decide) hLJ) (by repeat (first | assumption | refine fs_up hL rfl ?_ | refine fs_up hLJ rfl ?_))) (fun r6 hr6 => ?_)
      refine pc_s ?_
      first | trivial | (refine ⟨?_, ?_⟩ <;> repeat (first | assumption | refine fs_up hL rfl ?_ | refine fs_up hLJ rfl ?_)) | (repeat (first | assumption | refine fs_up hL rfl ?_ | refine fs_up hLJ rfl ?_))
    · refine pc_b' (fun r4 => ?_)
      refine pc_b (q_MD_writes (L := L) (LJ := LJ) (I0 := I0) (J0 := J0) (sub_t (by decide) hL) (sub_t (by decide) hLJ) (by repeat (first | assumption | refine fs_up hL rfl ?_ | refine fs_up hLJ rfl ?_))) (fun r5 hr5 => ?_)
      refine pc_s ?_
      first | trivial | (refine ⟨?_, ?_⟩ <;> repeat (first | assumption | refine fs_up hL rfl ?_ | refine fs_up hLJ rfl ?_)) | (repeat (first | assumption | refine fs_up hL rfl ?_ | refine fs_up hLJ rfl ?_))
abbrev L_MD_image_129 : List (Nat × Option Nat) := [(177, some 102), (247, none)]
abbrev K_MD_image_129 : List (Nat × Option Nat) := []
theorem q_MD_image_129 {L LJ : List (Nat × Option Nat)} {I0 : MI} {J0 : MJ} {I : MI} {v1 : Int32} {y0 : Int32} (hL : subL L_MD_image_129 L = true) (hLJ : subL K_MD_image_129 LJ = true) (hI : fsL L I I0) : pc (F_MD_image_129 I v1 y0) (Sum.elim (fun r : Int32 × MI => fsL L r.2 I0) (fun r : MI => fsL L r I0)) := by
  unfold F_MD_image_129
  refine pc_b (q_MD_writes (L := L) (LJ := LJ) (I0 := I0) (J0 := J0) (sub_t (by decide) hL) (sub_t (by decide) hLJ) (by repeat (first | assumption | refine fs_up hL rfl ?_ | refine fs_up hLJ rfl ?_))) (fun r1 hr1 => ?_)
  refine pc_b (pc_wl (fun s : Int32 × MI => fsL L s.2 I0) (fun s hs => by exact (q_MD_image_134 (L := L) (LJ := LJ) (I0 := I0) (J0 := J0) (sub_t (by decide) hL) (sub_t (by decide) hLJ) (by repeat (first | assumption | refine fs_up hL rfl ?_ | refine fs_up hLJ rfl ?_)))) (by first | trivial | (refine ⟨?_, ?_⟩ <;> repeat (first | assumption | refine fs_up hL rfl ?_ | refine fs_up hLJ rfl ?_)) | (repeat (first | assumption | refine fs_up hL rfl ?_ | refine fs_up hLJ rfl ?_)))) (fun t2 ht2 => ?_)
  refine pc_s ?_
  first | trivial | (refine ⟨?_, ?_⟩ <;> repeat (first | assumption | refine fs_up hL rfl ?_ | refine fs_up hLJ rfl ?_)) | (repeat (first | assumption | refine fs_up hL rfl ?_ | refine fs_up hLJ rfl ?_))
abbrev L_MD_image_98 : List (Nat × Option Nat) := [(177, some 102), (247, none)]
abbrev K_MD_image_98 : List (Nat × Option Nat) := []
theorem q_MD_image_98 {L LJ : List (Nat × Option Nat)} {I0 : MI} {J0 : MJ} {I : MI} {v1 : Int32} (hL : subL L_MD_image_98 L = true) (hLJ : subL K_MD_image_98 LJ = true) (hI : fsL L I I0) : pc (F_MD_image_98 I v1) (Sum.elim (fun r : Int32 × MI => fsL L r.2 I0) (fun r : MI => fsL L r I0)) := by
  unfold F_MD_image_98
  refine pc_b' (fun r1 => ?_)
  refine pc_if ?_ ?_
  · refine pc_s ?_
    first | trivial | (refine ⟨?_, ?_⟩ <;> repeat (first | assumption | refine fs_up hL rfl ?_ | refine fs_up hLJ rfl ?_)) | (repeat (first | assumption | refine fs_up hL rfl ?_ | refine fs_up hLJ rfl ?_))
  · refine pc_b' (fun r3 => ?_)
    refine pc_b (q_MD_writes (L := L) (LJ := LJ) (I0 := I0) (J0 := J0) (sub_t (by decide) hL) (sub_t (by decide) hLJ) (by repeat (first | assumption | refine fs_up hL rfl ?_ | refine fs_up hLJ rfl ?_))) (fun r4 hr4 => ?_)
    refine pc_b' (fun r5 => ?_)
    refine pc_if ?_ ?_
    · exact (q_MD_image_129 (L := L) (LJ := LJ) (I0 := I0) (J0 := J0) (sub_t (by decide) hL) (sub_t (by decide) hLJ) (by repeat (first | assumption | refine fs_up hL rfl ?_ | refine fs_up hLJ rfl ?_)))
    · exact (q_MD_image_129 (L := L) (LJ := LJ) (I0 := I0) (J0 := J0) (sub_t (by decide) hL) (sub_t (by decide) hLJ) (by repeat (first | assumption | refine fs_up hL rfl ?_ | refine fs_up hLJ rfl ?_)))
abbrev L_MD_image : List (Nat × Option Nat) := [(177, some 102), (247, none)]
abbrev K_MD_image : List (Nat × Option Nat) := []
theorem q_MD_image {L LJ : List (Nat × Option Nat)} {I0 : MI} {J0 : MJ} {I : MI} (hL : subL L_MD_image L = true) (hLJ : subL K_MD_image LJ = true) (hI : fsL L I I0) : pc (F_MD_image I) (fun r : Int32 × MI => fsL L r.2 I0) := by
  unfold F_MD_image
  refine pc_b (q_MD_writes (L := L) (LJ := LJ) (I0 := I0) (J0 := J0) (sub_t (by decide) hL) (sub_t (by decide) hLJ) (by repeat (first | assumption | refine fs_up hL rfl ?_ | refine fs_up hLJ rfl ?_))) (fun r1 hr1 => ?_)
  refine pc_b (q_MD_writes (L := L) (LJ := LJ) (I0 := I0) (J0 := J0) (sub_t (by decide) hL) (sub_t (by decide) hLJ) (by repeat (first | assumption | refine fs_up hL rfl ?_ | refine fs_up hLJ rfl ?_))) (fun r2 hr2 => ?_)
  refine pc_b' (fun r3 => ?_)
  refine pc_b (q_MD_writes (L := L) (LJ := LJ) (I0 := I0) (J0 := J0) (sub_t (by decide) hL) (sub_t (by decide) hLJ) (by repeat (first | assumption | refine fs_up hL rfl ?_ | refine fs_up hLJ rfl ?_))) (fun r4 hr4 => ?_)
  refine pc_b (pc_wl (fun s : Int32 × MI => fsL L s.2 I0) (fun s hs => by exact (q_MD_image_43 (L := L) (LJ := LJ) (I0 := I0) (J0 := J0) (sub_t (by decide) hL) (sub_t (by decide) hLJ) (by repeat (first | assumption | refine fs_up hL rfl ?_ | refine fs_up hLJ rfl ?_)))) (by first | trivial | (refine ⟨?_, ?_⟩ <;> repeat (first | assumption | refine fs_up hL rfl ?_ | refine fs_up hLJ rfl ?_)) | (repeat (first | assumption | refine fs_up hL rfl ?_ | refine fs_up hLJ rfl ?_)))) (fun t5 ht5 => ?_)
  refine pc_b (pc_wl (fun s : Int32 × MI => fsL L s.2 I0) (fun s hs => by exact (q_MD_image_98 (L := L) (LJ := LJ) (I0 := I0) (J0 := J0) (sub_t (by decide) hL) (sub_t (by decide) hLJ) (by repeat (first | assumption | refine fs_up hL rfl ?_ | refine fs_up hLJ rfl ?_)))) (by first | trivial | (refine ⟨?_, ?_⟩ <;> repeat (first | assumption | refine fs_up hL rfl ?_ | refine fs_up hLJ rfl ?_)) | (repeat (first | assumption | refine fs_up hL rfl ?_ | refine fs_up hLJ rfl ?_)))) (fun t6 ht6 => ?_)
  refine pc_b' (fun r7 => ?_)
  refine pc_b (q_MD_writes (L := L) (LJ := LJ) (I0 := I0) (J0 := J0) (sub_t (by decide) hL) (sub_t (by decide) hLJ) (by repeat (first | assumption | refine fs_up hL rfl ?_ | refine fs_up hLJ rfl ?_))) (fun r8 hr8 => ?_)
  refine pc_s ?_
  first | trivial | (refine ⟨?_, ?_⟩ <;> repeat (first | assumption | refine fs_up hL rfl ?_ | refine fs_up hLJ rfl ?_)) | (repeat (first | assumption | refine fs_up hL rfl ?_ | refine fs_up hLJ rfl ?_))
abbrev L_MD_on_64 : List (Nat × Option Nat) := [(213, none)]
abbrev K_MD_on_64 : List (Nat × Option Nat) := []
theorem q_MD_on_64 {L LJ : List (Nat × Option Nat)} {I0 : MI} {J0 : MJ} {I : MI} {v2 : Int32} {v3 : Int32} (hL : subL L_MD_on_64 L = true) (hLJ : subL K_MD_on_64 LJ = true) (hI : fsL L I I0) : pc (F_MD_on_64 I v2 v3) (Sum.elim (fun r : Int32 × MI => fsL L r.2 I0) (fun r : MI => fsL L r I0)) := by
  unfold F_MD_on_64
  refine pc_if ?_ ?_
  · refine pc_s ?_
    first | trivial | (refine ⟨?_, ?_⟩ <;> repeat (first | assumption | refine fs_up hL rfl ?_ | refine fs_up hLJ rfl ?_)) | (repeat (first | assumption | refine fs_up hL rfl ?_ | refine fs_up hLJ rfl ?_))
  · refine pc_gd ?_
    refine pc_s ?_
    first | trivial | (refine ⟨?_, ?_⟩ <;> repeat (first | assumption | refine fs_up hL rfl ?_ | refine fs_up hLJ rfl ?_)) | (repeat (first | assumption | refine fs_up hL rfl ?_ | refine fs_up hLJ rfl ?_))
abbrev L_MD_on_87 : List (Nat × Option Nat) := [(213, none)]
abbrev K_MD_on_87 : List (Nat × Option Nat) := []
theorem q_MD_on_87 {L LJ : List (Nat × Option Nat)} {I0 : MI} {J0 : MJ} {I : MI} {v2 : Int32} {v3 : Int32} (hL : subL L_MD_on_87 L = true) (hLJ : subL K_MD_on_87 LJ = true) (hI : fsL L I I0) : pc (F_MD_on_87 I v2 v3) (Sum.elim (fun r : Int32 × MI => fsL L r.2 I0) (fun r : MI => fsL L r I0)) := by
  unfold F_MD_on_87
  refine pc_if ?_ ?_
  · refine pc_s ?_
    first | trivial | (refine ⟨?_, ?_⟩ <;> repeat (first | assumption | refine fs_up hL rfl ?_ | refine fs_up hLJ rfl ?_)) | (repeat (first | assumption | refine fs_up hL rfl ?_ | refine fs_up hLJ rfl ?_))
  · refine pc_gd ?_
    refine pc_gd ?_
    refine pc_gd ?_
    refine pc_gd ?_
    refine pc_bnd ?_
    refine pc_s ?_
    first | trivial | (refine ⟨?_, ?_⟩ <;> repeat (first | assumption | refine fs_up hL rfl ?_ | refine fs_up hLJ rfl ?_)) | (repeat (first | assumption | refine fs_up hL rfl ?_ | refine fs_up hLJ rfl ?_))
abbrev L_MD_on_206 : List (Nat × Option Nat) := [(213, none)]
abbrev K_MD_on_206 : List (Nat × Option Nat) := []
theorem q_MD_on_206 {L LJ : List (Nat × Option Nat)} {I0 : MI} {J0 : MJ} {I : MI} {v2 : Int32} {v3 : Int32} {v4 : Int32} {v5 : Int32} (hL : subL L_MD_on_206 L = true) (hLJ : subL K_MD_on_206 LJ = true) (hI : fsL L I I0) : pc (F_MD_on_206 I v2 v3 v4 v5) (Sum.elim (fun r : Int32 × MI => fsL L r.2 I0) (fun r : MI => fsL L r I0)) := by
  unfold F_MD_on_206
  refine pc_if ?_ ?_
  · refine pc_s ?_
    first | trivial | (refine ⟨?_, ?_⟩ <;> repeat (first | assumption | refine fs_up hL rfl ?_ | refine fs_up hLJ rfl ?_)) | (repeat (first | assumption | refine fs_up hL rfl ?_ | refine fs_up hLJ rfl ?_))
  · refine pc_gd ?_
    refine pc_if ?_ ?_
    · refine pc_b (q_MD_rowIs (L := L) (LJ := LJ) (I0 := I0) (J0 := J0) (sub_t (by decide) hL) (sub_t (by decide) hLJ) (by repeat (first | assumption | refine fs_up hL rfl ?_ | refine fs_up hLJ rfl ?_))) (fun r6 hr6 => ?_)
      refine pc_s ?_
      first | trivial | (refine ⟨?_, ?_⟩ <;> repeat (first | assumption | refine fs_up hL rfl ?_ | refine fs_up hLJ rfl ?_)) | (repeat (first | assumption | refine fs_up hL rfl ?_ | refine fs_up hLJ rfl ?_))
    · refine pc_gd ?_
      refine pc_b (q_MD_rowIs (L := L) (LJ := LJ) (I0 := I0) (J0 := J0) (sub_t (by decide) hL) (sub_t (by decide) hLJ) (by repeat (first | assumption | refine fs_up hL rfl ?_ | refine fs_up hLJ rfl ?_))) (fun r5 hr5 => ?_)
      refine pc_s ?_
      first | trivial | (refine ⟨?_, ?_⟩ <;> repeat (first | assumption | refine fs_up hL rfl ?_ | refine fs_up hLJ rfl ?_)) | (repeat (first | assumption | refine fs_up hL rfl ?_ | refine fs_up hLJ rfl ?_))
abbrev L_MD_on_137 : List (Nat × Option Nat) := [(213, none)]
abbrev K_MD_on_137 : List (Nat × Option Nat) := []
theorem q_MD_on_137 {L LJ : List (Nat × Option Nat)} {I0 : MI} {J0 : MJ} {I : MI} {v2 : Int32} {v3 : Int32} (hL : subL L_MD_on_137 L = true) (hLJ : subL K_MD_on_137 LJ = true) (hI : fsL L I I0) : pc (F_MD_on_137 I v2 v3) (Sum.elim (fun r : Int32 × MI => fsL L r.2 I0) (fun r : MI => fsL L r I0)) := by
  unfold F_MD_on_137
  refine pc_b' (fun r1 => ?_)
  refine pc_if ?_ ?_
  · refine pc_s ?_
    first | trivial | (refine ⟨?_, ?_⟩ <;> repeat (first | assumption | refine fs_up hL rfl ?_ | refine fs_up hLJ rfl ?_)) | (repeat (first | assumption | refine fs_up hL rfl ?_ | refine fs_up hLJ rfl ?_))
  · refine pc_gd ?_
    refine pc_gd ?_
    refine pc_gd ?_
    refine pc_gd ?_
    refine pc_bnd ?_
    refine pc_b (pc_wl (fun s : Int32 × MI => fsL L s.2 I0) (fun s hs => by exact (q_MD_on_206 (L := L) (LJ := LJ) (I0 := I0) (J0 := J0) (sub_t (by decide) hL) (sub_t (by decide) hLJ) (by repeat (first | assumption | refine fs_up hL rfl ?_ | refine fs_up hLJ rfl ?_)))) (by first | trivial | (refine ⟨?_, ?_⟩ <;> repeat (first | assumption | refine fs_up hL rfl ?_ | refine fs_up hLJ rfl ?_)) | (repeat (first | assumption | refine fs_up hL rfl ?_ | refine fs_up hLJ rfl ?_)))) (fun t8 ht8 => ?_)
    refine pc_s ?_
    first | trivial | (refine ⟨?_, ?_⟩ <;> repeat (first | assumption | refine fs_up hL rfl ?_ | refine fs_up hLJ rfl ?_)) | (repeat (first | assumption | refine fs_up hL rfl ?_ | refine fs_up hLJ rfl ?_))
abbrev L_MD_on : List (Nat × Option Nat) := [(177, some 1), (177, some 66), (179, none), (213, none)]
abbrev K_MD_on : List (Nat × Option Nat) := []
theorem q_MD_on {L LJ : List (Nat × Option Nat)} {I0 : MI} {J0 : MJ} {I : MI} (hL : subL L_MD_on L = true) (hLJ : subL K_MD_on LJ = true) (hI : fsL L I I0) : pc (F_MD_on I) (fun r : Int32 × MI => fsL L r.2 I0) := by
  unfold F_MD_on
  refine pc_b' (fun r1 => ?_)
  refine pc_if ?_ ?_
  · refine pc_s ?_
    first | trivial | (refine ⟨?_, ?_⟩ <;> repeat (first | assumption | refine fs_up hL rfl ?_ | refine fs_up hLJ rfl ?_)) | (repeat (first | assumption | refine fs_up hL rfl ?_ | refine fs_up hLJ rfl ?_))
  · refine pc_b (pc_wl (fun s : Int32 × MI => fsL L s.2 I0) (fun s hs => by exact (q_MD_on_64 (L := L) (LJ := LJ) (I0 := I0) (J0 := J0) (sub_t (by decide) hL) (sub_t (by decide) hLJ) (by repeat (first | assumption | refine fs_up hL rfl ?_ | refine fs_up hLJ rfl ?_)))) (by first | trivial | (refine ⟨?_, ?_⟩ <;> repeat (first | assumption | refine fs_up hL rfl ?_ | refine fs_up hLJ rfl ?_)) | (repeat (first | assumption | refine fs_up hL rfl ?_ | refine fs_up hLJ rfl ?_)))) (fun t3 ht3 => ?_)
    refine pc_b (pc_wl (fun s : Int32 × MI => fsL L s.2 I0) (fun s hs => by exact (q_MD_on_87 (L := L) (LJ := LJ) (I0 := I0) (J0 := J0) (sub_t (by decide) hL) (sub_t (by decide) hLJ) (by repeat (first | assumption | refine fs_up hL rfl ?_ | refine fs_up hLJ rfl ?_)))) (by first | trivial | (refine ⟨?_, ?_⟩ <;> repeat (first | assumption | refine fs_up hL rfl ?_ | refine fs_up hLJ rfl ?_)) | (repeat (first | assumption | refine fs_up hL rfl ?_ | refine fs_up hLJ rfl ?_)))) (fun t4 ht4 => ?_)
    refine pc_b (pc_wl (fun s : Int32 × MI => fsL L s.2 I0) (fun s hs => by exact (q_MD_on_137 (L := L) (LJ := LJ) (I0 := I0) (J0 := J0) (sub_t (by decide) hL) (sub_t (by decide) hLJ) (by repeat (first | assumption | refine fs_up hL rfl ?_ | refine fs_up hLJ rfl ?_)))) (by first | trivial | (refine ⟨?_, ?_⟩ <;> repeat (first | assumption | refine fs_up hL rfl ?_ | refine fs_up hLJ rfl ?_)) | (repeat (first | assumption | refine fs_up hL rfl ?_ | refine fs_up hLJ rfl ?_)))) (fun t5 ht5 => ?_)
    refine pc_s ?_
    first | trivial | (refine ⟨?_, ?_⟩ <;> repeat (first | assumption | refine fs_up hL rfl ?_ | refine fs_up hLJ rfl ?_)) | (repeat (first | assumption | refine fs_up hL rfl ?_ | refine fs_up hLJ rfl ?_))
