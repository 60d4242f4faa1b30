/-! the class: small ones as functions -/
def wch (x : Int32) : Int32 := m_str.getD x.toNatClampNeg 0
theorem dp {c d x : Nat} (h : c ≤ d) (hx : x ≤ 21) : c + 1 ≤ (m_rm (d + 1) 0 0).frames ∧ 8 + (x + 11) + 40 * c ≤ (m_rm (d + 1) 0 0).locals := ⟨by show c + 1 ≤ d + 1; omega, by show 8 + (x + 11) + 40 * c ≤ 40 * (d + 1); omega⟩
section MS38
variable {G : MG} {R : Room} {M : MM} {Q : Option MV → MS → Prop} {rc rs pc : Nat} {ls : ML} {st : List MV} {S : MS}
theorem b_slen (hd1 : decode M.2.1 pc = .ok (.ldc 131, 2)) (hd2 : decode M.2.1 (pc + 2) = .ok (.invokevirtual 133, 3)) (hM : M.1 = 5) (hst : m_cat st ≤ 6) (hR : 4 ≤ R.frames ∧ 160 ≤ R.locals) (h : m_B G R M Q rc rs (pc + 5) ls (mI 147 :: st) S) : m_B G R M Q rc rs pc ls st S := by
  exact b_slen_x (fun U h => h.2.2.2.1.2) hd1 hd2 hM hst hR h
theorem b_schar {x : Int32} (hd1 : decode M.2.1 pc = .ok (.ldc 131, 2)) (hd2 : decode M.2.1 (pc + 2) = .ok (.iload_n 3, 1)) (hd3 : decode M.2.1 (pc + 3) = .ok (.invokevirtual 137, 3)) (hM : M.1 = 5) (hl : m_get ls 3 = some (mI x)) (hx : vp_in x 147) (hst : m_cat st ≤ 6) (hR : 4 ≤ R.frames ∧ 160 ≤ R.locals) (h : m_B G R M Q rc rs (pc + 6) ls (mI (wch x) :: st) S) : m_B G R M Q rc rs pc ls st S := by
  exact b_schar_x (fun U h => h.2.2.2.1.2) hd1 hd2 hd3 hM hl hx hst hR h
end MS38
theorem rf_up {R : Nat → Nat → Option MRef} {k j : Nat} {v : Option MRef} (hR : RF R) (h : ∀ q ∈ m_refs, ¬ (q.1 = k ∧ q.2.1 = j)) : RF (m_up R k j v) := by
  intro q hq
  have e := hR q hq
  have n := h q hq
  simp only [m_up]
  by_cases h1 : q.1 = k
  · rw [if_pos h1]
    rw [if_neg (fun z => n ⟨h1, z⟩)]
    exact e
  · rw [if_neg h1]
    exact e
set_option maxRecDepth 100000 in
theorem rf_t {R : Nat → Nat → Option MRef} {v : Option MRef} (hR : RF R) : RF (m_up R 19 4 v) := rf_up hR (by decide +kernel)
set_option maxRecDepth 100000 in
theorem rf_01 {R : Nat → Nat → Option MRef} {v : Option MRef} (hR : RF R) : RF (m_up R 0 1 v) := rf_up hR (by decide +kernel)
set_option maxRecDepth 100000 in
theorem rf_02 {R : Nat → Nat → Option MRef} {v : Option MRef} (hR : RF R) : RF (m_up R 0 2 v) := rf_up hR (by decide +kernel)
set_option maxRecDepth 100000 in
theorem rf_24 {R : Nat → Nat → Option MRef} {v : Option MRef} (hR : RF R) : RF (m_up R 24 1 v) := rf_up hR (by decide +kernel)
theorem ix_lt {x : Int32} {n : Nat} (hn : n < 2 ^ 31) (h1 : ¬ x < 0) (h2 : ¬ nI n ≤ x) : x.toNatClampNeg < n := by
  obtain ⟨j, hj, rfl⟩ := ix_of hn (Int32.not_lt.mp h1) (Int32.not_le.mp h2)
  rw [nI_clamp (by omega)]
  exact hj
theorem fp_noL {sl : Nat} (hq : sl = 3 ∨ sl = 11) : ¬ FP 20 (some 45) sl := by
  simp only [FP]
  intro h
  rcases h with h | h | h | h | h | ⟨g, h, h2⟩
  all_goals first | omega | (cases h; omega)
noncomputable def F_Tape_byteAt (I : MI) (v1 : Int32) : Option (Int32) :=
  if v1 < (0 : Int32) then (some ((-1) : Int32)) else (if (I 1 1) ≤ v1 then (some ((-1) : Int32)) else (gd v1 1600 <| some ((I 2 v1.toNatClampNeg) &&& (255 : Int32) : Int32)))
set_option maxRecDepth 100000 in
set_option maxHeartbeats 400000 in
theorem W_Tape_byteAt {G : MG} {Q : Option MV → MS → Prop} {L : List (Nat × Nat)} {R : Nat → Nat → Option MRef} (I : MI) (J : MJ) (v1 : Int32) (hR : RF R) {r : Int32} (hf : F_Tape_byteAt I v1 = some r) (hk : (fun r : Int32 => Q (some (mI r)) (L, I, J, R)) r) : m_B G (m_rm 1 0 0) M_Tape_byteAt Q 0 0 0 [some (mR (9, 0, 1)), some (mI v1)] [] (L, I, J, R) := by
  unfold F_Tape_byteAt at hf
  refine b_blk (pc' := 1) (ls' := [some (mR (9, 0, 1)), some (mI v1)]) (st' := [mI v1]) (S' := (L, I, J, R)) (P := True) [(.iload_n 1, (0, 0, 0, 0, 0))] [] (by decide +kernel) rfl trivial ?_
  refine b_if_lt (off := 24) (tgt := 25) (by decide +kernel) (by decide) (fun h1 => ?_) (fun h1 => ?_)
  · have hf := if_t h1 hf
    refine b_blk (pc' := 26) (ls' := [some (mR (9, 0, 1)), some (mI v1)]) (st' := [mI (-1)]) (S' := (L, I, J, R)) (P := True) [(.iconst (-1), (0, 0, 0, (-1), 0))] [] (by decide +kernel) rfl trivial ?_
    cases hf
    exact b_iret (by decide +kernel) rfl hk
  · have hf := if_f h1 hf
    refine b_blk (pc' := 9) (ls' := [some (mR (9, 0, 1)), some (mI v1)]) (st' := [mI (I 1 1), mI v1]) (S' := (L, I, J, R)) (P := True) [(.iload_n 1, (0, 0, 0, 0, 0)), (.aload_n 0, (0, 0, 0, 0, 0)), (.getfield 15, (9, 1, 0, 0, 0))] [] (by decide +kernel) rfl trivial ?_
    refine b_icmp_ge (off := 16) (tgt := 25) (by decide +kernel) (by decide) (fun h2 => ?_) (fun h2 => ?_)
    · have hf := if_t h2 hf
      refine b_blk (pc' := 26) (ls' := [some (mR (9, 0, 1)), some (mI v1)]) (st' := [mI (-1)]) (S' := (L, I, J, R)) (P := True) [(.iconst (-1), (0, 0, 0, (-1), 0))] [] (by decide +kernel) rfl trivial ?_
      cases hf
      exact b_iret (by decide +kernel) rfl hk
    · have hf := if_f h2 hf
      obtain ⟨g3, hf⟩ := gd_s hf
      refine b_blk (pc' := 26) (ls' := [some (mR (9, 0, 1)), some (mI v1)]) (st' := [mI ((I 2 v1.toNatClampNeg) &&& (255 : Int32))]) (S' := (L, I, J, R)) (P := ((True ∧ R 1 0 = some (22, 1600, 2)) ∧ vp_in v1 1600)) [(.aload_n 0, (0, 0, 0, 0, 0)), (.getfield 9, (9, 0, 3, 0, 0)), (.iload_n 1, (0, 0, 0, 0, 0)), (.baload, (0, 0, 0, 0, 0)), (.sipush 255, (0, 0, 0, 255, 0)), (.iand, (0, 0, 0, 0, 0)), (.goto 4, (0, 26, 0, 0, 0))] [some (22, 1600, 2)] (by decide +kernel) rfl ⟨⟨trivial, (r_1_0 hR)⟩, (in_n (n := 1600) (by decide) g3.1 g3.2)⟩ ?_
      cases hf
      exact b_iret (by decide +kernel) rfl hk
theorem C_Tape_byteAt {G : MG} {L : List (Nat × Nat)} {R : Nat → Nat → Option MRef} (I : MI) (J : MJ) (v1 : Int32) (hR : RF R) {r : Int32} (hf : F_Tape_byteAt I v1 = some r) : m_met G 1 0 0 y_Tape_byteAt M_Tape_byteAt [mR (9, 0, 1), mI v1] (L, I, J, R) (m_is (some (mI r)) (L, I, J, R)) :=
  m_met_in n_Tape_byteAt (plainFor_of_name (by decide)) (by decide) (Nat.le_of_ble_eq_true rfl) (ls := [some (mR (9, 0, 1)), some (mI v1)]) rfl (W_Tape_byteAt I J v1 hR hf ⟨rfl, rfl⟩)
noncomputable def F_Tape_append_3 (I : MI) (v1 : Int32) (v2 : Int32) : Option ((Int32 × MI) ⊕ (MI)) :=
  if v2 < (0 : Int32) then (some (.inr I)) else (if (1600 : Int32) ≤ (I 1 1) then (some (.inr I)) else (gd (I 1 1) 1600 <| bnd (m_up (m_up I 2 ((I 1 1).toNatClampNeg) (vp_nar .byte ((v1 >>> (v2 &&& 31)).toInt8.toInt32))) 1 1 ((I 1 1) + (1 : Int32)) : MI) fun x4 => some (.inl ((v2 + (-8) : Int32), x4))))
set_option maxRecDepth 100000 in
set_option maxHeartbeats 400000 in
theorem W_Tape_append_3 {G : MG} {Q : Option MV → MS → Prop} {L : List (Nat × Nat)} {R : Nat → Nat → Option MRef} (I : MI) (J : MJ) (v1 : Int32) (v2 : Int32) (hR : RF R) {r : (Int32 × MI) ⊕ (MI)} (hf : F_Tape_append_3 I v1 v2 = some r) (hk : (Sum.elim (fun s : Int32 × MI => m_B G (m_rm 1 0 0) M_Tape_append Q 0 0 3 [some (mR (9, 0, 1)), some (mI v1), some (mI s.1)] [] (L, s.2, J, R)) (fun s : MI => m_B G (m_rm 1 0 0) M_Tape_append Q 0 0 46 [none, none, none] [] (L, s, J, R))) r) : m_B G (m_rm 1 0 0) M_Tape_append Q 0 0 3 [some (mR (9, 0, 1)), some (mI v1), some (mI v2)] [] (L, I, J, R) := by
  unfold F_Tape_append_3 at hf
  refine b_blk (pc' := 4) (ls' := [some (mR (9, 0, 1)), some (mI v1), some (mI v2)]) (st' := [mI v2]) (S' := (L, I, J, R)) (P := True) [(.iload_n 2, (0, 0, 0, 0, 0))] [] (by decide +kernel) rfl trivial ?_
  refine b_if_lt (off := 42) (tgt := 46) (by decide +kernel) (by decide) (fun h1 => ?_) (fun h1 => ?_)
  · have hf := if_t h1 hf
    refine b_frg 0 ?_
    refine b_frg 1 ?_
    refine b_frg 2 ?_
    cases hf
    exact hk
  · have hf := if_f h1 hf
    refine b_blk (pc' := 14) (ls' := [some (mR (9, 0, 1)), some (mI v1), some (mI v2)]) (st' := [mI 1600, mI (I 1 1)]) (S' := (L, I, J, R)) (P := True) [(.aload_n 0, (0, 0, 0, 0, 0)), (.getfield 15, (9, 1, 0, 0, 0)), (.sipush 1600, (0, 0, 0, 1600, 0))] [] (by decide +kernel) rfl trivial ?_
    refine b_icmp_ge (off := 32) (tgt := 46) (by decide +kernel) (by decide) (fun h2 => ?_) (fun h2 => ?_)
    · have hf := if_t h2 hf
      refine b_frg 0 ?_
      refine b_frg 1 ?_
      refine b_frg 2 ?_
      cases hf
      exact hk
    · have hf := if_f h2 hf
      obtain ⟨g3, hf⟩ := gd_s hf
      refine b_blk (pc' := 3) (ls' := [some (mR (9, 0, 1)), some (mI v1), some (mI (v2 + (-8)))]) (st' := []) (S' := (L, m_up (m_up I 2 ((I 1 1).toNatClampNeg) (vp_nar .byte ((v1 >>> (v2 &&& 31)).toInt8.toInt32))) 1 1 ((I 1 1) + (1 : Int32)), J, R)) (P := ((True ∧ R 1 0 = some (22, 1600, 2)) ∧ vp_in (I 1 1) 1600)) [(.aload_n 0, (0, 0, 0, 0, 0)), (.getfield 9, (9, 0, 3, 0, 0)), (.aload_n 0, (0, 0, 0, 0, 0)), (.getfield 15, (9, 1, 0, 0, 0)), (.iload_n 1, (0, 0, 0, 0, 0)), (.iload_n 2, (0, 0, 0, 0, 0)), (.ishr, (0, 0, 0, 0, 0)), (.i2b, (0, 0, 0, 0, 0)), (.bastore, (0, 0, 0, 0, 0)), (.aload_n 0, (0, 0, 0, 0, 0)), (.dup, (0, 0, 0, 0, 0)), (.getfield 15, (9, 1, 0, 0, 0)), (.iconst 1, (0, 0, 0, 1, 0)), (.iadd, (0, 0, 0, 0, 0)), (.putfield 15, (9, 1, 0, 0, 0)), (.iinc 2 (-8), (0, 0, 0, (-8), 0)), (.goto (-40), (0, 3, 0, 0, 0))] [some (22, 1600, 2)] (by decide +kernel) rfl ⟨⟨trivial, (r_1_0 hR)⟩, (in_n (n := 1600) (by decide) g3.1 g3.2)⟩ ?_
      obtain ⟨x4, ex4, hf⟩ := bnd_s hf
      refine m_B_cg (ls' := [some (mR (9, 0, 1)), some (mI v1), some (mI (v2 + (-8)))]) (st' := []) (S' := (L, x4, J, R)) (by first | with_reducible rfl | rw [ex4]) (by first | with_reducible rfl | rw [ex4]) (by first | with_reducible rfl | rw [ex4]) ?_
      cases hf
      exact hk
noncomputable def F_Tape_append (I : MI) (v1 : Int32) : Option (MI) :=
  (wl (fun s : Int32 × MI => F_Tape_append_3 s.2 v1 s.1) ((24 : Int32), I)).bind fun t1 => some t1
set_option maxRecDepth 100000 in
set_option maxHeartbeats 400000 in
theorem W_Tape_append {G : MG} {Q : Option MV → MS → Prop} {L : List (Nat × Nat)} {R : Nat → Nat → Option MRef} (I : MI) (J : MJ) (v1 : Int32) (hR : RF R) {r : MI} (hf : F_Tape_append I v1 = some r) (hk : (fun r : MI => Q (none) (L, r, J, R)) r) : m_B G (m_rm 1 0 0) M_Tape_append Q 0 0 0 [some (mR (9, 0, 1)), some (mI v1), none] [] (L, I, J, R) := by
  unfold F_Tape_append at hf
  refine b_blk (pc' := 3) (ls' := [some (mR (9, 0, 1)), some (mI v1), some (mI 24)]) (st' := []) (S' := (L, I, J, R)) (P := True) [(.bipush 24, (0, 0, 0, 24, 0)), (.istore_n 2, (0, 0, 0, 0, 0))] [] (by decide +kernel) rfl trivial ?_
  obtain ⟨t1, hw, hf⟩ := bnd_o hf
  refine wl_B (A := fun s : Int32 × MI => m_B G (m_rm 1 0 0) M_Tape_append Q 0 0 3 [some (mR (9, 0, 1)), some (mI v1), some (mI s.1)] [] (L, s.2, J, R)) (B := (fun s : MI => m_B G (m_rm 1 0 0) M_Tape_append Q 0 0 46 [none, none, none] [] (L, s, J, R))) (fun s r hs hr => W_Tape_append_3 s.2 J v1 s.1 hR hs hr) hw ?_
  show m_B G (m_rm 1 0 0) M_Tape_append Q 0 0 46 [none, none, none] [] (L, t1, J, R)
  cases hf
  exact b_vret (by decide +kernel) rfl hk
theorem C_Tape_append {G : MG} {L : List (Nat × Nat)} {R : Nat → Nat → Option MRef} (I : MI) (J : MJ) (v1 : Int32) (hR : RF R) {r : MI} (hf : F_Tape_append I v1 = some r) : m_met G 1 0 0 y_Tape_append M_Tape_append [mR (9, 0, 1), mI v1] (L, I, J, R) (m_is (none) (L, r, J, R)) :=
  m_met_in n_Tape_append (plainFor_of_name (by decide)) (by decide) (Nat.le_of_ble_eq_true rfl) (ls := [some (mR (9, 0, 1)), some (mI v1), none]) rfl (W_Tape_append I J v1 hR hf ⟨rfl, rfl⟩)
noncomputable def F_Image_add (I : MI) (v1 : Int32) : Option (MI) :=
  if (100 : Int32) ≤ (I 174 1) then (some I) else (gd (I 174 1) 100 <| some (m_up (m_up I 175 ((I 174 1).toNatClampNeg) (vp_nar .byte v1.toInt8.toInt32)) 174 1 ((I 174 1) + (1 : Int32))))
set_option maxRecDepth 100000 in
set_option maxHeartbeats 400000 in
theorem W_Image_add {G : MG} {Q : Option MV → MS → Prop} {L : List (Nat × Nat)} {R : Nat → Nat → Option MRef} (I : MI) (J : MJ) (v1 : Int32) (hR : RF R) {r : MI} (hf : F_Image_add I v1 = some r) (hk : (fun r : MI => Q (none) (L, r, J, R)) r) : m_B G (m_rm 1 0 0) M_Image_add Q 0 0 0 [some (mR (2, 0, 174)), some (mI v1)] [] (L, I, J, R) := by
  unfold F_Image_add at hf
  refine b_blk (pc' := 6) (ls' := [some (mR (2, 0, 174)), some (mI v1)]) (st' := [mI 100, mI (I 174 1)]) (S' := (L, I, J, R)) (P := True) [(.aload_n 0, (0, 0, 0, 0, 0)), (.getfield 15, (2, 1, 0, 0, 0)), (.bipush 100, (0, 0, 0, 100, 0))] [] (by decide +kernel) rfl trivial ?_
  refine b_icmp_ge (off := 24) (tgt := 30) (by decide +kernel) (by decide) (fun h1 => ?_) (fun h1 => ?_)
  · have hf := if_t h1 hf
    cases hf
    exact b_vret (by decide +kernel) rfl hk
  · have hf := if_f h1 hf
    obtain ⟨g2, hf⟩ := gd_s hf
    refine b_blk (pc' := 30) (ls' := [some (mR (2, 0, 174)), some (mI v1)]) (st' := []) (S' := (L, m_up (m_up I 175 ((I 174 1).toNatClampNeg) (vp_nar .byte v1.toInt8.toInt32)) 174 1 ((I 174 1) + (1 : Int32)), J, R)) (P := ((True ∧ R 174 0 = some (22, 100, 175)) ∧ vp_in (I 174 1) 100)) [(.aload_n 0, (0, 0, 0, 0, 0)), (.getfield 11, (2, 0, 3, 0, 0)), (.aload_n 0, (0, 0, 0, 0, 0)), (.getfield 15, (2, 1, 0, 0, 0)), (.iload_n 1, (0, 0, 0, 0, 0)), (.i2b, (0, 0, 0, 0, 0)), (.bastore, (0, 0, 0, 0, 0)), (.aload_n 0, (0, 0, 0, 0, 0)), (.dup, (0, 0, 0, 0, 0)), (.getfield 15, (2, 1, 0, 0, 0)), (.iconst 1, (0, 0, 0, 1, 0)), (.iadd, (0, 0, 0, 0, 0)), (.putfield 15, (2, 1, 0, 0, 0))] [some (22, 100, 175)] (by decide +kernel) rfl ⟨⟨trivial, (r_174_0 hR)⟩, (in_n (n := 100) (by decide) g2.1 g2.2)⟩ ?_
    cases hf
    exact b_vret (by decide +kernel) rfl hk
theorem C_Image_add {G : MG} {L : List (Nat × Nat)} {R : Nat → Nat → Option MRef} (I : MI) (J : MJ) (v1 : Int32) (hR : RF R) {r : MI} (hf : F_Image_add I v1 = some r) : m_met G 1 0 0 y_Image_add M_Image_add [mR (2, 0, 174), mI v1] (L, I, J, R) (m_is (none) (L, r, J, R)) :=
  m_met_in n_Image_add (plainFor_of_name (by decide)) (by decide) (Nat.le_of_ble_eq_true rfl) (ls := [some (mR (2, 0, 174)), some (mI v1)]) rfl (W_Image_add I J v1 hR hf ⟨rfl, rfl⟩)
noncomputable def F_Image_write_50 (sl : Nat) (I : MI) (v3 : Int32) (v4 : Int32) : Option ((Int32 × MI) ⊕ (MI)) :=
  if (I sl 2) ≤ v4 then (some (.inr I)) else (if (f_Lay_hasPost I 20 v3 v4) = (0 : Int32) then (some (.inl ((v4 + 1 : Int32), I))) else ((F_Image_add I v3).bind fun r3 => (F_Image_add r3 v4).bind fun r4 => some (.inl ((v4 + 1 : Int32), r4))))
set_option maxRecDepth 100000 in
set_option maxHeartbeats 400000 in
theorem W_Image_write_50 {G : MG} {Q : Option MV → MS → Prop} {L : List (Nat × Nat)} {R : Nat → Nat → Option MRef} (sl : Nat) (I : MI) (J : MJ) (v3 : Int32) (v4 : Int32) (hR : RF R) (hs : R 24 1 = some (8, 0, sl)) (hq : sl = 3 ∨ sl = 11) {r : (Int32 × MI) ⊕ (MI)} (hf : F_Image_write_50 sl I v3 v4 = some r) (hk : (Sum.elim (fun s : Int32 × MI => m_B G (m_rm 3 0 0) M_Image_write Q 0 0 50 [some (mR (2, 0, 174)), some (mR (3, 0, 20)), some (mR (8, 0, sl)), some (mI v3), some (mI s.1), none] [] (L, s.2, J, R)) (fun s : MI => m_B G (m_rm 3 0 0) M_Image_write Q 0 0 86 [some (mR (2, 0, 174)), some (mR (3, 0, 20)), some (mR (8, 0, sl)), some (mI v3), none, none] [] (L, s, J, R))) r) : m_B G (m_rm 3 0 0) M_Image_write Q 0 0 50 [some (mR (2, 0, 174)), some (mR (3, 0, 20)), some (mR (8, 0, sl)), some (mI v3), some (mI v4), none] [] (L, I, J, R) := by
  unfold F_Image_write_50 at hf
  refine b_blk (pc' := 56) (ls' := [some (mR (2, 0, 174)), some (mR (3, 0, 20)), some (mR (8, 0, sl)), some (mI v3), some (mI v4), none]) (st' := [mI (I sl 2), mI v4]) (S' := (L, I, J, R)) (P := True) [(.iload 4, (0, 0, 0, 0, 0)), (.aload_n 2, (0, 0, 0, 0, 0)), (.getfield 37, (8, 2, 0, 0, 0))] [] (by decide +kernel) rfl trivial ?_
  refine b_icmp_ge (off := 30) (tgt := 86) (by decide +kernel) (by decide) (fun h1 => ?_) (fun h1 => ?_)
  · have hf := if_t h1 hf
    refine b_frg 4 ?_
    cases hf
    exact hk
  · have hf := if_f h1 hf
    refine b_blk (pc' := 63) (ls' := [some (mR (2, 0, 174)), some (mR (3, 0, 20)), some (mR (8, 0, sl)), some (mI v3), some (mI v4), none]) (st' := [mI v4, mI v3, mR (3, 0, 20)]) (S' := (L, I, J, R)) (P := True) [(.aload_n 1, (0, 0, 0, 0, 0)), (.iload_n 3, (0, 0, 0, 0, 0)), (.iload 4, (0, 0, 0, 0, 0))] [] (by decide +kernel) rfl trivial ?_
    refine b_cV (as := [mI v3, mI v4]) (st := []) (by decide +kernel) k_2_40 n_Lay_hasPost rfl (by decide) v_Lay_hasPost (c_Lay_hasPost 20 v3 v4 (ly_20 hR)) (Nat.le_of_ble_eq_true rfl) (by decide) rfl rfl (fun _ h => h) ?_
    show m_B _ _ _ _ _ _ 66 [some (mR (2, 0, 174)), some (mR (3, 0, 20)), some (mR (8, 0, sl)), some (mI v3), some (mI v4), none] [mI (f_Lay_hasPost I 20 v3 v4)] (L, I, J, R)
    refine b_if_eq (off := 14) (tgt := 80) (by decide +kernel) (by decide) (fun h2 => ?_) (fun h2 => ?_)
    · have hf := if_t h2 hf
      refine b_blk (pc' := 50) (ls' := [some (mR (2, 0, 174)), some (mR (3, 0, 20)), some (mR (8, 0, sl)), some (mI v3), some (mI (v4 + 1)), none]) (st' := []) (S' := (L, I, J, R)) (P := True) [(.iinc 4 1, (0, 0, 0, 1, 0)), (.goto (-33), (0, 50, 0, 0, 0))] [] (by decide +kernel) rfl trivial ?_
      cases hf
      exact hk
    · have hf := if_f h2 hf
      refine b_blk (pc' := 71) (ls' := [some (mR (2, 0, 174)), some (mR (3, 0, 20)), some (mR (8, 0, sl)), some (mI v3), some (mI v4), none]) (st' := [mI v3, mR (2, 0, 174)]) (S' := (L, I, J, R)) (P := True) [(.aload_n 0, (0, 0, 0, 0, 0)), (.iload_n 3, (0, 0, 0, 0, 0))] [] (by decide +kernel) rfl trivial ?_
      obtain ⟨r3, hc3, hf⟩ := bnd_o hf
      refine b_cV (as := [mI v3]) (st := []) (by decide +kernel) k_2_24 n_Image_add rfl (by decide) v_Image_add (C_Image_add I J v3 hR hc3) (Nat.le_of_ble_eq_true rfl) (by decide) rfl rfl (fun _ h => h) ?_
      show m_B G (m_rm 3 0 0) M_Image_write Q 0 0 74 [some (mR (2, 0, 174)), some (mR (3, 0, 20)), some (mR (8, 0, sl)), some (mI v3), some (mI v4), none] [] (L, r3, J, R)
      refine b_blk (pc' := 77) (ls' := [some (mR (2, 0, 174)), some (mR (3, 0, 20)), some (mR (8, 0, sl)), some (mI v3), some (mI v4), none]) (st' := [mI v4, mR (2, 0, 174)]) (S' := (L, r3, J, R)) (P := True) [(.aload_n 0, (0, 0, 0, 0, 0)), (.iload 4, (0, 0, 0, 0, 0))] [] (by decide +kernel) rfl trivial ?_
      obtain ⟨r4, hc4, hf⟩ := bnd_o hf
      refine b_cV (as := [mI v4]) (st := []) (by decide +kernel) k_2_24 n_Image_add rfl (by decide) v_Image_add (C_Image_add r3 J v4 hR hc4) (Nat.le_of_ble_eq_true rfl) (by decide) rfl rfl (fun _ h => h) ?_
      show m_B G (m_rm 3 0 0) M_Image_write Q 0 0 80 [some (mR (2, 0, 174)), some (mR (3, 0, 20)), some (mR (8, 0, sl)), some (mI v3), some (mI v4), none] [] (L, r4, J, R)
      refine b_blk (pc' := 50) (ls' := [some (mR (2, 0, 174)), some (mR (3, 0, 20)), some (mR (8, 0, sl)), some (mI v3), some (mI (v4 + 1)), none]) (st' := []) (S' := (L, r4, J, R)) (P := True) [(.iinc 4 1, (0, 0, 0, 1, 0)), (.goto (-33), (0, 50, 0, 0, 0))] [] (by decide +kernel) rfl trivial ?_
      cases hf
      exact hk
noncomputable def F_Image_write_39 (sl : Nat) (I : MI) (v3 : Int32) : Option ((Int32 × MI) ⊕ (MI)) :=
  if (I sl 1) ≤ v3 then (some (.inr I)) else ((wl (fun s : Int32 × MI => F_Image_write_50 sl s.2 v3 s.1) ((0 : Int32), I)).bind fun t2 => some (.inl ((v3 + 1 : Int32), t2)))
set_option maxRecDepth 100000 in
set_option maxHeartbeats 400000 in
theorem W_Image_write_39 {G : MG} {Q : Option MV → MS → Prop} {L : List (Nat × Nat)} {R : Nat → Nat → Option MRef} (sl : Nat) (I : MI) (J : MJ) (v3 : Int32) (hR : RF R) (hs : R 24 1 = some (8, 0, sl)) (hq : sl = 3 ∨ sl = 11) {r : (Int32 × MI) ⊕ (MI)} (hf : F_Image_write_39 sl I v3 = some r) (hk : (Sum.elim (fun s : Int32 × MI => m_B G (m_rm 3 0 0) M_Image_write Q 0 0 39 [some (mR (2, 0, 174)), some (mR (3, 0, 20)), some (mR (8, 0, sl)), some (mI s.1), none, none] [] (L, s.2, J, R)) (fun s : MI => m_B G (m_rm 3 0 0) M_Image_write Q 0 0 92 [some (mR (2, 0, 174)), some (mR (3, 0, 20)), some (mR (8, 0, sl)), none, none, none] [] (L, s, J, R))) r) : m_B G (m_rm 3 0 0) M_Image_write Q 0 0 39 [some (mR (2, 0, 174)), some (mR (3, 0, 20)), some (mR (8, 0, sl)), some (mI v3), none, none] [] (L, I, J, R) := by
  unfold F_Image_write_39 at hf
  refine b_blk (pc' := 44) (ls' := [some (mR (2, 0, 174)), some (mR (3, 0, 20)), some (mR (8, 0, sl)), some (mI v3), none, none]) (st' := [mI (I sl 1), mI v3]) (S' := (L, I, J, R)) (P := True) [(.iload_n 3, (0, 0, 0, 0, 0)), (.aload_n 2, (0, 0, 0, 0, 0)), (.getfield 32, (8, 1, 0, 0, 0))] [] (by decide +kernel) rfl trivial ?_
  refine b_icmp_ge (off := 48) (tgt := 92) (by decide +kernel) (by decide) (fun h1 => ?_) (fun h1 => ?_)
  · have hf := if_t h1 hf
    refine b_frg 3 ?_
    cases hf
    exact hk
  · have hf := if_f h1 hf
    refine b_blk (pc' := 50) (ls' := [some (mR (2, 0, 174)), some (mR (3, 0, 20)), some (mR (8, 0, sl)), some (mI v3), some (mI 0), none]) (st' := []) (S' := (L, I, J, R)) (P := True) [(.iconst 0, (0, 0, 0, 0, 0)), (.istore 4, (0, 0, 0, 0, 0))] [] (by decide +kernel) rfl trivial ?_
    obtain ⟨t2, hw, hf⟩ := bnd_o hf
    refine wl_B (A := fun s : Int32 × MI => m_B G (m_rm 3 0 0) M_Image_write Q 0 0 50 [some (mR (2, 0, 174)), some (mR (3, 0, 20)), some (mR (8, 0, sl)), some (mI v3), some (mI s.1), none] [] (L, s.2, J, R)) (B := (fun s : MI => m_B G (m_rm 3 0 0) M_Image_write Q 0 0 86 [some (mR (2, 0, 174)), some (mR (3, 0, 20)), some (mR (8, 0, sl)), some (mI v3), none, none] [] (L, s, J, R))) (fun s r hs_ hr => W_Image_write_50 sl s.2 J v3 s.1 hR hs hq hs_ hr) hw ?_
    show m_B G (m_rm 3 0 0) M_Image_write Q 0 0 86 [some (mR (2, 0, 174)), some (mR (3, 0, 20)), some (mR (8, 0, sl)), some (mI v3), none, none] [] (L, t2, J, R)
    refine b_blk (pc' := 39) (ls' := [some (mR (2, 0, 174)), some (mR (3, 0, 20)), some (mR (8, 0, sl)), some (mI (v3 + 1)), none, none]) (st' := []) (S' := (L, t2, J, R)) (P := True) [(.iinc 3 1, (0, 0, 0, 1, 0)), (.goto (-50), (0, 39, 0, 0, 0))] [] (by decide +kernel) rfl trivial ?_
    cases hf
    exact hk
noncomputable def F_Image_write_131 (sl : Nat) (I : MI) (v3 : Int32) (v4 : Int32) : Option ((Int32 × MI) ⊕ (MI)) :=
  if (I sl 1) ≤ v4 then (some (.inr I)) else (if (v_rowOf I 20 v3 v4) = (-1 : Int32) then ((F_Image_add I (255 : Int32)).bind fun r4 => some (.inl ((v4 + 1 : Int32), r4))) else ((F_Image_add I (v_rowOf I 20 v3 v4)).bind fun r3 => some (.inl ((v4 + 1 : Int32), r3))))
set_option maxRecDepth 100000 in
set_option maxHeartbeats 400000 in
theorem W_Image_write_131 {G : MG} {Q : Option MV → MS → Prop} {L : List (Nat × Nat)} {R : Nat → Nat → Option MRef} (sl : Nat) (I : MI) (J : MJ) (v3 : Int32) (v4 : Int32) (hR : RF R) (hs : R 24 1 = some (8, 0, sl)) (hq : sl = 3 ∨ sl = 11) {r : (Int32 × MI) ⊕ (MI)} (hf : F_Image_write_131 sl I v3 v4 = some r) (hk : (Sum.elim (fun s : Int32 × MI => m_B G (m_rm 3 0 0) M_Image_write Q 0 0 131 [some (mR (2, 0, 174)), some (mR (3, 0, 20)), some (mR (8, 0, sl)), some (mI v3), some (mI s.1), none] [] (L, s.2, J, R)) (fun s : MI => m_B G (m_rm 3 0 0) M_Image_write Q 0 0 173 [some (mR (2, 0, 174)), some (mR (3, 0, 20)), some (mR (8, 0, sl)), some (mI v3), none, none] [] (L, s, J, R))) r) : m_B G (m_rm 3 0 0) M_Image_write Q 0 0 131 [some (mR (2, 0, 174)), some (mR (3, 0, 20)), some (mR (8, 0, sl)), some (mI v3), some (mI v4), none] [] (L, I, J, R) := by
  unfold F_Image_write_131 at hf
  refine b_blk (pc' := 137) (ls' := [some (mR (2, 0, 174)), some (mR (3, 0, 20)), some (mR (8, 0, sl)), some (mI v3), some (mI v4), none]) (st' := [mI (I sl 1), mI v4]) (S' := (L, I, J, R)) (P := True) [(.iload 4, (0, 0, 0, 0, 0)), (.aload_n 2, (0, 0, 0, 0, 0)), (.getfield 32, (8, 1, 0, 0, 0))] [] (by decide +kernel) rfl trivial ?_
  refine b_icmp_ge (off := 36) (tgt := 173) (by decide +kernel) (by decide) (fun h1 => ?_) (fun h1 => ?_)
  · have hf := if_t h1 hf
    refine b_frg 4 ?_
    cases hf
    exact hk
  · have hf := if_f h1 hf
    refine b_blk (pc' := 144) (ls' := [some (mR (2, 0, 174)), some (mR (3, 0, 20)), some (mR (8, 0, sl)), some (mI v3), some (mI v4), none]) (st' := [mI v4, mI v3, mR (3, 0, 20)]) (S' := (L, I, J, R)) (P := True) [(.aload_n 1, (0, 0, 0, 0, 0)), (.iload_n 3, (0, 0, 0, 0, 0)), (.iload 4, (0, 0, 0, 0, 0))] [] (by decide +kernel) rfl trivial ?_
    refine b_cV (as := [mI v3, mI v4]) (st := []) (by decide +kernel) k_2_55 n_Lay_rowOf rfl (by decide) v_Lay_rowOf (c_Lay_rowOf 20 v3 v4 (ly_20 hR)) (Nat.le_of_ble_eq_true rfl) (by decide) rfl rfl (fun _ h => h) ?_
    show m_B _ _ _ _ _ _ 147 [some (mR (2, 0, 174)), some (mR (3, 0, 20)), some (mR (8, 0, sl)), some (mI v3), some (mI v4), none] [mI (v_rowOf I 20 v3 v4)] (L, I, J, R)
    refine b_blk (pc' := 153) (ls' := [some (mR (2, 0, 174)), some (mR (3, 0, 20)), some (mR (8, 0, sl)), some (mI v3), some (mI v4), some (mI (v_rowOf I 20 v3 v4))]) (st' := [mI (-1), mI (v_rowOf I 20 v3 v4), mR (2, 0, 174)]) (S' := (L, I, J, R)) (P := True) [(.istore 5, (0, 0, 0, 0, 0)), (.aload_n 0, (0, 0, 0, 0, 0)), (.iload 5, (0, 0, 0, 0, 0)), (.iconst (-1), (0, 0, 0, (-1), 0))] [] (by decide +kernel) rfl trivial ?_
    refine b_icmp_ne (off := 9) (tgt := 162) (by decide +kernel) (by decide) (fun h2 => ?_) (fun h2 => ?_)
    · have hf := if_f h2 hf
      refine b_blk (pc' := 164) (ls' := [some (mR (2, 0, 174)), some (mR (3, 0, 20)), some (mR (8, 0, sl)), some (mI v3), some (mI v4), some (mI (v_rowOf I 20 v3 v4))]) (st' := [mI (v_rowOf I 20 v3 v4), mR (2, 0, 174)]) (S' := (L, I, J, R)) (P := True) [(.iload 5, (0, 0, 0, 0, 0))] [] (by decide +kernel) rfl trivial ?_
      obtain ⟨r3, hc3, hf⟩ := bnd_o hf
      refine b_cV (as := [mI (v_rowOf I 20 v3 v4)]) (st := []) (by decide +kernel) k_2_24 n_Image_add rfl (by decide) v_Image_add (C_Image_add I J (v_rowOf I 20 v3 v4) hR hc3) (Nat.le_of_ble_eq_true rfl) (by decide) rfl rfl (fun _ h => h) ?_
      show m_B G (m_rm 3 0 0) M_Image_write Q 0 0 167 [some (mR (2, 0, 174)), some (mR (3, 0, 20)), some (mR (8, 0, sl)), some (mI v3), some (mI v4), some (mI (v_rowOf I 20 v3 v4))] [] (L, r3, J, R)
      refine b_blk (pc' := 131) (ls' := [some (mR (2, 0, 174)), some (mR (3, 0, 20)), some (mR (8, 0, sl)), some (mI v3), some (mI (v4 + 1)), some (mI (v_rowOf I 20 v3 v4))]) (st' := []) (S' := (L, r3, J, R)) (P := True) [(.iinc 4 1, (0, 0, 0, 1, 0)), (.goto (-39), (0, 131, 0, 0, 0))] [] (by decide +kernel) rfl trivial ?_
      refine b_frg 5 ?_
      cases hf
      exact hk
    · have hf := if_t h2 hf
      refine b_blk (pc' := 164) (ls' := [some (mR (2, 0, 174)), some (mR (3, 0, 20)), some (mR (8, 0, sl)), some (mI v3), some (mI v4), some (mI (v_rowOf I 20 v3 v4))]) (st' := [mI 255, mR (2, 0, 174)]) (S' := (L, I, J, R)) (P := True) [(.sipush 255, (0, 0, 0, 255, 0)), (.goto 5, (0, 164, 0, 0, 0))] [] (by decide +kernel) rfl trivial ?_
      obtain ⟨r4, hc4, hf⟩ := bnd_o hf
      refine b_cV (as := [mI 255]) (st := []) (by decide +kernel) k_2_24 n_Image_add rfl (by decide) v_Image_add (C_Image_add I J (255 : Int32) hR hc4) (Nat.le_of_ble_eq_true rfl) (by decide) rfl rfl (fun _ h => h) ?_
      show m_B G (m_rm 3 0 0) M_Image_write Q 0 0 167 [some (mR (2, 0, 174)), some (mR (3, 0, 20)), some (mR (8, 0, sl)), some (mI v3), some (mI v4), some (mI (v_rowOf I 20 v3 v4))] [] (L, r4, J, R)
      refine b_blk (pc' := 131) (ls' := [some (mR (2, 0, 174)), some (mR (3, 0, 20)), some (mR (8, 0, sl)), some (mI v3), some (mI (v4 + 1)), some (mI (v_rowOf I 20 v3 v4))]) (st' := []) (S' := (L, r4, J, R)) (P := True) [(.iinc 4 1, (0, 0, 0, 1, 0)), (.goto (-39), (0, 131, 0, 0, 0))] [] (by decide +kernel) rfl trivial ?_
      refine b_frg 5 ?_
      cases hf
      exact hk
noncomputable def F_Image_write_125 (sl : Nat) (I : MI) (v3 : Int32) (y0 : Int32) : Option ((Int32 × MI) ⊕ (MI)) :=
  (F_Image_add I y0).bind fun r1 => (wl (fun s : Int32 × MI => F_Image_write_131 sl s.2 v3 s.1) ((0 : Int32), r1)).bind fun t2 => some (.inl ((v3 + 1 : Int32), t2))
set_option maxRecDepth 100000 in
set_option maxHeartbeats 400000 in
theorem W_Image_write_125 {G : MG} {Q : Option MV → MS → Prop} {L : List (Nat × Nat)} {R : Nat → Nat → Option MRef} (sl : Nat) (I : MI) (J : MJ) (v3 : Int32) (y0 : Int32) (hR : RF R) (hs : R 24 1 = some (8, 0, sl)) (hq : sl = 3 ∨ sl = 11) {r : (Int32 × MI) ⊕ (MI)} (hf : F_Image_write_125 sl I v3 y0 = some r) (hk : (Sum.elim (fun s : Int32 × MI => m_B G (m_rm 3 0 0) M_Image_write Q 0 0 94 [some (mR (2, 0, 174)), some (mR (3, 0, 20)), some (mR (8, 0, sl)), some (mI s.1), none, none] [] (L, s.2, J, R)) (fun s : MI => m_B G (m_rm 3 0 0) M_Image_write Q 0 0 179 [some (mR (2, 0, 174)), none, none, none, none, none] [] (L, s, J, R))) r) : m_B G (m_rm 3 0 0) M_Image_write Q 0 0 125 [some (mR (2, 0, 174)), some (mR (3, 0, 20)), some (mR (8, 0, sl)), some (mI v3), none, none] [mI y0, mR (2, 0, 174)] (L, I, J, R) := by
  unfold F_Image_write_125 at hf
  obtain ⟨r1, hc1, hf⟩ := bnd_o hf
  refine b_cV (as := [mI y0]) (st := []) (by decide +kernel) k_2_24 n_Image_add rfl (by decide) v_Image_add (C_Image_add I J y0 hR hc1) (Nat.le_of_ble_eq_true rfl) (by decide) rfl rfl (fun _ h => h) ?_
  show m_B G (m_rm 3 0 0) M_Image_write Q 0 0 128 [some (mR (2, 0, 174)), some (mR (3, 0, 20)), some (mR (8, 0, sl)), some (mI v3), none, none] [] (L, r1, J, R)
  refine b_blk (pc' := 131) (ls' := [some (mR (2, 0, 174)), some (mR (3, 0, 20)), some (mR (8, 0, sl)), some (mI v3), some (mI 0), none]) (st' := []) (S' := (L, r1, J, R)) (P := True) [(.iconst 0, (0, 0, 0, 0, 0)), (.istore 4, (0, 0, 0, 0, 0))] [] (by decide +kernel) rfl trivial ?_
  obtain ⟨t2, hw, hf⟩ := bnd_o hf
  refine wl_B (A := fun s : Int32 × MI => m_B G (m_rm 3 0 0) M_Image_write Q 0 0 131 [some (mR (2, 0, 174)), some (mR (3, 0, 20)), some (mR (8, 0, sl)), some (mI v3), some (mI s.1), none] [] (L, s.2, J, R)) (B := (fun s : MI => m_B G (m_rm 3 0 0) M_Image_write Q 0 0 173 [some (mR (2, 0, 174)), some (mR (3, 0, 20)), some (mR (8, 0, sl)), some (mI v3), none, none] [] (L, s, J, R))) (fun s r hs_ hr => W_Image_write_131 sl s.2 J v3 s.1 hR hs hq hs_ hr) hw ?_
  show m_B G (m_rm 3 0 0) M_Image_write Q 0 0 173 [some (mR (2, 0, 174)), some (mR (3, 0, 20)), some (mR (8, 0, sl)), some (mI v3), none, none] [] (L, t2, J, R)
  refine b_blk (pc' := 94) (ls' := [some (mR (2, 0, 174)), some (mR (3, 0, 20)), some (mR (8, 0, sl)), some (mI (v3 + 1)), none, none]) (st' := []) (S' := (L, t2, J, R)) (P := True) [(.iinc 3 1, (0, 0, 0, 1, 0)), (.goto (-82), (0, 94, 0, 0, 0))] [] (by decide +kernel) rfl trivial ?_
  cases hf
  exact hk
noncomputable def F_Image_write_94 (sl : Nat) (I : MI) (v3 : Int32) : Option ((Int32 × MI) ⊕ (MI)) :=
  if (I sl 3) ≤ v3 then (some (.inr I)) else ((F_Image_add I (f_Lay_ageOf I 20 v3)).bind fun r2 => if (f_Lay_isCut r2 20 v3) = (0 : Int32) then (F_Image_write_125 sl r2 v3 (0 : Int32)) else (F_Image_write_125 sl r2 v3 (1 : Int32)))
set_option maxRecDepth 100000 in
set_option maxHeartbeats 400000 in
theorem W_Image_write_94 {G : MG} {Q : Option MV → MS → Prop} {L : List (Nat × Nat)} {R : Nat → Nat → Option MRef} (sl : Nat) (I : MI) (J : MJ) (v3 : Int32) (hR : RF R) (hs : R 24 1 = some (8, 0, sl)) (hq : sl = 3 ∨ sl = 11) {r : (Int32 × MI) ⊕ (MI)} (hf : F_Image_write_94 sl I v3 = some r) (hk : (Sum.elim (fun s : Int32 × MI => m_B G (m_rm 3 0 0) M_Image_write Q 0 0 94 [some (mR (2, 0, 174)), some (mR (3, 0, 20)), some (mR (8, 0, sl)), some (mI s.1), none, none] [] (L, s.2, J, R)) (fun s : MI => m_B G (m_rm 3 0 0) M_Image_write Q 0 0 179 [some (mR (2, 0, 174)), none, none, none, none, none] [] (L, s, J, R))) r) : m_B G (m_rm 3 0 0) M_Image_write Q 0 0 94 [some (mR (2, 0, 174)), some (mR (3, 0, 20)), some (mR (8, 0, sl)), some (mI v3), none, none] [] (L, I, J, R) := by
  unfold F_Image_write_94 at hf
  refine b_blk (pc' := 99) (ls' := [some (mR (2, 0, 174)), some (mR (3, 0, 20)), some (mR (8, 0, sl)), some (mI v3), none, none]) (st' := [mI (I sl 3), mI v3]) (S' := (L, I, J, R)) (P := True) [(.iload_n 3, (0, 0, 0, 0, 0)), (.aload_n 2, (0, 0, 0, 0, 0)), (.getfield 44, (8, 3, 0, 0, 0))] [] (by decide +kernel) rfl trivial ?_
  refine b_icmp_ge (off := 80) (tgt := 179) (by decide +kernel) (by decide) (fun h1 => ?_) (fun h1 => ?_)
  · have hf := if_t h1 hf
    refine b_frg 1 ?_
    refine b_frg 2 ?_
    refine b_frg 3 ?_
    cases hf
    exact hk
  · have hf := if_f h1 hf
    refine b_blk (pc' := 105) (ls' := [some (mR (2, 0, 174)), some (mR (3, 0, 20)), some (mR (8, 0, sl)), some (mI v3), none, none]) (st' := [mI v3, mR (3, 0, 20), mR (2, 0, 174)]) (S' := (L, I, J, R)) (P := True) [(.aload_n 0, (0, 0, 0, 0, 0)), (.aload_n 1, (0, 0, 0, 0, 0)), (.iload_n 3, (0, 0, 0, 0, 0))] [] (by decide +kernel) rfl trivial ?_
    refine b_cV (as := [mI v3]) (st := [mR (2, 0, 174)]) (by decide +kernel) k_2_47 n_Lay_ageOf rfl (by decide) v_Lay_ageOf (c_Lay_ageOf 20 v3 (ly_20 hR)) (Nat.le_of_ble_eq_true rfl) (by decide) rfl rfl (fun _ h => h) ?_
    show m_B _ _ _ _ _ _ 108 [some (mR (2, 0, 174)), some (mR (3, 0, 20)), some (mR (8, 0, sl)), some (mI v3), none, none] [mI (f_Lay_ageOf I 20 v3), mR (2, 0, 174)] (L, I, J, R)
    obtain ⟨r2, hc2, hf⟩ := bnd_o hf
    refine b_cV (as := [mI (f_Lay_ageOf I 20 v3)]) (st := []) (by decide +kernel) k_2_24 n_Image_add rfl (by decide) v_Image_add (C_Image_add I J (f_Lay_ageOf I 20 v3) hR hc2) (Nat.le_of_ble_eq_true rfl) (by decide) rfl rfl (fun _ h => h) ?_
    show m_B G (m_rm 3 0 0) M_Image_write Q 0 0 111 [some (mR (2, 0, 174)), some (mR (3, 0, 20)), some (mR (8, 0, sl)), some (mI v3), none, none] [] (L, r2, J, R)
    refine b_blk (pc' := 114) (ls' := [some (mR (2, 0, 174)), some (mR (3, 0, 20)), some (mR (8, 0, sl)), some (mI v3), none, none]) (st' := [mI v3, mR (3, 0, 20), mR (2, 0, 174)]) (S' := (L, r2, J, R)) (P := True) [(.aload_n 0, (0, 0, 0, 0, 0)), (.aload_n 1, (0, 0, 0, 0, 0)), (.iload_n 3, (0, 0, 0, 0, 0))] [] (by decide +kernel) rfl trivial ?_
    refine b_cV (as := [mI v3]) (st := [mR (2, 0, 174)]) (by decide +kernel) k_2_51 n_Lay_isCut rfl (by decide) v_Lay_isCut (c_Lay_isCut 20 v3 ) (Nat.le_of_ble_eq_true rfl) (by decide) rfl rfl (fun _ h => h) ?_
    show m_B _ _ _ _ _ _ 117 [some (mR (2, 0, 174)), some (mR (3, 0, 20)), some (mR (8, 0, sl)), some (mI v3), none, none] [mI (f_Lay_isCut r2 20 v3), mR (2, 0, 174)] (L, r2, J, R)
    refine b_if_eq (off := 7) (tgt := 124) (by decide +kernel) (by decide) (fun h3 => ?_) (fun h3 => ?_)
    · have hf := if_t h3 hf
      refine b_blk (pc' := 125) (ls' := [some (mR (2, 0, 174)), some (mR (3, 0, 20)), some (mR (8, 0, sl)), some (mI v3), none, none]) (st' := [mI 0, mR (2, 0, 174)]) (S' := (L, r2, J, R)) (P := True) [(.iconst 0, (0, 0, 0, 0, 0))] [] (by decide +kernel) rfl trivial ?_
      exact m_B_cg rfl rfl rfl (W_Image_write_125 sl r2 J v3 (0 : Int32) hR hs hq hf hk)
    · have hf := if_f h3 hf
      refine b_blk (pc' := 125) (ls' := [some (mR (2, 0, 174)), some (mR (3, 0, 20)), some (mR (8, 0, sl)), some (mI v3), none, none]) (st' := [mI 1, mR (2, 0, 174)]) (S' := (L, r2, J, R)) (P := True) [(.iconst 1, (0, 0, 0, 1, 0)), (.goto 4, (0, 125, 0, 0, 0))] [] (by decide +kernel) rfl trivial ?_
      exact m_B_cg rfl rfl rfl (W_Image_write_125 sl r2 J v3 (1 : Int32) hR hs hq hf hk)
noncomputable def F_Image_write_186 (sl : Nat) (I : MI) (v3 : Int32) (v4 : Int32) : Option ((Int32 × Int32) ⊕ (Int32)) :=
  if (I 174 1) ≤ v4 then (some (.inr (v3 : Int32))) else (if (100 : Int32) ≤ v4 then (some (.inr (v3 : Int32))) else (gd v4 100 <| some (.inl ((m_rem (((3 : Int32) * v3) + ((I 175 v4.toNatClampNeg) &&& (255 : Int32))) (251 : Int32) : Int32), (v4 + 1 : Int32)))))
set_option maxRecDepth 100000 in
set_option maxHeartbeats 400000 in
theorem W_Image_write_186 {G : MG} {Q : Option MV → MS → Prop} {L : List (Nat × Nat)} {R : Nat → Nat → Option MRef} (sl : Nat) (I : MI) (J : MJ) (v3 : Int32) (v4 : Int32) (hR : RF R) (hs : R 24 1 = some (8, 0, sl)) (hq : sl = 3 ∨ sl = 11) {r : (Int32 × Int32) ⊕ (Int32)} (hf : F_Image_write_186 sl I v3 v4 = some r) (hk : (Sum.elim (fun s : Int32 × Int32 => m_B G (m_rm 3 0 0) M_Image_write Q 0 0 186 [some (mR (2, 0, 174)), none, none, some (mI s.1), some (mI s.2), none] [] (L, I, J, R)) (fun s : Int32 => m_B G (m_rm 3 0 0) M_Image_write Q 0 0 228 [some (mR (2, 0, 174)), none, none, some (mI s), none, none] [] (L, I, J, R))) r) : m_B G (m_rm 3 0 0) M_Image_write Q 0 0 186 [some (mR (2, 0, 174)), none, none, some (mI v3), some (mI v4), none] [] (L, I, J, R) := by
  unfold F_Image_write_186 at hf
  refine b_blk (pc' := 192) (ls' := [some (mR (2, 0, 174)), none, none, some (mI v3), some (mI v4), none]) (st' := [mI (I 174 1), mI v4]) (S' := (L, I, J, R)) (P := True) [(.iload 4, (0, 0, 0, 0, 0)), (.aload_n 0, (0, 0, 0, 0, 0)), (.getfield 15, (2, 1, 0, 0, 0))] [] (by decide +kernel) rfl trivial ?_
  refine b_icmp_ge (off := 36) (tgt := 228) (by decide +kernel) (by decide) (fun h1 => ?_) (fun h1 => ?_)
  · have hf := if_t h1 hf
    refine b_frg 4 ?_
    cases hf
    exact hk
  · have hf := if_f h1 hf
    refine b_blk (pc' := 199) (ls' := [some (mR (2, 0, 174)), none, none, some (mI v3), some (mI v4), none]) (st' := [mI 100, mI v4]) (S' := (L, I, J, R)) (P := True) [(.iload 4, (0, 0, 0, 0, 0)), (.bipush 100, (0, 0, 0, 100, 0))] [] (by decide +kernel) rfl trivial ?_
    refine b_icmp_ge (off := 29) (tgt := 228) (by decide +kernel) (by decide) (fun h2 => ?_) (fun h2 => ?_)
    · have hf := if_t h2 hf
      refine b_frg 4 ?_
      cases hf
      exact hk
    · have hf := if_f h2 hf
      obtain ⟨g3, hf⟩ := gd_s hf
      refine b_blk (pc' := 186) (ls' := [some (mR (2, 0, 174)), none, none, some (mI (m_rem (((3 : Int32) * v3) + ((I 175 v4.toNatClampNeg) &&& (255 : Int32))) (251 : Int32))), some (mI (v4 + 1)), none]) (st' := []) (S' := (L, I, J, R)) (P := (((True ∧ R 174 0 = some (22, 100, 175)) ∧ vp_in v4 100) ∧ ¬ (251 : Int32) = 0)) [(.iconst 3, (0, 0, 0, 3, 0)), (.iload_n 3, (0, 0, 0, 0, 0)), (.imul, (0, 0, 0, 0, 0)), (.aload_n 0, (0, 0, 0, 0, 0)), (.getfield 11, (2, 0, 3, 0, 0)), (.iload 4, (0, 0, 0, 0, 0)), (.baload, (0, 0, 0, 0, 0)), (.sipush 255, (0, 0, 0, 255, 0)), (.iand, (0, 0, 0, 0, 0)), (.iadd, (0, 0, 0, 0, 0)), (.sipush 251, (0, 0, 0, 251, 0)), (.irem, (0, 0, 0, 0, 0)), (.istore_n 3, (0, 0, 0, 0, 0)), (.iinc 4 1, (0, 0, 0, 1, 0)), (.goto (-39), (0, 186, 0, 0, 0))] [some (22, 100, 175)] (by decide +kernel) rfl ⟨⟨⟨trivial, (r_174_0 hR)⟩, (in_n (n := 100) (by decide) g3.1 g3.2)⟩, (by decide)⟩ ?_
      cases hf
      exact hk
noncomputable def F_Image_write (sl : Nat) (I : MI) : Option (MI) :=
  (F_Image_add (m_up I 174 1 (0 : Int32)) ((I 20 0) / (256 : Int32))).bind fun r1 => (F_Image_add r1 (m_rem (r1 20 0) (256 : Int32))).bind fun r2 => (F_Image_add r2 (l_posts r2 20 6)).bind fun r3 => (wl (fun s : Int32 × MI => F_Image_write_39 sl s.2 s.1) ((0 : Int32), r3)).bind fun t4 => (wl (fun s : Int32 × MI => F_Image_write_94 sl s.2 s.1) ((0 : Int32), t4)).bind fun t5 => (wl (fun s : Int32 × Int32 => F_Image_write_186 sl t5 s.1 s.2) ((131 : Int32), (0 : Int32))).bind fun t6 => (F_Image_add t5 t6).bind fun r7 => some r7
set_option maxRecDepth 100000 in
set_option maxHeartbeats 400000 in
theorem W_Image_write {G : MG} {Q : Option MV → MS → Prop} {L : List (Nat × Nat)} {R : Nat → Nat → Option MRef} (sl : Nat) (I : MI) (J : MJ) (hR : RF R) (hs : R 24 1 = some (8, 0, sl)) (hq : sl = 3 ∨ sl = 11) {r : MI} (hf : F_Image_write sl I = some r) (hk : (fun r : MI => Q (none) (L, r, J, R)) r) : m_B G (m_rm 3 0 0) M_Image_write Q 0 0 0 [some (mR (2, 0, 174)), some (mR (3, 0, 20)), some (mR (8, 0, sl)), none, none, none] [] (L, I, J, R) := by
  unfold F_Image_write at hf
  refine b_blk (pc' := 14) (ls' := [some (mR (2, 0, 174)), some (mR (3, 0, 20)), some (mR (8, 0, sl)), none, none, none]) (st' := [mI ((I 20 0) / (256 : Int32)), mR (2, 0, 174)]) (S' := (L, m_up I 174 1 (0 : Int32), J, R)) (P := (True ∧ ¬ (256 : Int32) = 0)) [(.aload_n 0, (0, 0, 0, 0, 0)), (.iconst 0, (0, 0, 0, 0, 0)), (.putfield 15, (2, 1, 0, 0, 0)), (.aload_n 0, (0, 0, 0, 0, 0)), (.aload_n 1, (0, 0, 0, 0, 0)), (.getfield 19, (3, 0, 0, 0, 0)), (.sipush 256, (0, 0, 0, 256, 0)), (.idiv, (0, 0, 0, 0, 0))] [] (by decide +kernel) rfl ⟨trivial, (by decide)⟩ ?_
  obtain ⟨r1, hc1, hf⟩ := bnd_o hf
  refine b_cV (as := [mI ((I 20 0) / (256 : Int32))]) (st := []) (by decide +kernel) k_2_24 n_Image_add rfl (by decide) v_Image_add (C_Image_add (m_up I 174 1 (0 : Int32)) J ((I 20 0) / (256 : Int32)) hR hc1) (Nat.le_of_ble_eq_true rfl) (by decide) rfl rfl (fun _ h => h) ?_
  show m_B G (m_rm 3 0 0) M_Image_write Q 0 0 17 [some (mR (2, 0, 174)), some (mR (3, 0, 20)), some (mR (8, 0, sl)), none, none, none] [] (L, r1, J, R)
  refine b_blk (pc' := 26) (ls' := [some (mR (2, 0, 174)), some (mR (3, 0, 20)), some (mR (8, 0, sl)), none, none, none]) (st' := [mI (m_rem (r1 20 0) (256 : Int32)), mR (2, 0, 174)]) (S' := (L, r1, J, R)) (P := (True ∧ ¬ (256 : Int32) = 0)) [(.aload_n 0, (0, 0, 0, 0, 0)), (.aload_n 1, (0, 0, 0, 0, 0)), (.getfield 19, (3, 0, 0, 0, 0)), (.sipush 256, (0, 0, 0, 256, 0)), (.irem, (0, 0, 0, 0, 0))] [] (by decide +kernel) rfl ⟨trivial, (by decide)⟩ ?_
  obtain ⟨r2, hc2, hf⟩ := bnd_o hf
  refine b_cV (as := [mI (m_rem (r1 20 0) (256 : Int32))]) (st := []) (by decide +kernel) k_2_24 n_Image_add rfl (by decide) v_Image_add (C_Image_add r1 J (m_rem (r1 20 0) (256 : Int32)) hR hc2) (Nat.le_of_ble_eq_true rfl) (by decide) rfl rfl (fun _ h => h) ?_
  show m_B G (m_rm 3 0 0) M_Image_write Q 0 0 29 [some (mR (2, 0, 174)), some (mR (3, 0, 20)), some (mR (8, 0, sl)), none, none, none] [] (L, r2, J, R)
  refine b_blk (pc' := 31) (ls' := [some (mR (2, 0, 174)), some (mR (3, 0, 20)), some (mR (8, 0, sl)), none, none, none]) (st' := [mR (3, 0, 20), mR (2, 0, 174)]) (S' := (L, r2, J, R)) (P := True) [(.aload_n 0, (0, 0, 0, 0, 0)), (.aload_n 1, (0, 0, 0, 0, 0))] [] (by decide +kernel) rfl trivial ?_
  refine b_cV (as := []) (st := [mR (2, 0, 174)]) (by decide +kernel) k_2_28 n_Lay_countPosts rfl (by decide) v_Lay_countPosts (c_Lay_countPosts 20 (ly_20 hR)) (Nat.le_of_ble_eq_true rfl) (by decide) rfl rfl (fun _ h => h) ?_
  show m_B _ _ _ _ _ _ 34 [some (mR (2, 0, 174)), some (mR (3, 0, 20)), some (mR (8, 0, sl)), none, none, none] [mI (l_posts r2 20 6), mR (2, 0, 174)] (L, r2, J, R)
  obtain ⟨r3, hc3, hf⟩ := bnd_o hf
  refine b_cV (as := [mI (l_posts r2 20 6)]) (st := []) (by decide +kernel) k_2_24 n_Image_add rfl (by decide) v_Image_add (C_Image_add r2 J (l_posts r2 20 6) hR hc3) (Nat.le_of_ble_eq_true rfl) (by decide) rfl rfl (fun _ h => h) ?_
  show m_B G (m_rm 3 0 0) M_Image_write Q 0 0 37 [some (mR (2, 0, 174)), some (mR (3, 0, 20)), some (mR (8, 0, sl)), none, none, none] [] (L, r3, J, R)
  refine b_blk (pc' := 39) (ls' := [some (mR (2, 0, 174)), some (mR (3, 0, 20)), some (mR (8, 0, sl)), some (mI 0), none, none]) (st' := []) (S' := (L, r3, J, R)) (P := True) [(.iconst 0, (0, 0, 0, 0, 0)), (.istore_n 3, (0, 0, 0, 0, 0))] [] (by decide +kernel) rfl trivial ?_
  obtain ⟨t4, hw, hf⟩ := bnd_o hf
  refine wl_B (A := fun s : Int32 × MI => m_B G (m_rm 3 0 0) M_Image_write Q 0 0 39 [some (mR (2, 0, 174)), some (mR (3, 0, 20)), some (mR (8, 0, sl)), some (mI s.1), none, none] [] (L, s.2, J, R)) (B := (fun s : MI => m_B G (m_rm 3 0 0) M_Image_write Q 0 0 92 [some (mR (2, 0, 174)), some (mR (3, 0, 20)), some (mR (8, 0, sl)), none, none, none] [] (L, s, J, R))) (fun s r hs_ hr => W_Image_write_39 sl s.2 J s.1 hR hs hq hs_ hr) hw ?_
  show m_B G (m_rm 3 0 0) M_Image_write Q 0 0 92 [some (mR (2, 0, 174)), some (mR (3, 0, 20)), some (mR (8, 0, sl)), none, none, none] [] (L, t4, J, R)
  refine b_blk (pc' := 94) (ls' := [some (mR (2, 0, 174)), some (mR (3, 0, 20)), some (mR (8, 0, sl)), some (mI 0), none, none]) (st' := []) (S' := (L, t4, J, R)) (P := True) [(.iconst 0, (0, 0, 0, 0, 0)), (.istore_n 3, (0, 0, 0, 0, 0))] [] (by decide +kernel) rfl trivial ?_
  obtain ⟨t5, hw, hf⟩ := bnd_o hf
  refine wl_B (A := fun s : Int32 × MI => m_B G (m_rm 3 0 0) M_Image_write Q 0 0 94 [some (mR (2, 0, 174)), some (mR (3, 0, 20)), some (mR (8, 0, sl)), some (mI s.1), none, none] [] (L, s.2, J, R)) (B := (fun s : MI => m_B G (m_rm 3 0 0) M_Image_write Q 0 0 179 [some (mR (2, 0, 174)), none, none, none, none, none] [] (L, s, J, R))) (fun s r hs_ hr => W_Image_write_94 sl s.2 J s.1 hR hs hq hs_ hr) hw ?_
  show m_B G (m_rm 3 0 0) M_Image_write Q 0 0 179 [some (mR (2, 0, 174)), none, none, none, none, none] [] (L, t5, J, R)
  refine b_blk (pc' := 186) (ls' := [some (mR (2, 0, 174)), none, none, some (mI 131), some (mI 0), none]) (st' := []) (S' := (L, t5, J, R)) (P := True) [(.sipush 131, (0, 0, 0, 131, 0)), (.istore_n 3, (0, 0, 0, 0, 0)), (.iconst 0, (0, 0, 0, 0, 0)), (.istore 4, (0, 0, 0, 0, 0))] [] (by decide +kernel) rfl trivial ?_
  obtain ⟨t6, hw, hf⟩ := bnd_o hf
  refine wl_B (A := fun s : Int32 × Int32 => m_B G (m_rm 3 0 0) M_Image_write Q 0 0 186 [some (mR (2, 0, 174)), none, none, some (mI s.1), some (mI s.2), none] [] (L, t5, J, R)) (B := (fun s : Int32 => m_B G (m_rm 3 0 0) M_Image_write Q 0 0 228 [some (mR (2, 0, 174)), none, none, some (mI s), none, none] [] (L, t5, J, R))) (fun s r hs_ hr => W_Image_write_186 sl t5 J s.1 s.2 hR hs hq hs_ hr) hw ?_
  show m_B G (m_rm 3 0 0) M_Image_write Q 0 0 228 [some (mR (2, 0, 174)), none, none, some (mI t6), none, none] [] (L, t5, J, R)
  refine b_blk (pc' := 230) (ls' := [some (mR (2, 0, 174)), none, none, some (mI t6), none, none]) (st' := [mI t6, mR (2, 0, 174)]) (S' := (L, t5, J, R)) (P := True) [(.aload_n 0, (0, 0, 0, 0, 0)), (.iload_n 3, (0, 0, 0, 0, 0))] [] (by decide +kernel) rfl trivial ?_
  obtain ⟨r7, hc7, hf⟩ := bnd_o hf
  refine b_cV (as := [mI t6]) (st := []) (by decide +kernel) k_2_24 n_Image_add rfl (by decide) v_Image_add (C_Image_add t5 J t6 hR hc7) (Nat.le_of_ble_eq_true rfl) (by decide) rfl rfl (fun _ h => h) ?_
  show m_B G (m_rm 3 0 0) M_Image_write Q 0 0 233 [some (mR (2, 0, 174)), none, none, some (mI t6), none, none] [] (L, r7, J, R)
  cases hf
  exact b_vret (by decide +kernel) rfl hk
theorem C_Image_write {G : MG} {L : List (Nat × Nat)} {R : Nat → Nat → Option MRef} (sl : Nat) (I : MI) (J : MJ) (hR : RF R) (hs : R 24 1 = some (8, 0, sl)) (hq : sl = 3 ∨ sl = 11) {r : MI} (hf : F_Image_write sl I = some r) : m_met G 3 0 0 y_Image_write M_Image_write [mR (2, 0, 174), mR (3, 0, 20), mR (8, 0, sl)] (L, I, J, R) (m_is (none) (L, r, J, R)) :=
  m_met_in n_Image_write (plainFor_of_name (by decide)) (by decide) (Nat.le_of_ble_eq_true rfl) (ls := [some (mR (2, 0, 174)), some (mR (3, 0, 20)), some (mR (8, 0, sl)), none, none, none]) rfl (W_Image_write sl I J hR hs hq hf ⟨rfl, rfl⟩)
noncomputable def F_Image_readPosts_6 (sl : Nat) (I : MI) (v3 : Int32) (v4 : Int32) (v5 : Int32) : Option ((Int32 × Int32 × MI) ⊕ ((MI) ⊕ (Int32 × MI))) :=
  if v3 ≤ v5 then (some (.inr (.inl I))) else ((F_Tape_byteAt I ((3 : Int32) + ((2 : Int32) * v5))).bind fun r2 => (F_Tape_byteAt I ((4 : Int32) + ((2 : Int32) * v5))).bind fun r3 => if (f_Slope_hasPlace I sl r2 r3) = (0 : Int32) then (some (.inr (.inr ((0 : Int32), I)))) else (if v4 < ((r2 * (30 : Int32)) + r3) then (some (.inl (((r2 * (30 : Int32)) + r3 : Int32), (v5 + 1 : Int32), gI_Lay_drive I 31 r2 r3))) else (some (.inr (.inr ((0 : Int32), I))))))
set_option maxRecDepth 100000 in
set_option maxHeartbeats 400000 in
theorem W_Image_readPosts_6 {G : MG} {Q : Option MV → MS → Prop} {L : List (Nat × Nat)} {R : Nat → Nat → Option MRef} (sl : Nat) (I : MI) (J : MJ) (v3 : Int32) (v4 : Int32) (v5 : Int32) (hR : RF R) (hs : R 24 1 = some (8, 0, sl)) (hq : sl = 3 ∨ sl = 11) {r : (Int32 × Int32 × MI) ⊕ ((MI) ⊕ (Int32 × MI))} (hf : F_Image_readPosts_6 sl I v3 v4 v5 = some r) (hk : (Sum.elim (fun s : Int32 × Int32 × MI => m_B G (m_rm 2 0 0) M_Image_readPosts Q 0 0 6 [some (mR (9, 0, 1)), some (mR (8, 0, sl)), some (mR (3, 0, 31)), some (mI v3), some (mI s.1), some (mI s.2.1), none, none, none] [] (L, s.2.2, J, R)) (Sum.elim (fun s : MI => m_B G (m_rm 2 0 0) M_Image_readPosts Q 0 0 84 [none, none, none, none, none, none, none, none, none] [] (L, s, J, R)) (fun r : Int32 × MI => Q (some (mI r.1)) (L, r.2, J, R)))) r) : m_B G (m_rm 2 0 0) M_Image_readPosts Q 0 0 6 [some (mR (9, 0, 1)), some (mR (8, 0, sl)), some (mR (3, 0, 31)), some (mI v3), some (mI v4), some (mI v5), none, none, none] [] (L, I, J, R) := by
  unfold F_Image_readPosts_6 at hf
  refine b_blk (pc' := 9) (ls' := [some (mR (9, 0, 1)), some (mR (8, 0, sl)), some (mR (3, 0, 31)), some (mI v3), some (mI v4), some (mI v5), none, none, none]) (st' := [mI v3, mI v5]) (S' := (L, I, J, R)) (P := True) [(.iload 5, (0, 0, 0, 0, 0)), (.iload_n 3, (0, 0, 0, 0, 0))] [] (by decide +kernel) rfl trivial ?_
  refine b_icmp_ge (off := 75) (tgt := 84) (by decide +kernel) (by decide) (fun h1 => ?_) (fun h1 => ?_)
  · have hf := if_t h1 hf
    refine b_frg 0 ?_
    refine b_frg 1 ?_
    refine b_frg 2 ?_
    refine b_frg 3 ?_
    refine b_frg 4 ?_
    refine b_frg 5 ?_
    cases hf
    exact hk
  · have hf := if_f h1 hf
    refine b_blk (pc' := 19) (ls' := [some (mR (9, 0, 1)), some (mR (8, 0, sl)), some (mR (3, 0, 31)), some (mI v3), some (mI v4), some (mI v5), none, none, none]) (st' := [mI ((3 : Int32) + ((2 : Int32) * v5)), mR (9, 0, 1)]) (S' := (L, I, J, R)) (P := True) [(.aload_n 0, (0, 0, 0, 0, 0)), (.iconst 3, (0, 0, 0, 3, 0)), (.iconst 2, (0, 0, 0, 2, 0)), (.iload 5, (0, 0, 0, 0, 0)), (.imul, (0, 0, 0, 0, 0)), (.iadd, (0, 0, 0, 0, 0))] [] (by decide +kernel) rfl trivial ?_
    obtain ⟨r2, hc2, hf⟩ := bnd_o hf
    refine b_cV (as := [mI ((3 : Int32) + ((2 : Int32) * v5))]) (st := []) (by decide +kernel) k_2_59 n_Tape_byteAt rfl (by decide) v_Tape_byteAt (C_Tape_byteAt I J ((3 : Int32) + ((2 : Int32) * v5)) hR hc2) (Nat.le_of_ble_eq_true rfl) (by decide) rfl rfl (fun _ h => h) ?_
    show m_B G (m_rm 2 0 0) M_Image_readPosts Q 0 0 22 [some (mR (9, 0, 1)), some (mR (8, 0, sl)), some (mR (3, 0, 31)), some (mI v3), some (mI v4), some (mI v5), none, none, none] [mI r2] (L, I, J, R)
    refine b_blk (pc' := 31) (ls' := [some (mR (9, 0, 1)), some (mR (8, 0, sl)), some (mR (3, 0, 31)), some (mI v3), some (mI v4), some (mI v5), some (mI r2), none, none]) (st' := [mI ((4 : Int32) + ((2 : Int32) * v5)), mR (9, 0, 1)]) (S' := (L, I, J, R)) (P := True) [(.istore 6, (0, 0, 0, 0, 0)), (.aload_n 0, (0, 0, 0, 0, 0)), (.iconst 4, (0, 0, 0, 4, 0)), (.iconst 2, (0, 0, 0, 2, 0)), (.iload 5, (0, 0, 0, 0, 0)), (.imul, (0, 0, 0, 0, 0)), (.iadd, (0, 0, 0, 0, 0))] [] (by decide +kernel) rfl trivial ?_
    obtain ⟨r3, hc3, hf⟩ := bnd_o hf
    refine b_cV (as := [mI ((4 : Int32) + ((2 : Int32) * v5))]) (st := []) (by decide +kernel) k_2_59 n_Tape_byteAt rfl (by decide) v_Tape_byteAt (C_Tape_byteAt I J ((4 : Int32) + ((2 : Int32) * v5)) hR hc3) (Nat.le_of_ble_eq_true rfl) (by decide) rfl rfl (fun _ h => h) ?_
    show m_B G (m_rm 2 0 0) M_Image_readPosts Q 0 0 34 [some (mR (9, 0, 1)), some (mR (8, 0, sl)), some (mR (3, 0, 31)), some (mI v3), some (mI v4), some (mI v5), some (mI r2), none, none] [mI r3] (L, I, J, R)
    refine b_blk (pc' := 51) (ls' := [some (mR (9, 0, 1)), some (mR (8, 0, sl)), some (mR (3, 0, 31)), some (mI v3), some (mI v4), some (mI v5), some (mI r2), some (mI r3), some (mI ((r2 * (30 : Int32)) + r3))]) (st' := [mI r3, mI r2, mR (8, 0, sl)]) (S' := (L, I, J, R)) (P := True) [(.istore 7, (0, 0, 0, 0, 0)), (.iload 6, (0, 0, 0, 0, 0)), (.bipush 30, (0, 0, 0, 30, 0)), (.imul, (0, 0, 0, 0, 0)), (.iload 7, (0, 0, 0, 0, 0)), (.iadd, (0, 0, 0, 0, 0)), (.istore 8, (0, 0, 0, 0, 0)), (.aload_n 1, (0, 0, 0, 0, 0)), (.iload 6, (0, 0, 0, 0, 0)), (.iload 7, (0, 0, 0, 0, 0))] [] (by decide +kernel) rfl trivial ?_
    refine b_cV (as := [mI r2, mI r3]) (st := []) (by decide +kernel) k_2_75 n_Slope_hasPlace rfl (by decide) v_Slope_hasPlace (c_Slope_hasPlace sl r2 r3 ) (Nat.le_of_ble_eq_true rfl) (by decide) rfl rfl (fun _ h => h) ?_
    show m_B _ _ _ _ _ _ 54 [some (mR (9, 0, 1)), some (mR (8, 0, sl)), some (mR (3, 0, 31)), some (mI v3), some (mI v4), some (mI v5), some (mI r2), some (mI r3), some (mI ((r2 * (30 : Int32)) + r3))] [mI (f_Slope_hasPlace I sl r2 r3)] (L, I, J, R)
    refine b_if_eq (off := 10) (tgt := 64) (by decide +kernel) (by decide) (fun h4 => ?_) (fun h4 => ?_)
    · have hf := if_t h4 hf
      refine b_blk (pc' := 65) (ls' := [some (mR (9, 0, 1)), some (mR (8, 0, sl)), some (mR (3, 0, 31)), some (mI v3), some (mI v4), some (mI v5), some (mI r2), some (mI r3), some (mI ((r2 * (30 : Int32)) + r3))]) (st' := [mI 0]) (S' := (L, I, J, R)) (P := True) [(.iconst 0, (0, 0, 0, 0, 0))] [] (by decide +kernel) rfl trivial ?_
      cases hf
      exact b_zret (by decide +kernel) rfl (by decide) hk
    · have hf := if_f h4 hf
      refine b_blk (pc' := 61) (ls' := [some (mR (9, 0, 1)), some (mR (8, 0, sl)), some (mR (3, 0, 31)), some (mI v3), some (mI v4), some (mI v5), some (mI r2), some (mI r3), some (mI ((r2 * (30 : Int32)) + r3))]) (st' := [mI v4, mI ((r2 * (30 : Int32)) + r3)]) (S' := (L, I, J, R)) (P := True) [(.iload 8, (0, 0, 0, 0, 0)), (.iload 4, (0, 0, 0, 0, 0))] [] (by decide +kernel) rfl trivial ?_
      refine b_icmp_gt (off := 5) (tgt := 66) (by decide +kernel) (by decide) (fun h5 => ?_) (fun h5 => ?_)
      · have hf := if_t h5 hf
        refine b_blk (pc' := 71) (ls' := [some (mR (9, 0, 1)), some (mR (8, 0, sl)), some (mR (3, 0, 31)), some (mI v3), some (mI v4), some (mI v5), some (mI r2), some (mI r3), some (mI ((r2 * (30 : Int32)) + r3))]) (st' := [mI r3, mI r2, mR (3, 0, 31)]) (S' := (L, I, J, R)) (P := True) [(.aload_n 2, (0, 0, 0, 0, 0)), (.iload 6, (0, 0, 0, 0, 0)), (.iload 7, (0, 0, 0, 0, 0))] [] (by decide +kernel) rfl trivial ?_
        refine b_cV (as := [mI r2, mI r3]) (st := []) (by decide +kernel) k_2_78 n_Lay_drive rfl (by decide) v_Lay_drive (c_Lay_drive 31 r2 r3 (ly_31 hR)) (Nat.le_of_ble_eq_true rfl) (by decide) rfl rfl (fun _ h => h) ?_
        show m_B _ _ _ _ _ _ 74 [some (mR (9, 0, 1)), some (mR (8, 0, sl)), some (mR (3, 0, 31)), some (mI v3), some (mI v4), some (mI v5), some (mI r2), some (mI r3), some (mI ((r2 * (30 : Int32)) + r3))] [] (L, gI_Lay_drive I 31 r2 r3, J, R)
        refine b_blk (pc' := 6) (ls' := [some (mR (9, 0, 1)), some (mR (8, 0, sl)), some (mR (3, 0, 31)), some (mI v3), some (mI ((r2 * (30 : Int32)) + r3)), some (mI (v5 + 1)), some (mI r2), some (mI r3), some (mI ((r2 * (30 : Int32)) + r3))]) (st' := []) (S' := (L, gI_Lay_drive I 31 r2 r3, J, R)) (P := True) [(.iload 8, (0, 0, 0, 0, 0)), (.istore 4, (0, 0, 0, 0, 0)), (.iinc 5 1, (0, 0, 0, 1, 0)), (.goto (-75), (0, 6, 0, 0, 0))] [] (by decide +kernel) rfl trivial ?_
        refine b_frg 6 ?_
        refine b_frg 7 ?_
        refine b_frg 8 ?_
        cases hf
        exact hk
      · have hf := if_f h5 hf
        refine b_blk (pc' := 65) (ls' := [some (mR (9, 0, 1)), some (mR (8, 0, sl)), some (mR (3, 0, 31)), some (mI v3), some (mI v4), some (mI v5), some (mI r2), some (mI r3), some (mI ((r2 * (30 : Int32)) + r3))]) (st' := [mI 0]) (S' := (L, I, J, R)) (P := True) [(.iconst 0, (0, 0, 0, 0, 0))] [] (by decide +kernel) rfl trivial ?_
        cases hf
        exact b_zret (by decide +kernel) rfl (by decide) hk
noncomputable def F_Image_readPosts (sl : Nat) (I : MI) (v3 : Int32) : Option (Int32 × MI) :=
  (wl (fun s : Int32 × Int32 × MI => F_Image_readPosts_6 sl s.2.2 v3 s.1 s.2.1) (((-1) : Int32), (0 : Int32), I)).bind <| sel (fun q => some q) fun t1 => some ((1 : Int32), t1)
set_option maxRecDepth 100000 in
set_option maxHeartbeats 400000 in
theorem W_Image_readPosts {G : MG} {Q : Option MV → MS → Prop} {L : List (Nat × Nat)} {R : Nat → Nat → Option MRef} (sl : Nat) (I : MI) (J : MJ) (v3 : Int32) (hR : RF R) (hs : R 24 1 = some (8, 0, sl)) (hq : sl = 3 ∨ sl = 11) {r : Int32 × MI} (hf : F_Image_readPosts sl I v3 = some r) (hk : (fun r : Int32 × MI => Q (some (mI r.1)) (L, r.2, J, R)) r) : m_B G (m_rm 2 0 0) M_Image_readPosts Q 0 0 0 [some (mR (9, 0, 1)), some (mR (8, 0, sl)), some (mR (3, 0, 31)), some (mI v3), none, none, none, none, none] [] (L, I, J, R) := by
  unfold F_Image_readPosts at hf
  refine b_blk (pc' := 6) (ls' := [some (mR (9, 0, 1)), some (mR (8, 0, sl)), some (mR (3, 0, 31)), some (mI v3), some (mI (-1)), some (mI 0), none, none, none]) (st' := []) (S' := (L, I, J, R)) (P := True) [(.iconst (-1), (0, 0, 0, (-1), 0)), (.istore 4, (0, 0, 0, 0, 0)), (.iconst 0, (0, 0, 0, 0, 0)), (.istore 5, (0, 0, 0, 0, 0))] [] (by decide +kernel) rfl trivial ?_
  obtain ⟨t1, hw, hf⟩ := bnd_o hf
  refine wl_B (A := fun s : Int32 × Int32 × MI => m_B G (m_rm 2 0 0) M_Image_readPosts Q 0 0 6 [some (mR (9, 0, 1)), some (mR (8, 0, sl)), some (mR (3, 0, 31)), some (mI v3), some (mI s.1), some (mI s.2.1), none, none, none] [] (L, s.2.2, J, R)) (B := (Sum.elim (fun s : MI => m_B G (m_rm 2 0 0) M_Image_readPosts Q 0 0 84 [none, none, none, none, none, none, none, none, none] [] (L, s, J, R)) (fun r : Int32 × MI => Q (some (mI r.1)) (L, r.2, J, R)))) (fun s r hs_ hr => W_Image_readPosts_6 sl s.2.2 J v3 s.1 s.2.1 hR hs hq hs_ hr) hw ?_
  rcases t1 with t1 | q
  rotate_left
  · cases se_r hf; exact hk
  replace hf := se_l hf
  show m_B G (m_rm 2 0 0) M_Image_readPosts Q 0 0 84 [none, none, none, none, none, none, none, none, none] [] (L, t1, J, R)
  refine b_blk (pc' := 85) (ls' := [none, none, none, none, none, none, none, none, none]) (st' := [mI 1]) (S' := (L, t1, J, R)) (P := True) [(.iconst 1, (0, 0, 0, 1, 0))] [] (by decide +kernel) rfl trivial ?_
  cases hf
  exact b_zret (by decide +kernel) rfl (by decide) hk
theorem C_Image_readPosts {G : MG} {L : List (Nat × Nat)} {R : Nat → Nat → Option MRef} (sl : Nat) (I : MI) (J : MJ) (v3 : Int32) (hR : RF R) (hs : R 24 1 = some (8, 0, sl)) (hq : sl = 3 ∨ sl = 11) {r : Int32 × MI} (hf : F_Image_readPosts sl I v3 = some r) : m_met G 2 0 0 y_Image_readPosts M_Image_readPosts [mR (9, 0, 1), mR (8, 0, sl), mR (3, 0, 31), mI v3] (L, I, J, R) (m_is (some (mI r.1)) (L, r.2, J, R)) :=
  m_met_in n_Image_readPosts (plainFor_of_name (by decide)) (by decide) (Nat.le_of_ble_eq_true rfl) (ls := [some (mR (9, 0, 1)), some (mR (8, 0, sl)), some (mR (3, 0, 31)), some (mI v3), none, none, none, none, none]) rfl (W_Image_readPosts sl I J v3 hR hs hq hf ⟨rfl, rfl⟩)
noncomputable def F_Image_readFences_112 (sl : Nat) (I : MI) (v4 : Int32) (v5 : Int32) (v8 : Int32) (v9 : Int32) : Option ((Int32 × Int32 × MI) ⊕ ((Int32 × MI) ⊕ (Int32 × MI))) :=
  if v9 = (255 : Int32) then (some (.inl ((v4 + 1 : Int32), (v8 + 1 : Int32), w_putStake I 31 v5 v8 (-1 : Int32)))) else (some (.inl ((v4 + 1 : Int32), (v8 + 1 : Int32), w_putStake I 31 v5 v8 v9)))
set_option maxRecDepth 100000 in
set_option maxHeartbeats 400000 in
theorem W_Image_readFences_112 {G : MG} {Q : Option MV → MS → Prop} {L : List (Nat × Nat)} {R : Nat → Nat → Option MRef} (sl : Nat) (I : MI) (J : MJ) (v4 : Int32) (v5 : Int32) (v8 : Int32) (v9 : Int32) (hR : RF R) (hs : R 24 1 = some (8, 0, sl)) (hq : sl = 3 ∨ sl = 11) {r : (Int32 × Int32 × MI) ⊕ ((Int32 × MI) ⊕ (Int32 × MI))} (hf : F_Image_readFences_112 sl I v4 v5 v8 v9 = some r) (hk : (Sum.elim (fun s : Int32 × Int32 × MI => m_B G (m_rm 3 0 0) M_Image_readFences Q 0 0 76 [some (mR (9, 0, 1)), some (mR (8, 0, sl)), some (mR (3, 0, 31)), none, some (mI s.1), some (mI v5), none, none, some (mI s.2.1), none] [] (L, s.2.2, J, R)) (Sum.elim (fun s : Int32 × MI => m_B G (m_rm 3 0 0) M_Image_readFences Q 0 0 143 [some (mR (9, 0, 1)), some (mR (8, 0, sl)), some (mR (3, 0, 31)), none, some (mI s.1), some (mI v5), none, none, none, none] [] (L, s.2, J, R)) (fun r : Int32 × MI => Q (some (mI r.1)) (L, r.2, J, R)))) r) : m_B G (m_rm 3 0 0) M_Image_readFences Q 0 0 112 [some (mR (9, 0, 1)), some (mR (8, 0, sl)), some (mR (3, 0, 31)), none, some (mI v4), some (mI v5), none, none, some (mI v8), some (mI v9)] [] (L, I, J, R) := by
  unfold F_Image_readFences_112 at hf
  refine b_blk (pc' := 122) (ls' := [some (mR (9, 0, 1)), some (mR (8, 0, sl)), some (mR (3, 0, 31)), none, some (mI v4), some (mI v5), none, none, some (mI v8), some (mI v9)]) (st' := [mI 255, mI v9, mI v8, mI v5, mR (3, 0, 31)]) (S' := (L, I, J, R)) (P := True) [(.aload_n 2, (0, 0, 0, 0, 0)), (.iload 5, (0, 0, 0, 0, 0)), (.iload 8, (0, 0, 0, 0, 0)), (.iload 9, (0, 0, 0, 0, 0)), (.sipush 255, (0, 0, 0, 255, 0))] [] (by decide +kernel) rfl trivial ?_
  refine b_icmp_ne (off := 7) (tgt := 129) (by decide +kernel) (by decide) (fun h1 => ?_) (fun h1 => ?_)
  · have hf := if_f h1 hf
    refine b_blk (pc' := 131) (ls' := [some (mR (9, 0, 1)), some (mR (8, 0, sl)), some (mR (3, 0, 31)), none, some (mI v4), some (mI v5), none, none, some (mI v8), some (mI v9)]) (st' := [mI v9, mI v8, mI v5, mR (3, 0, 31)]) (S' := (L, I, J, R)) (P := True) [(.iload 9, (0, 0, 0, 0, 0))] [] (by decide +kernel) rfl trivial ?_
    refine b_cV (as := [mI v5, mI v8, mI v9]) (st := []) (by decide +kernel) k_2_88 n_Lay_putStake rfl (by decide) v_Lay_putStake (c_Lay_putStake 31 v5 v8 v9 (ly_31 hR)) (Nat.le_of_ble_eq_true rfl) (by decide) rfl rfl (fun _ h => h) ?_
    show m_B _ _ _ _ _ _ 134 [some (mR (9, 0, 1)), some (mR (8, 0, sl)), some (mR (3, 0, 31)), none, some (mI v4), some (mI v5), none, none, some (mI v8), some (mI v9)] [] (L, w_putStake I 31 v5 v8 v9, J, R)
    refine b_blk (pc' := 76) (ls' := [some (mR (9, 0, 1)), some (mR (8, 0, sl)), some (mR (3, 0, 31)), none, some (mI (v4 + 1)), some (mI v5), none, none, some (mI (v8 + 1)), some (mI v9)]) (st' := []) (S' := (L, w_putStake I 31 v5 v8 v9, J, R)) (P := True) [(.iinc 4 1, (0, 0, 0, 1, 0)), (.iinc 8 1, (0, 0, 0, 1, 0)), (.goto (-64), (0, 76, 0, 0, 0))] [] (by decide +kernel) rfl trivial ?_
    refine b_frg 9 ?_
    cases hf
    exact hk
  · have hf := if_t h1 hf
    refine b_blk (pc' := 131) (ls' := [some (mR (9, 0, 1)), some (mR (8, 0, sl)), some (mR (3, 0, 31)), none, some (mI v4), some (mI v5), none, none, some (mI v8), some (mI v9)]) (st' := [mI (-1), mI v8, mI v5, mR (3, 0, 31)]) (S' := (L, I, J, R)) (P := True) [(.iconst (-1), (0, 0, 0, (-1), 0)), (.goto 5, (0, 131, 0, 0, 0))] [] (by decide +kernel) rfl trivial ?_
    refine b_cV (as := [mI v5, mI v8, mI (-1)]) (st := []) (by decide +kernel) k_2_88 n_Lay_putStake rfl (by decide) v_Lay_putStake (c_Lay_putStake 31 v5 v8 (-1 : Int32) (ly_31 hR)) (Nat.le_of_ble_eq_true rfl) (by decide) rfl rfl (fun _ h => h) ?_
    show m_B _ _ _ _ _ _ 134 [some (mR (9, 0, 1)), some (mR (8, 0, sl)), some (mR (3, 0, 31)), none, some (mI v4), some (mI v5), none, none, some (mI v8), some (mI v9)] [] (L, w_putStake I 31 v5 v8 (-1 : Int32), J, R)
    refine b_blk (pc' := 76) (ls' := [some (mR (9, 0, 1)), some (mR (8, 0, sl)), some (mR (3, 0, 31)), none, some (mI (v4 + 1)), some (mI v5), none, none, some (mI (v8 + 1)), some (mI v9)]) (st' := []) (S' := (L, w_putStake I 31 v5 v8 (-1 : Int32), J, R)) (P := True) [(.iinc 4 1, (0, 0, 0, 1, 0)), (.iinc 8 1, (0, 0, 0, 1, 0)), (.goto (-64), (0, 76, 0, 0, 0))] [] (by decide +kernel) rfl trivial ?_
    refine b_frg 9 ?_
    cases hf
    exact hk
noncomputable def F_Image_readFences_76 (sl : Nat) (I : MI) (v4 : Int32) (v5 : Int32) (v8 : Int32) : Option ((Int32 × Int32 × MI) ⊕ ((Int32 × MI) ⊕ (Int32 × MI))) :=
  if (I sl 1) ≤ v8 then (some (.inr (.inl ((v4 : Int32), I)))) else ((F_Tape_byteAt I v4).bind fun r2 => if r2 = (255 : Int32) then (F_Image_readFences_112 sl I v4 v5 v8 r2) else (if r2 < (I sl 2) then (F_Image_readFences_112 sl I v4 v5 v8 r2) else (some (.inr (.inr ((0 : Int32), I))))))
set_option maxRecDepth 100000 in
set_option maxHeartbeats 400000 in
theorem W_Image_readFences_76 {G : MG} {Q : Option MV → MS → Prop} {L : List (Nat × Nat)} {R : Nat → Nat → Option MRef} (sl : Nat) (I : MI) (J : MJ) (v4 : Int32) (v5 : Int32) (v8 : Int32) (hR : RF R) (hs : R 24 1 = some (8, 0, sl)) (hq : sl = 3 ∨ sl = 11) {r : (Int32 × Int32 × MI) ⊕ ((Int32 × MI) ⊕ (Int32 × MI))} (hf : F_Image_readFences_76 sl I v4 v5 v8 = some r) (hk : (Sum.elim (fun s : Int32 × Int32 × MI => m_B G (m_rm 3 0 0) M_Image_readFences Q 0 0 76 [some (mR (9, 0, 1)), some (mR (8, 0, sl)), some (mR (3, 0, 31)), none, some (mI s.1), some (mI v5), none, none, some (mI s.2.1), none] [] (L, s.2.2, J, R)) (Sum.elim (fun s : Int32 × MI => m_B G (m_rm 3 0 0) M_Image_readFences Q 0 0 143 [some (mR (9, 0, 1)), some (mR (8, 0, sl)), some (mR (3, 0, 31)), none, some (mI s.1), some (mI v5), none, none, none, none] [] (L, s.2, J, R)) (fun r : Int32 × MI => Q (some (mI r.1)) (L, r.2, J, R)))) r) : m_B G (m_rm 3 0 0) M_Image_readFences Q 0 0 76 [some (mR (9, 0, 1)), some (mR (8, 0, sl)), some (mR (3, 0, 31)), none, some (mI v4), some (mI v5), none, none, some (mI v8), none] [] (L, I, J, R) := by
  unfold F_Image_readFences_76 at hf
  refine b_blk (pc' := 82) (ls' := [some (mR (9, 0, 1)), some (mR (8, 0, sl)), some (mR (3, 0, 31)), none, some (mI v4), some (mI v5), none, none, some (mI v8), none]) (st' := [mI (I sl 1), mI v8]) (S' := (L, I, J, R)) (P := True) [(.iload 8, (0, 0, 0, 0, 0)), (.aload_n 1, (0, 0, 0, 0, 0)), (.getfield 32, (8, 1, 0, 0, 0))] [] (by decide +kernel) rfl trivial ?_
  refine b_icmp_ge (off := 61) (tgt := 143) (by decide +kernel) (by decide) (fun h1 => ?_) (fun h1 => ?_)
  · have hf := if_t h1 hf
    refine b_frg 8 ?_
    cases hf
    exact hk
  · have hf := if_f h1 hf
    refine b_blk (pc' := 88) (ls' := [some (mR (9, 0, 1)), some (mR (8, 0, sl)), some (mR (3, 0, 31)), none, some (mI v4), some (mI v5), none, none, some (mI v8), none]) (st' := [mI v4, mR (9, 0, 1)]) (S' := (L, I, J, R)) (P := True) [(.aload_n 0, (0, 0, 0, 0, 0)), (.iload 4, (0, 0, 0, 0, 0))] [] (by decide +kernel) rfl trivial ?_
    obtain ⟨r2, hc2, hf⟩ := bnd_o hf
    refine b_cV (as := [mI v4]) (st := []) (by decide +kernel) k_2_59 n_Tape_byteAt rfl (by decide) v_Tape_byteAt (C_Tape_byteAt I J v4 hR hc2) (Nat.le_of_ble_eq_true rfl) (by decide) rfl rfl (fun _ h => h) ?_
    show m_B G (m_rm 3 0 0) M_Image_readFences Q 0 0 91 [some (mR (9, 0, 1)), some (mR (8, 0, sl)), some (mR (3, 0, 31)), none, some (mI v4), some (mI v5), none, none, some (mI v8), none] [mI r2] (L, I, J, R)
    refine b_blk (pc' := 98) (ls' := [some (mR (9, 0, 1)), some (mR (8, 0, sl)), some (mR (3, 0, 31)), none, some (mI v4), some (mI v5), none, none, some (mI v8), some (mI r2)]) (st' := [mI 255, mI r2]) (S' := (L, I, J, R)) (P := True) [(.istore 9, (0, 0, 0, 0, 0)), (.iload 9, (0, 0, 0, 0, 0)), (.sipush 255, (0, 0, 0, 255, 0))] [] (by decide +kernel) rfl trivial ?_
    refine b_icmp_eq (off := 14) (tgt := 112) (by decide +kernel) (by decide) (fun h3 => ?_) (fun h3 => ?_)
    · have hf := if_t h3 hf
      exact m_B_cg rfl rfl rfl (W_Image_readFences_112 sl I J v4 v5 v8 r2 hR hs hq hf hk)
    · have hf := if_f h3 hf
      refine b_blk (pc' := 107) (ls' := [some (mR (9, 0, 1)), some (mR (8, 0, sl)), some (mR (3, 0, 31)), none, some (mI v4), some (mI v5), none, none, some (mI v8), some (mI r2)]) (st' := [mI (I sl 2), mI r2]) (S' := (L, I, J, R)) (P := True) [(.iload 9, (0, 0, 0, 0, 0)), (.aload_n 1, (0, 0, 0, 0, 0)), (.getfield 37, (8, 2, 0, 0, 0))] [] (by decide +kernel) rfl trivial ?_
      refine b_icmp_lt (off := 5) (tgt := 112) (by decide +kernel) (by decide) (fun h4 => ?_) (fun h4 => ?_)
      · have hf := if_t h4 hf
        exact m_B_cg rfl rfl rfl (W_Image_readFences_112 sl I J v4 v5 v8 r2 hR hs hq hf hk)
      · have hf := if_f h4 hf
        refine b_blk (pc' := 111) (ls' := [some (mR (9, 0, 1)), some (mR (8, 0, sl)), some (mR (3, 0, 31)), none, some (mI v4), some (mI v5), none, none, some (mI v8), some (mI r2)]) (st' := [mI 0]) (S' := (L, I, J, R)) (P := True) [(.iconst 0, (0, 0, 0, 0, 0))] [] (by decide +kernel) rfl trivial ?_
        cases hf
        exact b_zret (by decide +kernel) rfl (by decide) hk
noncomputable def F_Image_readFences_6 (sl : Nat) (I : MI) (v4 : Int32) (v5 : Int32) : Option ((Int32 × Int32 × MI) ⊕ ((MI) ⊕ (Int32 × MI))) :=
  if (I sl 3) ≤ v5 then (some (.inr (.inl I))) else ((F_Tape_byteAt I v4).bind fun r2 => (F_Tape_byteAt I (v4 + (1 : Int32))).bind fun r3 => if (99 : Int32) < r2 then (some (.inr (.inr ((0 : Int32), I)))) else (if r3 ≤ (1 : Int32) then ((wl (fun s : Int32 × Int32 × MI => F_Image_readFences_76 sl s.2.2 s.1 v5 s.2.1) ((v4 + 2 : Int32), (0 : Int32), m_up (gI_Lay_putAge I 31 v5 r2) 31 1 (((gI_Lay_putAge I 31 v5 r2) 31 1) ||| (r3 <<< (v5 &&& 31))))).bind <| sel (fun q => some (.inr (.inr q))) fun t6 => some (.inl ((t6.1 : Int32), (v5 + 1 : Int32), t6.2))) else (some (.inr (.inr ((0 : Int32), I))))))
set_option maxRecDepth 100000 in
set_option maxHeartbeats 400000 in
theorem W_Image_readFences_6 {G : MG} {Q : Option MV → MS → Prop} {L : List (Nat × Nat)} {R : Nat → Nat → Option MRef} (sl : Nat) (I : MI) (J : MJ) (v4 : Int32) (v5 : Int32) (hR : RF R) (hs : R 24 1 = some (8, 0, sl)) (hq : sl = 3 ∨ sl = 11) {r : (Int32 × Int32 × MI) ⊕ ((MI) ⊕ (Int32 × MI))} (hf : F_Image_readFences_6 sl I v4 v5 = some r) (hk : (Sum.elim (fun s : Int32 × Int32 × MI => m_B G (m_rm 3 0 0) M_Image_readFences Q 0 0 6 [some (mR (9, 0, 1)), some (mR (8, 0, sl)), some (mR (3, 0, 31)), none, some (mI s.1), some (mI s.2.1), none, none, none, none] [] (L, s.2.2, J, R)) (Sum.elim (fun s : MI => m_B G (m_rm 3 0 0) M_Image_readFences Q 0 0 149 [none, none, none, none, none, none, none, none, none, none] [] (L, s, J, R)) (fun r : Int32 × MI => Q (some (mI r.1)) (L, r.2, J, R)))) r) : m_B G (m_rm 3 0 0) M_Image_readFences Q 0 0 6 [some (mR (9, 0, 1)), some (mR (8, 0, sl)), some (mR (3, 0, 31)), none, some (mI v4), some (mI v5), none, none, none, none] [] (L, I, J, R) := by
  unfold F_Image_readFences_6 at hf
  refine b_blk (pc' := 12) (ls' := [some (mR (9, 0, 1)), some (mR (8, 0, sl)), some (mR (3, 0, 31)), none, some (mI v4), some (mI v5), none, none, none, none]) (st' := [mI (I sl 3), mI v5]) (S' := (L, I, J, R)) (P := True) [(.iload 5, (0, 0, 0, 0, 0)), (.aload_n 1, (0, 0, 0, 0, 0)), (.getfield 44, (8, 3, 0, 0, 0))] [] (by decide +kernel) rfl trivial ?_
  refine b_icmp_ge (off := 137) (tgt := 149) (by decide +kernel) (by decide) (fun h1 => ?_) (fun h1 => ?_)
  · have hf := if_t h1 hf
    refine b_frg 0 ?_
    refine b_frg 1 ?_
    refine b_frg 2 ?_
    refine b_frg 4 ?_
    refine b_frg 5 ?_
    cases hf
    exact hk
  · have hf := if_f h1 hf
    refine b_blk (pc' := 18) (ls' := [some (mR (9, 0, 1)), some (mR (8, 0, sl)), some (mR (3, 0, 31)), none, some (mI v4), some (mI v5), none, none, none, none]) (st' := [mI v4, mR (9, 0, 1)]) (S' := (L, I, J, R)) (P := True) [(.aload_n 0, (0, 0, 0, 0, 0)), (.iload 4, (0, 0, 0, 0, 0))] [] (by decide +kernel) rfl trivial ?_
    obtain ⟨r2, hc2, hf⟩ := bnd_o hf
    refine b_cV (as := [mI v4]) (st := []) (by decide +kernel) k_2_59 n_Tape_byteAt rfl (by decide) v_Tape_byteAt (C_Tape_byteAt I J v4 hR hc2) (Nat.le_of_ble_eq_true rfl) (by decide) rfl rfl (fun _ h => h) ?_
    show m_B G (m_rm 3 0 0) M_Image_readFences Q 0 0 21 [some (mR (9, 0, 1)), some (mR (8, 0, sl)), some (mR (3, 0, 31)), none, some (mI v4), some (mI v5), none, none, none, none] [mI r2] (L, I, J, R)
    refine b_blk (pc' := 28) (ls' := [some (mR (9, 0, 1)), some (mR (8, 0, sl)), some (mR (3, 0, 31)), none, some (mI v4), some (mI v5), some (mI r2), none, none, none]) (st' := [mI (v4 + (1 : Int32)), mR (9, 0, 1)]) (S' := (L, I, J, R)) (P := True) [(.istore 6, (0, 0, 0, 0, 0)), (.aload_n 0, (0, 0, 0, 0, 0)), (.iload 4, (0, 0, 0, 0, 0)), (.iconst 1, (0, 0, 0, 1, 0)), (.iadd, (0, 0, 0, 0, 0))] [] (by decide +kernel) rfl trivial ?_
    obtain ⟨r3, hc3, hf⟩ := bnd_o hf
    refine b_cV (as := [mI (v4 + (1 : Int32))]) (st := []) (by decide +kernel) k_2_59 n_Tape_byteAt rfl (by decide) v_Tape_byteAt (C_Tape_byteAt I J (v4 + (1 : Int32)) hR hc3) (Nat.le_of_ble_eq_true rfl) (by decide) rfl rfl (fun _ h => h) ?_
    show m_B G (m_rm 3 0 0) M_Image_readFences Q 0 0 31 [some (mR (9, 0, 1)), some (mR (8, 0, sl)), some (mR (3, 0, 31)), none, some (mI v4), some (mI v5), some (mI r2), none, none, none] [mI r3] (L, I, J, R)
    refine b_blk (pc' := 37) (ls' := [some (mR (9, 0, 1)), some (mR (8, 0, sl)), some (mR (3, 0, 31)), none, some (mI v4), some (mI v5), some (mI r2), some (mI r3), none, none]) (st' := [mI 99, mI r2]) (S' := (L, I, J, R)) (P := True) [(.istore 7, (0, 0, 0, 0, 0)), (.iload 6, (0, 0, 0, 0, 0)), (.bipush 99, (0, 0, 0, 99, 0))] [] (by decide +kernel) rfl trivial ?_
    refine b_icmp_gt (off := 9) (tgt := 46) (by decide +kernel) (by decide) (fun h4 => ?_) (fun h4 => ?_)
    · have hf := if_t h4 hf
      refine b_blk (pc' := 47) (ls' := [some (mR (9, 0, 1)), some (mR (8, 0, sl)), some (mR (3, 0, 31)), none, some (mI v4), some (mI v5), some (mI r2), some (mI r3), none, none]) (st' := [mI 0]) (S' := (L, I, J, R)) (P := True) [(.iconst 0, (0, 0, 0, 0, 0))] [] (by decide +kernel) rfl trivial ?_
      cases hf
      exact b_zret (by decide +kernel) rfl (by decide) hk
    · have hf := if_f h4 hf
      refine b_blk (pc' := 43) (ls' := [some (mR (9, 0, 1)), some (mR (8, 0, sl)), some (mR (3, 0, 31)), none, some (mI v4), some (mI v5), some (mI r2), some (mI r3), none, none]) (st' := [mI 1, mI r3]) (S' := (L, I, J, R)) (P := True) [(.iload 7, (0, 0, 0, 0, 0)), (.iconst 1, (0, 0, 0, 1, 0))] [] (by decide +kernel) rfl trivial ?_
      refine b_icmp_le (off := 5) (tgt := 48) (by decide +kernel) (by decide) (fun h5 => ?_) (fun h5 => ?_)
      · have hf := if_t h5 hf
        refine b_blk (pc' := 53) (ls' := [some (mR (9, 0, 1)), some (mR (8, 0, sl)), some (mR (3, 0, 31)), none, some (mI v4), some (mI v5), some (mI r2), some (mI r3), none, none]) (st' := [mI r2, mI v5, mR (3, 0, 31)]) (S' := (L, I, J, R)) (P := True) [(.aload_n 2, (0, 0, 0, 0, 0)), (.iload 5, (0, 0, 0, 0, 0)), (.iload 6, (0, 0, 0, 0, 0))] [] (by decide +kernel) rfl trivial ?_
        refine b_cV (as := [mI v5, mI r2]) (st := []) (by decide +kernel) k_2_82 n_Lay_putAge rfl (by decide) v_Lay_putAge (c_Lay_putAge 31 v5 r2 (ly_31 hR)) (Nat.le_of_ble_eq_true rfl) (by decide) rfl rfl (fun _ h => h) ?_
        show m_B _ _ _ _ _ _ 56 [some (mR (9, 0, 1)), some (mR (8, 0, sl)), some (mR (3, 0, 31)), none, some (mI v4), some (mI v5), some (mI r2), some (mI r3), none, none] [] (L, gI_Lay_putAge I 31 v5 r2, J, R)
        refine b_blk (pc' := 76) (ls' := [some (mR (9, 0, 1)), some (mR (8, 0, sl)), some (mR (3, 0, 31)), none, some (mI (v4 + 2)), some (mI v5), some (mI r2), some (mI r3), some (mI 0), none]) (st' := []) (S' := (L, m_up (gI_Lay_putAge I 31 v5 r2) 31 1 (((gI_Lay_putAge I 31 v5 r2) 31 1) ||| (r3 <<< (v5 &&& 31))), J, R)) (P := True) [(.aload_n 2, (0, 0, 0, 0, 0)), (.dup, (0, 0, 0, 0, 0)), (.getfield 85, (3, 1, 0, 0, 0)), (.iload 7, (0, 0, 0, 0, 0)), (.iload 5, (0, 0, 0, 0, 0)), (.ishl, (0, 0, 0, 0, 0)), (.ior, (0, 0, 0, 0, 0)), (.putfield 85, (3, 1, 0, 0, 0)), (.iinc 4 2, (0, 0, 0, 2, 0)), (.iconst 0, (0, 0, 0, 0, 0)), (.istore 8, (0, 0, 0, 0, 0))] [] (by decide +kernel) rfl trivial ?_
        refine b_frg 6 ?_
        refine b_frg 7 ?_
        obtain ⟨t6, hw, hf⟩ := bnd_o hf
        refine wl_B (A := fun s : Int32 × Int32 × MI => m_B G (m_rm 3 0 0) M_Image_readFences Q 0 0 76 [some (mR (9, 0, 1)), some (mR (8, 0, sl)), some (mR (3, 0, 31)), none, some (mI s.1), some (mI v5), none, none, some (mI s.2.1), none] [] (L, s.2.2, J, R)) (B := (Sum.elim (fun s : Int32 × MI => m_B G (m_rm 3 0 0) M_Image_readFences Q 0 0 143 [some (mR (9, 0, 1)), some (mR (8, 0, sl)), some (mR (3, 0, 31)), none, some (mI s.1), some (mI v5), none, none, none, none] [] (L, s.2, J, R)) (fun r : Int32 × MI => Q (some (mI r.1)) (L, r.2, J, R)))) (fun s r hs_ hr => W_Image_readFences_76 sl s.2.2 J s.1 v5 s.2.1 hR hs hq hs_ hr) hw ?_
        rcases t6 with t6 | q
        rotate_left
        · cases se_r hf; exact hk
        replace hf := se_l hf
        show m_B G (m_rm 3 0 0) M_Image_readFences Q 0 0 143 [some (mR (9, 0, 1)), some (mR (8, 0, sl)), some (mR (3, 0, 31)), none, some (mI t6.1), some (mI v5), none, none, none, none] [] (L, t6.2, J, R)
        refine b_blk (pc' := 6) (ls' := [some (mR (9, 0, 1)), some (mR (8, 0, sl)), some (mR (3, 0, 31)), none, some (mI t6.1), some (mI (v5 + 1)), none, none, none, none]) (st' := []) (S' := (L, t6.2, J, R)) (P := True) [(.iinc 5 1, (0, 0, 0, 1, 0)), (.goto (-140), (0, 6, 0, 0, 0))] [] (by decide +kernel) rfl trivial ?_
        cases hf
        exact hk
      · have hf := if_f h5 hf
        refine b_blk (pc' := 47) (ls' := [some (mR (9, 0, 1)), some (mR (8, 0, sl)), some (mR (3, 0, 31)), none, some (mI v4), some (mI v5), some (mI r2), some (mI r3), none, none]) (st' := [mI 0]) (S' := (L, I, J, R)) (P := True) [(.iconst 0, (0, 0, 0, 0, 0))] [] (by decide +kernel) rfl trivial ?_
        cases hf
        exact b_zret (by decide +kernel) rfl (by decide) hk
noncomputable def F_Image_readFences (sl : Nat) (I : MI) (v3 : Int32) : Option (Int32 × MI) :=
  (wl (fun s : Int32 × Int32 × MI => F_Image_readFences_6 sl s.2.2 s.1 s.2.1) ((v3 : Int32), (0 : Int32), I)).bind <| sel (fun q => some q) fun t1 => some ((1 : Int32), t1)
set_option maxRecDepth 100000 in
set_option maxHeartbeats 400000 in
theorem W_Image_readFences {G : MG} {Q : Option MV → MS → Prop} {L : List (Nat × Nat)} {R : Nat → Nat → Option MRef} (sl : Nat) (I : MI) (J : MJ) (v3 : Int32) (hR : RF R) (hs : R 24 1 = some (8, 0, sl)) (hq : sl = 3 ∨ sl = 11) {r : Int32 × MI} (hf : F_Image_readFences sl I v3 = some r) (hk : (fun r : Int32 × MI => Q (some (mI r.1)) (L, r.2, J, R)) r) : m_B G (m_rm 3 0 0) M_Image_readFences Q 0 0 0 [some (mR (9, 0, 1)), some (mR (8, 0, sl)), some (mR (3, 0, 31)), some (mI v3), none, none, none, none, none, none] [] (L, I, J, R) := by
  unfold F_Image_readFences at hf
  refine b_blk (pc' := 6) (ls' := [some (mR (9, 0, 1)), some (mR (8, 0, sl)), some (mR (3, 0, 31)), some (mI v3), some (mI v3), some (mI 0), none, none, none, none]) (st' := []) (S' := (L, I, J, R)) (P := True) [(.iload_n 3, (0, 0, 0, 0, 0)), (.istore 4, (0, 0, 0, 0, 0)), (.iconst 0, (0, 0, 0, 0, 0)), (.istore 5, (0, 0, 0, 0, 0))] [] (by decide +kernel) rfl trivial ?_
  refine b_frg 3 ?_
  obtain ⟨t1, hw, hf⟩ := bnd_o hf
  refine wl_B (A := fun s : Int32 × Int32 × MI => m_B G (m_rm 3 0 0) M_Image_readFences Q 0 0 6 [some (mR (9, 0, 1)), some (mR (8, 0, sl)), some (mR (3, 0, 31)), none, some (mI s.1), some (mI s.2.1), none, none, none, none] [] (L, s.2.2, J, R)) (B := (Sum.elim (fun s : MI => m_B G (m_rm 3 0 0) M_Image_readFences Q 0 0 149 [none, none, none, none, none, none, none, none, none, none] [] (L, s, J, R)) (fun r : Int32 × MI => Q (some (mI r.1)) (L, r.2, J, R)))) (fun s r hs_ hr => W_Image_readFences_6 sl s.2.2 J s.1 s.2.1 hR hs hq hs_ hr) hw ?_
  rcases t1 with t1 | q
  rotate_left
  · cases se_r hf; exact hk
  replace hf := se_l hf
  show m_B G (m_rm 3 0 0) M_Image_readFences Q 0 0 149 [none, none, none, none, none, none, none, none, none, none] [] (L, t1, J, R)
  refine b_blk (pc' := 150) (ls' := [none, none, none, none, none, none, none, none, none, none]) (st' := [mI 1]) (S' := (L, t1, J, R)) (P := True) [(.iconst 1, (0, 0, 0, 1, 0))] [] (by decide +kernel) rfl trivial ?_
  cases hf
  exact b_zret (by decide +kernel) rfl (by decide) hk
theorem C_Image_readFences {G : MG} {L : List (Nat × Nat)} {R : Nat → Nat → Option MRef} (sl : Nat) (I : MI) (J : MJ) (v3 : Int32) (hR : RF R) (hs : R 24 1 = some (8, 0, sl)) (hq : sl = 3 ∨ sl = 11) {r : Int32 × MI} (hf : F_Image_readFences sl I v3 = some r) : m_met G 3 0 0 y_Image_readFences M_Image_readFences [mR (9, 0, 1), mR (8, 0, sl), mR (3, 0, 31), mI v3] (L, I, J, R) (m_is (some (mI r.1)) (L, r.2, J, R)) :=
  m_met_in n_Image_readFences (plainFor_of_name (by decide)) (by decide) (Nat.le_of_ble_eq_true rfl) (ls := [some (mR (9, 0, 1)), some (mR (8, 0, sl)), some (mR (3, 0, 31)), some (mI v3), none, none, none, none, none, none]) rfl (W_Image_readFences sl I J v3 hR hs hq hf ⟨rfl, rfl⟩)
noncomputable def F_Image_read_64 (sl : Nat) (I : MI) (v4 : Int32) (v5 : Int32) (v6 : Int32) (v7 : Int32) (v8 : Int32) : Option ((Int32 × Int32) ⊕ (Int32)) :=
  if v6 ≤ v8 then (some (.inr (v7 : Int32))) else ((F_Tape_byteAt I v8).bind fun r2 => some (.inl ((m_rem (((3 : Int32) * v7) + r2) (251 : Int32) : Int32), (v8 + 1 : Int32))))
set_option maxRecDepth 100000 in
set_option maxHeartbeats 400000 in
theorem W_Image_read_64 {G : MG} {Q : Option MV → MS → Prop} {L : List (Nat × Nat)} {R : Nat → Nat → Option MRef} (sl : Nat) (I : MI) (J : MJ) (v4 : Int32) (v5 : Int32) (v6 : Int32) (v7 : Int32) (v8 : Int32) (hR : RF R) (hs : R 24 1 = some (8, 0, sl)) (hq : sl = 3 ∨ sl = 11) {r : (Int32 × Int32) ⊕ (Int32)} (hf : F_Image_read_64 sl I v4 v5 v6 v7 v8 = some r) (hk : (Sum.elim (fun s : Int32 × Int32 => m_B G (m_rm 4 0 0) M_Image_read Q 0 0 64 [none, some (mR (9, 0, 1)), some (mR (8, 0, sl)), some (mR (3, 0, 31)), some (mI v4), some (mI v5), some (mI v6), some (mI s.1), some (mI s.2)] [] (L, I, J, R)) (fun s : Int32 => m_B G (m_rm 4 0 0) M_Image_read Q 0 0 94 [none, some (mR (9, 0, 1)), some (mR (8, 0, sl)), some (mR (3, 0, 31)), some (mI v4), some (mI v5), some (mI v6), some (mI s), none] [] (L, I, J, R))) r) : m_B G (m_rm 4 0 0) M_Image_read Q 0 0 64 [none, some (mR (9, 0, 1)), some (mR (8, 0, sl)), some (mR (3, 0, 31)), some (mI v4), some (mI v5), some (mI v6), some (mI v7), some (mI v8)] [] (L, I, J, R) := by
  unfold F_Image_read_64 at hf
  refine b_blk (pc' := 68) (ls' := [none, some (mR (9, 0, 1)), some (mR (8, 0, sl)), some (mR (3, 0, 31)), some (mI v4), some (mI v5), some (mI v6), some (mI v7), some (mI v8)]) (st' := [mI v6, mI v8]) (S' := (L, I, J, R)) (P := True) [(.iload 8, (0, 0, 0, 0, 0)), (.iload 6, (0, 0, 0, 0, 0))] [] (by decide +kernel) rfl trivial ?_
  refine b_icmp_ge (off := 26) (tgt := 94) (by decide +kernel) (by decide) (fun h1 => ?_) (fun h1 => ?_)
  · have hf := if_t h1 hf
    refine b_frg 8 ?_
    cases hf
    exact hk
  · have hf := if_f h1 hf
    refine b_blk (pc' := 78) (ls' := [none, some (mR (9, 0, 1)), some (mR (8, 0, sl)), some (mR (3, 0, 31)), some (mI v4), some (mI v5), some (mI v6), some (mI v7), some (mI v8)]) (st' := [mI v8, mR (9, 0, 1), mI ((3 : Int32) * v7)]) (S' := (L, I, J, R)) (P := True) [(.iconst 3, (0, 0, 0, 3, 0)), (.iload 7, (0, 0, 0, 0, 0)), (.imul, (0, 0, 0, 0, 0)), (.aload_n 1, (0, 0, 0, 0, 0)), (.iload 8, (0, 0, 0, 0, 0))] [] (by decide +kernel) rfl trivial ?_
    obtain ⟨r2, hc2, hf⟩ := bnd_o hf
    refine b_cV (as := [mI v8]) (st := [mI ((3 : Int32) * v7)]) (by decide +kernel) k_2_59 n_Tape_byteAt rfl (by decide) v_Tape_byteAt (C_Tape_byteAt I J v8 hR hc2) (Nat.le_of_ble_eq_true rfl) (by decide) rfl rfl (fun _ h => h) ?_
    show m_B G (m_rm 4 0 0) M_Image_read Q 0 0 81 [none, some (mR (9, 0, 1)), some (mR (8, 0, sl)), some (mR (3, 0, 31)), some (mI v4), some (mI v5), some (mI v6), some (mI v7), some (mI v8)] [mI r2, mI ((3 : Int32) * v7)] (L, I, J, R)
    refine b_blk (pc' := 64) (ls' := [none, some (mR (9, 0, 1)), some (mR (8, 0, sl)), some (mR (3, 0, 31)), some (mI v4), some (mI v5), some (mI v6), some (mI (m_rem (((3 : Int32) * v7) + r2) (251 : Int32))), some (mI (v8 + 1))]) (st' := []) (S' := (L, I, J, R)) (P := (True ∧ ¬ (251 : Int32) = 0)) [(.iadd, (0, 0, 0, 0, 0)), (.sipush 251, (0, 0, 0, 251, 0)), (.irem, (0, 0, 0, 0, 0)), (.istore 7, (0, 0, 0, 0, 0)), (.iinc 8 1, (0, 0, 0, 1, 0)), (.goto (-27), (0, 64, 0, 0, 0))] [] (by decide +kernel) rfl ⟨trivial, (by decide)⟩ ?_
    cases hf
    exact hk
noncomputable def F_Image_read (sl : Nat) (I : MI) : Option (Int32 × MI) :=
  (F_Tape_byteAt I (2 : Int32)).bind fun r1 => if r1 < (0 : Int32) then (some ((0 : Int32), I)) else (if (24 : Int32) < r1 then (some ((0 : Int32), I)) else (if (I 1 1) = ((((3 : Int32) + ((2 : Int32) * r1)) + ((I sl 3) * ((2 : Int32) + (I sl 1)))) + (1 : Int32)) then ((wl (fun s : Int32 × Int32 => F_Image_read_64 sl I r1 ((3 : Int32) + ((2 : Int32) * r1)) (((3 : Int32) + ((2 : Int32) * r1)) + ((I sl 3) * ((2 : Int32) + (I sl 1)))) s.1 s.2) ((131 : Int32), (0 : Int32))).bind fun t5 => bnd (m_fil (m_fil (m_fil (m_up (m_up I 31 0 (0 : Int32)) 31 1 (0 : Int32)) (31 + 1) (0 : Int32) 6) (31 + 2) (0 : Int32) 6) (31 + 3) (-1 : Int32) 36 : MI) fun x6 => (F_Tape_byteAt x6 (0 : Int32)).bind fun r7 => (F_Tape_byteAt x6 (1 : Int32)).bind fun r8 => (F_Tape_byteAt (m_up x6 31 0 ((r7 * (256 : Int32)) + r8)) (((3 : Int32) + ((2 : Int32) * r1)) + ((I sl 3) * ((2 : Int32) + (I sl 1))))).bind fun r9 => if t5 = r9 then (if (999 : Int32) < ((r7 * (256 : Int32)) + r8) then (some ((0 : Int32), m_up x6 31 0 ((r7 * (256 : Int32)) + r8))) else ((F_Image_readPosts sl (m_up x6 31 0 ((r7 * (256 : Int32)) + r8)) r1).bind fun r12 => if r12.1 = (0 : Int32) then (some ((0 : Int32), r12.2)) else ((F_Image_readFences sl r12.2 ((3 : Int32) + ((2 : Int32) * r1))).bind fun r14 => if r14.1 = (0 : Int32) then (some ((0 : Int32), r14.2)) else (some ((1 : Int32), r14.2))))) else (some ((0 : Int32), m_up x6 31 0 ((r7 * (256 : Int32)) + r8)))) else (some ((0 : Int32), I))))
set_option maxRecDepth 100000 in
set_option maxHeartbeats 400000 in
theorem W_Image_read {G : MG} {Q : Option MV → MS → Prop} {L : List (Nat × Nat)} {R : Nat → Nat → Option MRef} (sl : Nat) (I : MI) (J : MJ) (hR : RF R) (hs : R 24 1 = some (8, 0, sl)) (hq : sl = 3 ∨ sl = 11) {r : Int32 × MI} (hf : F_Image_read sl I = some r) (hk : (fun r : Int32 × MI => Q (some (mI r.1)) (L, r.2, J, R)) r) : m_B G (m_rm 4 0 0) M_Image_read Q 0 0 0 [some (mR (2, 0, 174)), some (mR (9, 0, 1)), some (mR (8, 0, sl)), some (mR (3, 0, 31)), none, none, none, none, none] [] (L, I, J, R) := by
  unfold F_Image_read at hf
  refine b_blk (pc' := 2) (ls' := [some (mR (2, 0, 174)), some (mR (9, 0, 1)), some (mR (8, 0, sl)), some (mR (3, 0, 31)), none, none, none, none, none]) (st' := [mI 2, mR (9, 0, 1)]) (S' := (L, I, J, R)) (P := True) [(.aload_n 1, (0, 0, 0, 0, 0)), (.iconst 2, (0, 0, 0, 2, 0))] [] (by decide +kernel) rfl trivial ?_
  obtain ⟨r1, hc1, hf⟩ := bnd_o hf
  refine b_cV (as := [mI 2]) (st := []) (by decide +kernel) k_2_59 n_Tape_byteAt rfl (by decide) v_Tape_byteAt (C_Tape_byteAt I J (2 : Int32) hR hc1) (Nat.le_of_ble_eq_true rfl) (by decide) rfl rfl (fun _ h => h) ?_
  show m_B G (m_rm 4 0 0) M_Image_read Q 0 0 5 [some (mR (2, 0, 174)), some (mR (9, 0, 1)), some (mR (8, 0, sl)), some (mR (3, 0, 31)), none, none, none, none, none] [mI r1] (L, I, J, R)
  refine b_blk (pc' := 33) (ls' := [some (mR (2, 0, 174)), some (mR (9, 0, 1)), some (mR (8, 0, sl)), some (mR (3, 0, 31)), some (mI r1), some (mI ((3 : Int32) + ((2 : Int32) * r1))), some (mI (((3 : Int32) + ((2 : Int32) * r1)) + ((I sl 3) * ((2 : Int32) + (I sl 1))))), none, none]) (st' := [mI r1]) (S' := (L, I, J, R)) (P := True) [(.istore 4, (0, 0, 0, 0, 0)), (.iconst 3, (0, 0, 0, 3, 0)), (.iconst 2, (0, 0, 0, 2, 0)), (.iload 4, (0, 0, 0, 0, 0)), (.imul, (0, 0, 0, 0, 0)), (.iadd, (0, 0, 0, 0, 0)), (.istore 5, (0, 0, 0, 0, 0)), (.iload 5, (0, 0, 0, 0, 0)), (.aload_n 2, (0, 0, 0, 0, 0)), (.getfield 44, (8, 3, 0, 0, 0)), (.iconst 2, (0, 0, 0, 2, 0)), (.aload_n 2, (0, 0, 0, 0, 0)), (.getfield 32, (8, 1, 0, 0, 0)), (.iadd, (0, 0, 0, 0, 0)), (.imul, (0, 0, 0, 0, 0)), (.iadd, (0, 0, 0, 0, 0)), (.istore 6, (0, 0, 0, 0, 0)), (.iload 4, (0, 0, 0, 0, 0))] [] (by decide +kernel) rfl trivial ?_
  refine b_if_lt (off := 21) (tgt := 54) (by decide +kernel) (by decide) (fun h2 => ?_) (fun h2 => ?_)
  · have hf := if_t h2 hf
    refine b_blk (pc' := 55) (ls' := [some (mR (2, 0, 174)), some (mR (9, 0, 1)), some (mR (8, 0, sl)), some (mR (3, 0, 31)), some (mI r1), some (mI ((3 : Int32) + ((2 : Int32) * r1))), some (mI (((3 : Int32) + ((2 : Int32) * r1)) + ((I sl 3) * ((2 : Int32) + (I sl 1))))), none, none]) (st' := [mI 0]) (S' := (L, I, J, R)) (P := True) [(.iconst 0, (0, 0, 0, 0, 0))] [] (by decide +kernel) rfl trivial ?_
    cases hf
    exact b_zret (by decide +kernel) rfl (by decide) hk
  · have hf := if_f h2 hf
    refine b_blk (pc' := 40) (ls' := [some (mR (2, 0, 174)), some (mR (9, 0, 1)), some (mR (8, 0, sl)), some (mR (3, 0, 31)), some (mI r1), some (mI ((3 : Int32) + ((2 : Int32) * r1))), some (mI (((3 : Int32) + ((2 : Int32) * r1)) + ((I sl 3) * ((2 : Int32) + (I sl 1))))), none, none]) (st' := [mI 24, mI r1]) (S' := (L, I, J, R)) (P := True) [(.iload 4, (0, 0, 0, 0, 0)), (.bipush 24, (0, 0, 0, 24, 0))] [] (by decide +kernel) rfl trivial ?_
    refine b_icmp_gt (off := 14) (tgt := 54) (by decide +kernel) (by decide) (fun h3 => ?_) (fun h3 => ?_)
    · have hf := if_t h3 hf
      refine b_blk (pc' := 55) (ls' := [some (mR (2, 0, 174)), some (mR (9, 0, 1)), some (mR (8, 0, sl)), some (mR (3, 0, 31)), some (mI r1), some (mI ((3 : Int32) + ((2 : Int32) * r1))), some (mI (((3 : Int32) + ((2 : Int32) * r1)) + ((I sl 3) * ((2 : Int32) + (I sl 1))))), none, none]) (st' := [mI 0]) (S' := (L, I, J, R)) (P := True) [(.iconst 0, (0, 0, 0, 0, 0))] [] (by decide +kernel) rfl trivial ?_
      cases hf
      exact b_zret (by decide +kernel) rfl (by decide) hk
    · have hf := if_f h3 hf
      refine b_blk (pc' := 51) (ls' := [some (mR (2, 0, 174)), some (mR (9, 0, 1)), some (mR (8, 0, sl)), some (mR (3, 0, 31)), some (mI r1), some (mI ((3 : Int32) + ((2 : Int32) * r1))), some (mI (((3 : Int32) + ((2 : Int32) * r1)) + ((I sl 3) * ((2 : Int32) + (I sl 1))))), none, none]) (st' := [mI ((((3 : Int32) + ((2 : Int32) * r1)) + ((I sl 3) * ((2 : Int32) + (I sl 1)))) + (1 : Int32)), mI (I 1 1)]) (S' := (L, I, J, R)) (P := True) [(.aload_n 1, (0, 0, 0, 0, 0)), (.getfield 64, (9, 1, 0, 0, 0)), (.iload 6, (0, 0, 0, 0, 0)), (.iconst 1, (0, 0, 0, 1, 0)), (.iadd, (0, 0, 0, 0, 0))] [] (by decide +kernel) rfl trivial ?_
      refine b_icmp_eq (off := 5) (tgt := 56) (by decide +kernel) (by decide) (fun h4 => ?_) (fun h4 => ?_)
      · have hf := if_t h4 hf
        refine b_blk (pc' := 64) (ls' := [some (mR (2, 0, 174)), some (mR (9, 0, 1)), some (mR (8, 0, sl)), some (mR (3, 0, 31)), some (mI r1), some (mI ((3 : Int32) + ((2 : Int32) * r1))), some (mI (((3 : Int32) + ((2 : Int32) * r1)) + ((I sl 3) * ((2 : Int32) + (I sl 1))))), some (mI 131), some (mI 0)]) (st' := []) (S' := (L, I, J, R)) (P := True) [(.sipush 131, (0, 0, 0, 131, 0)), (.istore 7, (0, 0, 0, 0, 0)), (.iconst 0, (0, 0, 0, 0, 0)), (.istore 8, (0, 0, 0, 0, 0))] [] (by decide +kernel) rfl trivial ?_
        refine b_frg 0 ?_
        obtain ⟨t5, hw, hf⟩ := bnd_o hf
        refine wl_B (A := fun s : Int32 × Int32 => m_B G (m_rm 4 0 0) M_Image_read Q 0 0 64 [none, some (mR (9, 0, 1)), some (mR (8, 0, sl)), some (mR (3, 0, 31)), some (mI r1), some (mI ((3 : Int32) + ((2 : Int32) * r1))), some (mI (((3 : Int32) + ((2 : Int32) * r1)) + ((I sl 3) * ((2 : Int32) + (I sl 1))))), some (mI s.1), some (mI s.2)] [] (L, I, J, R)) (B := (fun s : Int32 => m_B G (m_rm 4 0 0) M_Image_read Q 0 0 94 [none, some (mR (9, 0, 1)), some (mR (8, 0, sl)), some (mR (3, 0, 31)), some (mI r1), some (mI ((3 : Int32) + ((2 : Int32) * r1))), some (mI (((3 : Int32) + ((2 : Int32) * r1)) + ((I sl 3) * ((2 : Int32) + (I sl 1))))), some (mI s), none] [] (L, I, J, R))) (fun s r hs_ hr => W_Image_read_64 sl I J r1 ((3 : Int32) + ((2 : Int32) * r1)) (((3 : Int32) + ((2 : Int32) * r1)) + ((I sl 3) * ((2 : Int32) + (I sl 1)))) s.1 s.2 hR hs hq hs_ hr) hw ?_
        show m_B G (m_rm 4 0 0) M_Image_read Q 0 0 94 [none, some (mR (9, 0, 1)), some (mR (8, 0, sl)), some (mR (3, 0, 31)), some (mI r1), some (mI ((3 : Int32) + ((2 : Int32) * r1))), some (mI (((3 : Int32) + ((2 : Int32) * r1)) + ((I sl 3) * ((2 : Int32) + (I sl 1))))), some (mI t5), none] [] (L, I, J, R)
        refine b_blk (pc' := 95) (ls' := [none, some (mR (9, 0, 1)), some (mR (8, 0, sl)), some (mR (3, 0, 31)), some (mI r1), some (mI ((3 : Int32) + ((2 : Int32) * r1))), some (mI (((3 : Int32) + ((2 : Int32) * r1)) + ((I sl 3) * ((2 : Int32) + (I sl 1))))), some (mI t5), none]) (st' := [mR (3, 0, 31)]) (S' := (L, I, J, R)) (P := True) [(.aload_n 3, (0, 0, 0, 0, 0))] [] (by decide +kernel) rfl trivial ?_
        refine b_cV (as := []) (st := []) (by decide +kernel) k_2_65 n_Lay_clear rfl (by decide) v_Lay_clear (c_Lay_clear 31 (ly_31 hR)) (Nat.le_of_ble_eq_true rfl) (by decide) rfl rfl (fun _ h => h) ?_
        show m_B _ _ _ _ _ _ 98 [none, some (mR (9, 0, 1)), some (mR (8, 0, sl)), some (mR (3, 0, 31)), some (mI r1), some (mI ((3 : Int32) + ((2 : Int32) * r1))), some (mI (((3 : Int32) + ((2 : Int32) * r1)) + ((I sl 3) * ((2 : Int32) + (I sl 1))))), some (mI t5), none] [] (L, m_fil (m_fil (m_fil (m_up (m_up I 31 0 (0 : Int32)) 31 1 (0 : Int32)) (31 + 1) (0 : Int32) 6) (31 + 2) (0 : Int32) 6) (31 + 3) (-1 : Int32) 36, J, R)
        obtain ⟨x6, ex6, hf⟩ := bnd_s hf
        refine m_B_cg (ls' := [none, some (mR (9, 0, 1)), some (mR (8, 0, sl)), some (mR (3, 0, 31)), some (mI r1), some (mI ((3 : Int32) + ((2 : Int32) * r1))), some (mI (((3 : Int32) + ((2 : Int32) * r1)) + ((I sl 3) * ((2 : Int32) + (I sl 1))))), some (mI t5), none]) (st' := []) (S' := (L, x6, J, R)) (by first | with_reducible rfl | rw [ex6]) (by first | with_reducible rfl | rw [ex6]) (by first | with_reducible rfl | rw [ex6]) ?_
        refine b_blk (pc' := 101) (ls' := [none, some (mR (9, 0, 1)), some (mR (8, 0, sl)), some (mR (3, 0, 31)), some (mI r1), some (mI ((3 : Int32) + ((2 : Int32) * r1))), some (mI (((3 : Int32) + ((2 : Int32) * r1)) + ((I sl 3) * ((2 : Int32) + (I sl 1))))), some (mI t5), none]) (st' := [mI 0, mR (9, 0, 1), mR (3, 0, 31)]) (S' := (L, x6, J, R)) (P := True) [(.aload_n 3, (0, 0, 0, 0, 0)), (.aload_n 1, (0, 0, 0, 0, 0)), (.iconst 0, (0, 0, 0, 0, 0))] [] (by decide +kernel) rfl trivial ?_
        obtain ⟨r7, hc7, hf⟩ := bnd_o hf
        refine b_cV (as := [mI 0]) (st := [mR (3, 0, 31)]) (by decide +kernel) k_2_59 n_Tape_byteAt rfl (by decide) v_Tape_byteAt (C_Tape_byteAt x6 J (0 : Int32) hR hc7) (Nat.le_of_ble_eq_true rfl) (by decide) rfl rfl (fun _ h => h) ?_
        show m_B G (m_rm 4 0 0) M_Image_read Q 0 0 104 [none, some (mR (9, 0, 1)), some (mR (8, 0, sl)), some (mR (3, 0, 31)), some (mI r1), some (mI ((3 : Int32) + ((2 : Int32) * r1))), some (mI (((3 : Int32) + ((2 : Int32) * r1)) + ((I sl 3) * ((2 : Int32) + (I sl 1))))), some (mI t5), none] [mI r7, mR (3, 0, 31)] (L, x6, J, R)
        refine b_blk (pc' := 110) (ls' := [none, some (mR (9, 0, 1)), some (mR (8, 0, sl)), some (mR (3, 0, 31)), some (mI r1), some (mI ((3 : Int32) + ((2 : Int32) * r1))), some (mI (((3 : Int32) + ((2 : Int32) * r1)) + ((I sl 3) * ((2 : Int32) + (I sl 1))))), some (mI t5), none]) (st' := [mI 1, mR (9, 0, 1), mI (r7 * (256 : Int32)), mR (3, 0, 31)]) (S' := (L, x6, J, R)) (P := True) [(.sipush 256, (0, 0, 0, 256, 0)), (.imul, (0, 0, 0, 0, 0)), (.aload_n 1, (0, 0, 0, 0, 0)), (.iconst 1, (0, 0, 0, 1, 0))] [] (by decide +kernel) rfl trivial ?_
        obtain ⟨r8, hc8, hf⟩ := bnd_o hf
        refine b_cV (as := [mI 1]) (st := [mI (r7 * (256 : Int32)), mR (3, 0, 31)]) (by decide +kernel) k_2_59 n_Tape_byteAt rfl (by decide) v_Tape_byteAt (C_Tape_byteAt x6 J (1 : Int32) hR hc8) (Nat.le_of_ble_eq_true rfl) (by decide) rfl rfl (fun _ h => h) ?_
        show m_B G (m_rm 4 0 0) M_Image_read Q 0 0 113 [none, some (mR (9, 0, 1)), some (mR (8, 0, sl)), some (mR (3, 0, 31)), some (mI r1), some (mI ((3 : Int32) + ((2 : Int32) * r1))), some (mI (((3 : Int32) + ((2 : Int32) * r1)) + ((I sl 3) * ((2 : Int32) + (I sl 1))))), some (mI t5), none] [mI r8, mI (r7 * (256 : Int32)), mR (3, 0, 31)] (L, x6, J, R)
        refine b_blk (pc' := 122) (ls' := [none, some (mR (9, 0, 1)), some (mR (8, 0, sl)), some (mR (3, 0, 31)), some (mI r1), some (mI ((3 : Int32) + ((2 : Int32) * r1))), some (mI (((3 : Int32) + ((2 : Int32) * r1)) + ((I sl 3) * ((2 : Int32) + (I sl 1))))), some (mI t5), none]) (st' := [mI (((3 : Int32) + ((2 : Int32) * r1)) + ((I sl 3) * ((2 : Int32) + (I sl 1)))), mR (9, 0, 1), mI t5]) (S' := (L, m_up x6 31 0 ((r7 * (256 : Int32)) + r8), J, R)) (P := True) [(.iadd, (0, 0, 0, 0, 0)), (.putfield 19, (3, 0, 0, 0, 0)), (.iload 7, (0, 0, 0, 0, 0)), (.aload_n 1, (0, 0, 0, 0, 0)), (.iload 6, (0, 0, 0, 0, 0))] [] (by decide +kernel) rfl trivial ?_
        obtain ⟨r9, hc9, hf⟩ := bnd_o hf
        refine b_cV (as := [mI (((3 : Int32) + ((2 : Int32) * r1)) + ((I sl 3) * ((2 : Int32) + (I sl 1))))]) (st := [mI t5]) (by decide +kernel) k_2_59 n_Tape_byteAt rfl (by decide) v_Tape_byteAt (C_Tape_byteAt (m_up x6 31 0 ((r7 * (256 : Int32)) + r8)) J (((3 : Int32) + ((2 : Int32) * r1)) + ((I sl 3) * ((2 : Int32) + (I sl 1)))) hR hc9) (Nat.le_of_ble_eq_true rfl) (by decide) rfl rfl (fun _ h => h) ?_
        show m_B G (m_rm 4 0 0) M_Image_read Q 0 0 125 [none, some (mR (9, 0, 1)), some (mR (8, 0, sl)), some (mR (3, 0, 31)), some (mI r1), some (mI ((3 : Int32) + ((2 : Int32) * r1))), some (mI (((3 : Int32) + ((2 : Int32) * r1)) + ((I sl 3) * ((2 : Int32) + (I sl 1))))), some (mI t5), none] [mI r9, mI t5] (L, m_up x6 31 0 ((r7 * (256 : Int32)) + r8), J, R)
        refine b_icmp_ne (off := 39) (tgt := 164) (by decide +kernel) (by decide) (fun h10 => ?_) (fun h10 => ?_)
        · have hf := if_f h10 hf
          refine b_blk (pc' := 165) (ls' := [none, some (mR (9, 0, 1)), some (mR (8, 0, sl)), some (mR (3, 0, 31)), some (mI r1), some (mI ((3 : Int32) + ((2 : Int32) * r1))), some (mI (((3 : Int32) + ((2 : Int32) * r1)) + ((I sl 3) * ((2 : Int32) + (I sl 1))))), some (mI t5), none]) (st' := [mI 0]) (S' := (L, m_up x6 31 0 ((r7 * (256 : Int32)) + r8), J, R)) (P := True) [(.iconst 0, (0, 0, 0, 0, 0))] [] (by decide +kernel) rfl trivial ?_
          cases hf
          exact b_zret (by decide +kernel) rfl (by decide) hk
        · have hf := if_t h10 hf
          refine b_blk (pc' := 135) (ls' := [none, some (mR (9, 0, 1)), some (mR (8, 0, sl)), some (mR (3, 0, 31)), some (mI r1), some (mI ((3 : Int32) + ((2 : Int32) * r1))), some (mI (((3 : Int32) + ((2 : Int32) * r1)) + ((I sl 3) * ((2 : Int32) + (I sl 1))))), some (mI t5), none]) (st' := [mI 999, mI ((r7 * (256 : Int32)) + r8)]) (S' := (L, m_up x6 31 0 ((r7 * (256 : Int32)) + r8), J, R)) (P := True) [(.aload_n 3, (0, 0, 0, 0, 0)), (.getfield 19, (3, 0, 0, 0, 0)), (.sipush 999, (0, 0, 0, 999, 0))] [] (by decide +kernel) rfl trivial ?_
          refine b_icmp_gt (off := 29) (tgt := 164) (by decide +kernel) (by decide) (fun h11 => ?_) (fun h11 => ?_)
          · have hf := if_t h11 hf
            refine b_blk (pc' := 165) (ls' := [none, some (mR (9, 0, 1)), some (mR (8, 0, sl)), some (mR (3, 0, 31)), some (mI r1), some (mI ((3 : Int32) + ((2 : Int32) * r1))), some (mI (((3 : Int32) + ((2 : Int32) * r1)) + ((I sl 3) * ((2 : Int32) + (I sl 1))))), some (mI t5), none]) (st' := [mI 0]) (S' := (L, m_up x6 31 0 ((r7 * (256 : Int32)) + r8), J, R)) (P := True) [(.iconst 0, (0, 0, 0, 0, 0))] [] (by decide +kernel) rfl trivial ?_
            cases hf
            exact b_zret (by decide +kernel) rfl (by decide) hk
          · have hf := if_f h11 hf
            refine b_blk (pc' := 143) (ls' := [none, some (mR (9, 0, 1)), some (mR (8, 0, sl)), some (mR (3, 0, 31)), some (mI r1), some (mI ((3 : Int32) + ((2 : Int32) * r1))), some (mI (((3 : Int32) + ((2 : Int32) * r1)) + ((I sl 3) * ((2 : Int32) + (I sl 1))))), some (mI t5), none]) (st' := [mI r1, mR (3, 0, 31), mR (8, 0, sl), mR (9, 0, 1)]) (S' := (L, m_up x6 31 0 ((r7 * (256 : Int32)) + r8), J, R)) (P := True) [(.aload_n 1, (0, 0, 0, 0, 0)), (.aload_n 2, (0, 0, 0, 0, 0)), (.aload_n 3, (0, 0, 0, 0, 0)), (.iload 4, (0, 0, 0, 0, 0))] [] (by decide +kernel) rfl trivial ?_
            obtain ⟨r12, hc12, hf⟩ := bnd_o hf
            refine b_cS (as := [mR (9, 0, 1), mR (8, 0, sl), mR (3, 0, 31), mI r1]) (st := []) (by decide +kernel) k_2_68 n_Image_readPosts s_Image_readPosts (C_Image_readPosts sl (m_up x6 31 0 ((r7 * (256 : Int32)) + r8)) J r1 hR hs hq hc12) (Nat.le_of_ble_eq_true rfl) (by decide) rfl rfl (fun _ h => h) ?_
            show m_B G (m_rm 4 0 0) M_Image_read Q 0 0 146 [none, some (mR (9, 0, 1)), some (mR (8, 0, sl)), some (mR (3, 0, 31)), some (mI r1), some (mI ((3 : Int32) + ((2 : Int32) * r1))), some (mI (((3 : Int32) + ((2 : Int32) * r1)) + ((I sl 3) * ((2 : Int32) + (I sl 1))))), some (mI t5), none] [mI r12.1] (L, r12.2, J, R)
            refine b_if_eq (off := 18) (tgt := 164) (by decide +kernel) (by decide) (fun h13 => ?_) (fun h13 => ?_)
            · have hf := if_t h13 hf
              refine b_blk (pc' := 165) (ls' := [none, some (mR (9, 0, 1)), some (mR (8, 0, sl)), some (mR (3, 0, 31)), some (mI r1), some (mI ((3 : Int32) + ((2 : Int32) * r1))), some (mI (((3 : Int32) + ((2 : Int32) * r1)) + ((I sl 3) * ((2 : Int32) + (I sl 1))))), some (mI t5), none]) (st' := [mI 0]) (S' := (L, r12.2, J, R)) (P := True) [(.iconst 0, (0, 0, 0, 0, 0))] [] (by decide +kernel) rfl trivial ?_
              cases hf
              exact b_zret (by decide +kernel) rfl (by decide) hk
            · have hf := if_f h13 hf
              refine b_blk (pc' := 154) (ls' := [none, some (mR (9, 0, 1)), some (mR (8, 0, sl)), some (mR (3, 0, 31)), some (mI r1), some (mI ((3 : Int32) + ((2 : Int32) * r1))), some (mI (((3 : Int32) + ((2 : Int32) * r1)) + ((I sl 3) * ((2 : Int32) + (I sl 1))))), some (mI t5), none]) (st' := [mI ((3 : Int32) + ((2 : Int32) * r1)), mR (3, 0, 31), mR (8, 0, sl), mR (9, 0, 1)]) (S' := (L, r12.2, J, R)) (P := True) [(.aload_n 1, (0, 0, 0, 0, 0)), (.aload_n 2, (0, 0, 0, 0, 0)), (.aload_n 3, (0, 0, 0, 0, 0)), (.iload 5, (0, 0, 0, 0, 0))] [] (by decide +kernel) rfl trivial ?_
              obtain ⟨r14, hc14, hf⟩ := bnd_o hf
              refine b_cS (as := [mR (9, 0, 1), mR (8, 0, sl), mR (3, 0, 31), mI ((3 : Int32) + ((2 : Int32) * r1))]) (st := []) (by decide +kernel) k_2_72 n_Image_readFences s_Image_readFences (C_Image_readFences sl r12.2 J ((3 : Int32) + ((2 : Int32) * r1)) hR hs hq hc14) (Nat.le_of_ble_eq_true rfl) (by decide) rfl rfl (fun _ h => h) ?_
              show m_B G (m_rm 4 0 0) M_Image_read Q 0 0 157 [none, some (mR (9, 0, 1)), some (mR (8, 0, sl)), some (mR (3, 0, 31)), some (mI r1), some (mI ((3 : Int32) + ((2 : Int32) * r1))), some (mI (((3 : Int32) + ((2 : Int32) * r1)) + ((I sl 3) * ((2 : Int32) + (I sl 1))))), some (mI t5), none] [mI r14.1] (L, r14.2, J, R)
              refine b_if_eq (off := 7) (tgt := 164) (by decide +kernel) (by decide) (fun h15 => ?_) (fun h15 => ?_)
              · have hf := if_t h15 hf
                refine b_blk (pc' := 165) (ls' := [none, some (mR (9, 0, 1)), some (mR (8, 0, sl)), some (mR (3, 0, 31)), some (mI r1), some (mI ((3 : Int32) + ((2 : Int32) * r1))), some (mI (((3 : Int32) + ((2 : Int32) * r1)) + ((I sl 3) * ((2 : Int32) + (I sl 1))))), some (mI t5), none]) (st' := [mI 0]) (S' := (L, r14.2, J, R)) (P := True) [(.iconst 0, (0, 0, 0, 0, 0))] [] (by decide +kernel) rfl trivial ?_
                cases hf
                exact b_zret (by decide +kernel) rfl (by decide) hk
              · have hf := if_f h15 hf
                refine b_blk (pc' := 165) (ls' := [none, some (mR (9, 0, 1)), some (mR (8, 0, sl)), some (mR (3, 0, 31)), some (mI r1), some (mI ((3 : Int32) + ((2 : Int32) * r1))), some (mI (((3 : Int32) + ((2 : Int32) * r1)) + ((I sl 3) * ((2 : Int32) + (I sl 1))))), some (mI t5), none]) (st' := [mI 1]) (S' := (L, r14.2, J, R)) (P := True) [(.iconst 1, (0, 0, 0, 1, 0)), (.goto 4, (0, 165, 0, 0, 0))] [] (by decide +kernel) rfl trivial ?_
                cases hf
                exact b_zret (by decide +kernel) rfl (by decide) hk
      · have hf := if_f h4 hf
        refine b_blk (pc' := 55) (ls' := [some (mR (2, 0, 174)), some (mR (9, 0, 1)), some (mR (8, 0, sl)), some (mR (3, 0, 31)), some (mI r1), some (mI ((3 : Int32) + ((2 : Int32) * r1))), some (mI (((3 : Int32) + ((2 : Int32) * r1)) + ((I sl 3) * ((2 : Int32) + (I sl 1))))), none, none]) (st' := [mI 0]) (S' := (L, I, J, R)) (P := True) [(.iconst 0, (0, 0, 0, 0, 0))] [] (by decide +kernel) rfl trivial ?_
        cases hf
        exact b_zret (by decide +kernel) rfl (by decide) hk
theorem C_Image_read {G : MG} {L : List (Nat × Nat)} {R : Nat → Nat → Option MRef} (sl : Nat) (I : MI) (J : MJ) (hR : RF R) (hs : R 24 1 = some (8, 0, sl)) (hq : sl = 3 ∨ sl = 11) {r : Int32 × MI} (hf : F_Image_read sl I = some r) : m_met G 4 0 0 y_Image_read M_Image_read [mR (2, 0, 174), mR (9, 0, 1), mR (8, 0, sl), mR (3, 0, 31)] (L, I, J, R) (m_is (some (mI r.1)) (L, r.2, J, R)) :=
  m_met_in n_Image_read (plainFor_of_name (by decide)) (by decide) (Nat.le_of_ble_eq_true rfl) (ls := [some (mR (2, 0, 174)), some (mR (9, 0, 1)), some (mR (8, 0, sl)), some (mR (3, 0, 31)), none, none, none, none, none]) rfl (W_Image_read sl I J hR hs hq hf ⟨rfl, rfl⟩)
noncomputable def F_Seen_readFrom_73 (sl : Nat) (I : MI) (v3 : Int32) (v4 : Int32) (y0 : Int32) : Option ((Int32) ⊕ ((Unit) ⊕ (Int32 × MI))) :=
  if y0 = (0 : Int32) then (some (.inr (.inr ((0 : Int32), I)))) else ((F_Tape_byteAt I ((3 : Int32) * v4)).bind fun r2 => (F_Tape_byteAt I (((3 : Int32) * v4) + (1 : Int32))).bind fun r3 => if (f_Slope_hasPlace I sl r2 r3) = (0 : Int32) then (some (.inr (.inr ((0 : Int32), I)))) else (some (.inl (v4 + 1 : Int32))))
set_option maxRecDepth 100000 in
set_option maxHeartbeats 400000 in
theorem W_Seen_readFrom_73 {G : MG} {Q : Option MV → MS → Prop} {L : List (Nat × Nat)} {R : Nat → Nat → Option MRef} (sl : Nat) (I : MI) (J : MJ) (v3 : Int32) (v4 : Int32) (y0 : Int32) (hR : RF R) (hs : R 24 1 = some (8, 0, sl)) (hq : sl = 3 ∨ sl = 11) {r : (Int32) ⊕ ((Unit) ⊕ (Int32 × MI))} (hf : F_Seen_readFrom_73 sl I v3 v4 y0 = some r) (hk : (Sum.elim (fun s : Int32 => m_B G (m_rm 2 0 0) M_Seen_readFrom Q 0 0 33 [some (mR (7, 0, 170)), some (mR (9, 0, 1)), some (mR (8, 0, sl)), some (mI v3), some (mI s), none, none] [] (L, I, J, R)) (Sum.elim (fun s : Unit => m_B G (m_rm 2 0 0) M_Seen_readFrom Q 0 0 113 [some (mR (7, 0, 170)), some (mR (9, 0, 1)), none, some (mI v3), none, none, none] [] (L, I, J, R)) (fun r : Int32 × MI => Q (some (mI r.1)) (L, r.2, J, R)))) r) : m_B G (m_rm 2 0 0) M_Seen_readFrom Q 0 0 73 [some (mR (7, 0, 170)), some (mR (9, 0, 1)), some (mR (8, 0, sl)), some (mI v3), some (mI v4), none, none] [mI y0] (L, I, J, R) := by
  unfold F_Seen_readFrom_73 at hf
  refine b_blk (pc' := 77) (ls' := [some (mR (7, 0, 170)), some (mR (9, 0, 1)), some (mR (8, 0, sl)), some (mI v3), some (mI v4), none, some (mI y0)]) (st' := [mI y0]) (S' := (L, I, J, R)) (P := True) [(.istore 6, (0, 0, 0, 0, 0)), (.iload 6, (0, 0, 0, 0, 0))] [] (by decide +kernel) rfl trivial ?_
  refine b_if_eq (off := 28) (tgt := 105) (by decide +kernel) (by decide) (fun h1 => ?_) (fun h1 => ?_)
  · have hf := if_t h1 hf
    refine b_blk (pc' := 106) (ls' := [some (mR (7, 0, 170)), some (mR (9, 0, 1)), some (mR (8, 0, sl)), some (mI v3), some (mI v4), none, some (mI y0)]) (st' := [mI 0]) (S' := (L, I, J, R)) (P := True) [(.iconst 0, (0, 0, 0, 0, 0))] [] (by decide +kernel) rfl trivial ?_
    cases hf
    exact b_zret (by decide +kernel) rfl (by decide) hk
  · have hf := if_f h1 hf
    refine b_blk (pc' := 86) (ls' := [some (mR (7, 0, 170)), some (mR (9, 0, 1)), some (mR (8, 0, sl)), some (mI v3), some (mI v4), none, some (mI y0)]) (st' := [mI ((3 : Int32) * v4), mR (9, 0, 1), mR (8, 0, sl)]) (S' := (L, I, J, R)) (P := True) [(.aload_n 2, (0, 0, 0, 0, 0)), (.aload_n 1, (0, 0, 0, 0, 0)), (.iconst 3, (0, 0, 0, 3, 0)), (.iload 4, (0, 0, 0, 0, 0)), (.imul, (0, 0, 0, 0, 0))] [] (by decide +kernel) rfl trivial ?_
    obtain ⟨r2, hc2, hf⟩ := bnd_o hf
    refine b_cV (as := [mI ((3 : Int32) * v4)]) (st := [mR (8, 0, sl)]) (by decide +kernel) k_7_27 n_Tape_byteAt rfl (by decide) v_Tape_byteAt (C_Tape_byteAt I J ((3 : Int32) * v4) hR hc2) (Nat.le_of_ble_eq_true rfl) (by decide) rfl rfl (fun _ h => h) ?_
    show m_B G (m_rm 2 0 0) M_Seen_readFrom Q 0 0 89 [some (mR (7, 0, 170)), some (mR (9, 0, 1)), some (mR (8, 0, sl)), some (mI v3), some (mI v4), none, some (mI y0)] [mI r2, mR (8, 0, sl)] (L, I, J, R)
    refine b_blk (pc' := 96) (ls' := [some (mR (7, 0, 170)), some (mR (9, 0, 1)), some (mR (8, 0, sl)), some (mI v3), some (mI v4), none, some (mI y0)]) (st' := [mI (((3 : Int32) * v4) + (1 : Int32)), mR (9, 0, 1), mI r2, mR (8, 0, sl)]) (S' := (L, I, J, R)) (P := True) [(.aload_n 1, (0, 0, 0, 0, 0)), (.iconst 3, (0, 0, 0, 3, 0)), (.iload 4, (0, 0, 0, 0, 0)), (.imul, (0, 0, 0, 0, 0)), (.iconst 1, (0, 0, 0, 1, 0)), (.iadd, (0, 0, 0, 0, 0))] [] (by decide +kernel) rfl trivial ?_
    obtain ⟨r3, hc3, hf⟩ := bnd_o hf
    refine b_cV (as := [mI (((3 : Int32) * v4) + (1 : Int32))]) (st := [mI r2, mR (8, 0, sl)]) (by decide +kernel) k_7_27 n_Tape_byteAt rfl (by decide) v_Tape_byteAt (C_Tape_byteAt I J (((3 : Int32) * v4) + (1 : Int32)) hR hc3) (Nat.le_of_ble_eq_true rfl) (by decide) rfl rfl (fun _ h => h) ?_
    show m_B G (m_rm 2 0 0) M_Seen_readFrom Q 0 0 99 [some (mR (7, 0, 170)), some (mR (9, 0, 1)), some (mR (8, 0, sl)), some (mI v3), some (mI v4), none, some (mI y0)] [mI r3, mI r2, mR (8, 0, sl)] (L, I, J, R)
    refine b_cV (as := [mI r2, mI r3]) (st := []) (by decide +kernel) k_7_37 n_Slope_hasPlace rfl (by decide) v_Slope_hasPlace (c_Slope_hasPlace sl r2 r3 ) (Nat.le_of_ble_eq_true rfl) (by decide) rfl rfl (fun _ h => h) ?_
    show m_B _ _ _ _ _ _ 102 [some (mR (7, 0, 170)), some (mR (9, 0, 1)), some (mR (8, 0, sl)), some (mI v3), some (mI v4), none, some (mI y0)] [mI (f_Slope_hasPlace I sl r2 r3)] (L, I, J, R)
    refine b_if_ne (off := 5) (tgt := 107) (by decide +kernel) (by decide) (fun h4 => ?_) (fun h4 => ?_)
    · have hf := if_f h4 hf
      refine b_blk (pc' := 33) (ls' := [some (mR (7, 0, 170)), some (mR (9, 0, 1)), some (mR (8, 0, sl)), some (mI v3), some (mI (v4 + 1)), none, some (mI y0)]) (st' := []) (S' := (L, I, J, R)) (P := True) [(.iinc 4 1, (0, 0, 0, 1, 0)), (.goto (-77), (0, 33, 0, 0, 0))] [] (by decide +kernel) rfl trivial ?_
      refine b_frg 6 ?_
      cases hf
      exact hk
    · have hf := if_t h4 hf
      refine b_blk (pc' := 106) (ls' := [some (mR (7, 0, 170)), some (mR (9, 0, 1)), some (mR (8, 0, sl)), some (mI v3), some (mI v4), none, some (mI y0)]) (st' := [mI 0]) (S' := (L, I, J, R)) (P := True) [(.iconst 0, (0, 0, 0, 0, 0))] [] (by decide +kernel) rfl trivial ?_
      cases hf
      exact b_zret (by decide +kernel) rfl (by decide) hk
noncomputable def F_Seen_readFrom_68 (sl : Nat) (I : MI) (v3 : Int32) (v4 : Int32) : Option ((Int32) ⊕ ((Unit) ⊕ (Int32 × MI))) :=
  F_Seen_readFrom_73 sl I v3 v4 (1 : Int32)
set_option maxRecDepth 100000 in
set_option maxHeartbeats 400000 in
theorem W_Seen_readFrom_68 {G : MG} {Q : Option MV → MS → Prop} {L : List (Nat × Nat)} {R : Nat → Nat → Option MRef} (sl : Nat) (I : MI) (J : MJ) (v3 : Int32) (v4 : Int32) (hR : RF R) (hs : R 24 1 = some (8, 0, sl)) (hq : sl = 3 ∨ sl = 11) {r : (Int32) ⊕ ((Unit) ⊕ (Int32 × MI))} (hf : F_Seen_readFrom_68 sl I v3 v4 = some r) (hk : (Sum.elim (fun s : Int32 => m_B G (m_rm 2 0 0) M_Seen_readFrom Q 0 0 33 [some (mR (7, 0, 170)), some (mR (9, 0, 1)), some (mR (8, 0, sl)), some (mI v3), some (mI s), none, none] [] (L, I, J, R)) (Sum.elim (fun s : Unit => m_B G (m_rm 2 0 0) M_Seen_readFrom Q 0 0 113 [some (mR (7, 0, 170)), some (mR (9, 0, 1)), none, some (mI v3), none, none, none] [] (L, I, J, R)) (fun r : Int32 × MI => Q (some (mI r.1)) (L, r.2, J, R)))) r) : m_B G (m_rm 2 0 0) M_Seen_readFrom Q 0 0 68 [some (mR (7, 0, 170)), some (mR (9, 0, 1)), some (mR (8, 0, sl)), some (mI v3), some (mI v4), none, none] [] (L, I, J, R) := by
  unfold F_Seen_readFrom_68 at hf
  refine b_blk (pc' := 73) (ls' := [some (mR (7, 0, 170)), some (mR (9, 0, 1)), some (mR (8, 0, sl)), some (mI v3), some (mI v4), none, none]) (st' := [mI 1]) (S' := (L, I, J, R)) (P := True) [(.iconst 1, (0, 0, 0, 1, 0)), (.goto 4, (0, 73, 0, 0, 0))] [] (by decide +kernel) rfl trivial ?_
  exact m_B_cg rfl rfl rfl (W_Seen_readFrom_73 sl I J v3 v4 (1 : Int32) hR hs hq hf hk)
noncomputable def F_Seen_readFrom_33 (sl : Nat) (I : MI) (v3 : Int32) (v4 : Int32) : Option ((Int32) ⊕ ((Unit) ⊕ (Int32 × MI))) :=
  if v3 ≤ v4 then (some (.inr (.inl ()))) else ((F_Tape_byteAt I (((3 : Int32) * v4) + (2 : Int32))).bind fun r2 => if r2 = (255 : Int32) then (F_Seen_readFrom_68 sl I v3 v4) else (if (f_Slope_hasFence I sl r2) = (0 : Int32) then (F_Seen_readFrom_73 sl I v3 v4 (0 : Int32)) else (F_Seen_readFrom_68 sl I v3 v4)))
set_option maxRecDepth 100000 in
set_option maxHeartbeats 400000 in
theorem W_Seen_readFrom_33 {G : MG} {Q : Option MV → MS → Prop} {L : List (Nat × Nat)} {R : Nat → Nat → Option MRef} (sl : Nat) (I : MI) (J : MJ) (v3 : Int32) (v4 : Int32) (hR : RF R) (hs : R 24 1 = some (8, 0, sl)) (hq : sl = 3 ∨ sl = 11) {r : (Int32) ⊕ ((Unit) ⊕ (Int32 × MI))} (hf : F_Seen_readFrom_33 sl I v3 v4 = some r) (hk : (Sum.elim (fun s : Int32 => m_B G (m_rm 2 0 0) M_Seen_readFrom Q 0 0 33 [some (mR (7, 0, 170)), some (mR (9, 0, 1)), some (mR (8, 0, sl)), some (mI v3), some (mI s), none, none] [] (L, I, J, R)) (Sum.elim (fun s : Unit => m_B G (m_rm 2 0 0) M_Seen_readFrom Q 0 0 113 [some (mR (7, 0, 170)), some (mR (9, 0, 1)), none, some (mI v3), none, none, none] [] (L, I, J, R)) (fun r : Int32 × MI => Q (some (mI r.1)) (L, r.2, J, R)))) r) : m_B G (m_rm 2 0 0) M_Seen_readFrom Q 0 0 33 [some (mR (7, 0, 170)), some (mR (9, 0, 1)), some (mR (8, 0, sl)), some (mI v3), some (mI v4), none, none] [] (L, I, J, R) := by
  unfold F_Seen_readFrom_33 at hf
  refine b_blk (pc' := 36) (ls' := [some (mR (7, 0, 170)), some (mR (9, 0, 1)), some (mR (8, 0, sl)), some (mI v3), some (mI v4), none, none]) (st' := [mI v3, mI v4]) (S' := (L, I, J, R)) (P := True) [(.iload 4, (0, 0, 0, 0, 0)), (.iload_n 3, (0, 0, 0, 0, 0))] [] (by decide +kernel) rfl trivial ?_
  refine b_icmp_ge (off := 77) (tgt := 113) (by decide +kernel) (by decide) (fun h1 => ?_) (fun h1 => ?_)
  · have hf := if_t h1 hf
    refine b_frg 2 ?_
    refine b_frg 4 ?_
    cases hf
    exact hk
  · have hf := if_f h1 hf
    refine b_blk (pc' := 46) (ls' := [some (mR (7, 0, 170)), some (mR (9, 0, 1)), some (mR (8, 0, sl)), some (mI v3), some (mI v4), none, none]) (st' := [mI (((3 : Int32) * v4) + (2 : Int32)), mR (9, 0, 1)]) (S' := (L, I, J, R)) (P := True) [(.aload_n 1, (0, 0, 0, 0, 0)), (.iconst 3, (0, 0, 0, 3, 0)), (.iload 4, (0, 0, 0, 0, 0)), (.imul, (0, 0, 0, 0, 0)), (.iconst 2, (0, 0, 0, 2, 0)), (.iadd, (0, 0, 0, 0, 0))] [] (by decide +kernel) rfl trivial ?_
    obtain ⟨r2, hc2, hf⟩ := bnd_o hf
    refine b_cV (as := [mI (((3 : Int32) * v4) + (2 : Int32))]) (st := []) (by decide +kernel) k_7_27 n_Tape_byteAt rfl (by decide) v_Tape_byteAt (C_Tape_byteAt I J (((3 : Int32) * v4) + (2 : Int32)) hR hc2) (Nat.le_of_ble_eq_true rfl) (by decide) rfl rfl (fun _ h => h) ?_
    show m_B G (m_rm 2 0 0) M_Seen_readFrom Q 0 0 49 [some (mR (7, 0, 170)), some (mR (9, 0, 1)), some (mR (8, 0, sl)), some (mI v3), some (mI v4), none, none] [mI r2] (L, I, J, R)
    refine b_blk (pc' := 56) (ls' := [some (mR (7, 0, 170)), some (mR (9, 0, 1)), some (mR (8, 0, sl)), some (mI v3), some (mI v4), some (mI r2), none]) (st' := [mI 255, mI r2]) (S' := (L, I, J, R)) (P := True) [(.istore 5, (0, 0, 0, 0, 0)), (.iload 5, (0, 0, 0, 0, 0)), (.sipush 255, (0, 0, 0, 255, 0))] [] (by decide +kernel) rfl trivial ?_
    refine b_icmp_eq (off := 12) (tgt := 68) (by decide +kernel) (by decide) (fun h3 => ?_) (fun h3 => ?_)
    · have hf := if_t h3 hf
      refine b_frg 5 ?_
      exact m_B_cg rfl rfl rfl (W_Seen_readFrom_68 sl I J v3 v4 hR hs hq hf hk)
    · have hf := if_f h3 hf
      refine b_blk (pc' := 62) (ls' := [some (mR (7, 0, 170)), some (mR (9, 0, 1)), some (mR (8, 0, sl)), some (mI v3), some (mI v4), some (mI r2), none]) (st' := [mI r2, mR (8, 0, sl)]) (S' := (L, I, J, R)) (P := True) [(.aload_n 2, (0, 0, 0, 0, 0)), (.iload 5, (0, 0, 0, 0, 0))] [] (by decide +kernel) rfl trivial ?_
      refine b_cV (as := [mI r2]) (st := []) (by decide +kernel) k_7_31 n_Slope_hasFence rfl (by decide) v_Slope_hasFence (c_Slope_hasFence sl r2 ) (Nat.le_of_ble_eq_true rfl) (by decide) rfl rfl (fun _ h => h) ?_
      show m_B _ _ _ _ _ _ 65 [some (mR (7, 0, 170)), some (mR (9, 0, 1)), some (mR (8, 0, sl)), some (mI v3), some (mI v4), some (mI r2), none] [mI (f_Slope_hasFence I sl r2)] (L, I, J, R)
      refine b_if_eq (off := 7) (tgt := 72) (by decide +kernel) (by decide) (fun h4 => ?_) (fun h4 => ?_)
      · have hf := if_t h4 hf
        refine b_blk (pc' := 73) (ls' := [some (mR (7, 0, 170)), some (mR (9, 0, 1)), some (mR (8, 0, sl)), some (mI v3), some (mI v4), some (mI r2), none]) (st' := [mI 0]) (S' := (L, I, J, R)) (P := True) [(.iconst 0, (0, 0, 0, 0, 0))] [] (by decide +kernel) rfl trivial ?_
        refine b_frg 5 ?_
        exact m_B_cg rfl rfl rfl (W_Seen_readFrom_73 sl I J v3 v4 (0 : Int32) hR hs hq hf hk)
      · have hf := if_f h4 hf
        refine b_frg 5 ?_
        exact m_B_cg rfl rfl rfl (W_Seen_readFrom_68 sl I J v3 v4 hR hs hq hf hk)
noncomputable def F_Seen_readFrom_116 (sl : Nat) (I : MI) (v3 : Int32) (v4 : Int32) : Option ((Int32 × MI) ⊕ (MI)) :=
  if v3 ≤ v4 then (some (.inr I)) else ((F_Tape_byteAt I (((3 : Int32) * v4) + (2 : Int32))).bind fun r2 => (F_Tape_byteAt I ((3 : Int32) * v4)).bind fun r3 => gd v4 16 <| (F_Tape_byteAt (m_up I 171 (v4.toNatClampNeg) r3) (((3 : Int32) * v4) + (1 : Int32))).bind fun r5 => gd v4 16 <| if r2 = (255 : Int32) then (gd v4 16 <| some (.inl ((v4 + 1 : Int32), m_up (m_up (m_up I 171 (v4.toNatClampNeg) r3) 172 (v4.toNatClampNeg) r5) 173 (v4.toNatClampNeg) (-1 : Int32)))) else (gd v4 16 <| some (.inl ((v4 + 1 : Int32), m_up (m_up (m_up I 171 (v4.toNatClampNeg) r3) 172 (v4.toNatClampNeg) r5) 173 (v4.toNatClampNeg) r2))))
set_option maxRecDepth 100000 in
set_option maxHeartbeats 400000 in
theorem W_Seen_readFrom_116 {G : MG} {Q : Option MV → MS → Prop} {L : List (Nat × Nat)} {R : Nat → Nat → Option MRef} (sl : Nat) (I : MI) (J : MJ) (v3 : Int32) (v4 : Int32) (hR : RF R) (hs : R 24 1 = some (8, 0, sl)) (hq : sl = 3 ∨ sl = 11) {r : (Int32 × MI) ⊕ (MI)} (hf : F_Seen_readFrom_116 sl I v3 v4 = some r) (hk : (Sum.elim (fun s : Int32 × MI => m_B G (m_rm 2 0 0) M_Seen_readFrom Q 0 0 116 [some (mR (7, 0, 170)), some (mR (9, 0, 1)), none, some (mI v3), some (mI s.1), none, none] [] (L, s.2, J, R)) (fun s : MI => m_B G (m_rm 2 0 0) M_Seen_readFrom Q 0 0 193 [some (mR (7, 0, 170)), none, none, some (mI v3), none, none, none] [] (L, s, J, R))) r) : m_B G (m_rm 2 0 0) M_Seen_readFrom Q 0 0 116 [some (mR (7, 0, 170)), some (mR (9, 0, 1)), none, some (mI v3), some (mI v4), none, none] [] (L, I, J, R) := by
  unfold F_Seen_readFrom_116 at hf
  refine b_blk (pc' := 119) (ls' := [some (mR (7, 0, 170)), some (mR (9, 0, 1)), none, some (mI v3), some (mI v4), none, none]) (st' := [mI v3, mI v4]) (S' := (L, I, J, R)) (P := True) [(.iload 4, (0, 0, 0, 0, 0)), (.iload_n 3, (0, 0, 0, 0, 0))] [] (by decide +kernel) rfl trivial ?_
  refine b_icmp_ge (off := 74) (tgt := 193) (by decide +kernel) (by decide) (fun h1 => ?_) (fun h1 => ?_)
  · have hf := if_t h1 hf
    refine b_frg 1 ?_
    refine b_frg 4 ?_
    cases hf
    exact hk
  · have hf := if_f h1 hf
    refine b_blk (pc' := 129) (ls' := [some (mR (7, 0, 170)), some (mR (9, 0, 1)), none, some (mI v3), some (mI v4), none, none]) (st' := [mI (((3 : Int32) * v4) + (2 : Int32)), mR (9, 0, 1)]) (S' := (L, I, J, R)) (P := True) [(.aload_n 1, (0, 0, 0, 0, 0)), (.iconst 3, (0, 0, 0, 3, 0)), (.iload 4, (0, 0, 0, 0, 0)), (.imul, (0, 0, 0, 0, 0)), (.iconst 2, (0, 0, 0, 2, 0)), (.iadd, (0, 0, 0, 0, 0))] [] (by decide +kernel) rfl trivial ?_
    obtain ⟨r2, hc2, hf⟩ := bnd_o hf
    refine b_cV (as := [mI (((3 : Int32) * v4) + (2 : Int32))]) (st := []) (by decide +kernel) k_7_27 n_Tape_byteAt rfl (by decide) v_Tape_byteAt (C_Tape_byteAt I J (((3 : Int32) * v4) + (2 : Int32)) hR hc2) (Nat.le_of_ble_eq_true rfl) (by decide) rfl rfl (fun _ h => h) ?_
    show m_B G (m_rm 2 0 0) M_Seen_readFrom Q 0 0 132 [some (mR (7, 0, 170)), some (mR (9, 0, 1)), none, some (mI v3), some (mI v4), none, none] [mI r2] (L, I, J, R)
    refine b_blk (pc' := 145) (ls' := [some (mR (7, 0, 170)), some (mR (9, 0, 1)), none, some (mI v3), some (mI v4), some (mI r2), none]) (st' := [mI ((3 : Int32) * v4), mR (9, 0, 1), mI v4, mR (20, 16, 171)]) (S' := (L, I, J, R)) (P := (True ∧ R 170 0 = some (20, 16, 171))) [(.istore 5, (0, 0, 0, 0, 0)), (.aload_n 0, (0, 0, 0, 0, 0)), (.getfield 9, (7, 0, 3, 0, 0)), (.iload 4, (0, 0, 0, 0, 0)), (.aload_n 1, (0, 0, 0, 0, 0)), (.iconst 3, (0, 0, 0, 3, 0)), (.iload 4, (0, 0, 0, 0, 0)), (.imul, (0, 0, 0, 0, 0))] [some (20, 16, 171)] (by decide +kernel) rfl ⟨trivial, (r_170_0 hR)⟩ ?_
    obtain ⟨r3, hc3, hf⟩ := bnd_o hf
    refine b_cV (as := [mI ((3 : Int32) * v4)]) (st := [mI v4, mR (20, 16, 171)]) (by decide +kernel) k_7_27 n_Tape_byteAt rfl (by decide) v_Tape_byteAt (C_Tape_byteAt I J ((3 : Int32) * v4) hR hc3) (Nat.le_of_ble_eq_true rfl) (by decide) rfl rfl (fun _ h => h) ?_
    show m_B G (m_rm 2 0 0) M_Seen_readFrom Q 0 0 148 [some (mR (7, 0, 170)), some (mR (9, 0, 1)), none, some (mI v3), some (mI v4), some (mI r2), none] [mI r3, mI v4, mR (20, 16, 171)] (L, I, J, R)
    obtain ⟨g4, hf⟩ := gd_s hf
    refine b_blk (pc' := 162) (ls' := [some (mR (7, 0, 170)), some (mR (9, 0, 1)), none, some (mI v3), some (mI v4), some (mI r2), none]) (st' := [mI (((3 : Int32) * v4) + (1 : Int32)), mR (9, 0, 1), mI v4, mR (20, 16, 172)]) (S' := (L, m_up I 171 (v4.toNatClampNeg) r3, J, R)) (P := ((True ∧ vp_in v4 16) ∧ R 170 1 = some (20, 16, 172))) [(.iastore, (0, 0, 0, 0, 0)), (.aload_n 0, (0, 0, 0, 0, 0)), (.getfield 15, (7, 1, 3, 0, 0)), (.iload 4, (0, 0, 0, 0, 0)), (.aload_n 1, (0, 0, 0, 0, 0)), (.iconst 3, (0, 0, 0, 3, 0)), (.iload 4, (0, 0, 0, 0, 0)), (.imul, (0, 0, 0, 0, 0)), (.iconst 1, (0, 0, 0, 1, 0)), (.iadd, (0, 0, 0, 0, 0))] [some (20, 16, 172)] (by decide +kernel) rfl ⟨⟨trivial, (in_n (n := 16) (by decide) g4.1 g4.2)⟩, (r_170_1 hR)⟩ ?_
    obtain ⟨r5, hc5, hf⟩ := bnd_o hf
    refine b_cV (as := [mI (((3 : Int32) * v4) + (1 : Int32))]) (st := [mI v4, mR (20, 16, 172)]) (by decide +kernel) k_7_27 n_Tape_byteAt rfl (by decide) v_Tape_byteAt (C_Tape_byteAt (m_up I 171 (v4.toNatClampNeg) r3) J (((3 : Int32) * v4) + (1 : Int32)) hR hc5) (Nat.le_of_ble_eq_true rfl) (by decide) rfl rfl (fun _ h => h) ?_
    show m_B G (m_rm 2 0 0) M_Seen_readFrom Q 0 0 165 [some (mR (7, 0, 170)), some (mR (9, 0, 1)), none, some (mI v3), some (mI v4), some (mI r2), none] [mI r5, mI v4, mR (20, 16, 172)] (L, m_up I 171 (v4.toNatClampNeg) r3, J, R)
    obtain ⟨g6, hf⟩ := gd_s hf
    refine b_blk (pc' := 177) (ls' := [some (mR (7, 0, 170)), some (mR (9, 0, 1)), none, some (mI v3), some (mI v4), some (mI r2), none]) (st' := [mI 255, mI r2, mI v4, mR (20, 16, 173)]) (S' := (L, m_up (m_up I 171 (v4.toNatClampNeg) r3) 172 (v4.toNatClampNeg) r5, J, R)) (P := ((True ∧ vp_in v4 16) ∧ R 170 2 = some (20, 16, 173))) [(.iastore, (0, 0, 0, 0, 0)), (.aload_n 0, (0, 0, 0, 0, 0)), (.getfield 18, (7, 2, 3, 0, 0)), (.iload 4, (0, 0, 0, 0, 0)), (.iload 5, (0, 0, 0, 0, 0)), (.sipush 255, (0, 0, 0, 255, 0))] [some (20, 16, 173)] (by decide +kernel) rfl ⟨⟨trivial, (in_n (n := 16) (by decide) g6.1 g6.2)⟩, (r_170_2 hR)⟩ ?_
    refine b_icmp_ne (off := 7) (tgt := 184) (by decide +kernel) (by decide) (fun h7 => ?_) (fun h7 => ?_)
    · have hf := if_f h7 hf
      obtain ⟨g8, hf⟩ := gd_s hf
      refine b_blk (pc' := 116) (ls' := [some (mR (7, 0, 170)), some (mR (9, 0, 1)), none, some (mI v3), some (mI (v4 + 1)), some (mI r2), none]) (st' := []) (S' := (L, m_up (m_up (m_up I 171 (v4.toNatClampNeg) r3) 172 (v4.toNatClampNeg) r5) 173 (v4.toNatClampNeg) r2, J, R)) (P := (True ∧ vp_in v4 16)) [(.iload 5, (0, 0, 0, 0, 0)), (.iastore, (0, 0, 0, 0, 0)), (.iinc 4 1, (0, 0, 0, 1, 0)), (.goto (-74), (0, 116, 0, 0, 0))] [] (by decide +kernel) rfl ⟨trivial, (in_n (n := 16) (by decide) g8.1 g8.2)⟩ ?_
      refine b_frg 5 ?_
      cases hf
      exact hk
    · have hf := if_t h7 hf
      refine b_blk (pc' := 186) (ls' := [some (mR (7, 0, 170)), some (mR (9, 0, 1)), none, some (mI v3), some (mI v4), some (mI r2), none]) (st' := [mI (-1), mI v4, mR (20, 16, 173)]) (S' := (L, m_up (m_up I 171 (v4.toNatClampNeg) r3) 172 (v4.toNatClampNeg) r5, J, R)) (P := True) [(.iconst (-1), (0, 0, 0, (-1), 0)), (.goto 5, (0, 186, 0, 0, 0))] [] (by decide +kernel) rfl trivial ?_
      obtain ⟨g9, hf⟩ := gd_s hf
      refine b_blk (pc' := 116) (ls' := [some (mR (7, 0, 170)), some (mR (9, 0, 1)), none, some (mI v3), some (mI (v4 + 1)), some (mI r2), none]) (st' := []) (S' := (L, m_up (m_up (m_up I 171 (v4.toNatClampNeg) r3) 172 (v4.toNatClampNeg) r5) 173 (v4.toNatClampNeg) (-1 : Int32), J, R)) (P := (True ∧ vp_in v4 16)) [(.iastore, (0, 0, 0, 0, 0)), (.iinc 4 1, (0, 0, 0, 1, 0)), (.goto (-74), (0, 116, 0, 0, 0))] [] (by decide +kernel) rfl ⟨trivial, (in_n (n := 16) (by decide) g9.1 g9.2)⟩ ?_
      refine b_frg 5 ?_
      cases hf
      exact hk
noncomputable def F_Seen_readFrom (sl : Nat) (I : MI) : Option (Int32 × MI) :=
  if ((I 1 1) / (3 : Int32)) < (1 : Int32) then (some ((0 : Int32), I)) else (if (16 : Int32) < ((I 1 1) / (3 : Int32)) then (some ((0 : Int32), I)) else (if (((I 1 1) / (3 : Int32)) * (3 : Int32)) = (I 1 1) then ((wl (fun s : Int32 => F_Seen_readFrom_33 sl I ((I 1 1) / (3 : Int32)) s) (0 : Int32)).bind <| sel (fun q => some q) fun t4 => (wl (fun s : Int32 × MI => F_Seen_readFrom_116 sl s.2 ((I 1 1) / (3 : Int32)) s.1) ((0 : Int32), I)).bind fun t5 => some ((1 : Int32), m_up t5 170 3 ((I 1 1) / (3 : Int32)))) else (some ((0 : Int32), I))))
set_option maxRecDepth 100000 in
set_option maxHeartbeats 400000 in
theorem W_Seen_readFrom {G : MG} {Q : Option MV → MS → Prop} {L : List (Nat × Nat)} {R : Nat → Nat → Option MRef} (sl : Nat) (I : MI) (J : MJ) (hR : RF R) (hs : R 24 1 = some (8, 0, sl)) (hq : sl = 3 ∨ sl = 11) {r : Int32 × MI} (hf : F_Seen_readFrom sl I = some r) (hk : (fun r : Int32 × MI => Q (some (mI r.1)) (L, r.2, J, R)) r) : m_B G (m_rm 2 0 0) M_Seen_readFrom Q 0 0 0 [some (mR (7, 0, 170)), some (mR (9, 0, 1)), some (mR (8, 0, sl)), none, none, none, none] [] (L, I, J, R) := by
  unfold F_Seen_readFrom at hf
  refine b_blk (pc' := 9) (ls' := [some (mR (7, 0, 170)), some (mR (9, 0, 1)), some (mR (8, 0, sl)), some (mI ((I 1 1) / (3 : Int32))), none, none, none]) (st' := [mI 1, mI ((I 1 1) / (3 : Int32))]) (S' := (L, I, J, R)) (P := (True ∧ ¬ (3 : Int32) = 0)) [(.aload_n 1, (0, 0, 0, 0, 0)), (.getfield 21, (9, 1, 0, 0, 0)), (.iconst 3, (0, 0, 0, 3, 0)), (.idiv, (0, 0, 0, 0, 0)), (.istore_n 3, (0, 0, 0, 0, 0)), (.iload_n 3, (0, 0, 0, 0, 0)), (.iconst 1, (0, 0, 0, 1, 0))] [] (by decide +kernel) rfl ⟨trivial, (by decide)⟩ ?_
  refine b_icmp_lt (off := 19) (tgt := 28) (by decide +kernel) (by decide) (fun h1 => ?_) (fun h1 => ?_)
  · have hf := if_t h1 hf
    refine b_blk (pc' := 29) (ls' := [some (mR (7, 0, 170)), some (mR (9, 0, 1)), some (mR (8, 0, sl)), some (mI ((I 1 1) / (3 : Int32))), none, none, none]) (st' := [mI 0]) (S' := (L, I, J, R)) (P := True) [(.iconst 0, (0, 0, 0, 0, 0))] [] (by decide +kernel) rfl trivial ?_
    cases hf
    exact b_zret (by decide +kernel) rfl (by decide) hk
  · have hf := if_f h1 hf
    refine b_blk (pc' := 15) (ls' := [some (mR (7, 0, 170)), some (mR (9, 0, 1)), some (mR (8, 0, sl)), some (mI ((I 1 1) / (3 : Int32))), none, none, none]) (st' := [mI 16, mI ((I 1 1) / (3 : Int32))]) (S' := (L, I, J, R)) (P := True) [(.iload_n 3, (0, 0, 0, 0, 0)), (.bipush 16, (0, 0, 0, 16, 0))] [] (by decide +kernel) rfl trivial ?_
    refine b_icmp_gt (off := 13) (tgt := 28) (by decide +kernel) (by decide) (fun h2 => ?_) (fun h2 => ?_)
    · have hf := if_t h2 hf
      refine b_blk (pc' := 29) (ls' := [some (mR (7, 0, 170)), some (mR (9, 0, 1)), some (mR (8, 0, sl)), some (mI ((I 1 1) / (3 : Int32))), none, none, none]) (st' := [mI 0]) (S' := (L, I, J, R)) (P := True) [(.iconst 0, (0, 0, 0, 0, 0))] [] (by decide +kernel) rfl trivial ?_
      cases hf
      exact b_zret (by decide +kernel) rfl (by decide) hk
    · have hf := if_f h2 hf
      refine b_blk (pc' := 25) (ls' := [some (mR (7, 0, 170)), some (mR (9, 0, 1)), some (mR (8, 0, sl)), some (mI ((I 1 1) / (3 : Int32))), none, none, none]) (st' := [mI (I 1 1), mI (((I 1 1) / (3 : Int32)) * (3 : Int32))]) (S' := (L, I, J, R)) (P := True) [(.iload_n 3, (0, 0, 0, 0, 0)), (.iconst 3, (0, 0, 0, 3, 0)), (.imul, (0, 0, 0, 0, 0)), (.aload_n 1, (0, 0, 0, 0, 0)), (.getfield 21, (9, 1, 0, 0, 0))] [] (by decide +kernel) rfl trivial ?_
      refine b_icmp_eq (off := 5) (tgt := 30) (by decide +kernel) (by decide) (fun h3 => ?_) (fun h3 => ?_)
      · have hf := if_t h3 hf
        refine b_blk (pc' := 33) (ls' := [some (mR (7, 0, 170)), some (mR (9, 0, 1)), some (mR (8, 0, sl)), some (mI ((I 1 1) / (3 : Int32))), some (mI 0), none, none]) (st' := []) (S' := (L, I, J, R)) (P := True) [(.iconst 0, (0, 0, 0, 0, 0)), (.istore 4, (0, 0, 0, 0, 0))] [] (by decide +kernel) rfl trivial ?_
        obtain ⟨t4, hw, hf⟩ := bnd_o hf
        refine wl_B (A := fun s : Int32 => m_B G (m_rm 2 0 0) M_Seen_readFrom Q 0 0 33 [some (mR (7, 0, 170)), some (mR (9, 0, 1)), some (mR (8, 0, sl)), some (mI ((I 1 1) / (3 : Int32))), some (mI s), none, none] [] (L, I, J, R)) (B := (Sum.elim (fun s : Unit => m_B G (m_rm 2 0 0) M_Seen_readFrom Q 0 0 113 [some (mR (7, 0, 170)), some (mR (9, 0, 1)), none, some (mI ((I 1 1) / (3 : Int32))), none, none, none] [] (L, I, J, R)) (fun r : Int32 × MI => Q (some (mI r.1)) (L, r.2, J, R)))) (fun s r hs_ hr => W_Seen_readFrom_33 sl I J ((I 1 1) / (3 : Int32)) s hR hs hq hs_ hr) hw ?_
        rcases t4 with t4 | q
        rotate_left
        · cases se_r hf; exact hk
        replace hf := se_l hf
        show m_B G (m_rm 2 0 0) M_Seen_readFrom Q 0 0 113 [some (mR (7, 0, 170)), some (mR (9, 0, 1)), none, some (mI ((I 1 1) / (3 : Int32))), none, none, none] [] (L, I, J, R)
        refine b_blk (pc' := 116) (ls' := [some (mR (7, 0, 170)), some (mR (9, 0, 1)), none, some (mI ((I 1 1) / (3 : Int32))), some (mI 0), none, none]) (st' := []) (S' := (L, I, J, R)) (P := True) [(.iconst 0, (0, 0, 0, 0, 0)), (.istore 4, (0, 0, 0, 0, 0))] [] (by decide +kernel) rfl trivial ?_
        obtain ⟨t5, hw, hf⟩ := bnd_o hf
        refine wl_B (A := fun s : Int32 × MI => m_B G (m_rm 2 0 0) M_Seen_readFrom Q 0 0 116 [some (mR (7, 0, 170)), some (mR (9, 0, 1)), none, some (mI ((I 1 1) / (3 : Int32))), some (mI s.1), none, none] [] (L, s.2, J, R)) (B := (fun s : MI => m_B G (m_rm 2 0 0) M_Seen_readFrom Q 0 0 193 [some (mR (7, 0, 170)), none, none, some (mI ((I 1 1) / (3 : Int32))), none, none, none] [] (L, s, J, R))) (fun s r hs_ hr => W_Seen_readFrom_116 sl s.2 J ((I 1 1) / (3 : Int32)) s.1 hR hs hq hs_ hr) hw ?_
        show m_B G (m_rm 2 0 0) M_Seen_readFrom Q 0 0 193 [some (mR (7, 0, 170)), none, none, some (mI ((I 1 1) / (3 : Int32))), none, none, none] [] (L, t5, J, R)
        refine b_blk (pc' := 199) (ls' := [some (mR (7, 0, 170)), none, none, some (mI ((I 1 1) / (3 : Int32))), none, none, none]) (st' := [mI 1]) (S' := (L, m_up t5 170 3 ((I 1 1) / (3 : Int32)), J, R)) (P := True) [(.aload_n 0, (0, 0, 0, 0, 0)), (.iload_n 3, (0, 0, 0, 0, 0)), (.putfield 41, (7, 3, 0, 0, 0)), (.iconst 1, (0, 0, 0, 1, 0))] [] (by decide +kernel) rfl trivial ?_
        cases hf
        exact b_zret (by decide +kernel) rfl (by decide) hk
      · have hf := if_f h3 hf
        refine b_blk (pc' := 29) (ls' := [some (mR (7, 0, 170)), some (mR (9, 0, 1)), some (mR (8, 0, sl)), some (mI ((I 1 1) / (3 : Int32))), none, none, none]) (st' := [mI 0]) (S' := (L, I, J, R)) (P := True) [(.iconst 0, (0, 0, 0, 0, 0))] [] (by decide +kernel) rfl trivial ?_
        cases hf
        exact b_zret (by decide +kernel) rfl (by decide) hk
theorem C_Seen_readFrom {G : MG} {L : List (Nat × Nat)} {R : Nat → Nat → Option MRef} (sl : Nat) (I : MI) (J : MJ) (hR : RF R) (hs : R 24 1 = some (8, 0, sl)) (hq : sl = 3 ∨ sl = 11) {r : Int32 × MI} (hf : F_Seen_readFrom sl I = some r) : m_met G 2 0 0 y_Seen_readFrom M_Seen_readFrom [mR (7, 0, 170), mR (9, 0, 1), mR (8, 0, sl)] (L, I, J, R) (m_is (some (mI r.1)) (L, r.2, J, R)) :=
  m_met_in n_Seen_readFrom (plainFor_of_name (by decide)) (by decide) (Nat.le_of_ble_eq_true rfl) (ls := [some (mR (7, 0, 170)), some (mR (9, 0, 1)), some (mR (8, 0, sl)), none, none, none, none]) rfl (W_Seen_readFrom sl I J hR hs hq hf ⟨rfl, rfl⟩)
noncomputable def F_Foresight_isAtRest_2 (sl : Nat) (I : MI) (v1 : Int32) (v2 : Int32) : Option ((Int32 × MI) ⊕ (MI)) :=
  if (I sl 3) ≤ v2 then (some (.inr I)) else (if ((v1 >>> (v2 &&& 31)) &&& (1 : Int32)) = (0 : Int32) then (some (.inl ((v2 + 1 : Int32), gI_Lay_takeStakes I 31 35 v2))) else (some (.inl ((v2 + 1 : Int32), gI_Lay_takeStakes I 31 39 v2))))
set_option maxRecDepth 100000 in
set_option maxHeartbeats 400000 in
theorem W_Foresight_isAtRest_2 {G : MG} {Q : Option MV → MS → Prop} {L : List (Nat × Nat)} {R : Nat → Nat → Option MRef} (sl : Nat) (I : MI) (J : MJ) (v1 : Int32) (v2 : Int32) (hR : RF R) (hs : R 24 1 = some (8, 0, sl)) (hq : sl = 3 ∨ sl = 11) {r : (Int32 × MI) ⊕ (MI)} (hf : F_Foresight_isAtRest_2 sl I v1 v2 = some r) (hk : (Sum.elim (fun s : Int32 × MI => m_B G (m_rm 5 0 0) M_Foresight_isAtRest Q 0 0 2 [some (mR (0, 0, 30)), some (mI v1), some (mI s.1), none, none, none] [] (L, s.2, J, R)) (fun s : MI => m_B G (m_rm 5 0 0) M_Foresight_isAtRest Q 0 0 49 [some (mR (0, 0, 30)), some (mI v1), none, none, none, none] [] (L, s, J, R))) r) : m_B G (m_rm 5 0 0) M_Foresight_isAtRest Q 0 0 2 [some (mR (0, 0, 30)), some (mI v1), some (mI v2), none, none, none] [] (L, I, J, R) := by
  unfold F_Foresight_isAtRest_2 at hf
  refine b_blk (pc' := 13) (ls' := [some (mR (0, 0, 30)), some (mI v1), some (mI v2), none, none, none]) (st' := [mI (I sl 3), mI v2]) (S' := (L, I, J, R)) (P := ((True ∧ R 30 1 = some (10, 0, 24)) ∧ R 24 1 = some (8, 0, sl))) [(.iload_n 2, (0, 0, 0, 0, 0)), (.aload_n 0, (0, 0, 0, 0, 0)), (.getfield 38, (0, 1, 3, 0, 0)), (.getfield 60, (10, 1, 3, 0, 0)), (.getfield 114, (8, 3, 0, 0, 0))] [some (10, 0, 24), some (8, 0, sl)] (by decide +kernel) rfl ⟨⟨trivial, (r_30_1 hR)⟩, hs⟩ ?_
  refine b_icmp_ge (off := 36) (tgt := 49) (by decide +kernel) (by decide) (fun h1 => ?_) (fun h1 => ?_)
  · have hf := if_t h1 hf
    refine b_frg 2 ?_
    cases hf
    exact hk
  · have hf := if_f h1 hf
    refine b_blk (pc' := 25) (ls' := [some (mR (0, 0, 30)), some (mI v1), some (mI v2), none, none, none]) (st' := [mI ((v1 >>> (v2 &&& 31)) &&& (1 : Int32)), mR (3, 0, 31)]) (S' := (L, I, J, R)) (P := (True ∧ R 30 2 = some (3, 0, 31))) [(.aload_n 0, (0, 0, 0, 0, 0)), (.getfield 12, (0, 2, 3, 0, 0)), (.iload_n 1, (0, 0, 0, 0, 0)), (.iload_n 2, (0, 0, 0, 0, 0)), (.ishr, (0, 0, 0, 0, 0)), (.iconst 1, (0, 0, 0, 1, 0)), (.iand, (0, 0, 0, 0, 0))] [some (3, 0, 31)] (by decide +kernel) rfl ⟨trivial, (r_30_2 hR)⟩ ?_
    refine b_if_eq (off := 10) (tgt := 35) (by decide +kernel) (by decide) (fun h2 => ?_) (fun h2 => ?_)
    · have hf := if_t h2 hf
      refine b_blk (pc' := 40) (ls' := [some (mR (0, 0, 30)), some (mI v1), some (mI v2), none, none, none]) (st' := [mI v2, mR (3, 0, 35), mR (3, 0, 31)]) (S' := (L, I, J, R)) (P := (True ∧ R 30 3 = some (3, 0, 35))) [(.aload_n 0, (0, 0, 0, 0, 0)), (.getfield 18, (0, 3, 3, 0, 0)), (.iload_n 2, (0, 0, 0, 0, 0))] [some (3, 0, 35)] (by decide +kernel) rfl ⟨trivial, (r_30_3 hR)⟩ ?_
      refine b_cV (as := [mR (3, 0, 35), mI v2]) (st := []) (by decide +kernel) k_0_144 n_Lay_takeStakes rfl (by decide) v_Lay_takeStakes (c_Lay_takeStakes 31 35 v2 (ly_31 hR) (ly_35 hR)) (Nat.le_of_ble_eq_true rfl) (by decide) rfl rfl (fun _ h => h) ?_
      show m_B _ _ _ _ _ _ 43 [some (mR (0, 0, 30)), some (mI v1), some (mI v2), none, none, none] [] (L, gI_Lay_takeStakes I 31 35 v2, J, R)
      refine b_blk (pc' := 2) (ls' := [some (mR (0, 0, 30)), some (mI v1), some (mI (v2 + 1)), none, none, none]) (st' := []) (S' := (L, gI_Lay_takeStakes I 31 35 v2, J, R)) (P := True) [(.iinc 2 1, (0, 0, 0, 1, 0)), (.goto (-44), (0, 2, 0, 0, 0))] [] (by decide +kernel) rfl trivial ?_
      cases hf
      exact hk
    · have hf := if_f h2 hf
      refine b_blk (pc' := 39) (ls' := [some (mR (0, 0, 30)), some (mI v1), some (mI v2), none, none, none]) (st' := [mR (3, 0, 39), mR (3, 0, 31)]) (S' := (L, I, J, R)) (P := (True ∧ R 30 4 = some (3, 0, 39))) [(.aload_n 0, (0, 0, 0, 0, 0)), (.getfield 21, (0, 4, 3, 0, 0)), (.goto 7, (0, 39, 0, 0, 0))] [some (3, 0, 39)] (by decide +kernel) rfl ⟨trivial, (r_30_4 hR)⟩ ?_
      refine b_blk (pc' := 40) (ls' := [some (mR (0, 0, 30)), some (mI v1), some (mI v2), none, none, none]) (st' := [mI v2, mR (3, 0, 39), mR (3, 0, 31)]) (S' := (L, I, J, R)) (P := True) [(.iload_n 2, (0, 0, 0, 0, 0))] [] (by decide +kernel) rfl trivial ?_
      refine b_cV (as := [mR (3, 0, 39), mI v2]) (st := []) (by decide +kernel) k_0_144 n_Lay_takeStakes rfl (by decide) v_Lay_takeStakes (c_Lay_takeStakes 31 39 v2 (ly_31 hR) (ly_39 hR)) (Nat.le_of_ble_eq_true rfl) (by decide) rfl rfl (fun _ h => h) ?_
      show m_B _ _ _ _ _ _ 43 [some (mR (0, 0, 30)), some (mI v1), some (mI v2), none, none, none] [] (L, gI_Lay_takeStakes I 31 39 v2, J, R)
      refine b_blk (pc' := 2) (ls' := [some (mR (0, 0, 30)), some (mI v1), some (mI (v2 + 1)), none, none, none]) (st' := []) (S' := (L, gI_Lay_takeStakes I 31 39 v2, J, R)) (P := True) [(.iinc 2 1, (0, 0, 0, 1, 0)), (.goto (-44), (0, 2, 0, 0, 0))] [] (by decide +kernel) rfl trivial ?_
      cases hf
      exact hk
noncomputable def F_Foresight_isAtRest_78 (sl : Nat) (I : MI) (v1 : Int32) (v2 : Int32) (y0 : Int32) : Option ((Int32 × MI) ⊕ ((MI) ⊕ (Int32 × MI))) :=
  if y0 = (0 : Int32) then (if y0 = (0 : Int32) then (if (l_field (gI_Lay_takeStakes I 31 39 v2) 31 v2 ((gI_Lay_takeStakes I 31 39 v2) sl 2) 6) ≤ (l_field I 31 v2 (I sl 2) 6) then (some (.inl ((v2 + 1 : Int32), gI_Lay_takeStakes (gI_Lay_takeStakes I 31 39 v2) 31 35 v2))) else (some (.inr (.inr ((0 : Int32), gI_Lay_takeStakes (gI_Lay_takeStakes I 31 39 v2) 31 35 v2))))) else (if (l_field (gI_Lay_takeStakes I 31 39 v2) 31 v2 ((gI_Lay_takeStakes I 31 39 v2) sl 2) 6) ≤ (l_field I 31 v2 (I sl 2) 6) then (some (.inl ((v2 + 1 : Int32), gI_Lay_takeStakes (gI_Lay_takeStakes I 31 39 v2) 31 39 v2))) else (some (.inr (.inr ((0 : Int32), gI_Lay_takeStakes (gI_Lay_takeStakes I 31 39 v2) 31 39 v2)))))) else (if y0 = (0 : Int32) then (if (l_field (gI_Lay_takeStakes I 31 35 v2) 31 v2 ((gI_Lay_takeStakes I 31 35 v2) sl 2) 6) ≤ (l_field I 31 v2 (I sl 2) 6) then (some (.inl ((v2 + 1 : Int32), gI_Lay_takeStakes (gI_Lay_takeStakes I 31 35 v2) 31 35 v2))) else (some (.inr (.inr ((0 : Int32), gI_Lay_takeStakes (gI_Lay_takeStakes I 31 35 v2) 31 35 v2))))) else (if (l_field (gI_Lay_takeStakes I 31 35 v2) 31 v2 ((gI_Lay_takeStakes I 31 35 v2) sl 2) 6) ≤ (l_field I 31 v2 (I sl 2) 6) then (some (.inl ((v2 + 1 : Int32), gI_Lay_takeStakes (gI_Lay_takeStakes I 31 35 v2) 31 39 v2))) else (some (.inr (.inr ((0 : Int32), gI_Lay_takeStakes (gI_Lay_takeStakes I 31 35 v2) 31 39 v2))))))
set_option maxRecDepth 100000 in
set_option maxHeartbeats 400000 in
theorem W_Foresight_isAtRest_78 {G : MG} {Q : Option MV → MS → Prop} {L : List (Nat × Nat)} {R : Nat → Nat → Option MRef} (sl : Nat) (I : MI) (J : MJ) (v1 : Int32) (v2 : Int32) (y0 : Int32) (hR : RF R) (hs : R 24 1 = some (8, 0, sl)) (hq : sl = 3 ∨ sl = 11) {r : (Int32 × MI) ⊕ ((MI) ⊕ (Int32 × MI))} (hf : F_Foresight_isAtRest_78 sl I v1 v2 y0 = some r) (hk : (Sum.elim (fun s : Int32 × MI => m_B G (m_rm 5 0 0) M_Foresight_isAtRest Q 0 0 51 [some (mR (0, 0, 30)), some (mI v1), some (mI s.1), none, none, none] [] (L, s.2, J, R)) (Sum.elim (fun s : MI => m_B G (m_rm 5 0 0) M_Foresight_isAtRest Q 0 0 180 [none, none, none, none, none, none] [] (L, s, J, R)) (fun r : Int32 × MI => Q (some (mI r.1)) (L, r.2, J, R)))) r) : m_B G (m_rm 5 0 0) M_Foresight_isAtRest Q 0 0 78 [some (mR (0, 0, 30)), some (mI v1), some (mI v2), none, none, none] [mI y0] (L, I, J, R) := by
  unfold F_Foresight_isAtRest_78 at hf
  refine b_blk (pc' := 94) (ls' := [some (mR (0, 0, 30)), some (mI v1), some (mI v2), some (mI y0), none, none]) (st' := [mI (I sl 2), mI v2, mR (3, 0, 31)]) (S' := (L, I, J, R)) (P := (((True ∧ R 30 2 = some (3, 0, 31)) ∧ R 30 1 = some (10, 0, 24)) ∧ R 24 1 = some (8, 0, sl))) [(.istore_n 3, (0, 0, 0, 0, 0)), (.aload_n 0, (0, 0, 0, 0, 0)), (.getfield 12, (0, 2, 3, 0, 0)), (.iload_n 2, (0, 0, 0, 0, 0)), (.aload_n 0, (0, 0, 0, 0, 0)), (.getfield 38, (0, 1, 3, 0, 0)), (.getfield 60, (10, 1, 3, 0, 0)), (.getfield 73, (8, 2, 0, 0, 0))] [some (3, 0, 31), some (10, 0, 24), some (8, 0, sl)] (by decide +kernel) rfl ⟨⟨⟨trivial, (r_30_2 hR)⟩, (r_30_1 hR)⟩, hs⟩ ?_
  refine b_cV (as := [mI v2, mI (I sl 2)]) (st := []) (by decide +kernel) k_0_76 n_Lay_fieldOf rfl (by decide) v_Lay_fieldOf (c_Lay_fieldOf 31 v2 (I sl 2) (ly_31 hR)) (Nat.le_of_ble_eq_true rfl) (by decide) rfl rfl (fun _ h => h) ?_
  show m_B _ _ _ _ _ _ 97 [some (mR (0, 0, 30)), some (mI v1), some (mI v2), some (mI y0), none, none] [mI (l_field I 31 v2 (I sl 2) 6)] (L, I, J, R)
  refine b_blk (pc' := 104) (ls' := [some (mR (0, 0, 30)), some (mI v1), some (mI v2), some (mI y0), some (mI (l_field I 31 v2 (I sl 2) 6)), none]) (st' := [mI y0, mR (3, 0, 31)]) (S' := (L, I, J, R)) (P := (True ∧ R 30 2 = some (3, 0, 31))) [(.istore 4, (0, 0, 0, 0, 0)), (.aload_n 0, (0, 0, 0, 0, 0)), (.getfield 12, (0, 2, 3, 0, 0)), (.iload_n 3, (0, 0, 0, 0, 0))] [some (3, 0, 31)] (by decide +kernel) rfl ⟨trivial, (r_30_2 hR)⟩ ?_
  refine b_if_eq (off := 10) (tgt := 114) (by decide +kernel) (by decide) (fun h1 => ?_) (fun h1 => ?_)
  · have hf := if_t h1 hf
    refine b_blk (pc' := 119) (ls' := [some (mR (0, 0, 30)), some (mI v1), some (mI v2), some (mI y0), some (mI (l_field I 31 v2 (I sl 2) 6)), none]) (st' := [mI v2, mR (3, 0, 39), mR (3, 0, 31)]) (S' := (L, I, J, R)) (P := (True ∧ R 30 4 = some (3, 0, 39))) [(.aload_n 0, (0, 0, 0, 0, 0)), (.getfield 21, (0, 4, 3, 0, 0)), (.iload_n 2, (0, 0, 0, 0, 0))] [some (3, 0, 39)] (by decide +kernel) rfl ⟨trivial, (r_30_4 hR)⟩ ?_
    refine b_cV (as := [mR (3, 0, 39), mI v2]) (st := []) (by decide +kernel) k_0_144 n_Lay_takeStakes rfl (by decide) v_Lay_takeStakes (c_Lay_takeStakes 31 39 v2 (ly_31 hR) (ly_39 hR)) (Nat.le_of_ble_eq_true rfl) (by decide) rfl rfl (fun _ h => h) ?_
    show m_B _ _ _ _ _ _ 122 [some (mR (0, 0, 30)), some (mI v1), some (mI v2), some (mI y0), some (mI (l_field I 31 v2 (I sl 2) 6)), none] [] (L, gI_Lay_takeStakes I 31 39 v2, J, R)
    refine b_blk (pc' := 137) (ls' := [some (mR (0, 0, 30)), some (mI v1), some (mI v2), some (mI y0), some (mI (l_field I 31 v2 (I sl 2) 6)), none]) (st' := [mI ((gI_Lay_takeStakes I 31 39 v2) sl 2), mI v2, mR (3, 0, 31)]) (S' := (L, gI_Lay_takeStakes I 31 39 v2, J, R)) (P := (((True ∧ R 30 2 = some (3, 0, 31)) ∧ R 30 1 = some (10, 0, 24)) ∧ R 24 1 = some (8, 0, sl))) [(.aload_n 0, (0, 0, 0, 0, 0)), (.getfield 12, (0, 2, 3, 0, 0)), (.iload_n 2, (0, 0, 0, 0, 0)), (.aload_n 0, (0, 0, 0, 0, 0)), (.getfield 38, (0, 1, 3, 0, 0)), (.getfield 60, (10, 1, 3, 0, 0)), (.getfield 73, (8, 2, 0, 0, 0))] [some (3, 0, 31), some (10, 0, 24), some (8, 0, sl)] (by decide +kernel) rfl ⟨⟨⟨trivial, (r_30_2 hR)⟩, (r_30_1 hR)⟩, hs⟩ ?_
    refine b_cV (as := [mI v2, mI ((gI_Lay_takeStakes I 31 39 v2) sl 2)]) (st := []) (by decide +kernel) k_0_76 n_Lay_fieldOf rfl (by decide) v_Lay_fieldOf (c_Lay_fieldOf 31 v2 ((gI_Lay_takeStakes I 31 39 v2) sl 2) (ly_31 hR)) (Nat.le_of_ble_eq_true rfl) (by decide) rfl rfl (fun _ h => h) ?_
    show m_B _ _ _ _ _ _ 140 [some (mR (0, 0, 30)), some (mI v1), some (mI v2), some (mI y0), some (mI (l_field I 31 v2 (I sl 2) 6)), none] [mI (l_field (gI_Lay_takeStakes I 31 39 v2) 31 v2 ((gI_Lay_takeStakes I 31 39 v2) sl 2) 6)] (L, (gI_Lay_takeStakes I 31 39 v2), J, R)
    refine b_blk (pc' := 147) (ls' := [some (mR (0, 0, 30)), some (mI v1), some (mI v2), some (mI y0), some (mI (l_field I 31 v2 (I sl 2) 6)), some (mI (l_field (gI_Lay_takeStakes I 31 39 v2) 31 v2 ((gI_Lay_takeStakes I 31 39 v2) sl 2) 6))]) (st' := [mI y0, mR (3, 0, 31)]) (S' := (L, (gI_Lay_takeStakes I 31 39 v2), J, R)) (P := (True ∧ R 30 2 = some (3, 0, 31))) [(.istore 5, (0, 0, 0, 0, 0)), (.aload_n 0, (0, 0, 0, 0, 0)), (.getfield 12, (0, 2, 3, 0, 0)), (.iload_n 3, (0, 0, 0, 0, 0))] [some (3, 0, 31)] (by decide +kernel) rfl ⟨trivial, (r_30_2 hR)⟩ ?_
    refine b_if_eq (off := 10) (tgt := 157) (by decide +kernel) (by decide) (fun h2 => ?_) (fun h2 => ?_)
    · have hf := if_t h2 hf
      refine b_blk (pc' := 162) (ls' := [some (mR (0, 0, 30)), some (mI v1), some (mI v2), some (mI y0), some (mI (l_field I 31 v2 (I sl 2) 6)), some (mI (l_field (gI_Lay_takeStakes I 31 39 v2) 31 v2 ((gI_Lay_takeStakes I 31 39 v2) sl 2) 6))]) (st' := [mI v2, mR (3, 0, 35), mR (3, 0, 31)]) (S' := (L, (gI_Lay_takeStakes I 31 39 v2), J, R)) (P := (True ∧ R 30 3 = some (3, 0, 35))) [(.aload_n 0, (0, 0, 0, 0, 0)), (.getfield 18, (0, 3, 3, 0, 0)), (.iload_n 2, (0, 0, 0, 0, 0))] [some (3, 0, 35)] (by decide +kernel) rfl ⟨trivial, (r_30_3 hR)⟩ ?_
      refine b_cV (as := [mR (3, 0, 35), mI v2]) (st := []) (by decide +kernel) k_0_144 n_Lay_takeStakes rfl (by decide) v_Lay_takeStakes (c_Lay_takeStakes 31 35 v2 (ly_31 hR) (ly_35 hR)) (Nat.le_of_ble_eq_true rfl) (by decide) rfl rfl (fun _ h => h) ?_
      show m_B _ _ _ _ _ _ 165 [some (mR (0, 0, 30)), some (mI v1), some (mI v2), some (mI y0), some (mI (l_field I 31 v2 (I sl 2) 6)), some (mI (l_field (gI_Lay_takeStakes I 31 39 v2) 31 v2 ((gI_Lay_takeStakes I 31 39 v2) sl 2) 6))] [] (L, gI_Lay_takeStakes (gI_Lay_takeStakes I 31 39 v2) 31 35 v2, J, R)
      refine b_blk (pc' := 169) (ls' := [some (mR (0, 0, 30)), some (mI v1), some (mI v2), some (mI y0), some (mI (l_field I 31 v2 (I sl 2) 6)), some (mI (l_field (gI_Lay_takeStakes I 31 39 v2) 31 v2 ((gI_Lay_takeStakes I 31 39 v2) sl 2) 6))]) (st' := [mI (l_field I 31 v2 (I sl 2) 6), mI (l_field (gI_Lay_takeStakes I 31 39 v2) 31 v2 ((gI_Lay_takeStakes I 31 39 v2) sl 2) 6)]) (S' := (L, gI_Lay_takeStakes (gI_Lay_takeStakes I 31 39 v2) 31 35 v2, J, R)) (P := True) [(.iload 5, (0, 0, 0, 0, 0)), (.iload 4, (0, 0, 0, 0, 0))] [] (by decide +kernel) rfl trivial ?_
      refine b_icmp_le (off := 5) (tgt := 174) (by decide +kernel) (by decide) (fun h3 => ?_) (fun h3 => ?_)
      · have hf := if_t h3 hf
        refine b_blk (pc' := 51) (ls' := [some (mR (0, 0, 30)), some (mI v1), some (mI (v2 + 1)), some (mI y0), some (mI (l_field I 31 v2 (I sl 2) 6)), some (mI (l_field (gI_Lay_takeStakes I 31 39 v2) 31 v2 ((gI_Lay_takeStakes I 31 39 v2) sl 2) 6))]) (st' := []) (S' := (L, gI_Lay_takeStakes (gI_Lay_takeStakes I 31 39 v2) 31 35 v2, J, R)) (P := True) [(.iinc 2 1, (0, 0, 0, 1, 0)), (.goto (-126), (0, 51, 0, 0, 0))] [] (by decide +kernel) rfl trivial ?_
        refine b_frg 3 ?_
        refine b_frg 4 ?_
        refine b_frg 5 ?_
        cases hf
        exact hk
      · have hf := if_f h3 hf
        refine b_blk (pc' := 173) (ls' := [some (mR (0, 0, 30)), some (mI v1), some (mI v2), some (mI y0), some (mI (l_field I 31 v2 (I sl 2) 6)), some (mI (l_field (gI_Lay_takeStakes I 31 39 v2) 31 v2 ((gI_Lay_takeStakes I 31 39 v2) sl 2) 6))]) (st' := [mI 0]) (S' := (L, gI_Lay_takeStakes (gI_Lay_takeStakes I 31 39 v2) 31 35 v2, J, R)) (P := True) [(.iconst 0, (0, 0, 0, 0, 0))] [] (by decide +kernel) rfl trivial ?_
        cases hf
        exact b_zret (by decide +kernel) rfl (by decide) hk
    · have hf := if_f h2 hf
      refine b_blk (pc' := 161) (ls' := [some (mR (0, 0, 30)), some (mI v1), some (mI v2), some (mI y0), some (mI (l_field I 31 v2 (I sl 2) 6)), some (mI (l_field (gI_Lay_takeStakes I 31 39 v2) 31 v2 ((gI_Lay_takeStakes I 31 39 v2) sl 2) 6))]) (st' := [mR (3, 0, 39), mR (3, 0, 31)]) (S' := (L, (gI_Lay_takeStakes I 31 39 v2), J, R)) (P := (True ∧ R 30 4 = some (3, 0, 39))) [(.aload_n 0, (0, 0, 0, 0, 0)), (.getfield 21, (0, 4, 3, 0, 0)), (.goto 7, (0, 161, 0, 0, 0))] [some (3, 0, 39)] (by decide +kernel) rfl ⟨trivial, (r_30_4 hR)⟩ ?_
      refine b_blk (pc' := 162) (ls' := [some (mR (0, 0, 30)), some (mI v1), some (mI v2), some (mI y0), some (mI (l_field I 31 v2 (I sl 2) 6)), some (mI (l_field (gI_Lay_takeStakes I 31 39 v2) 31 v2 ((gI_Lay_takeStakes I 31 39 v2) sl 2) 6))]) (st' := [mI v2, mR (3, 0, 39), mR (3, 0, 31)]) (S' := (L, (gI_Lay_takeStakes I 31 39 v2), J, R)) (P := True) [(.iload_n 2, (0, 0, 0, 0, 0))] [] (by decide +kernel) rfl trivial ?_
      refine b_cV (as := [mR (3, 0, 39), mI v2]) (st := []) (by decide +kernel) k_0_144 n_Lay_takeStakes rfl (by decide) v_Lay_takeStakes (c_Lay_takeStakes 31 39 v2 (ly_31 hR) (ly_39 hR)) (Nat.le_of_ble_eq_true rfl) (by decide) rfl rfl (fun _ h => h) ?_
      show m_B _ _ _ _ _ _ 165 [some (mR (0, 0, 30)), some (mI v1), some (mI v2), some (mI y0), some (mI (l_field I 31 v2 (I sl 2) 6)), some (mI (l_field (gI_Lay_takeStakes I 31 39 v2) 31 v2 ((gI_Lay_takeStakes I 31 39 v2) sl 2) 6))] [] (L, gI_Lay_takeStakes (gI_Lay_takeStakes I 31 39 v2) 31 39 v2, J, R)
      refine b_blk (pc' := 169) (ls' := [some (mR (0, 0, 30)), some (mI v1), some (mI v2), some (mI y0), some (mI (l_field I 31 v2 (I sl 2) 6)), some (mI (l_field (gI_Lay_takeStakes I 31 39 v2) 31 v2 ((gI_Lay_takeStakes I 31 39 v2) sl 2) 6))]) (st' := [mI (l_field I 31 v2 (I sl 2) 6), mI (l_field (gI_Lay_takeStakes I 31 39 v2) 31 v2 ((gI_Lay_takeStakes I 31 39 v2) sl 2) 6)]) (S' := (L, gI_Lay_takeStakes (gI_Lay_takeStakes I 31 39 v2) 31 39 v2, J, R)) (P := True) [(.iload 5, (0, 0, 0, 0, 0)), (.iload 4, (0, 0, 0, 0, 0))] [] (by decide +kernel) rfl trivial ?_
      refine b_icmp_le (off := 5) (tgt := 174) (by decide +kernel) (by decide) (fun h4 => ?_) (fun h4 => ?_)
      · have hf := if_t h4 hf
        refine b_blk (pc' := 51) (ls' := [some (mR (0, 0, 30)), some (mI v1), some (mI (v2 + 1)), some (mI y0), some (mI (l_field I 31 v2 (I sl 2) 6)), some (mI (l_field (gI_Lay_takeStakes I 31 39 v2) 31 v2 ((gI_Lay_takeStakes I 31 39 v2) sl 2) 6))]) (st' := []) (S' := (L, gI_Lay_takeStakes (gI_Lay_takeStakes I 31 39 v2) 31 39 v2, J, R)) (P := True) [(.iinc 2 1, (0, 0, 0, 1, 0)), (.goto (-126), (0, 51, 0, 0, 0))] [] (by decide +kernel) rfl trivial ?_
        refine b_frg 3 ?_
        refine b_frg 4 ?_
        refine b_frg 5 ?_
        cases hf
        exact hk
      · have hf := if_f h4 hf
        refine b_blk (pc' := 173) (ls' := [some (mR (0, 0, 30)), some (mI v1), some (mI v2), some (mI y0), some (mI (l_field I 31 v2 (I sl 2) 6)), some (mI (l_field (gI_Lay_takeStakes I 31 39 v2) 31 v2 ((gI_Lay_takeStakes I 31 39 v2) sl 2) 6))]) (st' := [mI 0]) (S' := (L, gI_Lay_takeStakes (gI_Lay_takeStakes I 31 39 v2) 31 39 v2, J, R)) (P := True) [(.iconst 0, (0, 0, 0, 0, 0))] [] (by decide +kernel) rfl trivial ?_
        cases hf
        exact b_zret (by decide +kernel) rfl (by decide) hk
  · have hf := if_f h1 hf
    refine b_blk (pc' := 118) (ls' := [some (mR (0, 0, 30)), some (mI v1), some (mI v2), some (mI y0), some (mI (l_field I 31 v2 (I sl 2) 6)), none]) (st' := [mR (3, 0, 35), mR (3, 0, 31)]) (S' := (L, I, J, R)) (P := (True ∧ R 30 3 = some (3, 0, 35))) [(.aload_n 0, (0, 0, 0, 0, 0)), (.getfield 18, (0, 3, 3, 0, 0)), (.goto 7, (0, 118, 0, 0, 0))] [some (3, 0, 35)] (by decide +kernel) rfl ⟨trivial, (r_30_3 hR)⟩ ?_
    refine b_blk (pc' := 119) (ls' := [some (mR (0, 0, 30)), some (mI v1), some (mI v2), some (mI y0), some (mI (l_field I 31 v2 (I sl 2) 6)), none]) (st' := [mI v2, mR (3, 0, 35), mR (3, 0, 31)]) (S' := (L, I, J, R)) (P := True) [(.iload_n 2, (0, 0, 0, 0, 0))] [] (by decide +kernel) rfl trivial ?_
    refine b_cV (as := [mR (3, 0, 35), mI v2]) (st := []) (by decide +kernel) k_0_144 n_Lay_takeStakes rfl (by decide) v_Lay_takeStakes (c_Lay_takeStakes 31 35 v2 (ly_31 hR) (ly_35 hR)) (Nat.le_of_ble_eq_true rfl) (by decide) rfl rfl (fun _ h => h) ?_
    show m_B _ _ _ _ _ _ 122 [some (mR (0, 0, 30)), some (mI v1), some (mI v2), some (mI y0), some (mI (l_field I 31 v2 (I sl 2) 6)), none] [] (L, gI_Lay_takeStakes I 31 35 v2, J, R)
    refine b_blk (pc' := 137) (ls' := [some (mR (0, 0, 30)), some (mI v1), some (mI v2), some (mI y0), some (mI (l_field I 31 v2 (I sl 2) 6)), none]) (st' := [mI ((gI_Lay_takeStakes I 31 35 v2) sl 2), mI v2, mR (3, 0, 31)]) (S' := (L, gI_Lay_takeStakes I 31 35 v2, J, R)) (P := (((True ∧ R 30 2 = some (3, 0, 31)) ∧ R 30 1 = some (10, 0, 24)) ∧ R 24 1 = some (8, 0, sl))) [(.aload_n 0, (0, 0, 0, 0, 0)), (.getfield 12, (0, 2, 3, 0, 0)), (.iload_n 2, (0, 0, 0, 0, 0)), (.aload_n 0, (0, 0, 0, 0, 0)), (.getfield 38, (0, 1, 3, 0, 0)), (.getfield 60, (10, 1, 3, 0, 0)), (.getfield 73, (8, 2, 0, 0, 0))] [some (3, 0, 31), some (10, 0, 24), some (8, 0, sl)] (by decide +kernel) rfl ⟨⟨⟨trivial, (r_30_2 hR)⟩, (r_30_1 hR)⟩, hs⟩ ?_
    refine b_cV (as := [mI v2, mI ((gI_Lay_takeStakes I 31 35 v2) sl 2)]) (st := []) (by decide +kernel) k_0_76 n_Lay_fieldOf rfl (by decide) v_Lay_fieldOf (c_Lay_fieldOf 31 v2 ((gI_Lay_takeStakes I 31 35 v2) sl 2) (ly_31 hR)) (Nat.le_of_ble_eq_true rfl) (by decide) rfl rfl (fun _ h => h) ?_
    show m_B _ _ _ _ _ _ 140 [some (mR (0, 0, 30)), some (mI v1), some (mI v2), some (mI y0), some (mI (l_field I 31 v2 (I sl 2) 6)), none] [mI (l_field (gI_Lay_takeStakes I 31 35 v2) 31 v2 ((gI_Lay_takeStakes I 31 35 v2) sl 2) 6)] (L, (gI_Lay_takeStakes I 31 35 v2), J, R)
    refine b_blk (pc' := 147) (ls' := [some (mR (0, 0, 30)), some (mI v1), some (mI v2), some (mI y0), some (mI (l_field I 31 v2 (I sl 2) 6)), some (mI (l_field (gI_Lay_takeStakes I 31 35 v2) 31 v2 ((gI_Lay_takeStakes I 31 35 v2) sl 2) 6))]) (st' := [mI y0, mR (3, 0, 31)]) (S' := (L, (gI_Lay_takeStakes I 31 35 v2), J, R)) (P := (True ∧ R 30 2 = some (3, 0, 31))) [(.istore 5, (0, 0, 0, 0, 0)), (.aload_n 0, (0, 0, 0, 0, 0)), (.getfield 12, (0, 2, 3, 0, 0)), (.iload_n 3, (0, 0, 0, 0, 0))] [some (3, 0, 31)] (by decide +kernel) rfl ⟨trivial, (r_30_2 hR)⟩ ?_
    refine b_if_eq (off := 10) (tgt := 157) (by decide +kernel) (by decide) (fun h5 => ?_) (fun h5 => ?_)
    · have hf := if_t h5 hf
      refine b_blk (pc' := 162) (ls' := [some (mR (0, 0, 30)), some (mI v1), some (mI v2), some (mI y0), some (mI (l_field I 31 v2 (I sl 2) 6)), some (mI (l_field (gI_Lay_takeStakes I 31 35 v2) 31 v2 ((gI_Lay_takeStakes I 31 35 v2) sl 2) 6))]) (st' := [mI v2, mR (3, 0, 35), mR (3, 0, 31)]) (S' := (L, (gI_Lay_takeStakes I 31 35 v2), J, R)) (P := (True ∧ R 30 3 = some (3, 0, 35))) [(.aload_n 0, (0, 0, 0, 0, 0)), (.getfield 18, (0, 3, 3, 0, 0)), (.iload_n 2, (0, 0, 0, 0, 0))] [some (3, 0, 35)] (by decide +kernel) rfl ⟨trivial, (r_30_3 hR)⟩ ?_
      refine b_cV (as := [mR (3, 0, 35), mI v2]) (st := []) (by decide +kernel) k_0_144 n_Lay_takeStakes rfl (by decide) v_Lay_takeStakes (c_Lay_takeStakes 31 35 v2 (ly_31 hR) (ly_35 hR)) (Nat.le_of_ble_eq_true rfl) (by decide) rfl rfl (fun _ h => h) ?_
      show m_B _ _ _ _ _ _ 165 [some (mR (0, 0, 30)), some (mI v1), some (mI v2), some (mI y0), some (mI (l_field I 31 v2 (I sl 2) 6)), some (mI (l_field (gI_Lay_takeStakes I 31 35 v2) 31 v2 ((gI_Lay_takeStakes I 31 35 v2) sl 2) 6))] [] (L, gI_Lay_takeStakes (gI_Lay_takeStakes I 31 35 v2) 31 35 v2, J, R)
      refine b_blk (pc' := 169) (ls' := [some (mR (0, 0, 30)), some (mI v1), some (mI v2), some (mI y0), some (mI (l_field I 31 v2 (I sl 2) 6)), some (mI (l_field (gI_Lay_takeStakes I 31 35 v2) 31 v2 ((gI_Lay_takeStakes I 31 35 v2) sl 2) 6))]) (st' := [mI (l_field I 31 v2 (I sl 2) 6), mI (l_field (gI_Lay_takeStakes I 31 35 v2) 31 v2 ((gI_Lay_takeStakes I 31 35 v2) sl 2) 6)]) (S' := (L, gI_Lay_takeStakes (gI_Lay_takeStakes I 31 35 v2) 31 35 v2, J, R)) (P := True) [(.iload 5, (0, 0, 0, 0, 0)), (.iload 4, (0, 0, 0, 0, 0))] [] (by decide +kernel) rfl trivial ?_
      refine b_icmp_le (off := 5) (tgt := 174) (by decide +kernel) (by decide) (fun h6 => ?_) (fun h6 => ?_)
      · have hf := if_t h6 hf
        refine b_blk (pc' := 51) (ls' := [some (mR (0, 0, 30)), some (mI v1), some (mI (v2 + 1)), some (mI y0), some (mI (l_field I 31 v2 (I sl 2) 6)), some (mI (l_field (gI_Lay_takeStakes I 31 35 v2) 31 v2 ((gI_Lay_takeStakes I 31 35 v2) sl 2) 6))]) (st' := []) (S' := (L, gI_Lay_takeStakes (gI_Lay_takeStakes I 31 35 v2) 31 35 v2, J, R)) (P := True) [(.iinc 2 1, (0, 0, 0, 1, 0)), (.goto (-126), (0, 51, 0, 0, 0))] [] (by decide +kernel) rfl trivial ?_
        refine b_frg 3 ?_
        refine b_frg 4 ?_
        refine b_frg 5 ?_
        cases hf
        exact hk
      · have hf := if_f h6 hf
        refine b_blk (pc' := 173) (ls' := [some (mR (0, 0, 30)), some (mI v1), some (mI v2), some (mI y0), some (mI (l_field I 31 v2 (I sl 2) 6)), some (mI (l_field (gI_Lay_takeStakes I 31 35 v2) 31 v2 ((gI_Lay_takeStakes I 31 35 v2) sl 2) 6))]) (st' := [mI 0]) (S' := (L, gI_Lay_takeStakes (gI_Lay_takeStakes I 31 35 v2) 31 35 v2, J, R)) (P := True) [(.iconst 0, (0, 0, 0, 0, 0))] [] (by decide +kernel) rfl trivial ?_
        cases hf
        exact b_zret (by decide +kernel) rfl (by decide) hk
    · have hf := if_f h5 hf
      refine b_blk (pc' := 161) (ls' := [some (mR (0, 0, 30)), some (mI v1), some (mI v2), some (mI y0), some (mI (l_field I 31 v2 (I sl 2) 6)), some (mI (l_field (gI_Lay_takeStakes I 31 35 v2) 31 v2 ((gI_Lay_takeStakes I 31 35 v2) sl 2) 6))]) (st' := [mR (3, 0, 39), mR (3, 0, 31)]) (S' := (L, (gI_Lay_takeStakes I 31 35 v2), J, R)) (P := (True ∧ R 30 4 = some (3, 0, 39))) [(.aload_n 0, (0, 0, 0, 0, 0)), (.getfield 21, (0, 4, 3, 0, 0)), (.goto 7, (0, 161, 0, 0, 0))] [some (3, 0, 39)] (by decide +kernel) rfl ⟨trivial, (r_30_4 hR)⟩ ?_
      refine b_blk (pc' := 162) (ls' := [some (mR (0, 0, 30)), some (mI v1), some (mI v2), some (mI y0), some (mI (l_field I 31 v2 (I sl 2) 6)), some (mI (l_field (gI_Lay_takeStakes I 31 35 v2) 31 v2 ((gI_Lay_takeStakes I 31 35 v2) sl 2) 6))]) (st' := [mI v2, mR (3, 0, 39), mR (3, 0, 31)]) (S' := (L, (gI_Lay_takeStakes I 31 35 v2), J, R)) (P := True) [(.iload_n 2, (0, 0, 0, 0, 0))] [] (by decide +kernel) rfl trivial ?_
      refine b_cV (as := [mR (3, 0, 39), mI v2]) (st := []) (by decide +kernel) k_0_144 n_Lay_takeStakes rfl (by decide) v_Lay_takeStakes (c_Lay_takeStakes 31 39 v2 (ly_31 hR) (ly_39 hR)) (Nat.le_of_ble_eq_true rfl) (by decide) rfl rfl (fun _ h => h) ?_
      show m_B _ _ _ _ _ _ 165 [some (mR (0, 0, 30)), some (mI v1), some (mI v2), some (mI y0), some (mI (l_field I 31 v2 (I sl 2) 6)), some (mI (l_field (gI_Lay_takeStakes I 31 35 v2) 31 v2 ((gI_Lay_takeStakes I 31 35 v2) sl 2) 6))] [] (L, gI_Lay_takeStakes (gI_Lay_takeStakes I 31 35 v2) 31 39 v2, J, R)
      refine b_blk (pc' := 169) (ls' := [some (mR (0, 0, 30)), some (mI v1), some (mI v2), some (mI y0), some (mI (l_field I 31 v2 (I sl 2) 6)), some (mI (l_field (gI_Lay_takeStakes I 31 35 v2) 31 v2 ((gI_Lay_takeStakes I 31 35 v2) sl 2) 6))]) (st' := [mI (l_field I 31 v2 (I sl 2) 6), mI (l_field (gI_Lay_takeStakes I 31 35 v2) 31 v2 ((gI_Lay_takeStakes I 31 35 v2) sl 2) 6)]) (S' := (L, gI_Lay_takeStakes (gI_Lay_takeStakes I 31 35 v2) 31 39 v2, J, R)) (P := True) [(.iload 5, (0, 0, 0, 0, 0)), (.iload 4, (0, 0, 0, 0, 0))] [] (by decide +kernel) rfl trivial ?_
      refine b_icmp_le (off := 5) (tgt := 174) (by decide +kernel) (by decide) (fun h7 => ?_) (fun h7 => ?_)
      · have hf := if_t h7 hf
        refine b_blk (pc' := 51) (ls' := [some (mR (0, 0, 30)), some (mI v1), some (mI (v2 + 1)), some (mI y0), some (mI (l_field I 31 v2 (I sl 2) 6)), some (mI (l_field (gI_Lay_takeStakes I 31 35 v2) 31 v2 ((gI_Lay_takeStakes I 31 35 v2) sl 2) 6))]) (st' := []) (S' := (L, gI_Lay_takeStakes (gI_Lay_takeStakes I 31 35 v2) 31 39 v2, J, R)) (P := True) [(.iinc 2 1, (0, 0, 0, 1, 0)), (.goto (-126), (0, 51, 0, 0, 0))] [] (by decide +kernel) rfl trivial ?_
        refine b_frg 3 ?_
        refine b_frg 4 ?_
        refine b_frg 5 ?_
        cases hf
        exact hk
      · have hf := if_f h7 hf
        refine b_blk (pc' := 173) (ls' := [some (mR (0, 0, 30)), some (mI v1), some (mI v2), some (mI y0), some (mI (l_field I 31 v2 (I sl 2) 6)), some (mI (l_field (gI_Lay_takeStakes I 31 35 v2) 31 v2 ((gI_Lay_takeStakes I 31 35 v2) sl 2) 6))]) (st' := [mI 0]) (S' := (L, gI_Lay_takeStakes (gI_Lay_takeStakes I 31 35 v2) 31 39 v2, J, R)) (P := True) [(.iconst 0, (0, 0, 0, 0, 0))] [] (by decide +kernel) rfl trivial ?_
        cases hf
        exact b_zret (by decide +kernel) rfl (by decide) hk
noncomputable def F_Foresight_isAtRest_51 (sl : Nat) (I : MI) (v1 : Int32) (v2 : Int32) : Option ((Int32 × MI) ⊕ ((MI) ⊕ (Int32 × MI))) :=
  if (I sl 3) ≤ v2 then (some (.inr (.inl I))) else (if ((v1 >>> (v2 &&& 31)) &&& (1 : Int32)) = (0 : Int32) then (F_Foresight_isAtRest_78 sl I v1 v2 (0 : Int32)) else (F_Foresight_isAtRest_78 sl I v1 v2 (1 : Int32)))
set_option maxRecDepth 100000 in
set_option maxHeartbeats 400000 in
theorem W_Foresight_isAtRest_51 {G : MG} {Q : Option MV → MS → Prop} {L : List (Nat × Nat)} {R : Nat → Nat → Option MRef} (sl : Nat) (I : MI) (J : MJ) (v1 : Int32) (v2 : Int32) (hR : RF R) (hs : R 24 1 = some (8, 0, sl)) (hq : sl = 3 ∨ sl = 11) {r : (Int32 × MI) ⊕ ((MI) ⊕ (Int32 × MI))} (hf : F_Foresight_isAtRest_51 sl I v1 v2 = some r) (hk : (Sum.elim (fun s : Int32 × MI => m_B G (m_rm 5 0 0) M_Foresight_isAtRest Q 0 0 51 [some (mR (0, 0, 30)), some (mI v1), some (mI s.1), none, none, none] [] (L, s.2, J, R)) (Sum.elim (fun s : MI => m_B G (m_rm 5 0 0) M_Foresight_isAtRest Q 0 0 180 [none, none, none, none, none, none] [] (L, s, J, R)) (fun r : Int32 × MI => Q (some (mI r.1)) (L, r.2, J, R)))) r) : m_B G (m_rm 5 0 0) M_Foresight_isAtRest Q 0 0 51 [some (mR (0, 0, 30)), some (mI v1), some (mI v2), none, none, none] [] (L, I, J, R) := by
  unfold F_Foresight_isAtRest_51 at hf
  refine b_blk (pc' := 62) (ls' := [some (mR (0, 0, 30)), some (mI v1), some (mI v2), none, none, none]) (st' := [mI (I sl 3), mI v2]) (S' := (L, I, J, R)) (P := ((True ∧ R 30 1 = some (10, 0, 24)) ∧ R 24 1 = some (8, 0, sl))) [(.iload_n 2, (0, 0, 0, 0, 0)), (.aload_n 0, (0, 0, 0, 0, 0)), (.getfield 38, (0, 1, 3, 0, 0)), (.getfield 60, (10, 1, 3, 0, 0)), (.getfield 114, (8, 3, 0, 0, 0))] [some (10, 0, 24), some (8, 0, sl)] (by decide +kernel) rfl ⟨⟨trivial, (r_30_1 hR)⟩, hs⟩ ?_
  refine b_icmp_ge (off := 118) (tgt := 180) (by decide +kernel) (by decide) (fun h1 => ?_) (fun h1 => ?_)
  · have hf := if_t h1 hf
    refine b_frg 0 ?_
    refine b_frg 1 ?_
    refine b_frg 2 ?_
    cases hf
    exact hk
  · have hf := if_f h1 hf
    refine b_blk (pc' := 70) (ls' := [some (mR (0, 0, 30)), some (mI v1), some (mI v2), none, none, none]) (st' := [mI ((v1 >>> (v2 &&& 31)) &&& (1 : Int32))]) (S' := (L, I, J, R)) (P := True) [(.iload_n 1, (0, 0, 0, 0, 0)), (.iload_n 2, (0, 0, 0, 0, 0)), (.ishr, (0, 0, 0, 0, 0)), (.iconst 1, (0, 0, 0, 1, 0)), (.iand, (0, 0, 0, 0, 0))] [] (by decide +kernel) rfl trivial ?_
    refine b_if_eq (off := 7) (tgt := 77) (by decide +kernel) (by decide) (fun h2 => ?_) (fun h2 => ?_)
    · have hf := if_t h2 hf
      refine b_blk (pc' := 78) (ls' := [some (mR (0, 0, 30)), some (mI v1), some (mI v2), none, none, none]) (st' := [mI 0]) (S' := (L, I, J, R)) (P := True) [(.iconst 0, (0, 0, 0, 0, 0))] [] (by decide +kernel) rfl trivial ?_
      exact m_B_cg rfl rfl rfl (W_Foresight_isAtRest_78 sl I J v1 v2 (0 : Int32) hR hs hq hf hk)
    · have hf := if_f h2 hf
      refine b_blk (pc' := 78) (ls' := [some (mR (0, 0, 30)), some (mI v1), some (mI v2), none, none, none]) (st' := [mI 1]) (S' := (L, I, J, R)) (P := True) [(.iconst 1, (0, 0, 0, 1, 0)), (.goto 4, (0, 78, 0, 0, 0))] [] (by decide +kernel) rfl trivial ?_
      exact m_B_cg rfl rfl rfl (W_Foresight_isAtRest_78 sl I J v1 v2 (1 : Int32) hR hs hq hf hk)
noncomputable def F_Foresight_isAtRest (sl : Nat) (I : MI) (v1 : Int32) : Option (Int32 × MI) :=
  (wl (fun s : Int32 × MI => F_Foresight_isAtRest_2 sl s.2 v1 s.1) ((0 : Int32), I)).bind fun t1 => (wl (fun s : Int32 × MI => F_Foresight_isAtRest_51 sl s.2 v1 s.1) ((0 : Int32), t1)).bind <| sel (fun q => some q) fun t2 => some ((1 : Int32), t2)
set_option maxRecDepth 100000 in
set_option maxHeartbeats 400000 in
theorem W_Foresight_isAtRest {G : MG} {Q : Option MV → MS → Prop} {L : List (Nat × Nat)} {R : Nat → Nat → Option MRef} (sl : Nat) (I : MI) (J : MJ) (v1 : Int32) (hR : RF R) (hs : R 24 1 = some (8, 0, sl)) (hq : sl = 3 ∨ sl = 11) {r : Int32 × MI} (hf : F_Foresight_isAtRest sl I v1 = some r) (hk : (fun r : Int32 × MI => Q (some (mI r.1)) (L, r.2, J, R)) r) : m_B G (m_rm 5 0 0) M_Foresight_isAtRest Q 0 0 0 [some (mR (0, 0, 30)), some (mI v1), none, none, none, none] [] (L, I, J, R) := by
  unfold F_Foresight_isAtRest at hf
  refine b_blk (pc' := 2) (ls' := [some (mR (0, 0, 30)), some (mI v1), some (mI 0), none, none, none]) (st' := []) (S' := (L, I, J, R)) (P := True) [(.iconst 0, (0, 0, 0, 0, 0)), (.istore_n 2, (0, 0, 0, 0, 0))] [] (by decide +kernel) rfl trivial ?_
  obtain ⟨t1, hw, hf⟩ := bnd_o hf
  refine wl_B (A := fun s : Int32 × MI => m_B G (m_rm 5 0 0) M_Foresight_isAtRest Q 0 0 2 [some (mR (0, 0, 30)), some (mI v1), some (mI s.1), none, none, none] [] (L, s.2, J, R)) (B := (fun s : MI => m_B G (m_rm 5 0 0) M_Foresight_isAtRest Q 0 0 49 [some (mR (0, 0, 30)), some (mI v1), none, none, none, none] [] (L, s, J, R))) (fun s r hs_ hr => W_Foresight_isAtRest_2 sl s.2 J v1 s.1 hR hs hq hs_ hr) hw ?_
  show m_B G (m_rm 5 0 0) M_Foresight_isAtRest Q 0 0 49 [some (mR (0, 0, 30)), some (mI v1), none, none, none, none] [] (L, t1, J, R)
  refine b_blk (pc' := 51) (ls' := [some (mR (0, 0, 30)), some (mI v1), some (mI 0), none, none, none]) (st' := []) (S' := (L, t1, J, R)) (P := True) [(.iconst 0, (0, 0, 0, 0, 0)), (.istore_n 2, (0, 0, 0, 0, 0))] [] (by decide +kernel) rfl trivial ?_
  obtain ⟨t2, hw, hf⟩ := bnd_o hf
  refine wl_B (A := fun s : Int32 × MI => m_B G (m_rm 5 0 0) M_Foresight_isAtRest Q 0 0 51 [some (mR (0, 0, 30)), some (mI v1), some (mI s.1), none, none, none] [] (L, s.2, J, R)) (B := (Sum.elim (fun s : MI => m_B G (m_rm 5 0 0) M_Foresight_isAtRest Q 0 0 180 [none, none, none, none, none, none] [] (L, s, J, R)) (fun r : Int32 × MI => Q (some (mI r.1)) (L, r.2, J, R)))) (fun s r hs_ hr => W_Foresight_isAtRest_51 sl s.2 J v1 s.1 hR hs hq hs_ hr) hw ?_
  rcases t2 with t2 | q
  rotate_left
  · cases se_r hf; exact hk
  replace hf := se_l hf
  show m_B G (m_rm 5 0 0) M_Foresight_isAtRest Q 0 0 180 [none, none, none, none, none, none] [] (L, t2, J, R)
  refine b_blk (pc' := 181) (ls' := [none, none, none, none, none, none]) (st' := [mI 1]) (S' := (L, t2, J, R)) (P := True) [(.iconst 1, (0, 0, 0, 1, 0))] [] (by decide +kernel) rfl trivial ?_
  cases hf
  exact b_zret (by decide +kernel) rfl (by decide) hk
theorem C_Foresight_isAtRest {G : MG} {L : List (Nat × Nat)} {R : Nat → Nat → Option MRef} (sl : Nat) (I : MI) (J : MJ) (v1 : Int32) (hR : RF R) (hs : R 24 1 = some (8, 0, sl)) (hq : sl = 3 ∨ sl = 11) {r : Int32 × MI} (hf : F_Foresight_isAtRest sl I v1 = some r) : m_met G 5 0 0 y_Foresight_isAtRest M_Foresight_isAtRest [mR (0, 0, 30), mI v1] (L, I, J, R) (m_is (some (mI r.1)) (L, r.2, J, R)) :=
  m_met_in n_Foresight_isAtRest (plainFor_of_name (by decide)) (by decide) (Nat.le_of_ble_eq_true rfl) (ls := [some (mR (0, 0, 30)), some (mI v1), none, none, none, none]) rfl (W_Foresight_isAtRest sl I J v1 hR hs hq hf ⟨rfl, rfl⟩)
noncomputable def F_Foresight_findRest_115 (sl : Nat) (I : MI) (v2 : Int32) (v3 : Int32) (v4 : Int32) (y0 : Int32) : Option ((Int32 × Int32 × MI) ⊕ (Int32 × MI)) :=
  if y0 = (0 : Int32) then (some (.inl ((v3 : Int32), (v4 + 1 : Int32), I))) else ((F_Foresight_isAtRest sl I v4).bind fun r2 => if r2.1 = (0 : Int32) then (some (.inl ((v3 : Int32), (v4 + 1 : Int32), r2.2))) else (some (.inl ((v4 : Int32), (v4 + 1 : Int32), r2.2))))
set_option maxRecDepth 100000 in
set_option maxHeartbeats 400000 in
theorem W_Foresight_findRest_115 {G : MG} {Q : Option MV → MS → Prop} {L : List (Nat × Nat)} {R : Nat → Nat → Option MRef} (sl : Nat) (I : MI) (J : MJ) (v2 : Int32) (v3 : Int32) (v4 : Int32) (y0 : Int32) (hR : RF R) (hs : R 24 1 = some (8, 0, sl)) (hq : sl = 3 ∨ sl = 11) {r : (Int32 × Int32 × MI) ⊕ (Int32 × MI)} (hf : F_Foresight_findRest_115 sl I v2 v3 v4 y0 = some r) (hk : (Sum.elim (fun s : Int32 × Int32 × MI => m_B G (m_rm 8 0 0) M_Foresight_findRest Q 0 0 87 [some (mR (0, 0, 30)), none, some (mI v2), some (mI s.1), some (mI s.2.1), none] [] (L, s.2.2, J, R)) (fun s : Int32 × MI => m_B G (m_rm 8 0 0) M_Foresight_findRest Q 0 0 140 [none, none, none, some (mI s.1), none, none] [] (L, s.2, J, R))) r) : m_B G (m_rm 8 0 0) M_Foresight_findRest Q 0 0 115 [some (mR (0, 0, 30)), none, some (mI v2), some (mI v3), some (mI v4), none] [mI y0] (L, I, J, R) := by
  unfold F_Foresight_findRest_115 at hf
  refine b_blk (pc' := 119) (ls' := [some (mR (0, 0, 30)), none, some (mI v2), some (mI v3), some (mI v4), some (mI y0)]) (st' := [mI y0]) (S' := (L, I, J, R)) (P := True) [(.istore 5, (0, 0, 0, 0, 0)), (.iload 5, (0, 0, 0, 0, 0))] [] (by decide +kernel) rfl trivial ?_
  refine b_if_eq (off := 15) (tgt := 134) (by decide +kernel) (by decide) (fun h1 => ?_) (fun h1 => ?_)
  · have hf := if_t h1 hf
    refine b_blk (pc' := 87) (ls' := [some (mR (0, 0, 30)), none, some (mI v2), some (mI v3), some (mI (v4 + 1)), some (mI y0)]) (st' := []) (S' := (L, I, J, R)) (P := True) [(.iinc 4 1, (0, 0, 0, 1, 0)), (.goto (-50), (0, 87, 0, 0, 0))] [] (by decide +kernel) rfl trivial ?_
    refine b_frg 5 ?_
    cases hf
    exact hk
  · have hf := if_f h1 hf
    refine b_blk (pc' := 125) (ls' := [some (mR (0, 0, 30)), none, some (mI v2), some (mI v3), some (mI v4), some (mI y0)]) (st' := [mI v4, mR (0, 0, 30)]) (S' := (L, I, J, R)) (P := True) [(.aload_n 0, (0, 0, 0, 0, 0)), (.iload 4, (0, 0, 0, 0, 0))] [] (by decide +kernel) rfl trivial ?_
    obtain ⟨r2, hc2, hf⟩ := bnd_o hf
    refine b_cV (as := [mI v4]) (st := []) (by decide +kernel) k_0_140 n_Foresight_isAtRest rfl (by decide) v_Foresight_isAtRest (C_Foresight_isAtRest sl I J v4 hR hs hq hc2) (Nat.le_of_ble_eq_true rfl) (by decide) rfl rfl (fun _ h => h) ?_
    show m_B G (m_rm 8 0 0) M_Foresight_findRest Q 0 0 128 [some (mR (0, 0, 30)), none, some (mI v2), some (mI v3), some (mI v4), some (mI y0)] [mI r2.1] (L, r2.2, J, R)
    refine b_if_eq (off := 6) (tgt := 134) (by decide +kernel) (by decide) (fun h3 => ?_) (fun h3 => ?_)
    · have hf := if_t h3 hf
      refine b_blk (pc' := 87) (ls' := [some (mR (0, 0, 30)), none, some (mI v2), some (mI v3), some (mI (v4 + 1)), some (mI y0)]) (st' := []) (S' := (L, r2.2, J, R)) (P := True) [(.iinc 4 1, (0, 0, 0, 1, 0)), (.goto (-50), (0, 87, 0, 0, 0))] [] (by decide +kernel) rfl trivial ?_
      refine b_frg 5 ?_
      cases hf
      exact hk
    · have hf := if_f h3 hf
      refine b_blk (pc' := 87) (ls' := [some (mR (0, 0, 30)), none, some (mI v2), some (mI v4), some (mI (v4 + 1)), some (mI y0)]) (st' := []) (S' := (L, r2.2, J, R)) (P := True) [(.iload 4, (0, 0, 0, 0, 0)), (.istore_n 3, (0, 0, 0, 0, 0)), (.iinc 4 1, (0, 0, 0, 1, 0)), (.goto (-50), (0, 87, 0, 0, 0))] [] (by decide +kernel) rfl trivial ?_
      refine b_frg 5 ?_
      cases hf
      exact hk
noncomputable def F_Foresight_findRest_110 (sl : Nat) (I : MI) (v2 : Int32) (v3 : Int32) (v4 : Int32) : Option ((Int32 × Int32 × MI) ⊕ (Int32 × MI)) :=
  F_Foresight_findRest_115 sl I v2 v3 v4 (1 : Int32)
set_option maxRecDepth 100000 in
set_option maxHeartbeats 400000 in
theorem W_Foresight_findRest_110 {G : MG} {Q : Option MV → MS → Prop} {L : List (Nat × Nat)} {R : Nat → Nat → Option MRef} (sl : Nat) (I : MI) (J : MJ) (v2 : Int32) (v3 : Int32) (v4 : Int32) (hR : RF R) (hs : R 24 1 = some (8, 0, sl)) (hq : sl = 3 ∨ sl = 11) {r : (Int32 × Int32 × MI) ⊕ (Int32 × MI)} (hf : F_Foresight_findRest_110 sl I v2 v3 v4 = some r) (hk : (Sum.elim (fun s : Int32 × Int32 × MI => m_B G (m_rm 8 0 0) M_Foresight_findRest Q 0 0 87 [some (mR (0, 0, 30)), none, some (mI v2), some (mI s.1), some (mI s.2.1), none] [] (L, s.2.2, J, R)) (fun s : Int32 × MI => m_B G (m_rm 8 0 0) M_Foresight_findRest Q 0 0 140 [none, none, none, some (mI s.1), none, none] [] (L, s.2, J, R))) r) : m_B G (m_rm 8 0 0) M_Foresight_findRest Q 0 0 110 [some (mR (0, 0, 30)), none, some (mI v2), some (mI v3), some (mI v4), none] [] (L, I, J, R) := by
  unfold F_Foresight_findRest_110 at hf
  refine b_blk (pc' := 115) (ls' := [some (mR (0, 0, 30)), none, some (mI v2), some (mI v3), some (mI v4), none]) (st' := [mI 1]) (S' := (L, I, J, R)) (P := True) [(.iconst 1, (0, 0, 0, 1, 0)), (.goto 4, (0, 115, 0, 0, 0))] [] (by decide +kernel) rfl trivial ?_
  exact m_B_cg rfl rfl rfl (W_Foresight_findRest_115 sl I J v2 v3 v4 (1 : Int32) hR hs hq hf hk)
noncomputable def F_Foresight_findRest_87 (sl : Nat) (I : MI) (v2 : Int32) (v3 : Int32) (v4 : Int32) : Option ((Int32 × Int32 × MI) ⊕ (Int32 × MI)) :=
  if v2 ≤ v4 then (some (.inr ((v3 : Int32), I))) else (if v3 = (-1 : Int32) then (F_Foresight_findRest_110 sl I v2 v3 v4) else (if (f_Integer_bitCount v3) ≤ (f_Integer_bitCount v4) then (F_Foresight_findRest_115 sl I v2 v3 v4 (0 : Int32)) else (F_Foresight_findRest_110 sl I v2 v3 v4)))
set_option maxRecDepth 100000 in
set_option maxHeartbeats 400000 in
theorem W_Foresight_findRest_87 {G : MG} {Q : Option MV → MS → Prop} {L : List (Nat × Nat)} {R : Nat → Nat → Option MRef} (sl : Nat) (I : MI) (J : MJ) (v2 : Int32) (v3 : Int32) (v4 : Int32) (hR : RF R) (hs : R 24 1 = some (8, 0, sl)) (hq : sl = 3 ∨ sl = 11) {r : (Int32 × Int32 × MI) ⊕ (Int32 × MI)} (hf : F_Foresight_findRest_87 sl I v2 v3 v4 = some r) (hk : (Sum.elim (fun s : Int32 × Int32 × MI => m_B G (m_rm 8 0 0) M_Foresight_findRest Q 0 0 87 [some (mR (0, 0, 30)), none, some (mI v2), some (mI s.1), some (mI s.2.1), none] [] (L, s.2.2, J, R)) (fun s : Int32 × MI => m_B G (m_rm 8 0 0) M_Foresight_findRest Q 0 0 140 [none, none, none, some (mI s.1), none, none] [] (L, s.2, J, R))) r) : m_B G (m_rm 8 0 0) M_Foresight_findRest Q 0 0 87 [some (mR (0, 0, 30)), none, some (mI v2), some (mI v3), some (mI v4), none] [] (L, I, J, R) := by
  unfold F_Foresight_findRest_87 at hf
  refine b_blk (pc' := 90) (ls' := [some (mR (0, 0, 30)), none, some (mI v2), some (mI v3), some (mI v4), none]) (st' := [mI v2, mI v4]) (S' := (L, I, J, R)) (P := True) [(.iload 4, (0, 0, 0, 0, 0)), (.iload_n 2, (0, 0, 0, 0, 0))] [] (by decide +kernel) rfl trivial ?_
  refine b_icmp_ge (off := 50) (tgt := 140) (by decide +kernel) (by decide) (fun h1 => ?_) (fun h1 => ?_)
  · have hf := if_t h1 hf
    refine b_frg 0 ?_
    refine b_frg 2 ?_
    refine b_frg 4 ?_
    cases hf
    exact hk
  · have hf := if_f h1 hf
    refine b_blk (pc' := 95) (ls' := [some (mR (0, 0, 30)), none, some (mI v2), some (mI v3), some (mI v4), none]) (st' := [mI (-1), mI v3]) (S' := (L, I, J, R)) (P := True) [(.iload_n 3, (0, 0, 0, 0, 0)), (.iconst (-1), (0, 0, 0, (-1), 0))] [] (by decide +kernel) rfl trivial ?_
    refine b_icmp_eq (off := 15) (tgt := 110) (by decide +kernel) (by decide) (fun h2 => ?_) (fun h2 => ?_)
    · have hf := if_t h2 hf
      exact m_B_cg rfl rfl rfl (W_Foresight_findRest_110 sl I J v2 v3 v4 hR hs hq hf hk)
    · have hf := if_f h2 hf
      refine b_blk (pc' := 100) (ls' := [some (mR (0, 0, 30)), none, some (mI v2), some (mI v3), some (mI v4), none]) (st' := [mI v4]) (S' := (L, I, J, R)) (P := True) [(.iload 4, (0, 0, 0, 0, 0))] [] (by decide +kernel) rfl trivial ?_
      refine b_cS (as := [mI v4]) (st := []) (by decide +kernel) k_0_135 n_Integer_bitCount s_Integer_bitCount (c_Integer_bitCount v4 ) (Nat.le_of_ble_eq_true rfl) (by decide) rfl rfl (fun _ h => h) ?_
      show m_B _ _ _ _ _ _ 103 [some (mR (0, 0, 30)), none, some (mI v2), some (mI v3), some (mI v4), none] [mI (f_Integer_bitCount v4)] (L, I, J, R)
      refine b_blk (pc' := 104) (ls' := [some (mR (0, 0, 30)), none, some (mI v2), some (mI v3), some (mI v4), none]) (st' := [mI v3, mI (f_Integer_bitCount v4)]) (S' := (L, I, J, R)) (P := True) [(.iload_n 3, (0, 0, 0, 0, 0))] [] (by decide +kernel) rfl trivial ?_
      refine b_cS (as := [mI v3]) (st := [mI (f_Integer_bitCount v4)]) (by decide +kernel) k_0_135 n_Integer_bitCount s_Integer_bitCount (c_Integer_bitCount v3 ) (Nat.le_of_ble_eq_true rfl) (by decide) rfl rfl (fun _ h => h) ?_
      show m_B _ _ _ _ _ _ 107 [some (mR (0, 0, 30)), none, some (mI v2), some (mI v3), some (mI v4), none] [mI (f_Integer_bitCount v3), mI (f_Integer_bitCount v4)] (L, I, J, R)
      refine b_icmp_ge (off := 7) (tgt := 114) (by decide +kernel) (by decide) (fun h3 => ?_) (fun h3 => ?_)
      · have hf := if_t h3 hf
        refine b_blk (pc' := 115) (ls' := [some (mR (0, 0, 30)), none, some (mI v2), some (mI v3), some (mI v4), none]) (st' := [mI 0]) (S' := (L, I, J, R)) (P := True) [(.iconst 0, (0, 0, 0, 0, 0))] [] (by decide +kernel) rfl trivial ?_
        exact m_B_cg rfl rfl rfl (W_Foresight_findRest_115 sl I J v2 v3 v4 (0 : Int32) hR hs hq hf hk)
      · have hf := if_f h3 hf
        exact m_B_cg rfl rfl rfl (W_Foresight_findRest_110 sl I J v2 v3 v4 hR hs hq hf hk)
noncomputable def F_Foresight_findRest (sl : Nat) (I : MI) (v1 : Int32) : Option (Int32 × MI) :=
  bnd (m_up (w_take (py_it (m_up (w_take (w_take I 31 20) 35 20) 35 1 (0 : Int32)) 35 sl v1.toNatClampNeg) 39 20) 39 1 (((1 : Int32) <<< ((I sl 3) &&& 31)) - (1 : Int32)) : MI) fun x1 => (wl (fun s : Int32 × Int32 × MI => F_Foresight_findRest_87 sl s.2.2 ((1 : Int32) <<< ((I sl 3) &&& 31)) s.1 s.2.1) (((-1) : Int32), (0 : Int32), py_it x1 39 sl v1.toNatClampNeg)).bind fun t2 => some ((t2.1 : Int32), t2.2)
set_option maxRecDepth 100000 in
set_option maxHeartbeats 400000 in
theorem W_Foresight_findRest {G : MG} {Q : Option MV → MS → Prop} {L : List (Nat × Nat)} {R : Nat → Nat → Option MRef} (sl : Nat) (I : MI) (J : MJ) (v1 : Int32) (hR : RF R) (hs : R 24 1 = some (8, 0, sl)) (hq : sl = 3 ∨ sl = 11) {r : Int32 × MI} (hf : F_Foresight_findRest sl I v1 = some r) (hk : (fun r : Int32 × MI => Q (some (mI r.1)) (L, r.2, J, R)) r) : m_B G (m_rm 8 0 0) M_Foresight_findRest Q 0 0 0 [some (mR (0, 0, 30)), some (mI v1), none, none, none, none] [] (L, I, J, R) := by
  unfold F_Foresight_findRest at hf
  refine b_blk (pc' := 21) (ls' := [some (mR (0, 0, 30)), some (mI v1), some (mI ((1 : Int32) <<< ((I sl 3) &&& 31))), none, none, none]) (st' := [mR (3, 0, 20), mR (3, 0, 31)]) (S' := (L, I, J, R)) (P := ((((True ∧ R 30 1 = some (10, 0, 24)) ∧ R 24 1 = some (8, 0, sl)) ∧ R 30 2 = some (3, 0, 31)) ∧ R 30 0 = some (3, 0, 20))) [(.iconst 1, (0, 0, 0, 1, 0)), (.aload_n 0, (0, 0, 0, 0, 0)), (.getfield 38, (0, 1, 3, 0, 0)), (.getfield 60, (10, 1, 3, 0, 0)), (.getfield 114, (8, 3, 0, 0, 0)), (.ishl, (0, 0, 0, 0, 0)), (.istore_n 2, (0, 0, 0, 0, 0)), (.aload_n 0, (0, 0, 0, 0, 0)), (.getfield 12, (0, 2, 3, 0, 0)), (.aload_n 0, (0, 0, 0, 0, 0)), (.getfield 35, (0, 0, 3, 0, 0))] [some (10, 0, 24), some (8, 0, sl), some (3, 0, 31), some (3, 0, 20)] (by decide +kernel) rfl ⟨⟨⟨⟨trivial, (r_30_1 hR)⟩, hs⟩, (r_30_2 hR)⟩, (r_30_0 hR)⟩ ?_
  refine b_cV (as := [mR (3, 0, 20)]) (st := []) (by decide +kernel) k_0_42 n_Lay_takeFrom rfl (by decide) v_Lay_takeFrom (c_take 31 20 (ly_31 hR) (ly_20 hR)) (Nat.le_of_ble_eq_true rfl) (by decide) rfl rfl (fun _ h => h) ?_
  show m_B _ _ _ _ _ _ 24 [some (mR (0, 0, 30)), some (mI v1), some (mI ((1 : Int32) <<< ((I sl 3) &&& 31))), none, none, none] [] (L, w_take I 31 20, J, R)
  refine b_blk (pc' := 32) (ls' := [some (mR (0, 0, 30)), some (mI v1), some (mI ((1 : Int32) <<< ((I sl 3) &&& 31))), none, none, none]) (st' := [mR (3, 0, 20), mR (3, 0, 35)]) (S' := (L, w_take I 31 20, J, R)) (P := ((True ∧ R 30 3 = some (3, 0, 35)) ∧ R 30 0 = some (3, 0, 20))) [(.aload_n 0, (0, 0, 0, 0, 0)), (.getfield 18, (0, 3, 3, 0, 0)), (.aload_n 0, (0, 0, 0, 0, 0)), (.getfield 35, (0, 0, 3, 0, 0))] [some (3, 0, 35), some (3, 0, 20)] (by decide +kernel) rfl ⟨⟨trivial, (r_30_3 hR)⟩, (r_30_0 hR)⟩ ?_
  refine b_cV (as := [mR (3, 0, 20)]) (st := []) (by decide +kernel) k_0_42 n_Lay_takeFrom rfl (by decide) v_Lay_takeFrom (c_take 35 20 (ly_35 hR) (ly_20 hR)) (Nat.le_of_ble_eq_true rfl) (by decide) rfl rfl (fun _ h => h) ?_
  show m_B _ _ _ _ _ _ 35 [some (mR (0, 0, 30)), some (mI v1), some (mI ((1 : Int32) <<< ((I sl 3) &&& 31))), none, none, none] [] (L, w_take (w_take I 31 20) 35 20, J, R)
  refine b_blk (pc' := 49) (ls' := [some (mR (0, 0, 30)), some (mI v1), some (mI ((1 : Int32) <<< ((I sl 3) &&& 31))), none, none, none]) (st' := [mI v1, mR (3, 0, 35), mR (0, 0, 30)]) (S' := (L, m_up (w_take (w_take I 31 20) 35 20) 35 1 (0 : Int32), J, R)) (P := ((True ∧ R 30 3 = some (3, 0, 35)) ∧ R 30 3 = some (3, 0, 35))) [(.aload_n 0, (0, 0, 0, 0, 0)), (.getfield 18, (0, 3, 3, 0, 0)), (.iconst 0, (0, 0, 0, 0, 0)), (.putfield 132, (3, 1, 0, 0, 0)), (.aload_n 0, (0, 0, 0, 0, 0)), (.aload_n 0, (0, 0, 0, 0, 0)), (.getfield 18, (0, 3, 3, 0, 0)), (.iload_n 1, (0, 0, 0, 0, 0))] [some (3, 0, 35), some (3, 0, 35)] (by decide +kernel) rfl ⟨⟨trivial, (r_30_3 hR)⟩, (r_30_3 hR)⟩ ?_
  refine b_cV (as := [mR (3, 0, 35), mI v1]) (st := []) (by decide +kernel) k_0_46 n_Foresight_passYears rfl (by decide) v_Foresight_passYears (c_Foresight_passYears 35 v1 sl hR hs hq (ly_35 hR) (by decide)) (Nat.le_of_ble_eq_true rfl) (by decide) rfl rfl (fun _ h => h) ?_
  show m_B _ _ _ _ _ _ 52 [some (mR (0, 0, 30)), some (mI v1), some (mI ((1 : Int32) <<< ((I sl 3) &&& 31))), none, none, none] [] (L, py_it (m_up (w_take (w_take I 31 20) 35 20) 35 1 (0 : Int32)) 35 sl v1.toNatClampNeg, J, R)
  refine b_blk (pc' := 60) (ls' := [some (mR (0, 0, 30)), some (mI v1), some (mI ((1 : Int32) <<< ((I sl 3) &&& 31))), none, none, none]) (st' := [mR (3, 0, 20), mR (3, 0, 39)]) (S' := (L, py_it (m_up (w_take (w_take I 31 20) 35 20) 35 1 (0 : Int32)) 35 sl v1.toNatClampNeg, J, R)) (P := ((True ∧ R 30 4 = some (3, 0, 39)) ∧ R 30 0 = some (3, 0, 20))) [(.aload_n 0, (0, 0, 0, 0, 0)), (.getfield 21, (0, 4, 3, 0, 0)), (.aload_n 0, (0, 0, 0, 0, 0)), (.getfield 35, (0, 0, 3, 0, 0))] [some (3, 0, 39), some (3, 0, 20)] (by decide +kernel) rfl ⟨⟨trivial, (r_30_4 hR)⟩, (r_30_0 hR)⟩ ?_
  refine b_cV (as := [mR (3, 0, 20)]) (st := []) (by decide +kernel) k_0_42 n_Lay_takeFrom rfl (by decide) v_Lay_takeFrom (c_take 39 20 (ly_39 hR) (ly_20 hR)) (Nat.le_of_ble_eq_true rfl) (by decide) rfl rfl (fun _ h => h) ?_
  show m_B _ _ _ _ _ _ 63 [some (mR (0, 0, 30)), some (mI v1), some (mI ((1 : Int32) <<< ((I sl 3) &&& 31))), none, none, none] [] (L, w_take (py_it (m_up (w_take (w_take I 31 20) 35 20) 35 1 (0 : Int32)) 35 sl v1.toNatClampNeg) 39 20, J, R)
  refine b_blk (pc' := 79) (ls' := [some (mR (0, 0, 30)), some (mI v1), some (mI ((1 : Int32) <<< ((I sl 3) &&& 31))), none, none, none]) (st' := [mI v1, mR (3, 0, 39), mR (0, 0, 30)]) (S' := (L, m_up (w_take (py_it (m_up (w_take (w_take I 31 20) 35 20) 35 1 (0 : Int32)) 35 sl v1.toNatClampNeg) 39 20) 39 1 (((1 : Int32) <<< ((I sl 3) &&& 31)) - (1 : Int32)), J, R)) (P := ((True ∧ R 30 4 = some (3, 0, 39)) ∧ R 30 4 = some (3, 0, 39))) [(.aload_n 0, (0, 0, 0, 0, 0)), (.getfield 21, (0, 4, 3, 0, 0)), (.iload_n 2, (0, 0, 0, 0, 0)), (.iconst 1, (0, 0, 0, 1, 0)), (.isub, (0, 0, 0, 0, 0)), (.putfield 132, (3, 1, 0, 0, 0)), (.aload_n 0, (0, 0, 0, 0, 0)), (.aload_n 0, (0, 0, 0, 0, 0)), (.getfield 21, (0, 4, 3, 0, 0)), (.iload_n 1, (0, 0, 0, 0, 0))] [some (3, 0, 39), some (3, 0, 39)] (by decide +kernel) rfl ⟨⟨trivial, (r_30_4 hR)⟩, (r_30_4 hR)⟩ ?_
  obtain ⟨x1, ex1, hf⟩ := bnd_s hf
  refine m_B_cg (ls' := [some (mR (0, 0, 30)), some (mI v1), some (mI ((1 : Int32) <<< ((I sl 3) &&& 31))), none, none, none]) (st' := [mI v1, mR (3, 0, 39), mR (0, 0, 30)]) (S' := (L, x1, J, R)) (by first | with_reducible rfl | rw [ex1]) (by first | with_reducible rfl | rw [ex1]) (by first | with_reducible rfl | rw [ex1]) ?_
  refine b_cV (as := [mR (3, 0, 39), mI v1]) (st := []) (by decide +kernel) k_0_46 n_Foresight_passYears rfl (by decide) v_Foresight_passYears (c_Foresight_passYears 39 v1 sl hR hs hq (ly_39 hR) (by decide)) (Nat.le_of_ble_eq_true rfl) (by decide) rfl rfl (fun _ h => h) ?_
  show m_B _ _ _ _ _ _ 82 [some (mR (0, 0, 30)), some (mI v1), some (mI ((1 : Int32) <<< ((I sl 3) &&& 31))), none, none, none] [] (L, py_it x1 39 sl v1.toNatClampNeg, J, R)
  refine b_blk (pc' := 87) (ls' := [some (mR (0, 0, 30)), some (mI v1), some (mI ((1 : Int32) <<< ((I sl 3) &&& 31))), some (mI (-1)), some (mI 0), none]) (st' := []) (S' := (L, py_it x1 39 sl v1.toNatClampNeg, J, R)) (P := True) [(.iconst (-1), (0, 0, 0, (-1), 0)), (.istore_n 3, (0, 0, 0, 0, 0)), (.iconst 0, (0, 0, 0, 0, 0)), (.istore 4, (0, 0, 0, 0, 0))] [] (by decide +kernel) rfl trivial ?_
  refine b_frg 1 ?_
  obtain ⟨t2, hw, hf⟩ := bnd_o hf
  refine wl_B (A := fun s : Int32 × Int32 × MI => m_B G (m_rm 8 0 0) M_Foresight_findRest Q 0 0 87 [some (mR (0, 0, 30)), none, some (mI ((1 : Int32) <<< ((I sl 3) &&& 31))), some (mI s.1), some (mI s.2.1), none] [] (L, s.2.2, J, R)) (B := (fun s : Int32 × MI => m_B G (m_rm 8 0 0) M_Foresight_findRest Q 0 0 140 [none, none, none, some (mI s.1), none, none] [] (L, s.2, J, R))) (fun s r hs_ hr => W_Foresight_findRest_87 sl s.2.2 J ((1 : Int32) <<< ((I sl 3) &&& 31)) s.1 s.2.1 hR hs hq hs_ hr) hw ?_
  show m_B G (m_rm 8 0 0) M_Foresight_findRest Q 0 0 140 [none, none, none, some (mI t2.1), none, none] [] (L, t2.2, J, R)
  refine b_blk (pc' := 141) (ls' := [none, none, none, some (mI t2.1), none, none]) (st' := [mI t2.1]) (S' := (L, t2.2, J, R)) (P := True) [(.iload_n 3, (0, 0, 0, 0, 0))] [] (by decide +kernel) rfl trivial ?_
  cases hf
  exact b_iret (by decide +kernel) rfl hk
theorem C_Foresight_findRest {G : MG} {L : List (Nat × Nat)} {R : Nat → Nat → Option MRef} (sl : Nat) (I : MI) (J : MJ) (v1 : Int32) (hR : RF R) (hs : R 24 1 = some (8, 0, sl)) (hq : sl = 3 ∨ sl = 11) {r : Int32 × MI} (hf : F_Foresight_findRest sl I v1 = some r) : m_met G 8 0 0 y_Foresight_findRest M_Foresight_findRest [mR (0, 0, 30), mI v1] (L, I, J, R) (m_is (some (mI r.1)) (L, r.2, J, R)) :=
  m_met_in n_Foresight_findRest (plainFor_of_name (by decide)) (by decide) (Nat.le_of_ble_eq_true rfl) (ls := [some (mR (0, 0, 30)), some (mI v1), none, none, none, none]) rfl (W_Foresight_findRest sl I J v1 hR hs hq hf ⟨rfl, rfl⟩)
noncomputable def F_History_clear (I : MI) : Option (MI) :=
  some (m_up I 47 3 (0 : Int32))
set_option maxRecDepth 100000 in
set_option maxHeartbeats 400000 in
theorem W_History_clear {G : MG} {Q : Option MV → MS → Prop} {L : List (Nat × Nat)} {R : Nat → Nat → Option MRef} (I : MI) (J : MJ) (hR : RF R) {r : MI} (hf : F_History_clear I = some r) (hk : (fun r : MI => Q (none) (L, r, J, R)) r) : m_B G (m_rm 1 0 0) M_History_clear Q 0 0 0 [some (mR (1, 0, 47))] [] (L, I, J, R) := by
  unfold F_History_clear at hf
  refine b_blk (pc' := 5) (ls' := [some (mR (1, 0, 47))]) (st' := []) (S' := (L, m_up I 47 3 (0 : Int32), J, R)) (P := True) [(.aload_n 0, (0, 0, 0, 0, 0)), (.iconst 0, (0, 0, 0, 0, 0)), (.putfield 25, (1, 3, 0, 0, 0))] [] (by decide +kernel) rfl trivial ?_
  cases hf
  exact b_vret (by decide +kernel) rfl hk
theorem C_History_clear {G : MG} {L : List (Nat × Nat)} {R : Nat → Nat → Option MRef} (I : MI) (J : MJ) (hR : RF R) {r : MI} (hf : F_History_clear I = some r) : m_met G 1 0 0 y_History_clear M_History_clear [mR (1, 0, 47)] (L, I, J, R) (m_is (none) (L, r, J, R)) :=
  m_met_in n_History_clear (plainFor_of_name (by decide)) (by decide) (Nat.le_of_ble_eq_true rfl) (ls := [some (mR (1, 0, 47))]) rfl (W_History_clear I J hR hf ⟨rfl, rfl⟩)
noncomputable def F_History_hasRing (v1 : Int32) : Option (Int32) :=
  if v1 < (0 : Int32) then (some (0 : Int32)) else (if (20 : Int32) ≤ v1 then (some (0 : Int32)) else (gd v1 20 <| gd v1 20 <| some (1 : Int32)))
set_option maxRecDepth 100000 in
set_option maxHeartbeats 400000 in
theorem W_History_hasRing {G : MG} {Q : Option MV → MS → Prop} {L : List (Nat × Nat)} {R : Nat → Nat → Option MRef} (I : MI) (J : MJ) (v1 : Int32) (hR : RF R) {r : Int32} (hf : F_History_hasRing v1 = some r) (hk : (fun r : Int32 => Q (some (mI r)) (L, I, J, R)) r) : m_B G (m_rm 1 0 0) M_History_hasRing Q 0 0 0 [some (mR (1, 0, 47)), some (mI v1)] [] (L, I, J, R) := by
  unfold F_History_hasRing at hf
  refine b_blk (pc' := 1) (ls' := [some (mR (1, 0, 47)), some (mI v1)]) (st' := [mI v1]) (S' := (L, I, J, R)) (P := True) [(.iload_n 1, (0, 0, 0, 0, 0))] [] (by decide +kernel) rfl trivial ?_
  refine b_if_lt (off := 31) (tgt := 32) (by decide +kernel) (by decide) (fun h1 => ?_) (fun h1 => ?_)
  · have hf := if_t h1 hf
    refine b_blk (pc' := 33) (ls' := [some (mR (1, 0, 47)), some (mI v1)]) (st' := [mI 0]) (S' := (L, I, J, R)) (P := True) [(.iconst 0, (0, 0, 0, 0, 0))] [] (by decide +kernel) rfl trivial ?_
    cases hf
    exact b_zret (by decide +kernel) rfl (by decide) hk
  · have hf := if_f h1 hf
    refine b_blk (pc' := 7) (ls' := [some (mR (1, 0, 47)), some (mI v1)]) (st' := [mI 20, mI v1]) (S' := (L, I, J, R)) (P := True) [(.iload_n 1, (0, 0, 0, 0, 0)), (.bipush 20, (0, 0, 0, 20, 0))] [] (by decide +kernel) rfl trivial ?_
    refine b_icmp_ge (off := 25) (tgt := 32) (by decide +kernel) (by decide) (fun h2 => ?_) (fun h2 => ?_)
    · have hf := if_t h2 hf
      refine b_blk (pc' := 33) (ls' := [some (mR (1, 0, 47)), some (mI v1)]) (st' := [mI 0]) (S' := (L, I, J, R)) (P := True) [(.iconst 0, (0, 0, 0, 0, 0))] [] (by decide +kernel) rfl trivial ?_
      cases hf
      exact b_zret (by decide +kernel) rfl (by decide) hk
    · have hf := if_f h2 hf
      obtain ⟨g3, hf⟩ := gd_s hf
      have hy4 := hist_of hR _ (ix_lt (n := 20) (by decide) g3.1 g3.2)
      refine b_blk (pc' := 16) (ls' := [some (mR (1, 0, 47)), some (mI v1)]) (st' := [mR (3, 0, 50 + 6 * v1.toNatClampNeg)]) (S' := (L, I, J, R)) (P := (((True ∧ R 47 0 = some (25, 20, 48)) ∧ vp_in v1 20) ∧ R 48 v1.toNatClampNeg = some (3, 0, 50 + 6 * v1.toNatClampNeg))) [(.aload_n 0, (0, 0, 0, 0, 0)), (.getfield 11, (1, 0, 3, 0, 0)), (.iload_n 1, (0, 0, 0, 0, 0)), (.aaload, (0, 0, 0, 0, 0))] [some (25, 20, 48), some (3, 0, 50 + 6 * v1.toNatClampNeg)] (by decide +kernel) rfl ⟨⟨⟨trivial, (r_47_0 hR)⟩, (in_n (n := 20) (by decide) g3.1 g3.2)⟩, hy4.1⟩ ?_
      refine b_ifnull_R (off := 16) (tgt := 32) (by decide +kernel) (by decide) ?_
      obtain ⟨g5, hf⟩ := gd_s hf
      have hy6 := hist_of hR _ (ix_lt (n := 20) (by decide) g5.1 g5.2)
      refine b_blk (pc' := 25) (ls' := [some (mR (1, 0, 47)), some (mI v1)]) (st' := [mR (4, 0, 54 + 6 * v1.toNatClampNeg)]) (S' := (L, I, J, R)) (P := (((True ∧ R 47 1 = some (26, 20, 49)) ∧ vp_in v1 20) ∧ R 49 v1.toNatClampNeg = some (4, 0, 54 + 6 * v1.toNatClampNeg))) [(.aload_n 0, (0, 0, 0, 0, 0)), (.getfield 19, (1, 1, 3, 0, 0)), (.iload_n 1, (0, 0, 0, 0, 0)), (.aaload, (0, 0, 0, 0, 0))] [some (26, 20, 49), some (4, 0, 54 + 6 * v1.toNatClampNeg)] (by decide +kernel) rfl ⟨⟨⟨trivial, (r_47_1 hR)⟩, (in_n (n := 20) (by decide) g5.1 g5.2)⟩, hy6.2.1⟩ ?_
      refine b_ifnull_R (off := 7) (tgt := 32) (by decide +kernel) (by decide) ?_
      refine b_blk (pc' := 33) (ls' := [some (mR (1, 0, 47)), some (mI v1)]) (st' := [mI 1]) (S' := (L, I, J, R)) (P := True) [(.iconst 1, (0, 0, 0, 1, 0)), (.goto 4, (0, 33, 0, 0, 0))] [] (by decide +kernel) rfl trivial ?_
      cases hf
      exact b_zret (by decide +kernel) rfl (by decide) hk
theorem C_History_hasRing {G : MG} {L : List (Nat × Nat)} {R : Nat → Nat → Option MRef} (I : MI) (J : MJ) (v1 : Int32) (hR : RF R) {r : Int32} (hf : F_History_hasRing v1 = some r) : m_met G 1 0 0 y_History_hasRing M_History_hasRing [mR (1, 0, 47), mI v1] (L, I, J, R) (m_is (some (mI r)) (L, I, J, R)) :=
  m_met_in n_History_hasRing (plainFor_of_name (by decide)) (by decide) (Nat.le_of_ble_eq_true rfl) (ls := [some (mR (1, 0, 47)), some (mI v1)]) rfl (W_History_hasRing I J v1 hR hf ⟨rfl, rfl⟩)
noncomputable def F_History_keep (I : MI) : Option (MI) :=
  (F_History_hasRing (I 47 2)).bind fun r1 => if r1 = (0 : Int32) then (some I) else (gd (I 47 2) 20 <| gd ((w_take I (50 + 6 * ((I 47 2).toNatClampNeg)) 20) 47 2) 20 <| bnd (m_cpI (m_up (m_up (w_take I (50 + 6 * ((I 47 2).toNatClampNeg)) 20) (54 + 6 * (((w_take I (50 + 6 * ((I 47 2).toNatClampNeg)) 20) 47 2).toNatClampNeg)) 1 ((w_take I (50 + 6 * ((I 47 2).toNatClampNeg)) 20) 45 1)) (54 + 6 * (((w_take I (50 + 6 * ((I 47 2).toNatClampNeg)) 20) 47 2).toNatClampNeg)) 2 ((m_up (w_take I (50 + 6 * ((I 47 2).toNatClampNeg)) 20) (54 + 6 * (((w_take I (50 + 6 * ((I 47 2).toNatClampNeg)) 20) 47 2).toNatClampNeg)) 1 ((w_take I (50 + 6 * ((I 47 2).toNatClampNeg)) 20) 45 1)) 45 2)) (45 + 1) ((54 + 6 * (((w_take I (50 + 6 * ((I 47 2).toNatClampNeg)) 20) 47 2).toNatClampNeg)) + 1) 0 0 40 : MI) fun x7 => bnd (m_up (m_up x7 47 2 (m_rem ((x7 47 2) + (1 : Int32)) (20 : Int32))) 47 3 (f_Math_min_II (20 : Int32) ((x7 47 3) + (1 : Int32))) : MI) fun x8 => some x8)
set_option maxRecDepth 100000 in
set_option maxHeartbeats 400000 in
theorem W_History_keep {G : MG} {Q : Option MV → MS → Prop} {L : List (Nat × Nat)} {R : Nat → Nat → Option MRef} (I : MI) (J : MJ) (hR : RF R) {r : MI} (hf : F_History_keep I = some r) (hk : (fun r : MI => Q (none) (L, r, J, R)) r) : m_B G (m_rm 3 0 0) M_History_keep Q 0 0 0 [some (mR (1, 0, 47)), some (mR (3, 0, 20)), some (mR (4, 0, 45))] [] (L, I, J, R) := by
  unfold F_History_keep at hf
  refine b_blk (pc' := 5) (ls' := [some (mR (1, 0, 47)), some (mR (3, 0, 20)), some (mR (4, 0, 45))]) (st' := [mI (I 47 2), mR (1, 0, 47)]) (S' := (L, I, J, R)) (P := True) [(.aload_n 0, (0, 0, 0, 0, 0)), (.aload_n 0, (0, 0, 0, 0, 0)), (.getfield 29, (1, 2, 0, 0, 0))] [] (by decide +kernel) rfl trivial ?_
  obtain ⟨r1, hc1, hf⟩ := bnd_o hf
  refine b_cV (as := [mI (I 47 2)]) (st := []) (by decide +kernel) k_1_32 n_History_hasRing rfl (by decide) v_History_hasRing (C_History_hasRing I J (I 47 2) hR hc1) (Nat.le_of_ble_eq_true rfl) (by decide) rfl rfl (fun _ h => h) ?_
  show m_B G (m_rm 3 0 0) M_History_keep Q 0 0 8 [some (mR (1, 0, 47)), some (mR (3, 0, 20)), some (mR (4, 0, 45))] [mI r1] (L, I, J, R)
  refine b_if_ne (off := 4) (tgt := 12) (by decide +kernel) (by decide) (fun h2 => ?_) (fun h2 => ?_)
  · have hf := if_f h2 hf
    obtain ⟨g3, hf⟩ := gd_s hf
    have hy4 := hist_of hR _ (ix_lt (n := 20) (by decide) g3.1 g3.2)
    refine b_blk (pc' := 22) (ls' := [some (mR (1, 0, 47)), some (mR (3, 0, 20)), some (mR (4, 0, 45))]) (st' := [mR (3, 0, 20), mR (3, 0, 50 + 6 * ((I 47 2).toNatClampNeg))]) (S' := (L, I, J, R)) (P := (((True ∧ R 47 0 = some (25, 20, 48)) ∧ vp_in (I 47 2) 20) ∧ R 48 ((I 47 2).toNatClampNeg) = some (3, 0, 50 + 6 * ((I 47 2).toNatClampNeg)))) [(.aload_n 0, (0, 0, 0, 0, 0)), (.getfield 11, (1, 0, 3, 0, 0)), (.aload_n 0, (0, 0, 0, 0, 0)), (.getfield 29, (1, 2, 0, 0, 0)), (.aaload, (0, 0, 0, 0, 0)), (.aload_n 1, (0, 0, 0, 0, 0))] [some (25, 20, 48), some (3, 0, 50 + 6 * ((I 47 2).toNatClampNeg))] (by decide +kernel) rfl ⟨⟨⟨trivial, (r_47_0 hR)⟩, (in_n (n := 20) (by decide) g3.1 g3.2)⟩, hy4.1⟩ ?_
    refine b_cV (as := [mR (3, 0, 20)]) (st := []) (by decide +kernel) k_1_36 n_Lay_takeFrom rfl (by decide) v_Lay_takeFrom (c_take (50 + 6 * ((I 47 2).toNatClampNeg)) 20 hy4.2.2.1 (ly_20 hR)) (Nat.le_of_ble_eq_true rfl) (by decide) rfl rfl (fun _ h => h) ?_
    show m_B _ _ _ _ _ _ 25 [some (mR (1, 0, 47)), some (mR (3, 0, 20)), some (mR (4, 0, 45))] [] (L, w_take I (50 + 6 * ((I 47 2).toNatClampNeg)) 20, J, R)
    obtain ⟨g5, hf⟩ := gd_s hf
    have hy6 := hist_of hR _ (ix_lt (n := 20) (by decide) g5.1 g5.2)
    refine b_blk (pc' := 35) (ls' := [some (mR (1, 0, 47)), some (mR (3, 0, 20)), some (mR (4, 0, 45))]) (st' := [mR (4, 0, 45), mR (4, 0, 54 + 6 * (((w_take I (50 + 6 * ((I 47 2).toNatClampNeg)) 20) 47 2).toNatClampNeg))]) (S' := (L, w_take I (50 + 6 * ((I 47 2).toNatClampNeg)) 20, J, R)) (P := (((True ∧ R 47 1 = some (26, 20, 49)) ∧ vp_in ((w_take I (50 + 6 * ((I 47 2).toNatClampNeg)) 20) 47 2) 20) ∧ R 49 (((w_take I (50 + 6 * ((I 47 2).toNatClampNeg)) 20) 47 2).toNatClampNeg) = some (4, 0, 54 + 6 * (((w_take I (50 + 6 * ((I 47 2).toNatClampNeg)) 20) 47 2).toNatClampNeg)))) [(.aload_n 0, (0, 0, 0, 0, 0)), (.getfield 19, (1, 1, 3, 0, 0)), (.aload_n 0, (0, 0, 0, 0, 0)), (.getfield 29, (1, 2, 0, 0, 0)), (.aaload, (0, 0, 0, 0, 0)), (.aload_n 2, (0, 0, 0, 0, 0))] [some (26, 20, 49), some (4, 0, 54 + 6 * (((w_take I (50 + 6 * ((I 47 2).toNatClampNeg)) 20) 47 2).toNatClampNeg))] (by decide +kernel) rfl ⟨⟨⟨trivial, (r_47_1 hR)⟩, (in_n (n := 20) (by decide) g5.1 g5.2)⟩, hy6.2.1⟩ ?_
    refine b_cV (as := [mR (4, 0, 45)]) (st := []) (by decide +kernel) k_1_40 n_Log_takeFrom rfl (by decide) v_Log_takeFrom (c_Log_takeFrom (54 + 6 * (((w_take I (50 + 6 * ((I 47 2).toNatClampNeg)) 20) 47 2).toNatClampNeg)) 45 hy6.2.2.2 (lg_45 hR)) (Nat.le_of_ble_eq_true rfl) (by decide) rfl rfl (fun _ h => h) ?_
    show m_B _ _ _ _ _ _ 38 [some (mR (1, 0, 47)), some (mR (3, 0, 20)), some (mR (4, 0, 45))] [] (L, m_cpI (m_up (m_up (w_take I (50 + 6 * ((I 47 2).toNatClampNeg)) 20) (54 + 6 * (((w_take I (50 + 6 * ((I 47 2).toNatClampNeg)) 20) 47 2).toNatClampNeg)) 1 ((w_take I (50 + 6 * ((I 47 2).toNatClampNeg)) 20) 45 1)) (54 + 6 * (((w_take I (50 + 6 * ((I 47 2).toNatClampNeg)) 20) 47 2).toNatClampNeg)) 2 ((m_up (w_take I (50 + 6 * ((I 47 2).toNatClampNeg)) 20) (54 + 6 * (((w_take I (50 + 6 * ((I 47 2).toNatClampNeg)) 20) 47 2).toNatClampNeg)) 1 ((w_take I (50 + 6 * ((I 47 2).toNatClampNeg)) 20) 45 1)) 45 2)) (45 + 1) ((54 + 6 * (((w_take I (50 + 6 * ((I 47 2).toNatClampNeg)) 20) 47 2).toNatClampNeg)) + 1) 0 0 40, J, R)
    obtain ⟨x7, ex7, hf⟩ := bnd_s hf
    refine m_B_cg (ls' := [some (mR (1, 0, 47)), some (mR (3, 0, 20)), some (mR (4, 0, 45))]) (st' := []) (S' := (L, x7, J, R)) (by first | with_reducible rfl | rw [ex7]) (by first | with_reducible rfl | rw [ex7]) (by first | with_reducible rfl | rw [ex7]) ?_
    refine b_blk (pc' := 60) (ls' := [some (mR (1, 0, 47)), some (mR (3, 0, 20)), some (mR (4, 0, 45))]) (st' := [mI ((x7 47 3) + (1 : Int32)), mI 20, mR (1, 0, 47)]) (S' := (L, m_up x7 47 2 (m_rem ((x7 47 2) + (1 : Int32)) (20 : Int32)), J, R)) (P := (True ∧ ¬ (20 : Int32) = 0)) [(.aload_n 0, (0, 0, 0, 0, 0)), (.aload_n 0, (0, 0, 0, 0, 0)), (.getfield 29, (1, 2, 0, 0, 0)), (.iconst 1, (0, 0, 0, 1, 0)), (.iadd, (0, 0, 0, 0, 0)), (.bipush 20, (0, 0, 0, 20, 0)), (.irem, (0, 0, 0, 0, 0)), (.putfield 29, (1, 2, 0, 0, 0)), (.aload_n 0, (0, 0, 0, 0, 0)), (.bipush 20, (0, 0, 0, 20, 0)), (.aload_n 0, (0, 0, 0, 0, 0)), (.getfield 25, (1, 3, 0, 0, 0)), (.iconst 1, (0, 0, 0, 1, 0)), (.iadd, (0, 0, 0, 0, 0))] [] (by decide +kernel) rfl ⟨trivial, (by decide)⟩ ?_
    refine b_cS (as := [mI 20, mI ((x7 47 3) + (1 : Int32))]) (st := [mR (1, 0, 47)]) (by decide +kernel) k_1_43 n_Math_min_II s_Math_min_II (c_Math_min_II (20 : Int32) ((x7 47 3) + (1 : Int32)) ) (Nat.le_of_ble_eq_true rfl) (by decide) rfl rfl (fun _ h => h) ?_
    show m_B _ _ _ _ _ _ 63 [some (mR (1, 0, 47)), some (mR (3, 0, 20)), some (mR (4, 0, 45))] [mI (f_Math_min_II (20 : Int32) ((x7 47 3) + (1 : Int32))), mR (1, 0, 47)] (L, (m_up x7 47 2 (m_rem ((x7 47 2) + (1 : Int32)) (20 : Int32))), J, R)
    refine b_blk (pc' := 66) (ls' := [some (mR (1, 0, 47)), some (mR (3, 0, 20)), some (mR (4, 0, 45))]) (st' := []) (S' := (L, m_up (m_up x7 47 2 (m_rem ((x7 47 2) + (1 : Int32)) (20 : Int32))) 47 3 (f_Math_min_II (20 : Int32) ((x7 47 3) + (1 : Int32))), J, R)) (P := True) [(.putfield 25, (1, 3, 0, 0, 0))] [] (by decide +kernel) rfl trivial ?_
    obtain ⟨x8, ex8, hf⟩ := bnd_s hf
    refine m_B_cg (ls' := [some (mR (1, 0, 47)), some (mR (3, 0, 20)), some (mR (4, 0, 45))]) (st' := []) (S' := (L, x8, J, R)) (by first | with_reducible rfl | rw [ex8]) (by first | with_reducible rfl | rw [ex8]) (by first | with_reducible rfl | rw [ex8]) ?_
    cases hf
    exact b_vret (by decide +kernel) rfl hk
  · have hf := if_t h2 hf
    cases hf
    exact b_vret (by decide +kernel) rfl hk
theorem C_History_keep {G : MG} {L : List (Nat × Nat)} {R : Nat → Nat → Option MRef} (I : MI) (J : MJ) (hR : RF R) {r : MI} (hf : F_History_keep I = some r) : m_met G 3 0 0 y_History_keep M_History_keep [mR (1, 0, 47), mR (3, 0, 20), mR (4, 0, 45)] (L, I, J, R) (m_is (none) (L, r, J, R)) :=
  m_met_in n_History_keep (plainFor_of_name (by decide)) (by decide) (Nat.le_of_ble_eq_true rfl) (ls := [some (mR (1, 0, 47)), some (mR (3, 0, 20)), some (mR (4, 0, 45))]) rfl (W_History_keep I J hR hf ⟨rfl, rfl⟩)
noncomputable def F_History_giveBack (I : MI) : Option (Int32 × MI) :=
  if (I 47 3) ≤ (0 : Int32) then (some ((0 : Int32), I)) else ((F_History_hasRing (m_rem (((I 47 2) + (20 : Int32)) - (1 : Int32)) (20 : Int32))).bind fun r2 => if r2 = (0 : Int32) then (some ((0 : Int32), I)) else (gd (m_rem (((I 47 2) + (20 : Int32)) - (1 : Int32)) (20 : Int32)) 20 <| gd (m_rem (((I 47 2) + (20 : Int32)) - (1 : Int32)) (20 : Int32)) 20 <| bnd (m_cpI (m_up (m_up (w_take I 20 (50 + 6 * ((m_rem (((I 47 2) + (20 : Int32)) - (1 : Int32)) (20 : Int32)).toNatClampNeg))) 45 1 ((w_take I 20 (50 + 6 * ((m_rem (((I 47 2) + (20 : Int32)) - (1 : Int32)) (20 : Int32)).toNatClampNeg))) (54 + 6 * ((m_rem (((I 47 2) + (20 : Int32)) - (1 : Int32)) (20 : Int32)).toNatClampNeg)) 1)) 45 2 ((m_up (w_take I 20 (50 + 6 * ((m_rem (((I 47 2) + (20 : Int32)) - (1 : Int32)) (20 : Int32)).toNatClampNeg))) 45 1 ((w_take I 20 (50 + 6 * ((m_rem (((I 47 2) + (20 : Int32)) - (1 : Int32)) (20 : Int32)).toNatClampNeg))) (54 + 6 * ((m_rem (((I 47 2) + (20 : Int32)) - (1 : Int32)) (20 : Int32)).toNatClampNeg)) 1)) (54 + 6 * ((m_rem (((I 47 2) + (20 : Int32)) - (1 : Int32)) (20 : Int32)).toNatClampNeg)) 2)) ((54 + 6 * ((m_rem (((I 47 2) + (20 : Int32)) - (1 : Int32)) (20 : Int32)).toNatClampNeg)) + 1) (45 + 1) 0 0 40 : MI) fun x8 => bnd (m_up (m_up x8 47 2 (m_rem (((I 47 2) + (20 : Int32)) - (1 : Int32)) (20 : Int32))) 47 3 ((x8 47 3) - (1 : Int32)) : MI) fun x9 => some ((1 : Int32), x9)))
set_option maxRecDepth 100000 in
set_option maxHeartbeats 400000 in
theorem W_History_giveBack {G : MG} {Q : Option MV → MS → Prop} {L : List (Nat × Nat)} {R : Nat → Nat → Option MRef} (I : MI) (J : MJ) (hR : RF R) {r : Int32 × MI} (hf : F_History_giveBack I = some r) (hk : (fun r : Int32 × MI => Q (some (mI r.1)) (L, r.2, J, R)) r) : m_B G (m_rm 3 0 0) M_History_giveBack Q 0 0 0 [some (mR (1, 0, 47)), some (mR (3, 0, 20)), some (mR (4, 0, 45)), none] [] (L, I, J, R) := by
  unfold F_History_giveBack at hf
  refine b_blk (pc' := 17) (ls' := [some (mR (1, 0, 47)), some (mR (3, 0, 20)), some (mR (4, 0, 45)), some (mI (m_rem (((I 47 2) + (20 : Int32)) - (1 : Int32)) (20 : Int32)))]) (st' := [mI (I 47 3)]) (S' := (L, I, J, R)) (P := (True ∧ ¬ (20 : Int32) = 0)) [(.aload_n 0, (0, 0, 0, 0, 0)), (.getfield 29, (1, 2, 0, 0, 0)), (.bipush 20, (0, 0, 0, 20, 0)), (.iadd, (0, 0, 0, 0, 0)), (.iconst 1, (0, 0, 0, 1, 0)), (.isub, (0, 0, 0, 0, 0)), (.bipush 20, (0, 0, 0, 20, 0)), (.irem, (0, 0, 0, 0, 0)), (.istore_n 3, (0, 0, 0, 0, 0)), (.aload_n 0, (0, 0, 0, 0, 0)), (.getfield 25, (1, 3, 0, 0, 0))] [] (by decide +kernel) rfl ⟨trivial, (by decide)⟩ ?_
  refine b_if_le (off := 11) (tgt := 28) (by decide +kernel) (by decide) (fun h1 => ?_) (fun h1 => ?_)
  · have hf := if_t h1 hf
    refine b_blk (pc' := 29) (ls' := [some (mR (1, 0, 47)), some (mR (3, 0, 20)), some (mR (4, 0, 45)), some (mI (m_rem (((I 47 2) + (20 : Int32)) - (1 : Int32)) (20 : Int32)))]) (st' := [mI 0]) (S' := (L, I, J, R)) (P := True) [(.iconst 0, (0, 0, 0, 0, 0))] [] (by decide +kernel) rfl trivial ?_
    cases hf
    exact b_zret (by decide +kernel) rfl (by decide) hk
  · have hf := if_f h1 hf
    refine b_blk (pc' := 22) (ls' := [some (mR (1, 0, 47)), some (mR (3, 0, 20)), some (mR (4, 0, 45)), some (mI (m_rem (((I 47 2) + (20 : Int32)) - (1 : Int32)) (20 : Int32)))]) (st' := [mI (m_rem (((I 47 2) + (20 : Int32)) - (1 : Int32)) (20 : Int32)), mR (1, 0, 47)]) (S' := (L, I, J, R)) (P := True) [(.aload_n 0, (0, 0, 0, 0, 0)), (.iload_n 3, (0, 0, 0, 0, 0))] [] (by decide +kernel) rfl trivial ?_
    obtain ⟨r2, hc2, hf⟩ := bnd_o hf
    refine b_cV (as := [mI (m_rem (((I 47 2) + (20 : Int32)) - (1 : Int32)) (20 : Int32))]) (st := []) (by decide +kernel) k_1_32 n_History_hasRing rfl (by decide) v_History_hasRing (C_History_hasRing I J (m_rem (((I 47 2) + (20 : Int32)) - (1 : Int32)) (20 : Int32)) hR hc2) (Nat.le_of_ble_eq_true rfl) (by decide) rfl rfl (fun _ h => h) ?_
    show m_B G (m_rm 3 0 0) M_History_giveBack Q 0 0 25 [some (mR (1, 0, 47)), some (mR (3, 0, 20)), some (mR (4, 0, 45)), some (mI (m_rem (((I 47 2) + (20 : Int32)) - (1 : Int32)) (20 : Int32)))] [mI r2] (L, I, J, R)
    refine b_if_ne (off := 5) (tgt := 30) (by decide +kernel) (by decide) (fun h3 => ?_) (fun h3 => ?_)
    · have hf := if_f h3 hf
      obtain ⟨g4, hf⟩ := gd_s hf
      have hy5 := hist_of hR _ (ix_lt (n := 20) (by decide) g4.1 g4.2)
      refine b_blk (pc' := 37) (ls' := [some (mR (1, 0, 47)), some (mR (3, 0, 20)), some (mR (4, 0, 45)), some (mI (m_rem (((I 47 2) + (20 : Int32)) - (1 : Int32)) (20 : Int32)))]) (st' := [mR (3, 0, 50 + 6 * ((m_rem (((I 47 2) + (20 : Int32)) - (1 : Int32)) (20 : Int32)).toNatClampNeg)), mR (3, 0, 20)]) (S' := (L, I, J, R)) (P := (((True ∧ R 47 0 = some (25, 20, 48)) ∧ vp_in (m_rem (((I 47 2) + (20 : Int32)) - (1 : Int32)) (20 : Int32)) 20) ∧ R 48 ((m_rem (((I 47 2) + (20 : Int32)) - (1 : Int32)) (20 : Int32)).toNatClampNeg) = some (3, 0, 50 + 6 * ((m_rem (((I 47 2) + (20 : Int32)) - (1 : Int32)) (20 : Int32)).toNatClampNeg)))) [(.aload_n 1, (0, 0, 0, 0, 0)), (.aload_n 0, (0, 0, 0, 0, 0)), (.getfield 11, (1, 0, 3, 0, 0)), (.iload_n 3, (0, 0, 0, 0, 0)), (.aaload, (0, 0, 0, 0, 0))] [some (25, 20, 48), some (3, 0, 50 + 6 * ((m_rem (((I 47 2) + (20 : Int32)) - (1 : Int32)) (20 : Int32)).toNatClampNeg))] (by decide +kernel) rfl ⟨⟨⟨trivial, (r_47_0 hR)⟩, (in_n (n := 20) (by decide) g4.1 g4.2)⟩, hy5.1⟩ ?_
      refine b_cV (as := [mR (3, 0, 50 + 6 * ((m_rem (((I 47 2) + (20 : Int32)) - (1 : Int32)) (20 : Int32)).toNatClampNeg))]) (st := []) (by decide +kernel) k_1_36 n_Lay_takeFrom rfl (by decide) v_Lay_takeFrom (c_take 20 (50 + 6 * ((m_rem (((I 47 2) + (20 : Int32)) - (1 : Int32)) (20 : Int32)).toNatClampNeg)) (ly_20 hR) hy5.2.2.1) (Nat.le_of_ble_eq_true rfl) (by decide) rfl rfl (fun _ h => h) ?_
      show m_B _ _ _ _ _ _ 40 [some (mR (1, 0, 47)), some (mR (3, 0, 20)), some (mR (4, 0, 45)), some (mI (m_rem (((I 47 2) + (20 : Int32)) - (1 : Int32)) (20 : Int32)))] [] (L, w_take I 20 (50 + 6 * ((m_rem (((I 47 2) + (20 : Int32)) - (1 : Int32)) (20 : Int32)).toNatClampNeg)), J, R)
      obtain ⟨g6, hf⟩ := gd_s hf
      have hy7 := hist_of hR _ (ix_lt (n := 20) (by decide) g6.1 g6.2)
      refine b_blk (pc' := 47) (ls' := [some (mR (1, 0, 47)), some (mR (3, 0, 20)), some (mR (4, 0, 45)), some (mI (m_rem (((I 47 2) + (20 : Int32)) - (1 : Int32)) (20 : Int32)))]) (st' := [mR (4, 0, 54 + 6 * ((m_rem (((I 47 2) + (20 : Int32)) - (1 : Int32)) (20 : Int32)).toNatClampNeg)), mR (4, 0, 45)]) (S' := (L, w_take I 20 (50 + 6 * ((m_rem (((I 47 2) + (20 : Int32)) - (1 : Int32)) (20 : Int32)).toNatClampNeg)), J, R)) (P := (((True ∧ R 47 1 = some (26, 20, 49)) ∧ vp_in (m_rem (((I 47 2) + (20 : Int32)) - (1 : Int32)) (20 : Int32)) 20) ∧ R 49 ((m_rem (((I 47 2) + (20 : Int32)) - (1 : Int32)) (20 : Int32)).toNatClampNeg) = some (4, 0, 54 + 6 * ((m_rem (((I 47 2) + (20 : Int32)) - (1 : Int32)) (20 : Int32)).toNatClampNeg)))) [(.aload_n 2, (0, 0, 0, 0, 0)), (.aload_n 0, (0, 0, 0, 0, 0)), (.getfield 19, (1, 1, 3, 0, 0)), (.iload_n 3, (0, 0, 0, 0, 0)), (.aaload, (0, 0, 0, 0, 0))] [some (26, 20, 49), some (4, 0, 54 + 6 * ((m_rem (((I 47 2) + (20 : Int32)) - (1 : Int32)) (20 : Int32)).toNatClampNeg))] (by decide +kernel) rfl ⟨⟨⟨trivial, (r_47_1 hR)⟩, (in_n (n := 20) (by decide) g6.1 g6.2)⟩, hy7.2.1⟩ ?_
      refine b_cV (as := [mR (4, 0, 54 + 6 * ((m_rem (((I 47 2) + (20 : Int32)) - (1 : Int32)) (20 : Int32)).toNatClampNeg))]) (st := []) (by decide +kernel) k_1_40 n_Log_takeFrom rfl (by decide) v_Log_takeFrom (c_Log_takeFrom 45 (54 + 6 * ((m_rem (((I 47 2) + (20 : Int32)) - (1 : Int32)) (20 : Int32)).toNatClampNeg)) (lg_45 hR) hy7.2.2.2) (Nat.le_of_ble_eq_true rfl) (by decide) rfl rfl (fun _ h => h) ?_
      show m_B _ _ _ _ _ _ 50 [some (mR (1, 0, 47)), some (mR (3, 0, 20)), some (mR (4, 0, 45)), some (mI (m_rem (((I 47 2) + (20 : Int32)) - (1 : Int32)) (20 : Int32)))] [] (L, m_cpI (m_up (m_up (w_take I 20 (50 + 6 * ((m_rem (((I 47 2) + (20 : Int32)) - (1 : Int32)) (20 : Int32)).toNatClampNeg))) 45 1 ((w_take I 20 (50 + 6 * ((m_rem (((I 47 2) + (20 : Int32)) - (1 : Int32)) (20 : Int32)).toNatClampNeg))) (54 + 6 * ((m_rem (((I 47 2) + (20 : Int32)) - (1 : Int32)) (20 : Int32)).toNatClampNeg)) 1)) 45 2 ((m_up (w_take I 20 (50 + 6 * ((m_rem (((I 47 2) + (20 : Int32)) - (1 : Int32)) (20 : Int32)).toNatClampNeg))) 45 1 ((w_take I 20 (50 + 6 * ((m_rem (((I 47 2) + (20 : Int32)) - (1 : Int32)) (20 : Int32)).toNatClampNeg))) (54 + 6 * ((m_rem (((I 47 2) + (20 : Int32)) - (1 : Int32)) (20 : Int32)).toNatClampNeg)) 1)) (54 + 6 * ((m_rem (((I 47 2) + (20 : Int32)) - (1 : Int32)) (20 : Int32)).toNatClampNeg)) 2)) ((54 + 6 * ((m_rem (((I 47 2) + (20 : Int32)) - (1 : Int32)) (20 : Int32)).toNatClampNeg)) + 1) (45 + 1) 0 0 40, J, R)
      obtain ⟨x8, ex8, hf⟩ := bnd_s hf
      refine m_B_cg (ls' := [some (mR (1, 0, 47)), some (mR (3, 0, 20)), some (mR (4, 0, 45)), some (mI (m_rem (((I 47 2) + (20 : Int32)) - (1 : Int32)) (20 : Int32)))]) (st' := []) (S' := (L, x8, J, R)) (by first | with_reducible rfl | rw [ex8]) (by first | with_reducible rfl | rw [ex8]) (by first | with_reducible rfl | rw [ex8]) ?_
      refine b_blk (pc' := 66) (ls' := [some (mR (1, 0, 47)), some (mR (3, 0, 20)), some (mR (4, 0, 45)), some (mI (m_rem (((I 47 2) + (20 : Int32)) - (1 : Int32)) (20 : Int32)))]) (st' := [mI 1]) (S' := (L, m_up (m_up x8 47 2 (m_rem (((I 47 2) + (20 : Int32)) - (1 : Int32)) (20 : Int32))) 47 3 ((x8 47 3) - (1 : Int32)), J, R)) (P := True) [(.aload_n 0, (0, 0, 0, 0, 0)), (.iload_n 3, (0, 0, 0, 0, 0)), (.putfield 29, (1, 2, 0, 0, 0)), (.aload_n 0, (0, 0, 0, 0, 0)), (.dup, (0, 0, 0, 0, 0)), (.getfield 25, (1, 3, 0, 0, 0)), (.iconst 1, (0, 0, 0, 1, 0)), (.isub, (0, 0, 0, 0, 0)), (.putfield 25, (1, 3, 0, 0, 0)), (.iconst 1, (0, 0, 0, 1, 0))] [] (by decide +kernel) rfl trivial ?_
      obtain ⟨x9, ex9, hf⟩ := bnd_s hf
      refine m_B_cg (ls' := [some (mR (1, 0, 47)), some (mR (3, 0, 20)), some (mR (4, 0, 45)), some (mI (m_rem (((I 47 2) + (20 : Int32)) - (1 : Int32)) (20 : Int32)))]) (st' := [mI 1]) (S' := (L, x9, J, R)) (by first | with_reducible rfl | rw [ex9]) (by first | with_reducible rfl | rw [ex9]) (by first | with_reducible rfl | rw [ex9]) ?_
      cases hf
      exact b_zret (by decide +kernel) rfl (by decide) hk
    · have hf := if_t h3 hf
      refine b_blk (pc' := 29) (ls' := [some (mR (1, 0, 47)), some (mR (3, 0, 20)), some (mR (4, 0, 45)), some (mI (m_rem (((I 47 2) + (20 : Int32)) - (1 : Int32)) (20 : Int32)))]) (st' := [mI 0]) (S' := (L, I, J, R)) (P := True) [(.iconst 0, (0, 0, 0, 0, 0))] [] (by decide +kernel) rfl trivial ?_
      cases hf
      exact b_zret (by decide +kernel) rfl (by decide) hk
theorem C_History_giveBack {G : MG} {L : List (Nat × Nat)} {R : Nat → Nat → Option MRef} (I : MI) (J : MJ) (hR : RF R) {r : Int32 × MI} (hf : F_History_giveBack I = some r) : m_met G 3 0 0 y_History_giveBack M_History_giveBack [mR (1, 0, 47), mR (3, 0, 20), mR (4, 0, 45)] (L, I, J, R) (m_is (some (mI r.1)) (L, r.2, J, R)) :=
  m_met_in n_History_giveBack (plainFor_of_name (by decide)) (by decide) (Nat.le_of_ble_eq_true rfl) (ls := [some (mR (1, 0, 47)), some (mR (3, 0, 20)), some (mR (4, 0, 45)), none]) rfl (W_History_giveBack I J hR hf ⟨rfl, rfl⟩)
noncomputable def F_Walker_reckonQuestion_80 (sl : Nat) (sd : Nat) (I : MI) (v3 : Int32) (v4 : Int32) : Option ((Int32 × MI) ⊕ (MI)) :=
  if (6 : Int32) ≤ v4 then (some (.inr I)) else (gd v4 6 <| some (.inl ((v4 + 1 : Int32), m_up I 28 (v4.toNatClampNeg) (v_rowOf I 20 v3 v4))))
set_option maxRecDepth 100000 in
set_option maxHeartbeats 400000 in
theorem W_Walker_reckonQuestion_80 {G : MG} {Q : Option MV → MS → Prop} {L : List (Nat × Nat)} {R : Nat → Nat → Option MRef} (sl : Nat) (sd : Nat) (I : MI) (J : MJ) (v3 : Int32) (v4 : Int32) (hR : RF R) (hs : R 24 1 = some (8, 0, sl)) (hq : sl = 3 ∨ sl = 11) (hqd : sd = 3 ∨ sd = 11) {r : (Int32 × MI) ⊕ (MI)} (hf : F_Walker_reckonQuestion_80 sl sd I v3 v4 = some r) (hk : (Sum.elim (fun s : Int32 × MI => m_B G (m_rm 5 0 0) M_Walker_reckonQuestion Q 0 0 80 [some (mR (10, 0, 24)), some (mR (8, 0, sd)), some (mR (3, 0, 20)), some (mI v3), some (mI s.1)] [] (L, s.2, J, R)) (fun s : MI => m_B G (m_rm 5 0 0) M_Walker_reckonQuestion Q 0 0 110 [some (mR (10, 0, 24)), some (mR (8, 0, sd)), some (mR (3, 0, 20)), some (mI v3), none] [] (L, s, J, R))) r) : m_B G (m_rm 5 0 0) M_Walker_reckonQuestion Q 0 0 80 [some (mR (10, 0, 24)), some (mR (8, 0, sd)), some (mR (3, 0, 20)), some (mI v3), some (mI v4)] [] (L, I, J, R) := by
  unfold F_Walker_reckonQuestion_80 at hf
  refine b_blk (pc' := 84) (ls' := [some (mR (10, 0, 24)), some (mR (8, 0, sd)), some (mR (3, 0, 20)), some (mI v3), some (mI v4)]) (st' := [mI 6, mI v4]) (S' := (L, I, J, R)) (P := True) [(.iload 4, (0, 0, 0, 0, 0)), (.bipush 6, (0, 0, 0, 6, 0))] [] (by decide +kernel) rfl trivial ?_
  refine b_icmp_ge (off := 26) (tgt := 110) (by decide +kernel) (by decide) (fun h1 => ?_) (fun h1 => ?_)
  · have hf := if_t h1 hf
    refine b_frg 4 ?_
    cases hf
    exact hk
  · have hf := if_f h1 hf
    refine b_blk (pc' := 100) (ls' := [some (mR (10, 0, 24)), some (mR (8, 0, sd)), some (mR (3, 0, 20)), some (mI v3), some (mI v4)]) (st' := [mI v4, mI v3, mR (3, 0, 20), mI v4, mR (20, 6, 28)]) (S' := (L, I, J, R)) (P := ((True ∧ R 24 0 = some (6, 0, 25)) ∧ R 25 2 = some (20, 6, 28))) [(.aload_n 0, (0, 0, 0, 0, 0)), (.getfield 12, (10, 0, 3, 0, 0)), (.getfield 137, (6, 2, 3, 0, 0)), (.iload 4, (0, 0, 0, 0, 0)), (.aload_n 2, (0, 0, 0, 0, 0)), (.iload_n 3, (0, 0, 0, 0, 0)), (.iload 4, (0, 0, 0, 0, 0))] [some (6, 0, 25), some (20, 6, 28)] (by decide +kernel) rfl ⟨⟨trivial, (r_24_0 hR)⟩, (r_25_2 hR)⟩ ?_
    refine b_cV (as := [mI v3, mI v4]) (st := [mI v4, mR (20, 6, 28)]) (by decide +kernel) k_10_101 n_Lay_rowOf rfl (by decide) v_Lay_rowOf (c_Lay_rowOf 20 v3 v4 (ly_20 hR)) (Nat.le_of_ble_eq_true rfl) (by decide) rfl rfl (fun _ h => h) ?_
    show m_B _ _ _ _ _ _ 103 [some (mR (10, 0, 24)), some (mR (8, 0, sd)), some (mR (3, 0, 20)), some (mI v3), some (mI v4)] [mI (v_rowOf I 20 v3 v4), mI v4, mR (20, 6, 28)] (L, I, J, R)
    obtain ⟨g2, hf⟩ := gd_s hf
    refine b_blk (pc' := 80) (ls' := [some (mR (10, 0, 24)), some (mR (8, 0, sd)), some (mR (3, 0, 20)), some (mI v3), some (mI (v4 + 1))]) (st' := []) (S' := (L, m_up I 28 (v4.toNatClampNeg) (v_rowOf I 20 v3 v4), J, R)) (P := (True ∧ vp_in v4 6)) [(.iastore, (0, 0, 0, 0, 0)), (.iinc 4 1, (0, 0, 0, 1, 0)), (.goto (-27), (0, 80, 0, 0, 0))] [] (by decide +kernel) rfl ⟨trivial, (in_n (n := 6) (by decide) g2.1 g2.2)⟩ ?_
    cases hf
    exact hk
noncomputable def F_Walker_reckonQuestion_113 (sl : Nat) (sd : Nat) (I : MI) (v3 : Int32) (v4 : Int32) : Option ((Int32 × MI) ⊕ (MI)) :=
  if (6 : Int32) ≤ v4 then (some (.inr I)) else (gd v4 6 <| some (.inl ((v4 + 1 : Int32), m_up I 29 (v4.toNatClampNeg) (l_below I 20 v3 v4 6))))
set_option maxRecDepth 100000 in
set_option maxHeartbeats 400000 in
theorem W_Walker_reckonQuestion_113 {G : MG} {Q : Option MV → MS → Prop} {L : List (Nat × Nat)} {R : Nat → Nat → Option MRef} (sl : Nat) (sd : Nat) (I : MI) (J : MJ) (v3 : Int32) (v4 : Int32) (hR : RF R) (hs : R 24 1 = some (8, 0, sl)) (hq : sl = 3 ∨ sl = 11) (hqd : sd = 3 ∨ sd = 11) {r : (Int32 × MI) ⊕ (MI)} (hf : F_Walker_reckonQuestion_113 sl sd I v3 v4 = some r) (hk : (Sum.elim (fun s : Int32 × MI => m_B G (m_rm 5 0 0) M_Walker_reckonQuestion Q 0 0 113 [some (mR (10, 0, 24)), some (mR (8, 0, sd)), some (mR (3, 0, 20)), some (mI v3), some (mI s.1)] [] (L, s.2, J, R)) (fun s : MI => m_B G (m_rm 5 0 0) M_Walker_reckonQuestion Q 0 0 143 [some (mR (10, 0, 24)), some (mR (8, 0, sd)), none, none, none] [] (L, s, J, R))) r) : m_B G (m_rm 5 0 0) M_Walker_reckonQuestion Q 0 0 113 [some (mR (10, 0, 24)), some (mR (8, 0, sd)), some (mR (3, 0, 20)), some (mI v3), some (mI v4)] [] (L, I, J, R) := by
  unfold F_Walker_reckonQuestion_113 at hf
  refine b_blk (pc' := 117) (ls' := [some (mR (10, 0, 24)), some (mR (8, 0, sd)), some (mR (3, 0, 20)), some (mI v3), some (mI v4)]) (st' := [mI 6, mI v4]) (S' := (L, I, J, R)) (P := True) [(.iload 4, (0, 0, 0, 0, 0)), (.bipush 6, (0, 0, 0, 6, 0))] [] (by decide +kernel) rfl trivial ?_
  refine b_icmp_ge (off := 26) (tgt := 143) (by decide +kernel) (by decide) (fun h1 => ?_) (fun h1 => ?_)
  · have hf := if_t h1 hf
    refine b_frg 2 ?_
    refine b_frg 3 ?_
    refine b_frg 4 ?_
    cases hf
    exact hk
  · have hf := if_f h1 hf
    refine b_blk (pc' := 133) (ls' := [some (mR (10, 0, 24)), some (mR (8, 0, sd)), some (mR (3, 0, 20)), some (mI v3), some (mI v4)]) (st' := [mI v4, mI v3, mR (3, 0, 20), mI v4, mR (20, 6, 29)]) (S' := (L, I, J, R)) (P := ((True ∧ R 24 0 = some (6, 0, 25)) ∧ R 25 3 = some (20, 6, 29))) [(.aload_n 0, (0, 0, 0, 0, 0)), (.getfield 12, (10, 0, 3, 0, 0)), (.getfield 140, (6, 3, 3, 0, 0)), (.iload 4, (0, 0, 0, 0, 0)), (.aload_n 2, (0, 0, 0, 0, 0)), (.iload_n 3, (0, 0, 0, 0, 0)), (.iload 4, (0, 0, 0, 0, 0))] [some (6, 0, 25), some (20, 6, 29)] (by decide +kernel) rfl ⟨⟨trivial, (r_24_0 hR)⟩, (r_25_3 hR)⟩ ?_
    refine b_cV (as := [mI v3, mI v4]) (st := [mI v4, mR (20, 6, 29)]) (by decide +kernel) k_10_143 n_Lay_columnsBelow rfl (by decide) v_Lay_columnsBelow (c_Lay_columnsBelow 20 v3 v4 (ly_20 hR)) (Nat.le_of_ble_eq_true rfl) (by decide) rfl rfl (fun _ h => h) ?_
    show m_B _ _ _ _ _ _ 136 [some (mR (10, 0, 24)), some (mR (8, 0, sd)), some (mR (3, 0, 20)), some (mI v3), some (mI v4)] [mI (l_below I 20 v3 v4 6), mI v4, mR (20, 6, 29)] (L, I, J, R)
    obtain ⟨g2, hf⟩ := gd_s hf
    refine b_blk (pc' := 113) (ls' := [some (mR (10, 0, 24)), some (mR (8, 0, sd)), some (mR (3, 0, 20)), some (mI v3), some (mI (v4 + 1))]) (st' := []) (S' := (L, m_up I 29 (v4.toNatClampNeg) (l_below I 20 v3 v4 6), J, R)) (P := (True ∧ vp_in v4 6)) [(.iastore, (0, 0, 0, 0, 0)), (.iinc 4 1, (0, 0, 0, 1, 0)), (.goto (-27), (0, 113, 0, 0, 0))] [] (by decide +kernel) rfl ⟨trivial, (in_n (n := 6) (by decide) g2.1 g2.2)⟩ ?_
    cases hf
    exact hk
noncomputable def F_Walker_reckonQuestion_76 (sl : Nat) (sd : Nat) (I : MI) (v3 : Int32) (y0 : Int32) (y1 : Int32) : Option (Int32 × MI) :=
  gd y1 24 <| (wl (fun s : Int32 × MI => F_Walker_reckonQuestion_80 sl sd s.2 v3 s.1) ((0 : Int32), m_up I 27 (y1.toNatClampNeg) y0)).bind fun t2 => (wl (fun s : Int32 × MI => F_Walker_reckonQuestion_113 sl sd s.2 v3 s.1) ((0 : Int32), t2)).bind fun t3 => some ((v_run t3 (sd + 7) (t3 sd 9) (t3 sd 10) : Int32), w_run t3 (sd + 7) (t3 sd 9) (t3 sd 10))
set_option maxRecDepth 100000 in
set_option maxHeartbeats 400000 in
theorem W_Walker_reckonQuestion_76 {G : MG} {Q : Option MV → MS → Prop} {L : List (Nat × Nat)} {R : Nat → Nat → Option MRef} (sl : Nat) (sd : Nat) (I : MI) (J : MJ) (v3 : Int32) (y0 : Int32) (y1 : Int32) (hR : RF R) (hs : R 24 1 = some (8, 0, sl)) (hq : sl = 3 ∨ sl = 11) (hqd : sd = 3 ∨ sd = 11) {r : Int32 × MI} (hf : F_Walker_reckonQuestion_76 sl sd I v3 y0 y1 = some r) (hk : (fun r : Int32 × MI => Q (some (mI r.1)) (L, r.2, J, R)) r) : m_B G (m_rm 5 0 0) M_Walker_reckonQuestion Q 0 0 76 [some (mR (10, 0, 24)), some (mR (8, 0, sd)), some (mR (3, 0, 20)), some (mI v3), none] [mI y0, mI y1, mR (20, 24, 27)] (L, I, J, R) := by
  unfold F_Walker_reckonQuestion_76 at hf
  obtain ⟨g1, hf⟩ := gd_s hf
  refine b_blk (pc' := 80) (ls' := [some (mR (10, 0, 24)), some (mR (8, 0, sd)), some (mR (3, 0, 20)), some (mI v3), some (mI 0)]) (st' := []) (S' := (L, m_up I 27 (y1.toNatClampNeg) y0, J, R)) (P := (True ∧ vp_in y1 24)) [(.iastore, (0, 0, 0, 0, 0)), (.iconst 0, (0, 0, 0, 0, 0)), (.istore 4, (0, 0, 0, 0, 0))] [] (by decide +kernel) rfl ⟨trivial, (in_n (n := 24) (by decide) g1.1 g1.2)⟩ ?_
  obtain ⟨t2, hw, hf⟩ := bnd_o hf
  refine wl_B (A := fun s : Int32 × MI => m_B G (m_rm 5 0 0) M_Walker_reckonQuestion Q 0 0 80 [some (mR (10, 0, 24)), some (mR (8, 0, sd)), some (mR (3, 0, 20)), some (mI v3), some (mI s.1)] [] (L, s.2, J, R)) (B := (fun s : MI => m_B G (m_rm 5 0 0) M_Walker_reckonQuestion Q 0 0 110 [some (mR (10, 0, 24)), some (mR (8, 0, sd)), some (mR (3, 0, 20)), some (mI v3), none] [] (L, s, J, R))) (fun s r hs_ hr => W_Walker_reckonQuestion_80 sl sd s.2 J v3 s.1 hR hs hq hqd hs_ hr) hw ?_
  show m_B G (m_rm 5 0 0) M_Walker_reckonQuestion Q 0 0 110 [some (mR (10, 0, 24)), some (mR (8, 0, sd)), some (mR (3, 0, 20)), some (mI v3), none] [] (L, t2, J, R)
  refine b_blk (pc' := 113) (ls' := [some (mR (10, 0, 24)), some (mR (8, 0, sd)), some (mR (3, 0, 20)), some (mI v3), some (mI 0)]) (st' := []) (S' := (L, t2, J, R)) (P := True) [(.iconst 0, (0, 0, 0, 0, 0)), (.istore 4, (0, 0, 0, 0, 0))] [] (by decide +kernel) rfl trivial ?_
  obtain ⟨t3, hw, hf⟩ := bnd_o hf
  refine wl_B (A := fun s : Int32 × MI => m_B G (m_rm 5 0 0) M_Walker_reckonQuestion Q 0 0 113 [some (mR (10, 0, 24)), some (mR (8, 0, sd)), some (mR (3, 0, 20)), some (mI v3), some (mI s.1)] [] (L, s.2, J, R)) (B := (fun s : MI => m_B G (m_rm 5 0 0) M_Walker_reckonQuestion Q 0 0 143 [some (mR (10, 0, 24)), some (mR (8, 0, sd)), none, none, none] [] (L, s, J, R))) (fun s r hs_ hr => W_Walker_reckonQuestion_113 sl sd s.2 J v3 s.1 hR hs hq hqd hs_ hr) hw ?_
  show m_B G (m_rm 5 0 0) M_Walker_reckonQuestion Q 0 0 143 [some (mR (10, 0, 24)), some (mR (8, 0, sd)), none, none, none] [] (L, t3, J, R)
  refine b_blk (pc' := 159) (ls' := [some (mR (10, 0, 24)), some (mR (8, 0, sd)), none, none, none]) (st' := [mI (t3 sd 10), mI (t3 sd 9), mR (20, 1600, sd + 7), mR (6, 0, 25)]) (S' := (L, t3, J, R)) (P := ((True ∧ R 24 0 = some (6, 0, 25)) ∧ R sd 8 = some (20, 1600, sd + 7))) [(.aload_n 0, (0, 0, 0, 0, 0)), (.getfield 12, (10, 0, 3, 0, 0)), (.aload_n 1, (0, 0, 0, 0, 0)), (.getfield 47, (8, 8, 3, 0, 0)), (.aload_n 1, (0, 0, 0, 0, 0)), (.getfield 44, (8, 9, 0, 0, 0)), (.aload_n 1, (0, 0, 0, 0, 0)), (.getfield 41, (8, 10, 0, 0, 0))] [some (6, 0, 25), some (20, 1600, sd + 7)] (by decide +kernel) rfl ⟨⟨trivial, (r_24_0 hR)⟩, (sl_of hR hqd).2.2.2.1⟩ ?_
  refine b_cV (as := [mR (20, 1600, sd + 7), mI (t3 sd 9), mI (t3 sd 10)]) (st := []) (by decide +kernel) k_10_50 n_Reckoner_run rfl (by decide) v_Reckoner_run (c_Reckoner_run (sd + 7) (t3 sd 9) (t3 sd 10) hR) (Nat.le_of_ble_eq_true rfl) (by decide) rfl rfl (fun _ h => h) ?_
  show m_B _ _ _ _ _ _ 162 [some (mR (10, 0, 24)), some (mR (8, 0, sd)), none, none, none] [mI (v_run t3 (sd + 7) (t3 sd 9) (t3 sd 10))] (L, w_run t3 (sd + 7) (t3 sd 9) (t3 sd 10), J, R)
  cases hf
  exact b_iret (by decide +kernel) rfl hk
noncomputable def F_Walker_reckonQuestion (sl : Nat) (sd : Nat) (I : MI) (v3 : Int32) : Option (Int32 × MI) :=
  bnd (m_up (m_up (m_up (m_up I 27 6 (f_Lay_ageOf I 20 v3)) 27 11 ((m_up I 27 6 (f_Lay_ageOf I 20 v3)) 20 0)) 27 13 v3) 27 12 (l_left (m_up (m_up (m_up I 27 6 (f_Lay_ageOf I 20 v3)) 27 11 ((m_up I 27 6 (f_Lay_ageOf I 20 v3)) 20 0)) 27 13 v3) 20 v3 6) : MI) fun x1 => bnd (m_up x1 27 14 (l_field x1 20 v3 ((m_up (m_up (m_up (m_up I 27 6 (f_Lay_ageOf I 20 v3)) 27 11 ((m_up I 27 6 (f_Lay_ageOf I 20 v3)) 20 0)) 27 13 v3) 27 12 (l_left (m_up (m_up (m_up I 27 6 (f_Lay_ageOf I 20 v3)) 27 11 ((m_up I 27 6 (f_Lay_ageOf I 20 v3)) 20 0)) 27 13 v3) 20 v3 6)) sl 2) 6) : MI) fun x2 => if (f_Lay_isCut x2 20 v3) = (0 : Int32) then (F_Walker_reckonQuestion_76 sl sd x2 v3 (0 : Int32) (15 : Int32)) else (F_Walker_reckonQuestion_76 sl sd x2 v3 (1 : Int32) (15 : Int32))
set_option maxRecDepth 100000 in
set_option maxHeartbeats 400000 in
theorem W_Walker_reckonQuestion {G : MG} {Q : Option MV → MS → Prop} {L : List (Nat × Nat)} {R : Nat → Nat → Option MRef} (sl : Nat) (sd : Nat) (I : MI) (J : MJ) (v3 : Int32) (hR : RF R) (hs : R 24 1 = some (8, 0, sl)) (hq : sl = 3 ∨ sl = 11) (hqd : sd = 3 ∨ sd = 11) {r : Int32 × MI} (hf : F_Walker_reckonQuestion sl sd I v3 = some r) (hk : (fun r : Int32 × MI => Q (some (mI r.1)) (L, r.2, J, R)) r) : m_B G (m_rm 5 0 0) M_Walker_reckonQuestion Q 0 0 0 [some (mR (10, 0, 24)), some (mR (8, 0, sd)), some (mR (3, 0, 20)), some (mI v3), none] [] (L, I, J, R) := by
  unfold F_Walker_reckonQuestion at hf
  refine b_blk (pc' := 3) (ls' := [some (mR (10, 0, 24)), some (mR (8, 0, sd)), some (mR (3, 0, 20)), some (mI v3), none]) (st' := [mI v3, mR (3, 0, 20), mR (10, 0, 24)]) (S' := (L, I, J, R)) (P := True) [(.aload_n 0, (0, 0, 0, 0, 0)), (.aload_n 2, (0, 0, 0, 0, 0)), (.iload_n 3, (0, 0, 0, 0, 0))] [] (by decide +kernel) rfl trivial ?_
  refine b_cV (as := [mR (3, 0, 20), mI v3]) (st := []) (by decide +kernel) k_10_97 n_Walker_face rfl (by decide) v_Walker_face (c_Walker_face 20 v3 hR (ly_20 hR)) (Nat.le_of_ble_eq_true rfl) (by decide) rfl rfl (fun _ h => h) ?_
  show m_B _ _ _ _ _ _ 6 [some (mR (10, 0, 24)), some (mR (8, 0, sd)), some (mR (3, 0, 20)), some (mI v3), none] [] (L, m_up (m_up I 27 6 (f_Lay_ageOf I 20 v3)) 27 11 ((m_up I 27 6 (f_Lay_ageOf I 20 v3)) 20 0), J, R)
  refine b_blk (pc' := 28) (ls' := [some (mR (10, 0, 24)), some (mR (8, 0, sd)), some (mR (3, 0, 20)), some (mI v3), none]) (st' := [mI v3, mR (3, 0, 20), mI 12, mR (20, 24, 27)]) (S' := (L, m_up (m_up (m_up I 27 6 (f_Lay_ageOf I 20 v3)) 27 11 ((m_up I 27 6 (f_Lay_ageOf I 20 v3)) 20 0)) 27 13 v3, J, R)) (P := (((((True ∧ R 24 0 = some (6, 0, 25)) ∧ R 25 1 = some (20, 24, 27)) ∧ vp_in (13 : Int32) 24) ∧ R 24 0 = some (6, 0, 25)) ∧ R 25 1 = some (20, 24, 27))) [(.aload_n 0, (0, 0, 0, 0, 0)), (.getfield 12, (10, 0, 3, 0, 0)), (.getfield 22, (6, 1, 3, 0, 0)), (.bipush 13, (0, 0, 0, 13, 0)), (.iload_n 3, (0, 0, 0, 0, 0)), (.iastore, (0, 0, 0, 0, 0)), (.aload_n 0, (0, 0, 0, 0, 0)), (.getfield 12, (10, 0, 3, 0, 0)), (.getfield 22, (6, 1, 3, 0, 0)), (.bipush 12, (0, 0, 0, 12, 0)), (.aload_n 2, (0, 0, 0, 0, 0)), (.iload_n 3, (0, 0, 0, 0, 0))] [some (6, 0, 25), some (20, 24, 27), some (6, 0, 25), some (20, 24, 27)] (by decide +kernel) rfl ⟨⟨⟨⟨⟨trivial, (r_24_0 hR)⟩, (r_25_1 hR)⟩, (vp_in_nI (n := 13) (N := 24) (by decide) (by decide))⟩, (r_24_0 hR)⟩, (r_25_1 hR)⟩ ?_
  refine b_cV (as := [mI v3]) (st := [mI 12, mR (20, 24, 27)]) (by decide +kernel) k_10_131 n_Lay_leftOf rfl (by decide) v_Lay_leftOf (c_Lay_leftOf 20 v3 (ly_20 hR)) (Nat.le_of_ble_eq_true rfl) (by decide) rfl rfl (fun _ h => h) ?_
  show m_B _ _ _ _ _ _ 31 [some (mR (10, 0, 24)), some (mR (8, 0, sd)), some (mR (3, 0, 20)), some (mI v3), none] [mI (l_left (m_up (m_up (m_up I 27 6 (f_Lay_ageOf I 20 v3)) 27 11 ((m_up I 27 6 (f_Lay_ageOf I 20 v3)) 20 0)) 27 13 v3) 20 v3 6), mI 12, mR (20, 24, 27)] (L, (m_up (m_up (m_up I 27 6 (f_Lay_ageOf I 20 v3)) 27 11 ((m_up I 27 6 (f_Lay_ageOf I 20 v3)) 20 0)) 27 13 v3), J, R)
  refine b_blk (pc' := 50) (ls' := [some (mR (10, 0, 24)), some (mR (8, 0, sd)), some (mR (3, 0, 20)), some (mI v3), none]) (st' := [mI ((m_up (m_up (m_up (m_up I 27 6 (f_Lay_ageOf I 20 v3)) 27 11 ((m_up I 27 6 (f_Lay_ageOf I 20 v3)) 20 0)) 27 13 v3) 27 12 (l_left (m_up (m_up (m_up I 27 6 (f_Lay_ageOf I 20 v3)) 27 11 ((m_up I 27 6 (f_Lay_ageOf I 20 v3)) 20 0)) 27 13 v3) 20 v3 6)) sl 2), mI v3, mR (3, 0, 20), mI 14, mR (20, 24, 27)]) (S' := (L, m_up (m_up (m_up (m_up I 27 6 (f_Lay_ageOf I 20 v3)) 27 11 ((m_up I 27 6 (f_Lay_ageOf I 20 v3)) 20 0)) 27 13 v3) 27 12 (l_left (m_up (m_up (m_up I 27 6 (f_Lay_ageOf I 20 v3)) 27 11 ((m_up I 27 6 (f_Lay_ageOf I 20 v3)) 20 0)) 27 13 v3) 20 v3 6), J, R)) (P := ((((True ∧ vp_in (12 : Int32) 24) ∧ R 24 0 = some (6, 0, 25)) ∧ R 25 1 = some (20, 24, 27)) ∧ R 24 1 = some (8, 0, sl))) [(.iastore, (0, 0, 0, 0, 0)), (.aload_n 0, (0, 0, 0, 0, 0)), (.getfield 12, (10, 0, 3, 0, 0)), (.getfield 22, (6, 1, 3, 0, 0)), (.bipush 14, (0, 0, 0, 14, 0)), (.aload_n 2, (0, 0, 0, 0, 0)), (.iload_n 3, (0, 0, 0, 0, 0)), (.aload_n 0, (0, 0, 0, 0, 0)), (.getfield 18, (10, 1, 3, 0, 0)), (.getfield 122, (8, 2, 0, 0, 0))] [some (6, 0, 25), some (20, 24, 27), some (8, 0, sl)] (by decide +kernel) rfl ⟨⟨⟨⟨trivial, (vp_in_nI (n := 12) (N := 24) (by decide) (by decide))⟩, (r_24_0 hR)⟩, (r_25_1 hR)⟩, hs⟩ ?_
  obtain ⟨x1, ex1, hf⟩ := bnd_s hf
  refine m_B_cg (ls' := [some (mR (10, 0, 24)), some (mR (8, 0, sd)), some (mR (3, 0, 20)), some (mI v3), none]) (st' := [mI ((m_up (m_up (m_up (m_up I 27 6 (f_Lay_ageOf I 20 v3)) 27 11 ((m_up I 27 6 (f_Lay_ageOf I 20 v3)) 20 0)) 27 13 v3) 27 12 (l_left (m_up (m_up (m_up I 27 6 (f_Lay_ageOf I 20 v3)) 27 11 ((m_up I 27 6 (f_Lay_ageOf I 20 v3)) 20 0)) 27 13 v3) 20 v3 6)) sl 2), mI v3, mR (3, 0, 20), mI 14, mR (20, 24, 27)]) (S' := (L, x1, J, R)) (by first | with_reducible rfl | rw [ex1]) (by first | with_reducible rfl | rw [ex1]) (by first | with_reducible rfl | rw [ex1]) ?_
  refine b_cV (as := [mI v3, mI ((m_up (m_up (m_up (m_up I 27 6 (f_Lay_ageOf I 20 v3)) 27 11 ((m_up I 27 6 (f_Lay_ageOf I 20 v3)) 20 0)) 27 13 v3) 27 12 (l_left (m_up (m_up (m_up I 27 6 (f_Lay_ageOf I 20 v3)) 27 11 ((m_up I 27 6 (f_Lay_ageOf I 20 v3)) 20 0)) 27 13 v3) 20 v3 6)) sl 2)]) (st := [mI 14, mR (20, 24, 27)]) (by decide +kernel) k_10_134 n_Lay_fieldOf rfl (by decide) v_Lay_fieldOf (c_Lay_fieldOf 20 v3 ((m_up (m_up (m_up (m_up I 27 6 (f_Lay_ageOf I 20 v3)) 27 11 ((m_up I 27 6 (f_Lay_ageOf I 20 v3)) 20 0)) 27 13 v3) 27 12 (l_left (m_up (m_up (m_up I 27 6 (f_Lay_ageOf I 20 v3)) 27 11 ((m_up I 27 6 (f_Lay_ageOf I 20 v3)) 20 0)) 27 13 v3) 20 v3 6)) sl 2) (ly_20 hR)) (Nat.le_of_ble_eq_true rfl) (by decide) rfl rfl (fun _ h => h) ?_
  show m_B _ _ _ _ _ _ 53 [some (mR (10, 0, 24)), some (mR (8, 0, sd)), some (mR (3, 0, 20)), some (mI v3), none] [mI (l_field x1 20 v3 ((m_up (m_up (m_up (m_up I 27 6 (f_Lay_ageOf I 20 v3)) 27 11 ((m_up I 27 6 (f_Lay_ageOf I 20 v3)) 20 0)) 27 13 v3) 27 12 (l_left (m_up (m_up (m_up I 27 6 (f_Lay_ageOf I 20 v3)) 27 11 ((m_up I 27 6 (f_Lay_ageOf I 20 v3)) 20 0)) 27 13 v3) 20 v3 6)) sl 2) 6), mI 14, mR (20, 24, 27)] (L, x1, J, R)
  refine b_blk (pc' := 65) (ls' := [some (mR (10, 0, 24)), some (mR (8, 0, sd)), some (mR (3, 0, 20)), some (mI v3), none]) (st' := [mI v3, mR (3, 0, 20), mI 15, mR (20, 24, 27)]) (S' := (L, m_up x1 27 14 (l_field x1 20 v3 ((m_up (m_up (m_up (m_up I 27 6 (f_Lay_ageOf I 20 v3)) 27 11 ((m_up I 27 6 (f_Lay_ageOf I 20 v3)) 20 0)) 27 13 v3) 27 12 (l_left (m_up (m_up (m_up I 27 6 (f_Lay_ageOf I 20 v3)) 27 11 ((m_up I 27 6 (f_Lay_ageOf I 20 v3)) 20 0)) 27 13 v3) 20 v3 6)) sl 2) 6), J, R)) (P := (((True ∧ vp_in (14 : Int32) 24) ∧ R 24 0 = some (6, 0, 25)) ∧ R 25 1 = some (20, 24, 27))) [(.iastore, (0, 0, 0, 0, 0)), (.aload_n 0, (0, 0, 0, 0, 0)), (.getfield 12, (10, 0, 3, 0, 0)), (.getfield 22, (6, 1, 3, 0, 0)), (.bipush 15, (0, 0, 0, 15, 0)), (.aload_n 2, (0, 0, 0, 0, 0)), (.iload_n 3, (0, 0, 0, 0, 0))] [some (6, 0, 25), some (20, 24, 27)] (by decide +kernel) rfl ⟨⟨⟨trivial, (vp_in_nI (n := 14) (N := 24) (by decide) (by decide))⟩, (r_24_0 hR)⟩, (r_25_1 hR)⟩ ?_
  obtain ⟨x2, ex2, hf⟩ := bnd_s hf
  refine m_B_cg (ls' := [some (mR (10, 0, 24)), some (mR (8, 0, sd)), some (mR (3, 0, 20)), some (mI v3), none]) (st' := [mI v3, mR (3, 0, 20), mI 15, mR (20, 24, 27)]) (S' := (L, x2, J, R)) (by first | with_reducible rfl | rw [ex2]) (by first | with_reducible rfl | rw [ex2]) (by first | with_reducible rfl | rw [ex2]) ?_
  refine b_cV (as := [mI v3]) (st := [mI 15, mR (20, 24, 27)]) (by decide +kernel) k_10_66 n_Lay_isCut rfl (by decide) v_Lay_isCut (c_Lay_isCut 20 v3 ) (Nat.le_of_ble_eq_true rfl) (by decide) rfl rfl (fun _ h => h) ?_
  show m_B _ _ _ _ _ _ 68 [some (mR (10, 0, 24)), some (mR (8, 0, sd)), some (mR (3, 0, 20)), some (mI v3), none] [mI (f_Lay_isCut x2 20 v3), mI 15, mR (20, 24, 27)] (L, x2, J, R)
  refine b_if_eq (off := 7) (tgt := 75) (by decide +kernel) (by decide) (fun h3 => ?_) (fun h3 => ?_)
  · have hf := if_t h3 hf
    refine b_blk (pc' := 76) (ls' := [some (mR (10, 0, 24)), some (mR (8, 0, sd)), some (mR (3, 0, 20)), some (mI v3), none]) (st' := [mI 0, mI 15, mR (20, 24, 27)]) (S' := (L, x2, J, R)) (P := True) [(.iconst 0, (0, 0, 0, 0, 0))] [] (by decide +kernel) rfl trivial ?_
    exact m_B_cg rfl rfl rfl (W_Walker_reckonQuestion_76 sl sd x2 J v3 (0 : Int32) (15 : Int32) hR hs hq hqd hf hk)
  · have hf := if_f h3 hf
    refine b_blk (pc' := 76) (ls' := [some (mR (10, 0, 24)), some (mR (8, 0, sd)), some (mR (3, 0, 20)), some (mI v3), none]) (st' := [mI 1, mI 15, mR (20, 24, 27)]) (S' := (L, x2, J, R)) (P := True) [(.iconst 1, (0, 0, 0, 1, 0)), (.goto 4, (0, 76, 0, 0, 0))] [] (by decide +kernel) rfl trivial ?_
    exact m_B_cg rfl rfl rfl (W_Walker_reckonQuestion_76 sl sd x2 J v3 (1 : Int32) (15 : Int32) hR hs hq hqd hf hk)
theorem C_Walker_reckonQuestion {G : MG} {L : List (Nat × Nat)} {R : Nat → Nat → Option MRef} (sl : Nat) (sd : Nat) (I : MI) (J : MJ) (v3 : Int32) (hR : RF R) (hs : R 24 1 = some (8, 0, sl)) (hq : sl = 3 ∨ sl = 11) (hqd : sd = 3 ∨ sd = 11) {r : Int32 × MI} (hf : F_Walker_reckonQuestion sl sd I v3 = some r) : m_met G 5 0 0 y_Walker_reckonQuestion M_Walker_reckonQuestion [mR (10, 0, 24), mR (8, 0, sd), mR (3, 0, 20), mI v3] (L, I, J, R) (m_is (some (mI r.1)) (L, r.2, J, R)) :=
  m_met_in n_Walker_reckonQuestion (plainFor_of_name (by decide)) (by decide) (Nat.le_of_ble_eq_true rfl) (ls := [some (mR (10, 0, 24)), some (mR (8, 0, sd)), some (mR (3, 0, 20)), some (mI v3), none]) rfl (W_Walker_reckonQuestion sl sd I J v3 hR hs hq hqd hf ⟨rfl, rfl⟩)
