/-! the reference changes its own cells alone -/
theorem q_MD_feed_81 {I0 : MI} {I : MI} {v1 : Int32} {v2 : Int32} {v3 : Int32} {v4 : Int32} {v5 : Int32} {v6 : Int32} {y0 : Int32} (h : frM I I0) : pc (F_MD_feed_81 I v1 v2 v3 v4 v5 v6 y0) (Sum.elim (fun r : Int32 × MI => frM r.2 I0) (fun r : MI => frM r I0)) := by
  unfold F_MD_feed_81
  refine pc_gd ?_
  refine pc_bnd ?_
  refine pc_s ?_
  first | trivial | (repeat (first | assumption | refine frM_u (by decide) ?_))
theorem q_MD_feed_28 {I0 : MI} {I : MI} {v1 : Int32} {v2 : Int32} {v3 : Int32} {v4 : Int32} {v5 : Int32} {v6 : Int32} (h : frM I I0) : pc (F_MD_feed_28 I v1 v2 v3 v4 v5 v6) (Sum.elim (fun r : Int32 × MI => frM r.2 I0) (fun r : MI => frM r I0)) := by
  unfold F_MD_feed_28
  refine pc_if ?_ ?_
  · refine pc_s ?_
    first | trivial | (repeat (first | assumption | refine frM_u (by decide) ?_))
  · refine pc_if ?_ ?_
    · refine pc_if ?_ ?_
      · refine pc_if ?_ ?_
        · refine pc_if ?_ ?_
          · exact (q_MD_feed_81 (I0 := I0)  (by first | assumption | (repeat (first | assumption | refine frM_u (by decide) ?_))))
          · exact (q_MD_feed_81 (I0 := I0)  (by first | assumption | (repeat (first | assumption | refine frM_u (by decide) ?_))))
        · exact (q_MD_feed_81 (I0 := I0)  (by first | assumption | (repeat (first | assumption | refine frM_u (by decide) ?_))))
      · exact (q_MD_feed_81 (I0 := I0)  (by first | assumption | (repeat (first | assumption | refine frM_u (by decide) ?_))))
    · exact (q_MD_feed_81 (I0 := I0)  (by first | assumption | (repeat (first | assumption | refine frM_u (by decide) ?_))))
theorem q_MD_feed {I0 : MI} {I : MI} {v1 : Int32} {v2 : Int32} {v3 : Int32} {v4 : Int32} {v5 : Int32} (h : frM I I0) : pc (F_MD_feed I v1 v2 v3 v4 v5) (fun r : Int32 × MI => frM r.2 I0) := by
  unfold F_MD_feed
  refine pc_if ?_ ?_
  · refine pc_b (pc_wl (fun s : Int32 × MI => frM s.2 I0) (fun s hs => q_MD_feed_28 (I0 := I0)  (by first | exact hs | assumption | (repeat (first | assumption | refine frM_u (by decide) ?_)))) (by first | assumption | trivial | (repeat (first | assumption | refine frM_u (by decide) ?_)))) (fun t2 ht2 => ?_)
    refine pc_s ?_
    first | trivial | (repeat (first | assumption | refine frM_u (by decide) ?_))
  · refine pc_s ?_
    first | trivial | (repeat (first | assumption | refine frM_u (by decide) ?_))
theorem q_MD_end_12 {I0 : MI} {I : MI} (h : frM I I0) : pc (F_MD_end_12 I) (fun r : Int32 × MI => frM r.2 I0) := by
  unfold F_MD_end_12
  refine pc_s ?_
  first | trivial | (repeat (first | assumption | refine frM_u (by decide) ?_))
theorem q_MD_end {I0 : MI} {I : MI} {v1 : Int32} (h : frM I I0) : pc (F_MD_end I v1) (fun r : Int32 × MI => frM r.2 I0) := by
  unfold F_MD_end
  refine pc_if ?_ ?_
  · exact (q_MD_end_12 (I0 := I0)  (by first | assumption | (repeat (first | assumption | refine frM_u (by decide) ?_))))
  · refine pc_if ?_ ?_
    · refine pc_s ?_
      first | trivial | (repeat (first | assumption | refine frM_u (by decide) ?_))
    · exact (q_MD_end_12 (I0 := I0)  (by first | assumption | (repeat (first | assumption | refine frM_u (by decide) ?_))))
theorem q_MD_look_0 {I0 : MI} {I : MI} (h : frM I I0) : pc (F_MD_look_0 I) (Sum.elim (fun r : MI => frM r I0) (fun r : MI => frM r I0)) := by
  unfold F_MD_look_0
  refine pc_if ?_ ?_
  · refine pc_s ?_
    first | trivial | (repeat (first | assumption | refine frM_u (by decide) ?_))
  · refine pc_gd ?_
    refine pc_if ?_ ?_
    · refine pc_s ?_
      first | trivial | (repeat (first | assumption | refine frM_u (by decide) ?_))
    · refine pc_gd ?_
      refine pc_if ?_ ?_
      · refine pc_s ?_
        first | trivial | (repeat (first | assumption | refine frM_u (by decide) ?_))
      · refine pc_s ?_
        first | trivial | (repeat (first | assumption | refine frM_u (by decide) ?_))
theorem q_MD_look_52 {I0 : MI} {I : MI} (h : frM I I0) : pc (F_MD_look_52 I) (fun r : Int32 × MI => frM r.2 I0) := by
  unfold F_MD_look_52
  refine pc_if ?_ ?_
  · refine pc_s ?_
    first | trivial | (repeat (first | assumption | refine frM_u (by decide) ?_))
  · refine pc_gd ?_
    refine pc_s ?_
    first | trivial | (repeat (first | assumption | refine frM_u (by decide) ?_))
theorem q_MD_look {I0 : MI} {I : MI} (h : frM I I0) : pc (F_MD_look I) (fun r : Int32 × MI => frM r.2 I0) := by
  unfold F_MD_look
  refine pc_b (pc_wl (fun s : MI => frM s I0) (fun s hs => q_MD_look_0 (I0 := I0)  (by first | exact hs | assumption | (repeat (first | assumption | refine frM_u (by decide) ?_)))) (by first | assumption | trivial | (repeat (first | assumption | refine frM_u (by decide) ?_)))) (fun t1 ht1 => ?_)
  exact (q_MD_look_52 (I0 := I0)  (by first | assumption | (repeat (first | assumption | refine frM_u (by decide) ?_))))
theorem q_MD_fail {I0 : MI} {I : MI} {v1 : Int32} {v2 : Int32} (h : frM I I0) : pc (F_MD_fail I v1 v2) (fun r : MI => frM r I0) := by
  unfold F_MD_fail
  refine pc_if ?_ ?_
  · refine pc_s ?_
    first | trivial | (repeat (first | assumption | refine frM_u (by decide) ?_))
  · refine pc_s ?_
    first | trivial | (repeat (first | assumption | refine frM_u (by decide) ?_))
theorem q_MD_isHere_76 {I0 : MI} {w : Nat} {lw : Nat} {I : MI} {v3 : Int32} (h : frM I I0) : pc (F_MD_isHere_76 w lw I v3) (Sum.elim (fun _ : Int32 => True) (Sum.elim (fun _ : Unit => True) (fun r : Int32 × MI => frM r.2 I0))) := by
  unfold F_MD_isHere_76
  refine pc_if ?_ ?_
  · refine pc_s ?_
    first | trivial | (repeat (first | assumption | refine frM_u (by decide) ?_))
  · refine pc_gd ?_
    refine pc_gd ?_
    refine pc_if ?_ ?_
    · refine pc_s ?_
      first | trivial | (repeat (first | assumption | refine frM_u (by decide) ?_))
    · refine pc_s ?_
      first | trivial | (repeat (first | assumption | refine frM_u (by decide) ?_))
theorem q_MD_isHere_61 {I0 : MI} {w : Nat} {lw : Nat} {I : MI} {v2 : Int32} (h : frM I I0) : pc (F_MD_isHere_61 w lw I v2) (fun r : Int32 × MI => frM r.2 I0) := by
  unfold F_MD_isHere_61
  refine pc_if ?_ ?_
  · refine pc_b (pc_wl (fun _ : Int32 => True) (fun s hs => q_MD_isHere_76 (I0 := I0)  (by first | exact hs | assumption | (repeat (first | assumption | refine frM_u (by decide) ?_)))) (by first | assumption | trivial | (repeat (first | assumption | refine frM_u (by decide) ?_)))) (fun q hq => ?_)
    rcases q with t2 | q
    · have ht2 := hq
      refine pc_s ?_
      first | trivial | (repeat (first | assumption | refine frM_u (by decide) ?_))
    · show pc (some q) _
      refine pc_s ?_
      first | exact hq | trivial | (repeat (first | assumption | refine frM_u (by decide) ?_))
  · refine pc_s ?_
    first | trivial | (repeat (first | assumption | refine frM_u (by decide) ?_))
theorem q_MD_isHere {I0 : MI} {w : Nat} {lw : Nat} {I : MI} (h : frM I I0) : pc (F_MD_isHere w lw I) (fun r : Int32 × MI => frM r.2 I0) := by
  unfold F_MD_isHere
  refine pc_if ?_ ?_
  · refine pc_b (q_MD_look (I0 := I0)  (by first | assumption | (repeat (first | assumption | refine frM_u (by decide) ?_)))) (fun r2 hr2 => ?_)
    refine pc_b' (fun r3 => ?_)
    refine pc_if ?_ ?_
    · refine pc_s ?_
      first | trivial | (repeat (first | assumption | refine frM_u (by decide) ?_))
    · refine pc_if ?_ ?_
      · refine pc_s ?_
        first | trivial | (repeat (first | assumption | refine frM_u (by decide) ?_))
      · refine pc_b' (fun t6 => ?_)
        exact (q_MD_isHere_61 (I0 := I0)  (by first | assumption | (repeat (first | assumption | refine frM_u (by decide) ?_))))
  · refine pc_s ?_
    first | trivial | (repeat (first | assumption | refine frM_u (by decide) ?_))
theorem q_MD_takes {I0 : MI} {w : Nat} {lw : Nat} {I : MI} (h : frM I I0) : pc (F_MD_takes w lw I) (fun r : Int32 × MI => frM r.2 I0) := by
  unfold F_MD_takes
  refine pc_b (q_MD_isHere (I0 := I0)  (by first | assumption | (repeat (first | assumption | refine frM_u (by decide) ?_)))) (fun r1 hr1 => ?_)
  refine pc_if ?_ ?_
  · refine pc_s ?_
    first | trivial | (repeat (first | assumption | refine frM_u (by decide) ?_))
  · refine pc_s ?_
    first | trivial | (repeat (first | assumption | refine frM_u (by decide) ?_))
theorem q_MD_asks {I0 : MI} {w : Nat} {lw : Nat} {I : MI} (h : frM I I0) : pc (F_MD_asks w lw I) (fun r : MI => frM r I0) := by
  unfold F_MD_asks
  refine pc_if ?_ ?_
  · refine pc_b (q_MD_takes (I0 := I0)  (by first | assumption | (repeat (first | assumption | refine frM_u (by decide) ?_)))) (fun r2 hr2 => ?_)
    refine pc_if ?_ ?_
    · refine pc_b (q_MD_fail (I0 := I0)  (by first | assumption | (repeat (first | assumption | refine frM_u (by decide) ?_)))) (fun r4 hr4 => ?_)
      refine pc_s ?_
      first | trivial | (repeat (first | assumption | refine frM_u (by decide) ?_))
    · refine pc_s ?_
      first | trivial | (repeat (first | assumption | refine frM_u (by decide) ?_))
  · refine pc_s ?_
    first | trivial | (repeat (first | assumption | refine frM_u (by decide) ?_))
theorem q_MD_takesSign {I0 : MI} {I : MI} {v1 : Int32} (h : frM I I0) : pc (F_MD_takesSign I v1) (fun r : Int32 × MI => frM r.2 I0) := by
  unfold F_MD_takesSign
  refine pc_if ?_ ?_
  · refine pc_b (q_MD_look (I0 := I0)  (by first | assumption | (repeat (first | assumption | refine frM_u (by decide) ?_)))) (fun r2 hr2 => ?_)
    refine pc_if ?_ ?_
    · refine pc_s ?_
      first | trivial | (repeat (first | assumption | refine frM_u (by decide) ?_))
    · refine pc_s ?_
      first | trivial | (repeat (first | assumption | refine frM_u (by decide) ?_))
  · refine pc_s ?_
    first | trivial | (repeat (first | assumption | refine frM_u (by decide) ?_))
theorem q_MD_asksSign {I0 : MI} {I : MI} {v1 : Int32} (h : frM I I0) : pc (F_MD_asksSign I v1) (fun r : MI => frM r I0) := by
  unfold F_MD_asksSign
  refine pc_if ?_ ?_
  · refine pc_b (q_MD_takesSign (I0 := I0)  (by first | assumption | (repeat (first | assumption | refine frM_u (by decide) ?_)))) (fun r2 hr2 => ?_)
    refine pc_if ?_ ?_
    · refine pc_b (q_MD_fail (I0 := I0)  (by first | assumption | (repeat (first | assumption | refine frM_u (by decide) ?_)))) (fun r4 hr4 => ?_)
      refine pc_s ?_
      first | trivial | (repeat (first | assumption | refine frM_u (by decide) ?_))
    · refine pc_s ?_
      first | trivial | (repeat (first | assumption | refine frM_u (by decide) ?_))
  · refine pc_s ?_
    first | trivial | (repeat (first | assumption | refine frM_u (by decide) ?_))
theorem q_MD_number_49 {I0 : MI} {I : MI} {v1 : Int32} {v2 : Int32} {v3 : Int32} {v4 : Int32} (h : frM I I0) : pc (F_MD_number_49 I v1 v2 v3 v4) (Sum.elim (fun r : Int32 × MI => frM r.2 I0) (Sum.elim (fun r : Int32 × MI => frM r.2 I0) (fun r : Int32 × MI => frM r.2 I0))) := by
  unfold F_MD_number_49
  refine pc_if ?_ ?_
  · refine pc_s ?_
    first | trivial | (repeat (first | assumption | refine frM_u (by decide) ?_))
  · refine pc_gd ?_
    refine pc_b' (fun r3 => ?_)
    refine pc_if ?_ ?_
    · refine pc_s ?_
      first | trivial | (repeat (first | assumption | refine frM_u (by decide) ?_))
    · refine pc_if ?_ ?_
      · refine pc_b (q_MD_fail (I0 := I0)  (by first | assumption | (repeat (first | assumption | refine frM_u (by decide) ?_)))) (fun r7 hr7 => ?_)
        refine pc_s ?_
        first | trivial | (repeat (first | assumption | refine frM_u (by decide) ?_))
      · refine pc_gd ?_
        refine pc_s ?_
        first | trivial | (repeat (first | assumption | refine frM_u (by decide) ?_))
theorem q_MD_number_129 {I0 : MI} {I : MI} {v1 : Int32} {v2 : Int32} {v3 : Int32} {v4 : Int32} (h : frM I I0) : pc (F_MD_number_129 I v1 v2 v3 v4) (fun r : Int32 × MI => frM r.2 I0) := by
  unfold F_MD_number_129
  refine pc_b' (fun r1 => ?_)
  refine pc_if ?_ ?_
  · refine pc_b (q_MD_fail (I0 := I0)  (by first | assumption | (repeat (first | assumption | refine frM_u (by decide) ?_)))) (fun r3 hr3 => ?_)
    refine pc_s ?_
    first | trivial | (repeat (first | assumption | refine frM_u (by decide) ?_))
  · refine pc_s ?_
    first | trivial | (repeat (first | assumption | refine frM_u (by decide) ?_))
theorem q_MD_number {I0 : MI} {I : MI} {v1 : Int32} {v2 : Int32} (h : frM I I0) : pc (F_MD_number I v1 v2) (fun r : Int32 × MI => frM r.2 I0) := by
  unfold F_MD_number
  refine pc_if ?_ ?_
  · refine pc_b (q_MD_look (I0 := I0)  (by first | assumption | (repeat (first | assumption | refine frM_u (by decide) ?_)))) (fun r2 hr2 => ?_)
    refine pc_b' (fun r3 => ?_)
    refine pc_if ?_ ?_
    · refine pc_b (q_MD_fail (I0 := I0)  (by first | assumption | (repeat (first | assumption | refine frM_u (by decide) ?_)))) (fun r5 hr5 => ?_)
      refine pc_s ?_
      first | trivial | (repeat (first | assumption | refine frM_u (by decide) ?_))
    · refine pc_if ?_ ?_
      · refine pc_b (q_MD_fail (I0 := I0)  (by first | assumption | (repeat (first | assumption | refine frM_u (by decide) ?_)))) (fun r8 hr8 => ?_)
        refine pc_s ?_
        first | trivial | (repeat (first | assumption | refine frM_u (by decide) ?_))
      · refine pc_b (pc_wl (fun s : Int32 × MI => frM s.2 I0) (fun s hs => q_MD_number_49 (I0 := I0)  (by first | exact hs | assumption | (repeat (first | assumption | refine frM_u (by decide) ?_)))) (by first | assumption | trivial | (repeat (first | assumption | refine frM_u (by decide) ?_)))) (fun q hq => ?_)
        rcases q with t7 | q
        · have ht7 := hq
          exact (q_MD_number_129 (I0 := I0)  (by first | assumption | (repeat (first | assumption | refine frM_u (by decide) ?_))))
        · show pc (some q) _
          refine pc_s ?_
          first | exact hq | trivial | (repeat (first | assumption | refine frM_u (by decide) ?_))
  · refine pc_s ?_
    first | trivial | (repeat (first | assumption | refine frM_u (by decide) ?_))
theorem q_MD_slopeTold {I0 : MI} {I : MI} (h : frM I I0) : pc (F_MD_slopeTold I) (fun r : MI => frM r I0) := by
  unfold F_MD_slopeTold
  refine pc_b (q_MD_asks (I0 := I0)  (by first | assumption | (repeat (first | assumption | refine frM_u (by decide) ?_)))) (fun r1 hr1 => ?_)
  refine pc_b (q_MD_number (I0 := I0)  (by first | assumption | (repeat (first | assumption | refine frM_u (by decide) ?_)))) (fun r2 hr2 => ?_)
  refine pc_b (q_MD_asks (I0 := I0)  (by first | assumption | (repeat (first | assumption | refine frM_u (by decide) ?_)))) (fun r3 hr3 => ?_)
  refine pc_b (q_MD_number (I0 := I0)  (by first | assumption | (repeat (first | assumption | refine frM_u (by decide) ?_)))) (fun r4 hr4 => ?_)
  refine pc_b (q_MD_asksSign (I0 := I0)  (by first | assumption | (repeat (first | assumption | refine frM_u (by decide) ?_)))) (fun r5 hr5 => ?_)
  refine pc_s ?_
  first | trivial | (repeat (first | assumption | refine frM_u (by decide) ?_))
theorem q_MD_stands_7 {I0 : MI} {I : MI} {v1 : Int32} (h : frM I I0) : pc (F_MD_stands_7 I v1) (Sum.elim (fun r : Int32 × MI => frM r.2 I0) (fun r : MI => frM r I0)) := by
  unfold F_MD_stands_7
  refine pc_if ?_ ?_
  · refine pc_s ?_
    first | trivial | (repeat (first | assumption | refine frM_u (by decide) ?_))
  · refine pc_gd ?_
    refine pc_gd ?_
    refine pc_gd ?_
    refine pc_gd ?_
    refine pc_bnd ?_
    refine pc_gd ?_
    refine pc_gd ?_
    refine pc_gd ?_
    refine pc_gd ?_
    refine pc_bnd ?_
    refine pc_s ?_
    first | trivial | (repeat (first | assumption | refine frM_u (by decide) ?_))
theorem q_MD_stands_76 {I0 : MI} {I : MI} {J : MJ} {v1 : Int32} (h : frM I I0) : pc (F_MD_stands_76 I J v1) (Sum.elim (fun r : Int32 × MI × MJ => frM r.2.1 I0) (fun r : MI × MJ => frM r.1 I0)) := by
  unfold F_MD_stands_76
  refine pc_if ?_ ?_
  · refine pc_s ?_
    first | trivial | (repeat (first | assumption | refine frM_u (by decide) ?_))
  · refine pc_gd ?_
    refine pc_gd ?_
    refine pc_gd ?_
    refine pc_gd ?_
    refine pc_s ?_
    first | trivial | (repeat (first | assumption | refine frM_u (by decide) ?_))
theorem q_MD_stands_128 {I0 : MI} {I : MI} {v1 : Int32} (h : frM I I0) : pc (F_MD_stands_128 I v1) (Sum.elim (fun r : Int32 × MI => frM r.2 I0) (fun r : MI => frM r I0)) := by
  unfold F_MD_stands_128
  refine pc_if ?_ ?_
  · refine pc_s ?_
    first | trivial | (repeat (first | assumption | refine frM_u (by decide) ?_))
  · refine pc_gd ?_
    refine pc_gd ?_
    refine pc_s ?_
    first | trivial | (repeat (first | assumption | refine frM_u (by decide) ?_))
theorem q_MD_stands_160 {I0 : MI} {I : MI} {v1 : Int32} (h : frM I I0) : pc (F_MD_stands_160 I v1) (Sum.elim (fun r : Int32 × MI => frM r.2 I0) (fun r : MI => frM r I0)) := by
  unfold F_MD_stands_160
  refine pc_if ?_ ?_
  · refine pc_s ?_
    first | trivial | (repeat (first | assumption | refine frM_u (by decide) ?_))
  · refine pc_gd ?_
    refine pc_s ?_
    first | trivial | (repeat (first | assumption | refine frM_u (by decide) ?_))
theorem q_MD_stands_182 {I0 : MI} {I : MI} {v1 : Int32} (h : frM I I0) : pc (F_MD_stands_182 I v1) (Sum.elim (fun r : Int32 × MI => frM r.2 I0) (fun r : MI => frM r I0)) := by
  unfold F_MD_stands_182
  refine pc_if ?_ ?_
  · refine pc_s ?_
    first | trivial | (repeat (first | assumption | refine frM_u (by decide) ?_))
  · refine pc_gd ?_
    refine pc_gd ?_
    refine pc_s ?_
    first | trivial | (repeat (first | assumption | refine frM_u (by decide) ?_))
theorem q_MD_stands_243 {I0 : MI} {I : MI} {v1 : Int32} {v2 : Int32} (h : frM I I0) : pc (F_MD_stands_243 I v1 v2) (Sum.elim (fun r : Int32 × MI => frM r.2 I0) (fun r : MI => frM r I0)) := by
  unfold F_MD_stands_243
  refine pc_if ?_ ?_
  · refine pc_s ?_
    first | trivial | (repeat (first | assumption | refine frM_u (by decide) ?_))
  · refine pc_gd ?_
    refine pc_gd ?_
    refine pc_bnd ?_
    refine pc_s ?_
    first | trivial | (repeat (first | assumption | refine frM_u (by decide) ?_))
theorem q_MD_stands_210 {I0 : MI} {I : MI} {v1 : Int32} (h : frM I I0) : pc (F_MD_stands_210 I v1) (Sum.elim (fun r : Int32 × MI => frM r.2 I0) (fun r : MI => frM r I0)) := by
  unfold F_MD_stands_210
  refine pc_if ?_ ?_
  · refine pc_s ?_
    first | trivial | (repeat (first | assumption | refine frM_u (by decide) ?_))
  · refine pc_gd ?_
    refine pc_gd ?_
    refine pc_b (pc_wl (fun s : Int32 × MI => frM s.2 I0) (fun s hs => q_MD_stands_243 (I0 := I0)  (by first | exact hs | assumption | (repeat (first | assumption | refine frM_u (by decide) ?_)))) (by first | assumption | trivial | (repeat (first | assumption | refine frM_u (by decide) ?_)))) (fun t4 ht4 => ?_)
    refine pc_s ?_
    first | trivial | (repeat (first | assumption | refine frM_u (by decide) ?_))
theorem q_MD_stands {I0 : MI} {I : MI} {J : MJ} (h : frM I I0) : pc (F_MD_stands I J) (fun r : MI × MJ => frM r.1 I0) := by
  unfold F_MD_stands
  refine pc_b (pc_wl (fun s : Int32 × MI => frM s.2 I0) (fun s hs => q_MD_stands_7 (I0 := I0)  (by first | exact hs | assumption | (repeat (first | assumption | refine frM_u (by decide) ?_)))) (by first | assumption | trivial | (repeat (first | assumption | refine frM_u (by decide) ?_)))) (fun t1 ht1 => ?_)
  refine pc_b (pc_wl (fun s : Int32 × MI × MJ => frM s.2.1 I0) (fun s hs => q_MD_stands_76 (I0 := I0)  (by first | exact hs | assumption | (repeat (first | assumption | refine frM_u (by decide) ?_)))) (by first | assumption | trivial | (repeat (first | assumption | refine frM_u (by decide) ?_)))) (fun t2 ht2 => ?_)
  refine pc_b (pc_wl (fun s : Int32 × MI => frM s.2 I0) (fun s hs => q_MD_stands_128 (I0 := I0)  (by first | exact hs | assumption | (repeat (first | assumption | refine frM_u (by decide) ?_)))) (by first | assumption | trivial | (repeat (first | assumption | refine frM_u (by decide) ?_)))) (fun t3 ht3 => ?_)
  refine pc_b (pc_wl (fun s : Int32 × MI => frM s.2 I0) (fun s hs => q_MD_stands_160 (I0 := I0)  (by first | exact hs | assumption | (repeat (first | assumption | refine frM_u (by decide) ?_)))) (by first | assumption | trivial | (repeat (first | assumption | refine frM_u (by decide) ?_)))) (fun t4 ht4 => ?_)
  refine pc_b (pc_wl (fun s : Int32 × MI => frM s.2 I0) (fun s hs => q_MD_stands_182 (I0 := I0)  (by first | exact hs | assumption | (repeat (first | assumption | refine frM_u (by decide) ?_)))) (by first | assumption | trivial | (repeat (first | assumption | refine frM_u (by decide) ?_)))) (fun t5 ht5 => ?_)
  refine pc_b (pc_wl (fun s : Int32 × MI => frM s.2 I0) (fun s hs => q_MD_stands_210 (I0 := I0)  (by first | exact hs | assumption | (repeat (first | assumption | refine frM_u (by decide) ?_)))) (by first | assumption | trivial | (repeat (first | assumption | refine frM_u (by decide) ?_)))) (fun t6 ht6 => ?_)
  refine pc_s ?_
  first | trivial | (repeat (first | assumption | refine frM_u (by decide) ?_))
theorem q_MD_qCode {I0 : MI} {I : MI} {v1 : Int32} (h : frM I I0) : pc (F_MD_qCode I v1) (fun r : MI => frM r I0) := by
  unfold F_MD_qCode
  refine pc_gd ?_
  refine pc_s ?_
  first | trivial | (repeat (first | assumption | refine frM_u (by decide) ?_))
theorem q_MD_qDrops {I0 : MI} {I : MI} (h : frM I I0) : pc (F_MD_qDrops I) (fun r : MI => frM r I0) := by
  unfold F_MD_qDrops
  refine pc_gd ?_
  refine pc_b (q_MD_qCode (I0 := I0)  (by first | assumption | (repeat (first | assumption | refine frM_u (by decide) ?_)))) (fun r2 hr2 => ?_)
  refine pc_s ?_
  first | trivial | (repeat (first | assumption | refine frM_u (by decide) ?_))
theorem q_MD_qDropsToBracket_0 {I0 : MI} {I : MI} (h : frM I I0) : pc (F_MD_qDropsToBracket_0 I) (Sum.elim (fun r : MI => frM r I0) (fun r : MI => frM r I0)) := by
  unfold F_MD_qDropsToBracket_0
  refine pc_if ?_ ?_
  · refine pc_s ?_
    first | trivial | (repeat (first | assumption | refine frM_u (by decide) ?_))
  · refine pc_gd ?_
    refine pc_b' (fun r3 => ?_)
    refine pc_if ?_ ?_
    · refine pc_b (q_MD_qDrops (I0 := I0)  (by first | assumption | (repeat (first | assumption | refine frM_u (by decide) ?_)))) (fun r5 hr5 => ?_)
      refine pc_s ?_
      first | trivial | (repeat (first | assumption | refine frM_u (by decide) ?_))
    · refine pc_s ?_
      first | trivial | (repeat (first | assumption | refine frM_u (by decide) ?_))
theorem q_MD_qDropsToBracket {I0 : MI} {I : MI} (h : frM I I0) : pc (F_MD_qDropsToBracket I) (fun r : MI => frM r I0) := by
  unfold F_MD_qDropsToBracket
  refine pc_b (pc_wl (fun s : MI => frM s I0) (fun s hs => q_MD_qDropsToBracket_0 (I0 := I0)  (by first | exact hs | assumption | (repeat (first | assumption | refine frM_u (by decide) ?_)))) (by first | assumption | trivial | (repeat (first | assumption | refine frM_u (by decide) ?_)))) (fun t1 ht1 => ?_)
  refine pc_s ?_
  first | trivial | (repeat (first | assumption | refine frM_u (by decide) ?_))
theorem q_MD_qEndsPart_0 {I0 : MI} {I : MI} (h : frM I I0) : pc (F_MD_qEndsPart_0 I) (Sum.elim (fun r : MI => frM r I0) (fun r : MI => frM r I0)) := by
  unfold F_MD_qEndsPart_0
  refine pc_if ?_ ?_
  · refine pc_if ?_ ?_
    · refine pc_s ?_
      first | trivial | (repeat (first | assumption | refine frM_u (by decide) ?_))
    · refine pc_gd ?_
      refine pc_if ?_ ?_
      · refine pc_s ?_
        first | trivial | (repeat (first | assumption | refine frM_u (by decide) ?_))
      · refine pc_b (q_MD_qDrops (I0 := I0)  (by first | assumption | (repeat (first | assumption | refine frM_u (by decide) ?_)))) (fun r5 hr5 => ?_)
        refine pc_s ?_
        first | trivial | (repeat (first | assumption | refine frM_u (by decide) ?_))
  · refine pc_s ?_
    first | trivial | (repeat (first | assumption | refine frM_u (by decide) ?_))
theorem q_MD_qEndsPart {I0 : MI} {I : MI} (h : frM I I0) : pc (F_MD_qEndsPart I) (fun r : MI => frM r I0) := by
  unfold F_MD_qEndsPart
  refine pc_b (pc_wl (fun s : MI => frM s I0) (fun s hs => q_MD_qEndsPart_0 (I0 := I0)  (by first | exact hs | assumption | (repeat (first | assumption | refine frM_u (by decide) ?_)))) (by first | assumption | trivial | (repeat (first | assumption | refine frM_u (by decide) ?_)))) (fun t1 ht1 => ?_)
  refine pc_s ?_
  first | trivial | (repeat (first | assumption | refine frM_u (by decide) ?_))
theorem q_MD_qGoesOn_43 {I0 : MI} {I : MI} (h : frM I I0) : pc (F_MD_qGoesOn_43 I) (Sum.elim (fun r : MI => frM r I0) (fun r : MI => frM r I0)) := by
  unfold F_MD_qGoesOn_43
  refine pc_b (q_MD_qDropsToBracket (I0 := I0)  (by first | assumption | (repeat (first | assumption | refine frM_u (by decide) ?_)))) (fun r1 hr1 => ?_)
  refine pc_gd ?_
  refine pc_if ?_ ?_
  · refine pc_b (q_MD_qEndsPart (I0 := I0)  (by first | assumption | (repeat (first | assumption | refine frM_u (by decide) ?_)))) (fun r4 hr4 => ?_)
    refine pc_s ?_
    first | trivial | (repeat (first | assumption | refine frM_u (by decide) ?_))
  · refine pc_gd ?_
    refine pc_if ?_ ?_
    · refine pc_b (q_MD_qCode (I0 := I0)  (by first | assumption | (repeat (first | assumption | refine frM_u (by decide) ?_)))) (fun r9 hr9 => ?_)
      refine pc_b (q_MD_qEndsPart (I0 := I0)  (by first | assumption | (repeat (first | assumption | refine frM_u (by decide) ?_)))) (fun r10 hr10 => ?_)
      refine pc_s ?_
      first | trivial | (repeat (first | assumption | refine frM_u (by decide) ?_))
    · refine pc_b (q_MD_qCode (I0 := I0)  (by first | assumption | (repeat (first | assumption | refine frM_u (by decide) ?_)))) (fun r7 hr7 => ?_)
      refine pc_b (q_MD_qEndsPart (I0 := I0)  (by first | assumption | (repeat (first | assumption | refine frM_u (by decide) ?_)))) (fun r8 hr8 => ?_)
      refine pc_s ?_
      first | trivial | (repeat (first | assumption | refine frM_u (by decide) ?_))
theorem q_MD_qGoesOn_0 {I0 : MI} {I : MI} (h : frM I I0) : pc (F_MD_qGoesOn_0 I) (Sum.elim (fun r : MI => frM r I0) (fun r : MI => frM r I0)) := by
  unfold F_MD_qGoesOn_0
  refine pc_if ?_ ?_
  · refine pc_b (q_MD_look (I0 := I0)  (by first | assumption | (repeat (first | assumption | refine frM_u (by decide) ?_)))) (fun r2 hr2 => ?_)
    refine pc_if ?_ ?_
    · refine pc_b' (fun r4 => ?_)
      refine pc_if ?_ ?_
      · exact (q_MD_qGoesOn_43 (I0 := I0)  (by first | assumption | (repeat (first | assumption | refine frM_u (by decide) ?_))))
      · refine pc_b' (fun r6 => ?_)
        refine pc_if ?_ ?_
        · exact (q_MD_qGoesOn_43 (I0 := I0)  (by first | assumption | (repeat (first | assumption | refine frM_u (by decide) ?_))))
        · refine pc_b' (fun r8 => ?_)
          refine pc_if ?_ ?_
          · exact (q_MD_qGoesOn_43 (I0 := I0)  (by first | assumption | (repeat (first | assumption | refine frM_u (by decide) ?_))))
          · refine pc_s ?_
            first | trivial | (repeat (first | assumption | refine frM_u (by decide) ?_))
    · refine pc_s ?_
      first | trivial | (repeat (first | assumption | refine frM_u (by decide) ?_))
  · refine pc_s ?_
    first | trivial | (repeat (first | assumption | refine frM_u (by decide) ?_))
theorem q_MD_qGoesOn_162 {I0 : MI} {I : MI} {v1 : Int32} (h : frM I I0) : pc (F_MD_qGoesOn_162 I v1) (Sum.elim (fun r : MI => frM r I0) (fun r : MI => frM r I0)) := by
  unfold F_MD_qGoesOn_162
  refine pc_b' (fun r1 => ?_)
  refine pc_if ?_ ?_
  · refine pc_b' (fun r4 => ?_)
    refine pc_if ?_ ?_
    · refine pc_s ?_
      first | trivial | (repeat (first | assumption | refine frM_u (by decide) ?_))
    · refine pc_b (q_MD_qDrops (I0 := I0)  (by first | assumption | (repeat (first | assumption | refine frM_u (by decide) ?_)))) (fun r6 hr6 => ?_)
      refine pc_s ?_
      first | trivial | (repeat (first | assumption | refine frM_u (by decide) ?_))
  · refine pc_b (q_MD_qDrops (I0 := I0)  (by first | assumption | (repeat (first | assumption | refine frM_u (by decide) ?_)))) (fun r3 hr3 => ?_)
    refine pc_s ?_
    first | trivial | (repeat (first | assumption | refine frM_u (by decide) ?_))
theorem q_MD_qGoesOn_161 {I0 : MI} {I : MI} {y0 : Int32} (h : frM I I0) : pc (F_MD_qGoesOn_161 I y0) (fun r : Int32 × MI => frM r.2 I0) := by
  unfold F_MD_qGoesOn_161
  refine pc_b (pc_wl (fun s : MI => frM s I0) (fun s hs => q_MD_qGoesOn_162 (I0 := I0)  (by first | exact hs | assumption | (repeat (first | assumption | refine frM_u (by decide) ?_)))) (by first | assumption | trivial | (repeat (first | assumption | refine frM_u (by decide) ?_)))) (fun t1 ht1 => ?_)
  refine pc_gd ?_
  refine pc_s ?_
  first | trivial | (repeat (first | assumption | refine frM_u (by decide) ?_))
theorem q_MD_qGoesOn_140 {I0 : MI} {I : MI} (h : frM I I0) : pc (F_MD_qGoesOn_140 I) (fun r : Int32 × MI => frM r.2 I0) := by
  unfold F_MD_qGoesOn_140
  refine pc_gd ?_
  refine pc_if ?_ ?_
  · exact (q_MD_qGoesOn_161 (I0 := I0)  (by first | assumption | (repeat (first | assumption | refine frM_u (by decide) ?_))))
  · exact (q_MD_qGoesOn_161 (I0 := I0)  (by first | assumption | (repeat (first | assumption | refine frM_u (by decide) ?_))))
theorem q_MD_qGoesOn_247 {I0 : MI} {I : MI} {v1 : Int32} (h : frM I I0) : pc (F_MD_qGoesOn_247 I v1) (Sum.elim (fun r : MI => frM r I0) (fun r : MI => frM r I0)) := by
  unfold F_MD_qGoesOn_247
  refine pc_b' (fun r1 => ?_)
  refine pc_if ?_ ?_
  · refine pc_b' (fun r4 => ?_)
    refine pc_if ?_ ?_
    · refine pc_b' (fun r7 => ?_)
      refine pc_if ?_ ?_
      · refine pc_b' (fun r10 => ?_)
        refine pc_if ?_ ?_
        · refine pc_s ?_
          first | trivial | (repeat (first | assumption | refine frM_u (by decide) ?_))
        · refine pc_b (q_MD_qDrops (I0 := I0)  (by first | assumption | (repeat (first | assumption | refine frM_u (by decide) ?_)))) (fun r12 hr12 => ?_)
          refine pc_s ?_
          first | trivial | (repeat (first | assumption | refine frM_u (by decide) ?_))
      · refine pc_b (q_MD_qDrops (I0 := I0)  (by first | assumption | (repeat (first | assumption | refine frM_u (by decide) ?_)))) (fun r9 hr9 => ?_)
        refine pc_s ?_
        first | trivial | (repeat (first | assumption | refine frM_u (by decide) ?_))
    · refine pc_b (q_MD_qDrops (I0 := I0)  (by first | assumption | (repeat (first | assumption | refine frM_u (by decide) ?_)))) (fun r6 hr6 => ?_)
      refine pc_s ?_
      first | trivial | (repeat (first | assumption | refine frM_u (by decide) ?_))
  · refine pc_b (q_MD_qDrops (I0 := I0)  (by first | assumption | (repeat (first | assumption | refine frM_u (by decide) ?_)))) (fun r3 hr3 => ?_)
    refine pc_s ?_
    first | trivial | (repeat (first | assumption | refine frM_u (by decide) ?_))
theorem q_MD_qGoesOn_246 {I0 : MI} {I : MI} {y0 : Int32} (h : frM I I0) : pc (F_MD_qGoesOn_246 I y0) (fun r : Int32 × MI => frM r.2 I0) := by
  unfold F_MD_qGoesOn_246
  refine pc_b (pc_wl (fun s : MI => frM s I0) (fun s hs => q_MD_qGoesOn_247 (I0 := I0)  (by first | exact hs | assumption | (repeat (first | assumption | refine frM_u (by decide) ?_)))) (by first | assumption | trivial | (repeat (first | assumption | refine frM_u (by decide) ?_)))) (fun t1 ht1 => ?_)
  refine pc_gd ?_
  refine pc_s ?_
  first | trivial | (repeat (first | assumption | refine frM_u (by decide) ?_))
theorem q_MD_qGoesOn_225 {I0 : MI} {I : MI} (h : frM I I0) : pc (F_MD_qGoesOn_225 I) (fun r : Int32 × MI => frM r.2 I0) := by
  unfold F_MD_qGoesOn_225
  refine pc_gd ?_
  refine pc_if ?_ ?_
  · exact (q_MD_qGoesOn_246 (I0 := I0)  (by first | assumption | (repeat (first | assumption | refine frM_u (by decide) ?_))))
  · exact (q_MD_qGoesOn_246 (I0 := I0)  (by first | assumption | (repeat (first | assumption | refine frM_u (by decide) ?_))))
theorem q_MD_qGoesOn_326 {I0 : MI} {I : MI} (h : frM I I0) : pc (F_MD_qGoesOn_326 I) (fun r : Int32 × MI => frM r.2 I0) := by
  unfold F_MD_qGoesOn_326
  refine pc_b (q_MD_asksSign (I0 := I0)  (by first | assumption | (repeat (first | assumption | refine frM_u (by decide) ?_)))) (fun r1 hr1 => ?_)
  refine pc_if ?_ ?_
  · refine pc_b (q_MD_qDropsToBracket (I0 := I0)  (by first | assumption | (repeat (first | assumption | refine frM_u (by decide) ?_)))) (fun r3 hr3 => ?_)
    refine pc_gd ?_
    refine pc_gd ?_
    refine pc_bnd ?_
    refine pc_s ?_
    first | trivial | (repeat (first | assumption | refine frM_u (by decide) ?_))
  · refine pc_s ?_
    first | trivial | (repeat (first | assumption | refine frM_u (by decide) ?_))
theorem q_MD_qGoesOn_122 {I0 : MI} {I : MI} (h : frM I I0) : pc (F_MD_qGoesOn_122 I) (fun r : Int32 × MI => frM r.2 I0) := by
  unfold F_MD_qGoesOn_122
  refine pc_b (q_MD_takesSign (I0 := I0)  (by first | assumption | (repeat (first | assumption | refine frM_u (by decide) ?_)))) (fun r1 hr1 => ?_)
  refine pc_if ?_ ?_
  · refine pc_b (q_MD_takesSign (I0 := I0)  (by first | assumption | (repeat (first | assumption | refine frM_u (by decide) ?_)))) (fun r3 hr3 => ?_)
    refine pc_if ?_ ?_
    · refine pc_b (q_MD_takesSign (I0 := I0)  (by first | assumption | (repeat (first | assumption | refine frM_u (by decide) ?_)))) (fun r5 hr5 => ?_)
      refine pc_if ?_ ?_
      · refine pc_b (q_MD_takesSign (I0 := I0)  (by first | assumption | (repeat (first | assumption | refine frM_u (by decide) ?_)))) (fun r7 hr7 => ?_)
        refine pc_if ?_ ?_
        · refine pc_b' (fun r9 => ?_)
          refine pc_if ?_ ?_
          · exact (q_MD_qGoesOn_326 (I0 := I0)  (by first | assumption | (repeat (first | assumption | refine frM_u (by decide) ?_))))
          · refine pc_b' (fun r11 => ?_)
            refine pc_if ?_ ?_
            · exact (q_MD_qGoesOn_326 (I0 := I0)  (by first | assumption | (repeat (first | assumption | refine frM_u (by decide) ?_))))
            · refine pc_b' (fun r13 => ?_)
              refine pc_if ?_ ?_
              · refine pc_s ?_
                first | trivial | (repeat (first | assumption | refine frM_u (by decide) ?_))
              · refine pc_if ?_ ?_
                · refine pc_b (q_MD_fail (I0 := I0)  (by first | assumption | (repeat (first | assumption | refine frM_u (by decide) ?_)))) (fun r16 hr16 => ?_)
                  refine pc_s ?_
                  first | trivial | (repeat (first | assumption | refine frM_u (by decide) ?_))
                · refine pc_s ?_
                  first | trivial | (repeat (first | assumption | refine frM_u (by decide) ?_))
        · exact (q_MD_qGoesOn_225 (I0 := I0)  (by first | assumption | (repeat (first | assumption | refine frM_u (by decide) ?_))))
      · exact (q_MD_qGoesOn_225 (I0 := I0)  (by first | assumption | (repeat (first | assumption | refine frM_u (by decide) ?_))))
    · exact (q_MD_qGoesOn_140 (I0 := I0)  (by first | assumption | (repeat (first | assumption | refine frM_u (by decide) ?_))))
  · exact (q_MD_qGoesOn_140 (I0 := I0)  (by first | assumption | (repeat (first | assumption | refine frM_u (by decide) ?_))))
theorem q_MD_qGoesOn {I0 : MI} {I : MI} (h : frM I I0) : pc (F_MD_qGoesOn I) (fun r : Int32 × MI => frM r.2 I0) := by
  unfold F_MD_qGoesOn
  refine pc_b (pc_wl (fun s : MI => frM s I0) (fun s hs => q_MD_qGoesOn_0 (I0 := I0)  (by first | exact hs | assumption | (repeat (first | assumption | refine frM_u (by decide) ?_)))) (by first | assumption | trivial | (repeat (first | assumption | refine frM_u (by decide) ?_)))) (fun t1 ht1 => ?_)
  exact (q_MD_qGoesOn_122 (I0 := I0)  (by first | assumption | (repeat (first | assumption | refine frM_u (by decide) ?_))))
theorem q_MD_qAsksWord {I0 : MI} {I : MI} {v1 : Int32} (h : frM I I0) : pc (F_MD_qAsksWord I v1) (fun r : MI => frM r I0) := by
  unfold F_MD_qAsksWord
  refine pc_if ?_ ?_
  · refine pc_b (q_MD_asks (I0 := I0)  (by first | assumption | (repeat (first | assumption | refine frM_u (by decide) ?_)))) (fun r2 hr2 => ?_)
    refine pc_s ?_
    first | trivial | (repeat (first | assumption | refine frM_u (by decide) ?_))
  · refine pc_if ?_ ?_
    · refine pc_b (q_MD_asks (I0 := I0)  (by first | assumption | (repeat (first | assumption | refine frM_u (by decide) ?_)))) (fun r4 hr4 => ?_)
      refine pc_s ?_
      first | trivial | (repeat (first | assumption | refine frM_u (by decide) ?_))
    · refine pc_if ?_ ?_
      · refine pc_b (q_MD_asks (I0 := I0)  (by first | assumption | (repeat (first | assumption | refine frM_u (by decide) ?_)))) (fun r6 hr6 => ?_)
        refine pc_s ?_
        first | trivial | (repeat (first | assumption | refine frM_u (by decide) ?_))
      · refine pc_if ?_ ?_
        · refine pc_b (q_MD_asks (I0 := I0)  (by first | assumption | (repeat (first | assumption | refine frM_u (by decide) ?_)))) (fun r8 hr8 => ?_)
          refine pc_s ?_
          first | trivial | (repeat (first | assumption | refine frM_u (by decide) ?_))
        · refine pc_if ?_ ?_
          · refine pc_b (q_MD_asks (I0 := I0)  (by first | assumption | (repeat (first | assumption | refine frM_u (by decide) ?_)))) (fun r10 hr10 => ?_)
            refine pc_s ?_
            first | trivial | (repeat (first | assumption | refine frM_u (by decide) ?_))
          · refine pc_if ?_ ?_
            · refine pc_b (q_MD_asks (I0 := I0)  (by first | assumption | (repeat (first | assumption | refine frM_u (by decide) ?_)))) (fun r12 hr12 => ?_)
              refine pc_s ?_
              first | trivial | (repeat (first | assumption | refine frM_u (by decide) ?_))
            · refine pc_if ?_ ?_
              · refine pc_b (q_MD_asks (I0 := I0)  (by first | assumption | (repeat (first | assumption | refine frM_u (by decide) ?_)))) (fun r14 hr14 => ?_)
                refine pc_s ?_
                first | trivial | (repeat (first | assumption | refine frM_u (by decide) ?_))
              · refine pc_if ?_ ?_
                · refine pc_b (q_MD_asks (I0 := I0)  (by first | assumption | (repeat (first | assumption | refine frM_u (by decide) ?_)))) (fun r16 hr16 => ?_)
                  refine pc_s ?_
                  first | trivial | (repeat (first | assumption | refine frM_u (by decide) ?_))
                · refine pc_if ?_ ?_
                  · refine pc_b (q_MD_asks (I0 := I0)  (by first | assumption | (repeat (first | assumption | refine frM_u (by decide) ?_)))) (fun r18 hr18 => ?_)
                    refine pc_s ?_
                    first | trivial | (repeat (first | assumption | refine frM_u (by decide) ?_))
                  · refine pc_b (q_MD_asks (I0 := I0)  (by first | assumption | (repeat (first | assumption | refine frM_u (by decide) ?_)))) (fun r19 hr19 => ?_)
                    refine pc_s ?_
                    first | trivial | (repeat (first | assumption | refine frM_u (by decide) ?_))
theorem q_MD_qOpens {I0 : MI} {I : MI} {v1 : Int32} {v2 : Int32} (h : frM I I0) : pc (F_MD_qOpens I v1 v2) (fun r : MI => frM r I0) := by
  unfold F_MD_qOpens
  refine pc_if ?_ ?_
  · refine pc_if ?_ ?_
    · refine pc_b (q_MD_fail (I0 := I0)  (by first | assumption | (repeat (first | assumption | refine frM_u (by decide) ?_)))) (fun r5 hr5 => ?_)
      refine pc_s ?_
      first | trivial | (repeat (first | assumption | refine frM_u (by decide) ?_))
    · refine pc_gd ?_
      refine pc_bnd ?_
      refine pc_s ?_
      first | trivial | (repeat (first | assumption | refine frM_u (by decide) ?_))
  · refine pc_s ?_
    first | trivial | (repeat (first | assumption | refine frM_u (by decide) ?_))
theorem q_MD_qWordHere_59 {I0 : MI} {I : MI} (h : frM I I0) : pc (F_MD_qWordHere_59 I) (fun r : Int32 × MI => frM r.2 I0) := by
  unfold F_MD_qWordHere_59
  refine pc_b (q_MD_isHere (I0 := I0)  (by first | assumption | (repeat (first | assumption | refine frM_u (by decide) ?_)))) (fun r1 hr1 => ?_)
  refine pc_if ?_ ?_
  · refine pc_b (q_MD_isHere (I0 := I0)  (by first | assumption | (repeat (first | assumption | refine frM_u (by decide) ?_)))) (fun r3 hr3 => ?_)
    refine pc_if ?_ ?_
    · refine pc_b (q_MD_isHere (I0 := I0)  (by first | assumption | (repeat (first | assumption | refine frM_u (by decide) ?_)))) (fun r5 hr5 => ?_)
      refine pc_if ?_ ?_
      · refine pc_b (q_MD_isHere (I0 := I0)  (by first | assumption | (repeat (first | assumption | refine frM_u (by decide) ?_)))) (fun r7 hr7 => ?_)
        refine pc_if ?_ ?_
        · refine pc_b (q_MD_isHere (I0 := I0)  (by first | assumption | (repeat (first | assumption | refine frM_u (by decide) ?_)))) (fun r9 hr9 => ?_)
          refine pc_if ?_ ?_
          · refine pc_b (q_MD_isHere (I0 := I0)  (by first | assumption | (repeat (first | assumption | refine frM_u (by decide) ?_)))) (fun r11 hr11 => ?_)
            refine pc_if ?_ ?_
            · refine pc_s ?_
              first | trivial | (repeat (first | assumption | refine frM_u (by decide) ?_))
            · refine pc_s ?_
              first | trivial | (repeat (first | assumption | refine frM_u (by decide) ?_))
          · refine pc_s ?_
            first | trivial | (repeat (first | assumption | refine frM_u (by decide) ?_))
        · refine pc_s ?_
          first | trivial | (repeat (first | assumption | refine frM_u (by decide) ?_))
      · refine pc_s ?_
        first | trivial | (repeat (first | assumption | refine frM_u (by decide) ?_))
    · refine pc_s ?_
      first | trivial | (repeat (first | assumption | refine frM_u (by decide) ?_))
  · refine pc_s ?_
    first | trivial | (repeat (first | assumption | refine frM_u (by decide) ?_))
theorem q_MD_qWordHere {I0 : MI} {I : MI} (h : frM I I0) : pc (F_MD_qWordHere I) (fun r : Int32 × MI => frM r.2 I0) := by
  unfold F_MD_qWordHere
  refine pc_b (q_MD_isHere (I0 := I0)  (by first | assumption | (repeat (first | assumption | refine frM_u (by decide) ?_)))) (fun r1 hr1 => ?_)
  refine pc_if ?_ ?_
  · refine pc_b (q_MD_isHere (I0 := I0)  (by first | assumption | (repeat (first | assumption | refine frM_u (by decide) ?_)))) (fun r3 hr3 => ?_)
    refine pc_if ?_ ?_
    · refine pc_b (q_MD_isHere (I0 := I0)  (by first | assumption | (repeat (first | assumption | refine frM_u (by decide) ?_)))) (fun r5 hr5 => ?_)
      refine pc_if ?_ ?_
      · refine pc_if ?_ ?_
        · refine pc_b (q_MD_isHere (I0 := I0)  (by first | assumption | (repeat (first | assumption | refine frM_u (by decide) ?_)))) (fun r8 hr8 => ?_)
          refine pc_if ?_ ?_
          · exact (q_MD_qWordHere_59 (I0 := I0)  (by first | assumption | (repeat (first | assumption | refine frM_u (by decide) ?_))))
          · refine pc_s ?_
            first | trivial | (repeat (first | assumption | refine frM_u (by decide) ?_))
        · exact (q_MD_qWordHere_59 (I0 := I0)  (by first | assumption | (repeat (first | assumption | refine frM_u (by decide) ?_))))
      · refine pc_s ?_
        first | trivial | (repeat (first | assumption | refine frM_u (by decide) ?_))
    · refine pc_s ?_
      first | trivial | (repeat (first | assumption | refine frM_u (by decide) ?_))
  · refine pc_s ?_
    first | trivial | (repeat (first | assumption | refine frM_u (by decide) ?_))
theorem q_MD_qWordOf {I0 : MI} {I : MI} {v1 : Int32} {v2 : Int32} (h : frM I I0) : pc (F_MD_qWordOf I v1 v2) (fun r : Int32 × MI => frM r.2 I0) := by
  unfold F_MD_qWordOf
  refine pc_b (q_MD_qWordHere (I0 := I0)  (by first | assumption | (repeat (first | assumption | refine frM_u (by decide) ?_)))) (fun r1 hr1 => ?_)
  refine pc_if ?_ ?_
  · refine pc_s ?_
    first | trivial | (repeat (first | assumption | refine frM_u (by decide) ?_))
  · refine pc_if ?_ ?_
    · refine pc_s ?_
      first | trivial | (repeat (first | assumption | refine frM_u (by decide) ?_))
    · refine pc_b' (fun r4 => ?_)
      refine pc_if ?_ ?_
      · refine pc_s ?_
        first | trivial | (repeat (first | assumption | refine frM_u (by decide) ?_))
      · refine pc_s ?_
        first | trivial | (repeat (first | assumption | refine frM_u (by decide) ?_))
theorem q_MD_qPartTold_118 {I0 : MI} {I : MI} {v1 : Int32} {v4 : Int32} {y0 : Int32} (h : frM I I0) : pc (F_MD_qPartTold_118 I v1 v4 y0) (Sum.elim (fun r : Int32 × MI => frM r.2 I0) (fun r : MI => frM r I0)) := by
  unfold F_MD_qPartTold_118
  refine pc_if ?_ ?_
  · refine pc_b (q_MD_asksSign (I0 := I0)  (by first | assumption | (repeat (first | assumption | refine frM_u (by decide) ?_)))) (fun r2 hr2 => ?_)
    refine pc_s ?_
    first | trivial | (repeat (first | assumption | refine frM_u (by decide) ?_))
  · refine pc_if ?_ ?_
    · refine pc_b (q_MD_qOpens (I0 := I0)  (by first | assumption | (repeat (first | assumption | refine frM_u (by decide) ?_)))) (fun r4 hr4 => ?_)
      refine pc_b (q_MD_asksSign (I0 := I0)  (by first | assumption | (repeat (first | assumption | refine frM_u (by decide) ?_)))) (fun r5 hr5 => ?_)
      refine pc_s ?_
      first | trivial | (repeat (first | assumption | refine frM_u (by decide) ?_))
    · refine pc_b (q_MD_qOpens (I0 := I0)  (by first | assumption | (repeat (first | assumption | refine frM_u (by decide) ?_)))) (fun r6 hr6 => ?_)
      refine pc_b (q_MD_asksSign (I0 := I0)  (by first | assumption | (repeat (first | assumption | refine frM_u (by decide) ?_)))) (fun r7 hr7 => ?_)
      refine pc_s ?_
      first | trivial | (repeat (first | assumption | refine frM_u (by decide) ?_))
theorem q_MD_qPartTold_101 {I0 : MI} {I : MI} {v1 : Int32} {v4 : Int32} (h : frM I I0) : pc (F_MD_qPartTold_101 I v1 v4) (Sum.elim (fun r : Int32 × MI => frM r.2 I0) (fun r : MI => frM r I0)) := by
  unfold F_MD_qPartTold_101
  refine pc_b (q_MD_look (I0 := I0)  (by first | assumption | (repeat (first | assumption | refine frM_u (by decide) ?_)))) (fun r1 hr1 => ?_)
  refine pc_if ?_ ?_
  · exact (q_MD_qPartTold_118 (I0 := I0)  (by first | assumption | (repeat (first | assumption | refine frM_u (by decide) ?_))))
  · exact (q_MD_qPartTold_118 (I0 := I0)  (by first | assumption | (repeat (first | assumption | refine frM_u (by decide) ?_))))
theorem q_MD_qPartTold_78 {I0 : MI} {I : MI} {v1 : Int32} (h : frM I I0) : pc (F_MD_qPartTold_78 I v1) (Sum.elim (fun r : Int32 × MI => frM r.2 I0) (fun r : MI => frM r I0)) := by
  unfold F_MD_qPartTold_78
  refine pc_b (q_MD_takes (I0 := I0)  (by first | assumption | (repeat (first | assumption | refine frM_u (by decide) ?_)))) (fun r1 hr1 => ?_)
  refine pc_if ?_ ?_
  · refine pc_b (q_MD_asks (I0 := I0)  (by first | assumption | (repeat (first | assumption | refine frM_u (by decide) ?_)))) (fun r3 hr3 => ?_)
    exact (q_MD_qPartTold_101 (I0 := I0)  (by first | assumption | (repeat (first | assumption | refine frM_u (by decide) ?_))))
  · exact (q_MD_qPartTold_101 (I0 := I0)  (by first | assumption | (repeat (first | assumption | refine frM_u (by decide) ?_))))
theorem q_MD_qPartTold_2 {I0 : MI} {I : MI} {v1 : Int32} (h : frM I I0) : pc (F_MD_qPartTold_2 I v1) (Sum.elim (fun r : Int32 × MI => frM r.2 I0) (fun r : MI => frM r I0)) := by
  unfold F_MD_qPartTold_2
  refine pc_if ?_ ?_
  · refine pc_s ?_
    first | trivial | (repeat (first | assumption | refine frM_u (by decide) ?_))
  · refine pc_if ?_ ?_
    · refine pc_b (q_MD_look (I0 := I0)  (by first | assumption | (repeat (first | assumption | refine frM_u (by decide) ?_)))) (fun r3 hr3 => ?_)
      refine pc_b (q_MD_qWordOf (I0 := I0)  (by first | assumption | (repeat (first | assumption | refine frM_u (by decide) ?_)))) (fun r4 hr4 => ?_)
      refine pc_if ?_ ?_
      · refine pc_b (q_MD_qOpens (I0 := I0)  (by first | assumption | (repeat (first | assumption | refine frM_u (by decide) ?_)))) (fun r13 hr13 => ?_)
        refine pc_s ?_
        first | trivial | (repeat (first | assumption | refine frM_u (by decide) ?_))
      · refine pc_b (q_MD_isHere (I0 := I0)  (by first | assumption | (repeat (first | assumption | refine frM_u (by decide) ?_)))) (fun r6 hr6 => ?_)
        refine pc_if ?_ ?_
        · refine pc_b (q_MD_isHere (I0 := I0)  (by first | assumption | (repeat (first | assumption | refine frM_u (by decide) ?_)))) (fun r8 hr8 => ?_)
          refine pc_if ?_ ?_
          · refine pc_if ?_ ?_
            · refine pc_s ?_
              first | trivial | (repeat (first | assumption | refine frM_u (by decide) ?_))
            · refine pc_b (q_MD_qOpens (I0 := I0)  (by first | assumption | (repeat (first | assumption | refine frM_u (by decide) ?_)))) (fun r11 hr11 => ?_)
              refine pc_b (q_MD_qAsksWord (I0 := I0)  (by first | assumption | (repeat (first | assumption | refine frM_u (by decide) ?_)))) (fun r12 hr12 => ?_)
              refine pc_s ?_
              first | trivial | (repeat (first | assumption | refine frM_u (by decide) ?_))
          · exact (q_MD_qPartTold_78 (I0 := I0)  (by first | assumption | (repeat (first | assumption | refine frM_u (by decide) ?_))))
        · exact (q_MD_qPartTold_78 (I0 := I0)  (by first | assumption | (repeat (first | assumption | refine frM_u (by decide) ?_))))
    · refine pc_s ?_
      first | trivial | (repeat (first | assumption | refine frM_u (by decide) ?_))
theorem q_MD_qPartTold_212 {I0 : MI} {I : MI} {v2 : Int32} (h : frM I I0) : pc (F_MD_qPartTold_212 I v2) (fun r : MI => frM r I0) := by
  unfold F_MD_qPartTold_212
  refine pc_if ?_ ?_
  · refine pc_b (q_MD_number (I0 := I0)  (by first | assumption | (repeat (first | assumption | refine frM_u (by decide) ?_)))) (fun r2 hr2 => ?_)
    refine pc_b (q_MD_qCode (I0 := I0)  (by first | assumption | (repeat (first | assumption | refine frM_u (by decide) ?_)))) (fun r3 hr3 => ?_)
    refine pc_b (q_MD_qEndsPart (I0 := I0)  (by first | assumption | (repeat (first | assumption | refine frM_u (by decide) ?_)))) (fun r4 hr4 => ?_)
    refine pc_s ?_
    first | trivial | (repeat (first | assumption | refine frM_u (by decide) ?_))
  · refine pc_b (q_MD_qCode (I0 := I0)  (by first | assumption | (repeat (first | assumption | refine frM_u (by decide) ?_)))) (fun r5 hr5 => ?_)
    refine pc_b (q_MD_qEndsPart (I0 := I0)  (by first | assumption | (repeat (first | assumption | refine frM_u (by decide) ?_)))) (fun r6 hr6 => ?_)
    refine pc_s ?_
    first | trivial | (repeat (first | assumption | refine frM_u (by decide) ?_))
theorem q_MD_qPartTold_186 {I0 : MI} {I : MI} (h : frM I I0) : pc (F_MD_qPartTold_186 I) (fun r : MI => frM r I0) := by
  unfold F_MD_qPartTold_186
  refine pc_if ?_ ?_
  · refine pc_b (q_MD_qWordOf (I0 := I0)  (by first | assumption | (repeat (first | assumption | refine frM_u (by decide) ?_)))) (fun r2 hr2 => ?_)
    refine pc_if ?_ ?_
    · exact (q_MD_qPartTold_212 (I0 := I0)  (by first | assumption | (repeat (first | assumption | refine frM_u (by decide) ?_))))
    · refine pc_b (q_MD_qAsksWord (I0 := I0)  (by first | assumption | (repeat (first | assumption | refine frM_u (by decide) ?_)))) (fun r4 hr4 => ?_)
      exact (q_MD_qPartTold_212 (I0 := I0)  (by first | assumption | (repeat (first | assumption | refine frM_u (by decide) ?_))))
  · refine pc_s ?_
    first | trivial | (repeat (first | assumption | refine frM_u (by decide) ?_))
theorem q_MD_qPartTold {I0 : MI} {I : MI} (h : frM I I0) : pc (F_MD_qPartTold I) (fun r : MI => frM r I0) := by
  unfold F_MD_qPartTold
  refine pc_b (pc_wl (fun s : Int32 × MI => frM s.2 I0) (fun s hs => q_MD_qPartTold_2 (I0 := I0)  (by first | exact hs | assumption | (repeat (first | assumption | refine frM_u (by decide) ?_)))) (by first | assumption | trivial | (repeat (first | assumption | refine frM_u (by decide) ?_)))) (fun t1 ht1 => ?_)
  exact (q_MD_qPartTold_186 (I0 := I0)  (by first | assumption | (repeat (first | assumption | refine frM_u (by decide) ?_))))
theorem q_MD_qSums_15 {I0 : MI} {I : MI} {v1 : Int32} {v2 : Int32} (h : frM I I0) : pc (F_MD_qSums_15 I v1 v2) (Sum.elim (fun r : Int32 × MI => frM r.2 I0) (fun r : MI => frM r I0)) := by
  unfold F_MD_qSums_15
  refine pc_if ?_ ?_
  · refine pc_s ?_
    first | trivial | (repeat (first | assumption | refine frM_u (by decide) ?_))
  · refine pc_if ?_ ?_
    · refine pc_b (q_MD_qPartTold (I0 := I0)  (by first | assumption | (repeat (first | assumption | refine frM_u (by decide) ?_)))) (fun r3 hr3 => ?_)
      refine pc_if ?_ ?_
      · refine pc_b (q_MD_qGoesOn (I0 := I0)  (by first | assumption | (repeat (first | assumption | refine frM_u (by decide) ?_)))) (fun r5 hr5 => ?_)
        refine pc_if ?_ ?_
        · refine pc_s ?_
          first | trivial | (repeat (first | assumption | refine frM_u (by decide) ?_))
        · refine pc_s ?_
          first | trivial | (repeat (first | assumption | refine frM_u (by decide) ?_))
      · refine pc_s ?_
        first | trivial | (repeat (first | assumption | refine frM_u (by decide) ?_))
    · refine pc_s ?_
      first | trivial | (repeat (first | assumption | refine frM_u (by decide) ?_))
theorem q_MD_qSums_53 {I0 : MI} {I : MI} {v1 : Int32} (h : frM I I0) : pc (F_MD_qSums_53 I v1) (Sum.elim (fun r : MI => frM r I0) (fun r : MI => frM r I0)) := by
  unfold F_MD_qSums_53
  refine pc_if ?_ ?_
  · refine pc_if ?_ ?_
    · refine pc_s ?_
      first | trivial | (repeat (first | assumption | refine frM_u (by decide) ?_))
    · refine pc_b (q_MD_qDrops (I0 := I0)  (by first | assumption | (repeat (first | assumption | refine frM_u (by decide) ?_)))) (fun r3 hr3 => ?_)
      refine pc_s ?_
      first | trivial | (repeat (first | assumption | refine frM_u (by decide) ?_))
  · refine pc_s ?_
    first | trivial | (repeat (first | assumption | refine frM_u (by decide) ?_))
theorem q_MD_qSums {I0 : MI} {I : MI} (h : frM I I0) : pc (F_MD_qSums I) (fun r : MI => frM r I0) := by
  unfold F_MD_qSums
  refine pc_b (pc_wl (fun s : Int32 × MI => frM s.2 I0) (fun s hs => q_MD_qSums_15 (I0 := I0)  (by first | exact hs | assumption | (repeat (first | assumption | refine frM_u (by decide) ?_)))) (by first | assumption | trivial | (repeat (first | assumption | refine frM_u (by decide) ?_)))) (fun t1 ht1 => ?_)
  refine pc_b (pc_wl (fun s : MI => frM s I0) (fun s hs => q_MD_qSums_53 (I0 := I0)  (by first | exact hs | assumption | (repeat (first | assumption | refine frM_u (by decide) ?_)))) (by first | assumption | trivial | (repeat (first | assumption | refine frM_u (by decide) ?_)))) (fun t2 ht2 => ?_)
  refine pc_s ?_
  first | trivial | (repeat (first | assumption | refine frM_u (by decide) ?_))
theorem q_MD_qDropsNots_0 {I0 : MI} {I : MI} (h : frM I I0) : pc (F_MD_qDropsNots_0 I) (Sum.elim (fun r : MI => frM r I0) (fun r : MI => frM r I0)) := by
  unfold F_MD_qDropsNots_0
  refine pc_if ?_ ?_
  · refine pc_b' (fun r2 => ?_)
    refine pc_if ?_ ?_
    · refine pc_s ?_
      first | trivial | (repeat (first | assumption | refine frM_u (by decide) ?_))
    · refine pc_b (q_MD_qDrops (I0 := I0)  (by first | assumption | (repeat (first | assumption | refine frM_u (by decide) ?_)))) (fun r4 hr4 => ?_)
      refine pc_s ?_
      first | trivial | (repeat (first | assumption | refine frM_u (by decide) ?_))
  · refine pc_s ?_
    first | trivial | (repeat (first | assumption | refine frM_u (by decide) ?_))
theorem q_MD_qDropsNots {I0 : MI} {I : MI} (h : frM I I0) : pc (F_MD_qDropsNots I) (fun r : MI => frM r I0) := by
  unfold F_MD_qDropsNots
  refine pc_b (pc_wl (fun s : MI => frM s I0) (fun s hs => q_MD_qDropsNots_0 (I0 := I0)  (by first | exact hs | assumption | (repeat (first | assumption | refine frM_u (by decide) ?_)))) (by first | assumption | trivial | (repeat (first | assumption | refine frM_u (by decide) ?_)))) (fun t1 ht1 => ?_)
  refine pc_s ?_
  first | trivial | (repeat (first | assumption | refine frM_u (by decide) ?_))
theorem q_MD_qFact_63 {I0 : MI} {I : MI} {v1 : Int32} (h : frM I I0) : pc (F_MD_qFact_63 I v1) (fun r : MI => frM r I0) := by
  unfold F_MD_qFact_63
  refine pc_b (q_MD_qSums (I0 := I0)  (by first | assumption | (repeat (first | assumption | refine frM_u (by decide) ?_)))) (fun r1 hr1 => ?_)
  refine pc_if ?_ ?_
  · refine pc_b (q_MD_qCode (I0 := I0)  (by first | assumption | (repeat (first | assumption | refine frM_u (by decide) ?_)))) (fun r6 hr6 => ?_)
    refine pc_s ?_
    first | trivial | (repeat (first | assumption | refine frM_u (by decide) ?_))
  · refine pc_if ?_ ?_
    · refine pc_b (q_MD_qCode (I0 := I0)  (by first | assumption | (repeat (first | assumption | refine frM_u (by decide) ?_)))) (fun r5 hr5 => ?_)
      refine pc_s ?_
      first | trivial | (repeat (first | assumption | refine frM_u (by decide) ?_))
    · refine pc_b (q_MD_qCode (I0 := I0)  (by first | assumption | (repeat (first | assumption | refine frM_u (by decide) ?_)))) (fun r4 hr4 => ?_)
      refine pc_s ?_
      first | trivial | (repeat (first | assumption | refine frM_u (by decide) ?_))
theorem q_MD_qFact {I0 : MI} {I : MI} (h : frM I I0) : pc (F_MD_qFact I) (fun r : MI => frM r I0) := by
  unfold F_MD_qFact
  refine pc_b (q_MD_takes (I0 := I0)  (by first | assumption | (repeat (first | assumption | refine frM_u (by decide) ?_)))) (fun r1 hr1 => ?_)
  refine pc_if ?_ ?_
  · refine pc_b (q_MD_qSums (I0 := I0)  (by first | assumption | (repeat (first | assumption | refine frM_u (by decide) ?_)))) (fun r3 hr3 => ?_)
    refine pc_if ?_ ?_
    · refine pc_b (q_MD_look (I0 := I0)  (by first | assumption | (repeat (first | assumption | refine frM_u (by decide) ?_)))) (fun r5 hr5 => ?_)
      refine pc_if ?_ ?_
      · exact (q_MD_qFact_63 (I0 := I0)  (by first | assumption | (repeat (first | assumption | refine frM_u (by decide) ?_))))
      · refine pc_if ?_ ?_
        · exact (q_MD_qFact_63 (I0 := I0)  (by first | assumption | (repeat (first | assumption | refine frM_u (by decide) ?_))))
        · refine pc_if ?_ ?_
          · exact (q_MD_qFact_63 (I0 := I0)  (by first | assumption | (repeat (first | assumption | refine frM_u (by decide) ?_))))
          · refine pc_b (q_MD_fail (I0 := I0)  (by first | assumption | (repeat (first | assumption | refine frM_u (by decide) ?_)))) (fun r9 hr9 => ?_)
            refine pc_s ?_
            first | trivial | (repeat (first | assumption | refine frM_u (by decide) ?_))
    · refine pc_s ?_
      first | trivial | (repeat (first | assumption | refine frM_u (by decide) ?_))
  · refine pc_b (q_MD_qCode (I0 := I0)  (by first | assumption | (repeat (first | assumption | refine frM_u (by decide) ?_)))) (fun r10 hr10 => ?_)
    refine pc_s ?_
    first | trivial | (repeat (first | assumption | refine frM_u (by decide) ?_))
theorem q_MD_qGoesOnTest_33 {I0 : MI} {I : MI} (h : frM I I0) : pc (F_MD_qGoesOnTest_33 I) (Sum.elim (fun r : MI => frM r I0) (fun r : MI => frM r I0)) := by
  unfold F_MD_qGoesOnTest_33
  refine pc_b' (fun r1 => ?_)
  refine pc_if ?_ ?_
  · refine pc_b (q_MD_qDrops (I0 := I0)  (by first | assumption | (repeat (first | assumption | refine frM_u (by decide) ?_)))) (fun r3 hr3 => ?_)
    refine pc_s ?_
    first | trivial | (repeat (first | assumption | refine frM_u (by decide) ?_))
  · refine pc_s ?_
    first | trivial | (repeat (first | assumption | refine frM_u (by decide) ?_))
theorem q_MD_qGoesOnTest_0 {I0 : MI} {I : MI} (h : frM I I0) : pc (F_MD_qGoesOnTest_0 I) (Sum.elim (fun r : MI => frM r I0) (fun r : MI => frM r I0)) := by
  unfold F_MD_qGoesOnTest_0
  refine pc_if ?_ ?_
  · refine pc_b (q_MD_look (I0 := I0)  (by first | assumption | (repeat (first | assumption | refine frM_u (by decide) ?_)))) (fun r2 hr2 => ?_)
    refine pc_if ?_ ?_
    · refine pc_b' (fun r4 => ?_)
      refine pc_if ?_ ?_
      · refine pc_s ?_
        first | trivial | (repeat (first | assumption | refine frM_u (by decide) ?_))
      · refine pc_b (pc_wl (fun s : MI => frM s I0) (fun s hs => q_MD_qGoesOnTest_33 (I0 := I0)  (by first | exact hs | assumption | (repeat (first | assumption | refine frM_u (by decide) ?_)))) (by first | assumption | trivial | (repeat (first | assumption | refine frM_u (by decide) ?_)))) (fun t6 ht6 => ?_)
        refine pc_b (q_MD_qDropsNots (I0 := I0)  (by first | assumption | (repeat (first | assumption | refine frM_u (by decide) ?_)))) (fun r7 hr7 => ?_)
        refine pc_s ?_
        first | trivial | (repeat (first | assumption | refine frM_u (by decide) ?_))
    · refine pc_s ?_
      first | trivial | (repeat (first | assumption | refine frM_u (by decide) ?_))
  · refine pc_s ?_
    first | trivial | (repeat (first | assumption | refine frM_u (by decide) ?_))
theorem q_MD_qGoesOnTest_137 {I0 : MI} {I : MI} (h : frM I I0) : pc (F_MD_qGoesOnTest_137 I) (Sum.elim (fun r : MI => frM r I0) (fun r : MI => frM r I0)) := by
  unfold F_MD_qGoesOnTest_137
  refine pc_b' (fun r1 => ?_)
  refine pc_if ?_ ?_
  · refine pc_b' (fun r4 => ?_)
    refine pc_if ?_ ?_
    · refine pc_s ?_
      first | trivial | (repeat (first | assumption | refine frM_u (by decide) ?_))
    · refine pc_b (q_MD_qDrops (I0 := I0)  (by first | assumption | (repeat (first | assumption | refine frM_u (by decide) ?_)))) (fun r6 hr6 => ?_)
      refine pc_s ?_
      first | trivial | (repeat (first | assumption | refine frM_u (by decide) ?_))
  · refine pc_b (q_MD_qDrops (I0 := I0)  (by first | assumption | (repeat (first | assumption | refine frM_u (by decide) ?_)))) (fun r3 hr3 => ?_)
    refine pc_s ?_
    first | trivial | (repeat (first | assumption | refine frM_u (by decide) ?_))
theorem q_MD_qGoesOnTest_87 {I0 : MI} {I : MI} (h : frM I I0) : pc (F_MD_qGoesOnTest_87 I) (Sum.elim (fun r : MI => frM r I0) (fun r : MI => frM r I0)) := by
  unfold F_MD_qGoesOnTest_87
  refine pc_b' (fun r1 => ?_)
  refine pc_if ?_ ?_
  · refine pc_s ?_
    first | trivial | (repeat (first | assumption | refine frM_u (by decide) ?_))
  · refine pc_b (q_MD_qDrops (I0 := I0)  (by first | assumption | (repeat (first | assumption | refine frM_u (by decide) ?_)))) (fun r3 hr3 => ?_)
    refine pc_s ?_
    first | trivial | (repeat (first | assumption | refine frM_u (by decide) ?_))
theorem q_MD_qGoesOnTest_76 {I0 : MI} {I : MI} (h : frM I I0) : pc (F_MD_qGoesOnTest_76 I) (fun r : Int32 × MI => frM r.2 I0) := by
  unfold F_MD_qGoesOnTest_76
  refine pc_b (q_MD_takes (I0 := I0)  (by first | assumption | (repeat (first | assumption | refine frM_u (by decide) ?_)))) (fun r1 hr1 => ?_)
  refine pc_if ?_ ?_
  · refine pc_b (q_MD_takes (I0 := I0)  (by first | assumption | (repeat (first | assumption | refine frM_u (by decide) ?_)))) (fun r3 hr3 => ?_)
    refine pc_if ?_ ?_
    · refine pc_if ?_ ?_
      · refine pc_b' (fun r6 => ?_)
        refine pc_if ?_ ?_
        · refine pc_s ?_
          first | trivial | (repeat (first | assumption | refine frM_u (by decide) ?_))
        · refine pc_b (q_MD_fail (I0 := I0)  (by first | assumption | (repeat (first | assumption | refine frM_u (by decide) ?_)))) (fun r8 hr8 => ?_)
          refine pc_s ?_
          first | trivial | (repeat (first | assumption | refine frM_u (by decide) ?_))
      · refine pc_s ?_
        first | trivial | (repeat (first | assumption | refine frM_u (by decide) ?_))
    · refine pc_b (pc_wl (fun s : MI => frM s I0) (fun s hs => q_MD_qGoesOnTest_137 (I0 := I0)  (by first | exact hs | assumption | (repeat (first | assumption | refine frM_u (by decide) ?_)))) (by first | assumption | trivial | (repeat (first | assumption | refine frM_u (by decide) ?_)))) (fun t9 ht9 => ?_)
      refine pc_gd ?_
      refine pc_s ?_
      first | trivial | (repeat (first | assumption | refine frM_u (by decide) ?_))
  · refine pc_b (pc_wl (fun s : MI => frM s I0) (fun s hs => q_MD_qGoesOnTest_87 (I0 := I0)  (by first | exact hs | assumption | (repeat (first | assumption | refine frM_u (by decide) ?_)))) (by first | assumption | trivial | (repeat (first | assumption | refine frM_u (by decide) ?_)))) (fun t11 ht11 => ?_)
    refine pc_gd ?_
    refine pc_s ?_
    first | trivial | (repeat (first | assumption | refine frM_u (by decide) ?_))
theorem q_MD_qGoesOnTest {I0 : MI} {I : MI} (h : frM I I0) : pc (F_MD_qGoesOnTest I) (fun r : Int32 × MI => frM r.2 I0) := by
  unfold F_MD_qGoesOnTest
  refine pc_b (pc_wl (fun s : MI => frM s I0) (fun s hs => q_MD_qGoesOnTest_0 (I0 := I0)  (by first | exact hs | assumption | (repeat (first | assumption | refine frM_u (by decide) ?_)))) (by first | assumption | trivial | (repeat (first | assumption | refine frM_u (by decide) ?_)))) (fun t1 ht1 => ?_)
  exact (q_MD_qGoesOnTest_76 (I0 := I0)  (by first | assumption | (repeat (first | assumption | refine frM_u (by decide) ?_))))
theorem q_MD_qTest_2 {I0 : MI} {I : MI} {v1 : Int32} (h : frM I I0) : pc (F_MD_qTest_2 I v1) (Sum.elim (fun r : Int32 × MI => frM r.2 I0) (fun r : MI => frM r I0)) := by
  unfold F_MD_qTest_2
  refine pc_if ?_ ?_
  · refine pc_s ?_
    first | trivial | (repeat (first | assumption | refine frM_u (by decide) ?_))
  · refine pc_if ?_ ?_
    · refine pc_b (q_MD_look (I0 := I0)  (by first | assumption | (repeat (first | assumption | refine frM_u (by decide) ?_)))) (fun r3 hr3 => ?_)
      refine pc_if ?_ ?_
      · refine pc_b (q_MD_qOpens (I0 := I0)  (by first | assumption | (repeat (first | assumption | refine frM_u (by decide) ?_)))) (fun r14 hr14 => ?_)
        refine pc_s ?_
        first | trivial | (repeat (first | assumption | refine frM_u (by decide) ?_))
      · refine pc_b (q_MD_isHere (I0 := I0)  (by first | assumption | (repeat (first | assumption | refine frM_u (by decide) ?_)))) (fun r5 hr5 => ?_)
        refine pc_if ?_ ?_
        · refine pc_b (q_MD_qFact (I0 := I0)  (by first | assumption | (repeat (first | assumption | refine frM_u (by decide) ?_)))) (fun r7 hr7 => ?_)
          refine pc_b (q_MD_qDropsNots (I0 := I0)  (by first | assumption | (repeat (first | assumption | refine frM_u (by decide) ?_)))) (fun r8 hr8 => ?_)
          refine pc_if ?_ ?_
          · refine pc_b (q_MD_qGoesOnTest (I0 := I0)  (by first | assumption | (repeat (first | assumption | refine frM_u (by decide) ?_)))) (fun r10 hr10 => ?_)
            refine pc_if ?_ ?_
            · refine pc_s ?_
              first | trivial | (repeat (first | assumption | refine frM_u (by decide) ?_))
            · refine pc_s ?_
              first | trivial | (repeat (first | assumption | refine frM_u (by decide) ?_))
          · refine pc_s ?_
            first | trivial | (repeat (first | assumption | refine frM_u (by decide) ?_))
        · refine pc_b (q_MD_qOpens (I0 := I0)  (by first | assumption | (repeat (first | assumption | refine frM_u (by decide) ?_)))) (fun r12 hr12 => ?_)
          refine pc_b (q_MD_asks (I0 := I0)  (by first | assumption | (repeat (first | assumption | refine frM_u (by decide) ?_)))) (fun r13 hr13 => ?_)
          refine pc_s ?_
          first | trivial | (repeat (first | assumption | refine frM_u (by decide) ?_))
    · refine pc_s ?_
      first | trivial | (repeat (first | assumption | refine frM_u (by decide) ?_))
theorem q_MD_qTest_110 {I0 : MI} {I : MI} (h : frM I I0) : pc (F_MD_qTest_110 I) (Sum.elim (fun r : MI => frM r I0) (fun r : MI => frM r I0)) := by
  unfold F_MD_qTest_110
  refine pc_if ?_ ?_
  · refine pc_if ?_ ?_
    · refine pc_s ?_
      first | trivial | (repeat (first | assumption | refine frM_u (by decide) ?_))
    · refine pc_b (q_MD_qDrops (I0 := I0)  (by first | assumption | (repeat (first | assumption | refine frM_u (by decide) ?_)))) (fun r3 hr3 => ?_)
      refine pc_s ?_
      first | trivial | (repeat (first | assumption | refine frM_u (by decide) ?_))
  · refine pc_s ?_
    first | trivial | (repeat (first | assumption | refine frM_u (by decide) ?_))
theorem q_MD_qTest {I0 : MI} {I : MI} (h : frM I I0) : pc (F_MD_qTest I) (fun r : MI => frM r I0) := by
  unfold F_MD_qTest
  refine pc_b (pc_wl (fun s : Int32 × MI => frM s.2 I0) (fun s hs => q_MD_qTest_2 (I0 := I0)  (by first | exact hs | assumption | (repeat (first | assumption | refine frM_u (by decide) ?_)))) (by first | assumption | trivial | (repeat (first | assumption | refine frM_u (by decide) ?_)))) (fun t1 ht1 => ?_)
  refine pc_b (pc_wl (fun s : MI => frM s I0) (fun s hs => q_MD_qTest_110 (I0 := I0)  (by first | exact hs | assumption | (repeat (first | assumption | refine frM_u (by decide) ?_)))) (by first | assumption | trivial | (repeat (first | assumption | refine frM_u (by decide) ?_)))) (fun t2 ht2 => ?_)
  refine pc_s ?_
  first | trivial | (repeat (first | assumption | refine frM_u (by decide) ?_))
theorem q_MD_codesTold_92 {I0 : MI} {I : MI} {v1 : Int32} {v3 : Int32} (h : frM I I0) : pc (F_MD_codesTold_92 I v1 v3) (Sum.elim (fun r : Int32 × MI => frM r.2 I0) (fun r : MI => frM r I0)) := by
  unfold F_MD_codesTold_92
  refine pc_if ?_ ?_
  · refine pc_s ?_
    first | trivial | (repeat (first | assumption | refine frM_u (by decide) ?_))
  · refine pc_gd ?_
    refine pc_gd ?_
    refine pc_s ?_
    first | trivial | (repeat (first | assumption | refine frM_u (by decide) ?_))
theorem q_MD_codesTold_72 {I0 : MI} {I : MI} {v1 : Int32} (h : frM I I0) : pc (F_MD_codesTold_72 I v1) (fun r : MI => frM r I0) := by
  unfold F_MD_codesTold_72
  refine pc_if ?_ ?_
  · refine pc_gd ?_
    refine pc_b (pc_wl (fun s : Int32 × MI => frM s.2 I0) (fun s hs => q_MD_codesTold_92 (I0 := I0)  (by first | exact hs | assumption | (repeat (first | assumption | refine frM_u (by decide) ?_)))) (by first | assumption | trivial | (repeat (first | assumption | refine frM_u (by decide) ?_)))) (fun t3 ht3 => ?_)
    refine pc_gd ?_
    refine pc_s ?_
    first | trivial | (repeat (first | assumption | refine frM_u (by decide) ?_))
  · refine pc_s ?_
    first | trivial | (repeat (first | assumption | refine frM_u (by decide) ?_))
theorem q_MD_codesTold_23 {I0 : MI} {I : MI} {v1 : Int32} (h : frM I I0) : pc (F_MD_codesTold_23 I v1) (fun r : MI => frM r I0) := by
  unfold F_MD_codesTold_23
  refine pc_if ?_ ?_
  · refine pc_bnd ?_
    refine pc_if ?_ ?_
    · refine pc_b (q_MD_qTest (I0 := I0)  (by first | assumption | (repeat (first | assumption | refine frM_u (by decide) ?_)))) (fun r5 hr5 => ?_)
      exact (q_MD_codesTold_72 (I0 := I0)  (by first | assumption | (repeat (first | assumption | refine frM_u (by decide) ?_))))
    · refine pc_b (q_MD_qSums (I0 := I0)  (by first | assumption | (repeat (first | assumption | refine frM_u (by decide) ?_)))) (fun r4 hr4 => ?_)
      exact (q_MD_codesTold_72 (I0 := I0)  (by first | assumption | (repeat (first | assumption | refine frM_u (by decide) ?_))))
  · refine pc_s ?_
    first | trivial | (repeat (first | assumption | refine frM_u (by decide) ?_))
theorem q_MD_codesTold {I0 : MI} {I : MI} {v1 : Int32} {v2 : Int32} (h : frM I I0) : pc (F_MD_codesTold I v1 v2) (fun r : MI => frM r I0) := by
  unfold F_MD_codesTold
  refine pc_if ?_ ?_
  · refine pc_gd ?_
    refine pc_if ?_ ?_
    · exact (q_MD_codesTold_23 (I0 := I0)  (by first | assumption | (repeat (first | assumption | refine frM_u (by decide) ?_))))
    · refine pc_b (q_MD_fail (I0 := I0)  (by first | assumption | (repeat (first | assumption | refine frM_u (by decide) ?_)))) (fun r4 hr4 => ?_)
      exact (q_MD_codesTold_23 (I0 := I0)  (by first | assumption | (repeat (first | assumption | refine frM_u (by decide) ?_))))
  · exact (q_MD_codesTold_23 (I0 := I0)  (by first | assumption | (repeat (first | assumption | refine frM_u (by decide) ?_))))
theorem q_MD_isOwnHere_223 {I0 : MI} {I : MI} {y0 : Int32} (h : frM I I0) : pc (F_MD_isOwnHere_223 I y0) (fun r : Int32 × MI => frM r.2 I0) := by
  unfold F_MD_isOwnHere_223
  refine pc_if ?_ ?_
  · refine pc_b (q_MD_isHere (I0 := I0)  (by first | assumption | (repeat (first | assumption | refine frM_u (by decide) ?_)))) (fun r2 hr2 => ?_)
    refine pc_if ?_ ?_
    · refine pc_b (q_MD_isHere (I0 := I0)  (by first | assumption | (repeat (first | assumption | refine frM_u (by decide) ?_)))) (fun r4 hr4 => ?_)
      refine pc_if ?_ ?_
      · refine pc_b (q_MD_isHere (I0 := I0)  (by first | assumption | (repeat (first | assumption | refine frM_u (by decide) ?_)))) (fun r6 hr6 => ?_)
        refine pc_if ?_ ?_
        · refine pc_b (q_MD_isHere (I0 := I0)  (by first | assumption | (repeat (first | assumption | refine frM_u (by decide) ?_)))) (fun r8 hr8 => ?_)
          refine pc_if ?_ ?_
          · refine pc_b (q_MD_isHere (I0 := I0)  (by first | assumption | (repeat (first | assumption | refine frM_u (by decide) ?_)))) (fun r10 hr10 => ?_)
            refine pc_if ?_ ?_
            · refine pc_b (q_MD_isHere (I0 := I0)  (by first | assumption | (repeat (first | assumption | refine frM_u (by decide) ?_)))) (fun r12 hr12 => ?_)
              refine pc_if ?_ ?_
              · refine pc_s ?_
                first | trivial | (repeat (first | assumption | refine frM_u (by decide) ?_))
              · refine pc_s ?_
                first | trivial | (repeat (first | assumption | refine frM_u (by decide) ?_))
            · refine pc_s ?_
              first | trivial | (repeat (first | assumption | refine frM_u (by decide) ?_))
          · refine pc_s ?_
            first | trivial | (repeat (first | assumption | refine frM_u (by decide) ?_))
        · refine pc_s ?_
          first | trivial | (repeat (first | assumption | refine frM_u (by decide) ?_))
      · refine pc_s ?_
        first | trivial | (repeat (first | assumption | refine frM_u (by decide) ?_))
    · refine pc_s ?_
      first | trivial | (repeat (first | assumption | refine frM_u (by decide) ?_))
  · refine pc_s ?_
    first | trivial | (repeat (first | assumption | refine frM_u (by decide) ?_))
theorem q_MD_isOwnHere_218 {I0 : MI} {I : MI} (h : frM I I0) : pc (F_MD_isOwnHere_218 I) (fun r : Int32 × MI => frM r.2 I0) := by
  unfold F_MD_isOwnHere_218
  exact (q_MD_isOwnHere_223 (I0 := I0)  (by first | assumption | (repeat (first | assumption | refine frM_u (by decide) ?_))))
theorem q_MD_isOwnHere_147 {I0 : MI} {I : MI} {y0 : Int32} (h : frM I I0) : pc (F_MD_isOwnHere_147 I y0) (fun r : Int32 × MI => frM r.2 I0) := by
  unfold F_MD_isOwnHere_147
  refine pc_if ?_ ?_
  · refine pc_b (q_MD_isHere (I0 := I0)  (by first | assumption | (repeat (first | assumption | refine frM_u (by decide) ?_)))) (fun r2 hr2 => ?_)
    refine pc_if ?_ ?_
    · refine pc_b (q_MD_isHere (I0 := I0)  (by first | assumption | (repeat (first | assumption | refine frM_u (by decide) ?_)))) (fun r4 hr4 => ?_)
      refine pc_if ?_ ?_
      · refine pc_b (q_MD_isHere (I0 := I0)  (by first | assumption | (repeat (first | assumption | refine frM_u (by decide) ?_)))) (fun r6 hr6 => ?_)
        refine pc_if ?_ ?_
        · refine pc_b (q_MD_isHere (I0 := I0)  (by first | assumption | (repeat (first | assumption | refine frM_u (by decide) ?_)))) (fun r8 hr8 => ?_)
          refine pc_if ?_ ?_
          · refine pc_b (q_MD_isHere (I0 := I0)  (by first | assumption | (repeat (first | assumption | refine frM_u (by decide) ?_)))) (fun r10 hr10 => ?_)
            refine pc_if ?_ ?_
            · refine pc_b (q_MD_isHere (I0 := I0)  (by first | assumption | (repeat (first | assumption | refine frM_u (by decide) ?_)))) (fun r12 hr12 => ?_)
              refine pc_if ?_ ?_
              · exact (q_MD_isOwnHere_223 (I0 := I0)  (by first | assumption | (repeat (first | assumption | refine frM_u (by decide) ?_))))
              · exact (q_MD_isOwnHere_218 (I0 := I0)  (by first | assumption | (repeat (first | assumption | refine frM_u (by decide) ?_))))
            · exact (q_MD_isOwnHere_218 (I0 := I0)  (by first | assumption | (repeat (first | assumption | refine frM_u (by decide) ?_))))
          · exact (q_MD_isOwnHere_218 (I0 := I0)  (by first | assumption | (repeat (first | assumption | refine frM_u (by decide) ?_))))
        · exact (q_MD_isOwnHere_218 (I0 := I0)  (by first | assumption | (repeat (first | assumption | refine frM_u (by decide) ?_))))
      · exact (q_MD_isOwnHere_218 (I0 := I0)  (by first | assumption | (repeat (first | assumption | refine frM_u (by decide) ?_))))
    · exact (q_MD_isOwnHere_218 (I0 := I0)  (by first | assumption | (repeat (first | assumption | refine frM_u (by decide) ?_))))
  · exact (q_MD_isOwnHere_218 (I0 := I0)  (by first | assumption | (repeat (first | assumption | refine frM_u (by decide) ?_))))
theorem q_MD_isOwnHere_142 {I0 : MI} {I : MI} (h : frM I I0) : pc (F_MD_isOwnHere_142 I) (fun r : Int32 × MI => frM r.2 I0) := by
  unfold F_MD_isOwnHere_142
  exact (q_MD_isOwnHere_147 (I0 := I0)  (by first | assumption | (repeat (first | assumption | refine frM_u (by decide) ?_))))
theorem q_MD_isOwnHere_71 {I0 : MI} {I : MI} {y0 : Int32} (h : frM I I0) : pc (F_MD_isOwnHere_71 I y0) (fun r : Int32 × MI => frM r.2 I0) := by
  unfold F_MD_isOwnHere_71
  refine pc_if ?_ ?_
  · refine pc_b (q_MD_isHere (I0 := I0)  (by first | assumption | (repeat (first | assumption | refine frM_u (by decide) ?_)))) (fun r2 hr2 => ?_)
    refine pc_if ?_ ?_
    · refine pc_b (q_MD_isHere (I0 := I0)  (by first | assumption | (repeat (first | assumption | refine frM_u (by decide) ?_)))) (fun r4 hr4 => ?_)
      refine pc_if ?_ ?_
      · refine pc_b (q_MD_isHere (I0 := I0)  (by first | assumption | (repeat (first | assumption | refine frM_u (by decide) ?_)))) (fun r6 hr6 => ?_)
        refine pc_if ?_ ?_
        · refine pc_b (q_MD_isHere (I0 := I0)  (by first | assumption | (repeat (first | assumption | refine frM_u (by decide) ?_)))) (fun r8 hr8 => ?_)
          refine pc_if ?_ ?_
          · refine pc_b (q_MD_isHere (I0 := I0)  (by first | assumption | (repeat (first | assumption | refine frM_u (by decide) ?_)))) (fun r10 hr10 => ?_)
            refine pc_if ?_ ?_
            · refine pc_b (q_MD_isHere (I0 := I0)  (by first | assumption | (repeat (first | assumption | refine frM_u (by decide) ?_)))) (fun r12 hr12 => ?_)
              refine pc_if ?_ ?_
              · exact (q_MD_isOwnHere_147 (I0 := I0)  (by first | assumption | (repeat (first | assumption | refine frM_u (by decide) ?_))))
              · exact (q_MD_isOwnHere_142 (I0 := I0)  (by first | assumption | (repeat (first | assumption | refine frM_u (by decide) ?_))))
            · exact (q_MD_isOwnHere_142 (I0 := I0)  (by first | assumption | (repeat (first | assumption | refine frM_u (by decide) ?_))))
          · exact (q_MD_isOwnHere_142 (I0 := I0)  (by first | assumption | (repeat (first | assumption | refine frM_u (by decide) ?_))))
        · exact (q_MD_isOwnHere_142 (I0 := I0)  (by first | assumption | (repeat (first | assumption | refine frM_u (by decide) ?_))))
      · exact (q_MD_isOwnHere_142 (I0 := I0)  (by first | assumption | (repeat (first | assumption | refine frM_u (by decide) ?_))))
    · exact (q_MD_isOwnHere_142 (I0 := I0)  (by first | assumption | (repeat (first | assumption | refine frM_u (by decide) ?_))))
  · exact (q_MD_isOwnHere_142 (I0 := I0)  (by first | assumption | (repeat (first | assumption | refine frM_u (by decide) ?_))))
theorem q_MD_isOwnHere_66 {I0 : MI} {I : MI} (h : frM I I0) : pc (F_MD_isOwnHere_66 I) (fun r : Int32 × MI => frM r.2 I0) := by
  unfold F_MD_isOwnHere_66
  exact (q_MD_isOwnHere_71 (I0 := I0)  (by first | assumption | (repeat (first | assumption | refine frM_u (by decide) ?_))))
theorem q_MD_isOwnHere {I0 : MI} {I : MI} (h : frM I I0) : pc (F_MD_isOwnHere I) (fun r : Int32 × MI => frM r.2 I0) := by
  unfold F_MD_isOwnHere
  refine pc_b (q_MD_isHere (I0 := I0)  (by first | assumption | (repeat (first | assumption | refine frM_u (by decide) ?_)))) (fun r1 hr1 => ?_)
  refine pc_if ?_ ?_
  · refine pc_b (q_MD_isHere (I0 := I0)  (by first | assumption | (repeat (first | assumption | refine frM_u (by decide) ?_)))) (fun r3 hr3 => ?_)
    refine pc_if ?_ ?_
    · refine pc_b (q_MD_isHere (I0 := I0)  (by first | assumption | (repeat (first | assumption | refine frM_u (by decide) ?_)))) (fun r5 hr5 => ?_)
      refine pc_if ?_ ?_
      · refine pc_b (q_MD_isHere (I0 := I0)  (by first | assumption | (repeat (first | assumption | refine frM_u (by decide) ?_)))) (fun r7 hr7 => ?_)
        refine pc_if ?_ ?_
        · refine pc_b (q_MD_isHere (I0 := I0)  (by first | assumption | (repeat (first | assumption | refine frM_u (by decide) ?_)))) (fun r9 hr9 => ?_)
          refine pc_if ?_ ?_
          · refine pc_b (q_MD_isHere (I0 := I0)  (by first | assumption | (repeat (first | assumption | refine frM_u (by decide) ?_)))) (fun r11 hr11 => ?_)
            refine pc_if ?_ ?_
            · exact (q_MD_isOwnHere_71 (I0 := I0)  (by first | assumption | (repeat (first | assumption | refine frM_u (by decide) ?_))))
            · exact (q_MD_isOwnHere_66 (I0 := I0)  (by first | assumption | (repeat (first | assumption | refine frM_u (by decide) ?_))))
          · exact (q_MD_isOwnHere_66 (I0 := I0)  (by first | assumption | (repeat (first | assumption | refine frM_u (by decide) ?_))))
        · exact (q_MD_isOwnHere_66 (I0 := I0)  (by first | assumption | (repeat (first | assumption | refine frM_u (by decide) ?_))))
      · exact (q_MD_isOwnHere_66 (I0 := I0)  (by first | assumption | (repeat (first | assumption | refine frM_u (by decide) ?_))))
    · exact (q_MD_isOwnHere_66 (I0 := I0)  (by first | assumption | (repeat (first | assumption | refine frM_u (by decide) ?_))))
  · exact (q_MD_isOwnHere_66 (I0 := I0)  (by first | assumption | (repeat (first | assumption | refine frM_u (by decide) ?_))))
theorem q_MD_name_58 {I0 : MI} {I : MI} {v1 : Int64} (h : frM I I0) : pc (F_MD_name_58 I v1) (Sum.elim (fun r : Int64 × MI => frM r.2 I0) (Sum.elim (fun r : Int64 × MI => frM r.2 I0) (fun r : Int64 × MI => frM r.2 I0))) := by
  unfold F_MD_name_58
  refine pc_if ?_ ?_
  · refine pc_s ?_
    first | trivial | (repeat (first | assumption | refine frM_u (by decide) ?_))
  · refine pc_gd ?_
    refine pc_b' (fun r3 => ?_)
    refine pc_if ?_ ?_
    · refine pc_s ?_
      first | trivial | (repeat (first | assumption | refine frM_u (by decide) ?_))
    · refine pc_if ?_ ?_
      · refine pc_b (q_MD_fail (I0 := I0)  (by first | assumption | (repeat (first | assumption | refine frM_u (by decide) ?_)))) (fun r8 hr8 => ?_)
        refine pc_s ?_
        first | trivial | (repeat (first | assumption | refine frM_u (by decide) ?_))
      · refine pc_gd ?_
        refine pc_bnd ?_
        refine pc_s ?_
        first | trivial | (repeat (first | assumption | refine frM_u (by decide) ?_))
theorem q_MD_name {I0 : MI} {I : MI} (h : frM I I0) : pc (F_MD_name I) (fun r : Int64 × MI => frM r.2 I0) := by
  unfold F_MD_name
  refine pc_if ?_ ?_
  · refine pc_b (q_MD_look (I0 := I0)  (by first | assumption | (repeat (first | assumption | refine frM_u (by decide) ?_)))) (fun r2 hr2 => ?_)
    refine pc_b' (fun r3 => ?_)
    refine pc_if ?_ ?_
    · refine pc_b (q_MD_fail (I0 := I0)  (by first | assumption | (repeat (first | assumption | refine frM_u (by decide) ?_)))) (fun r5 hr5 => ?_)
      refine pc_s ?_
      first | trivial | (repeat (first | assumption | refine frM_u (by decide) ?_))
    · refine pc_if ?_ ?_
      · refine pc_b (q_MD_fail (I0 := I0)  (by first | assumption | (repeat (first | assumption | refine frM_u (by decide) ?_)))) (fun r7 hr7 => ?_)
        refine pc_s ?_
        first | trivial | (repeat (first | assumption | refine frM_u (by decide) ?_))
      · refine pc_b (q_MD_isOwnHere (I0 := I0)  (by first | assumption | (repeat (first | assumption | refine frM_u (by decide) ?_)))) (fun r8 hr8 => ?_)
        refine pc_if ?_ ?_
        · refine pc_b (pc_wl (fun s : Int64 × MI => frM s.2 I0) (fun s hs => q_MD_name_58 (I0 := I0)  (by first | exact hs | assumption | (repeat (first | assumption | refine frM_u (by decide) ?_)))) (by first | assumption | trivial | (repeat (first | assumption | refine frM_u (by decide) ?_)))) (fun q hq => ?_)
          rcases q with t10 | q
          · have ht10 := hq
            refine pc_s ?_
            first | trivial | (repeat (first | assumption | refine frM_u (by decide) ?_))
          · show pc (some q) _
            refine pc_s ?_
            first | exact hq | trivial | (repeat (first | assumption | refine frM_u (by decide) ?_))
        · refine pc_b (q_MD_fail (I0 := I0)  (by first | assumption | (repeat (first | assumption | refine frM_u (by decide) ?_)))) (fun r11 hr11 => ?_)
          refine pc_s ?_
          first | trivial | (repeat (first | assumption | refine frM_u (by decide) ?_))
  · refine pc_s ?_
    first | trivial | (repeat (first | assumption | refine frM_u (by decide) ?_))
theorem q_MD_fenceTold_145 {I0 : MI} {I : MI} {v4 : Int32} {v6 : Int32} {v7 : Int32} (h : frM I I0) : pc (F_MD_fenceTold_145 I v4 v6 v7) (Sum.elim (fun r : Int32 × MI => frM r.2 I0) (fun r : MI => frM r I0)) := by
  unfold F_MD_fenceTold_145
  refine pc_if ?_ ?_
  · refine pc_s ?_
    first | trivial | (repeat (first | assumption | refine frM_u (by decide) ?_))
  · refine pc_gd ?_
    refine pc_s ?_
    first | trivial | (repeat (first | assumption | refine frM_u (by decide) ?_))
theorem q_MD_fenceTold_62 {I0 : MI} {I : MI} {J : MJ} {v2 : Int64} (h : frM I I0) : pc (F_MD_fenceTold_62 I J v2) (fun r : MI × MJ => frM r.1 I0) := by
  unfold F_MD_fenceTold_62
  refine pc_b (q_MD_asks (I0 := I0)  (by first | assumption | (repeat (first | assumption | refine frM_u (by decide) ?_)))) (fun r1 hr1 => ?_)
  refine pc_b (q_MD_number (I0 := I0)  (by first | assumption | (repeat (first | assumption | refine frM_u (by decide) ?_)))) (fun r2 hr2 => ?_)
  refine pc_b (q_MD_asks (I0 := I0)  (by first | assumption | (repeat (first | assumption | refine frM_u (by decide) ?_)))) (fun r3 hr3 => ?_)
  refine pc_b (q_MD_number (I0 := I0)  (by first | assumption | (repeat (first | assumption | refine frM_u (by decide) ?_)))) (fun r4 hr4 => ?_)
  refine pc_if ?_ ?_
  · refine pc_gd ?_
    refine pc_gd ?_
    refine pc_b (pc_wl (fun s : Int32 × MI => frM s.2 I0) (fun s hs => q_MD_fenceTold_145 (I0 := I0)  (by first | exact hs | assumption | (repeat (first | assumption | refine frM_u (by decide) ?_)))) (by first | assumption | trivial | (repeat (first | assumption | refine frM_u (by decide) ?_)))) (fun t8 ht8 => ?_)
    refine pc_s ?_
    first | trivial | (repeat (first | assumption | refine frM_u (by decide) ?_))
  · refine pc_s ?_
    first | trivial | (repeat (first | assumption | refine frM_u (by decide) ?_))
theorem q_MD_fenceTold_24 {I0 : MI} {I : MI} {J : MJ} (h : frM I I0) : pc (F_MD_fenceTold_24 I J) (fun r : MI × MJ => frM r.1 I0) := by
  unfold F_MD_fenceTold_24
  refine pc_if ?_ ?_
  · refine pc_b (q_MD_name (I0 := I0)  (by first | assumption | (repeat (first | assumption | refine frM_u (by decide) ?_)))) (fun r2 hr2 => ?_)
    refine pc_if ?_ ?_
    · refine pc_b' (fun r4 => ?_)
      refine pc_if ?_ ?_
      · exact (q_MD_fenceTold_62 (I0 := I0)  (by first | assumption | (repeat (first | assumption | refine frM_u (by decide) ?_))))
      · refine pc_b (q_MD_fail (I0 := I0)  (by first | assumption | (repeat (first | assumption | refine frM_u (by decide) ?_)))) (fun r6 hr6 => ?_)
        exact (q_MD_fenceTold_62 (I0 := I0)  (by first | assumption | (repeat (first | assumption | refine frM_u (by decide) ?_))))
    · exact (q_MD_fenceTold_62 (I0 := I0)  (by first | assumption | (repeat (first | assumption | refine frM_u (by decide) ?_))))
  · refine pc_s ?_
    first | trivial | (repeat (first | assumption | refine frM_u (by decide) ?_))
theorem q_MD_fenceTold {I0 : MI} {I : MI} {J : MJ} {v1 : Int32} (h : frM I I0) : pc (F_MD_fenceTold I J v1) (fun r : MI × MJ => frM r.1 I0) := by
  unfold F_MD_fenceTold
  refine pc_if ?_ ?_
  · refine pc_if ?_ ?_
    · refine pc_b (q_MD_fail (I0 := I0)  (by first | assumption | (repeat (first | assumption | refine frM_u (by decide) ?_)))) (fun r3 hr3 => ?_)
      exact (q_MD_fenceTold_24 (I0 := I0)  (by first | assumption | (repeat (first | assumption | refine frM_u (by decide) ?_))))
    · exact (q_MD_fenceTold_24 (I0 := I0)  (by first | assumption | (repeat (first | assumption | refine frM_u (by decide) ?_))))
  · exact (q_MD_fenceTold_24 (I0 := I0)  (by first | assumption | (repeat (first | assumption | refine frM_u (by decide) ?_))))
theorem q_MD_ironTold_82 {I0 : MI} {I : MI} {v2 : Int32} {v3 : Int32} (h : frM I I0) : pc (F_MD_ironTold_82 I v2 v3) (fun r : MI => frM r I0) := by
  unfold F_MD_ironTold_82
  refine pc_if ?_ ?_
  · refine pc_gd ?_
    refine pc_gd ?_
    refine pc_bnd ?_
    refine pc_s ?_
    first | trivial | (repeat (first | assumption | refine frM_u (by decide) ?_))
  · refine pc_s ?_
    first | trivial | (repeat (first | assumption | refine frM_u (by decide) ?_))
theorem q_MD_ironTold_24 {I0 : MI} {I : MI} (h : frM I I0) : pc (F_MD_ironTold_24 I) (fun r : MI => frM r I0) := by
  unfold F_MD_ironTold_24
  refine pc_b (q_MD_number (I0 := I0)  (by first | assumption | (repeat (first | assumption | refine frM_u (by decide) ?_)))) (fun r1 hr1 => ?_)
  refine pc_b (q_MD_number (I0 := I0)  (by first | assumption | (repeat (first | assumption | refine frM_u (by decide) ?_)))) (fun r2 hr2 => ?_)
  refine pc_if ?_ ?_
  · refine pc_gd ?_
    refine pc_if ?_ ?_
    · refine pc_b (q_MD_fail (I0 := I0)  (by first | assumption | (repeat (first | assumption | refine frM_u (by decide) ?_)))) (fun r6 hr6 => ?_)
      exact (q_MD_ironTold_82 (I0 := I0)  (by first | assumption | (repeat (first | assumption | refine frM_u (by decide) ?_))))
    · exact (q_MD_ironTold_82 (I0 := I0)  (by first | assumption | (repeat (first | assumption | refine frM_u (by decide) ?_))))
  · exact (q_MD_ironTold_82 (I0 := I0)  (by first | assumption | (repeat (first | assumption | refine frM_u (by decide) ?_))))
theorem q_MD_ironTold {I0 : MI} {I : MI} {v1 : Int32} (h : frM I I0) : pc (F_MD_ironTold I v1) (fun r : MI => frM r I0) := by
  unfold F_MD_ironTold
  refine pc_if ?_ ?_
  · refine pc_if ?_ ?_
    · refine pc_b (q_MD_fail (I0 := I0)  (by first | assumption | (repeat (first | assumption | refine frM_u (by decide) ?_)))) (fun r3 hr3 => ?_)
      exact (q_MD_ironTold_24 (I0 := I0)  (by first | assumption | (repeat (first | assumption | refine frM_u (by decide) ?_))))
    · exact (q_MD_ironTold_24 (I0 := I0)  (by first | assumption | (repeat (first | assumption | refine frM_u (by decide) ?_))))
  · exact (q_MD_ironTold_24 (I0 := I0)  (by first | assumption | (repeat (first | assumption | refine frM_u (by decide) ?_))))
theorem q_MD_stakeTold_32 {I0 : MI} {I : MI} {v3 : Int32} (h : frM I I0) : pc (F_MD_stakeTold_32 I v3) (fun r : MI => frM r I0) := by
  unfold F_MD_stakeTold_32
  refine pc_b (q_MD_number (I0 := I0)  (by first | assumption | (repeat (first | assumption | refine frM_u (by decide) ?_)))) (fun r1 hr1 => ?_)
  refine pc_b (q_MD_asks (I0 := I0)  (by first | assumption | (repeat (first | assumption | refine frM_u (by decide) ?_)))) (fun r2 hr2 => ?_)
  refine pc_b (q_MD_number (I0 := I0)  (by first | assumption | (repeat (first | assumption | refine frM_u (by decide) ?_)))) (fun r3 hr3 => ?_)
  refine pc_if ?_ ?_
  · refine pc_gd ?_
    refine pc_s ?_
    first | trivial | (repeat (first | assumption | refine frM_u (by decide) ?_))
  · refine pc_s ?_
    first | trivial | (repeat (first | assumption | refine frM_u (by decide) ?_))
theorem q_MD_stakeTold {I0 : MI} {I : MI} {J : MJ} (h : frM I I0) : pc (F_MD_stakeTold I J) (fun r : MI => frM r I0) := by
  unfold F_MD_stakeTold
  refine pc_b (q_MD_name (I0 := I0)  (by first | assumption | (repeat (first | assumption | refine frM_u (by decide) ?_)))) (fun r1 hr1 => ?_)
  refine pc_b' (fun r2 => ?_)
  refine pc_if ?_ ?_
  · refine pc_if ?_ ?_
    · refine pc_b (q_MD_fail (I0 := I0)  (by first | assumption | (repeat (first | assumption | refine frM_u (by decide) ?_)))) (fun r5 hr5 => ?_)
      exact (q_MD_stakeTold_32 (I0 := I0)  (by first | assumption | (repeat (first | assumption | refine frM_u (by decide) ?_))))
    · exact (q_MD_stakeTold_32 (I0 := I0)  (by first | assumption | (repeat (first | assumption | refine frM_u (by decide) ?_))))
  · exact (q_MD_stakeTold_32 (I0 := I0)  (by first | assumption | (repeat (first | assumption | refine frM_u (by decide) ?_))))
theorem q_MD_steepTold {I0 : MI} {I : MI} (h : frM I I0) : pc (F_MD_steepTold I) (fun r : MI => frM r I0) := by
  unfold F_MD_steepTold
  refine pc_b (q_MD_number (I0 := I0)  (by first | assumption | (repeat (first | assumption | refine frM_u (by decide) ?_)))) (fun r1 hr1 => ?_)
  refine pc_b (q_MD_number (I0 := I0)  (by first | assumption | (repeat (first | assumption | refine frM_u (by decide) ?_)))) (fun r2 hr2 => ?_)
  refine pc_if ?_ ?_
  · refine pc_gd ?_
    refine pc_s ?_
    first | trivial | (repeat (first | assumption | refine frM_u (by decide) ?_))
  · refine pc_s ?_
    first | trivial | (repeat (first | assumption | refine frM_u (by decide) ?_))
theorem q_MD_statementTold_154 {I0 : MI} {I : MI} {J : MJ} (h : frM I I0) : pc (F_MD_statementTold_154 I J) (fun r : MI × MJ => frM r.1 I0) := by
  unfold F_MD_statementTold_154
  refine pc_b (q_MD_asksSign (I0 := I0)  (by first | assumption | (repeat (first | assumption | refine frM_u (by decide) ?_)))) (fun r1 hr1 => ?_)
  refine pc_s ?_
  first | trivial | (repeat (first | assumption | refine frM_u (by decide) ?_))
theorem q_MD_statementTold {I0 : MI} {I : MI} {J : MJ} (h : frM I I0) : pc (F_MD_statementTold I J) (fun r : MI × MJ => frM r.1 I0) := by
  unfold F_MD_statementTold
  refine pc_if ?_ ?_
  · refine pc_b (q_MD_fail (I0 := I0)  (by first | assumption | (repeat (first | assumption | refine frM_u (by decide) ?_)))) (fun r22 hr22 => ?_)
    refine pc_s ?_
    first | trivial | (repeat (first | assumption | refine frM_u (by decide) ?_))
  · refine pc_b (q_MD_takes (I0 := I0)  (by first | assumption | (repeat (first | assumption | refine frM_u (by decide) ?_)))) (fun r2 hr2 => ?_)
    refine pc_if ?_ ?_
    · refine pc_b (q_MD_takes (I0 := I0)  (by first | assumption | (repeat (first | assumption | refine frM_u (by decide) ?_)))) (fun r4 hr4 => ?_)
      refine pc_if ?_ ?_
      · refine pc_b (q_MD_takes (I0 := I0)  (by first | assumption | (repeat (first | assumption | refine frM_u (by decide) ?_)))) (fun r6 hr6 => ?_)
        refine pc_if ?_ ?_
        · refine pc_b (q_MD_takes (I0 := I0)  (by first | assumption | (repeat (first | assumption | refine frM_u (by decide) ?_)))) (fun r8 hr8 => ?_)
          refine pc_if ?_ ?_
          · refine pc_b (q_MD_takes (I0 := I0)  (by first | assumption | (repeat (first | assumption | refine frM_u (by decide) ?_)))) (fun r10 hr10 => ?_)
            refine pc_if ?_ ?_
            · refine pc_b (q_MD_takes (I0 := I0)  (by first | assumption | (repeat (first | assumption | refine frM_u (by decide) ?_)))) (fun r12 hr12 => ?_)
              refine pc_if ?_ ?_
              · refine pc_b (q_MD_asks (I0 := I0)  (by first | assumption | (repeat (first | assumption | refine frM_u (by decide) ?_)))) (fun r14 hr14 => ?_)
                refine pc_b (q_MD_number (I0 := I0)  (by first | assumption | (repeat (first | assumption | refine frM_u (by decide) ?_)))) (fun r15 hr15 => ?_)
                exact (q_MD_statementTold_154 (I0 := I0)  (by first | assumption | (repeat (first | assumption | refine frM_u (by decide) ?_))))
              · refine pc_b (q_MD_codesTold (I0 := I0)  (by first | assumption | (repeat (first | assumption | refine frM_u (by decide) ?_)))) (fun r16 hr16 => ?_)
                exact (q_MD_statementTold_154 (I0 := I0)  (by first | assumption | (repeat (first | assumption | refine frM_u (by decide) ?_))))
            · refine pc_b (q_MD_codesTold (I0 := I0)  (by first | assumption | (repeat (first | assumption | refine frM_u (by decide) ?_)))) (fun r17 hr17 => ?_)
              exact (q_MD_statementTold_154 (I0 := I0)  (by first | assumption | (repeat (first | assumption | refine frM_u (by decide) ?_))))
          · refine pc_b (q_MD_stakeTold (I0 := I0)  (by first | assumption | (repeat (first | assumption | refine frM_u (by decide) ?_)))) (fun r18 hr18 => ?_)
            exact (q_MD_statementTold_154 (I0 := I0)  (by first | assumption | (repeat (first | assumption | refine frM_u (by decide) ?_))))
        · refine pc_b (q_MD_fenceTold (I0 := I0)  (by first | assumption | (repeat (first | assumption | refine frM_u (by decide) ?_)))) (fun r19 hr19 => ?_)
          exact (q_MD_statementTold_154 (I0 := I0)  (by first | assumption | (repeat (first | assumption | refine frM_u (by decide) ?_))))
      · refine pc_b (q_MD_ironTold (I0 := I0)  (by first | assumption | (repeat (first | assumption | refine frM_u (by decide) ?_)))) (fun r20 hr20 => ?_)
        exact (q_MD_statementTold_154 (I0 := I0)  (by first | assumption | (repeat (first | assumption | refine frM_u (by decide) ?_))))
    · refine pc_b (q_MD_steepTold (I0 := I0)  (by first | assumption | (repeat (first | assumption | refine frM_u (by decide) ?_)))) (fun r21 hr21 => ?_)
      exact (q_MD_statementTold_154 (I0 := I0)  (by first | assumption | (repeat (first | assumption | refine frM_u (by decide) ?_))))
theorem q_MD_slope_54 {I0 : MI} {I : MI} {v1 : Int32} (h : frM I I0) : pc (F_MD_slope_54 I v1) (Sum.elim (fun r : Int32 × MI => frM r.2 I0) (fun r : MI => frM r I0)) := by
  unfold F_MD_slope_54
  refine pc_if ?_ ?_
  · refine pc_s ?_
    first | trivial | (repeat (first | assumption | refine frM_u (by decide) ?_))
  · refine pc_gd ?_
    refine pc_gd ?_
    refine pc_s ?_
    first | trivial | (repeat (first | assumption | refine frM_u (by decide) ?_))
theorem q_MD_slope_108 {I0 : MI} {I : MI} {J : MJ} (h : frM I I0) : pc (F_MD_slope_108 I J) (Sum.elim (fun r : MI × MJ => frM r.1 I0) (fun r : MI × MJ => frM r.1 I0)) := by
  unfold F_MD_slope_108
  refine pc_if ?_ ?_
  · refine pc_b (q_MD_look (I0 := I0)  (by first | assumption | (repeat (first | assumption | refine frM_u (by decide) ?_)))) (fun r2 hr2 => ?_)
    refine pc_if ?_ ?_
    · refine pc_s ?_
      first | trivial | (repeat (first | assumption | refine frM_u (by decide) ?_))
    · refine pc_b (q_MD_statementTold (I0 := I0)  (by first | assumption | (repeat (first | assumption | refine frM_u (by decide) ?_)))) (fun r4 hr4 => ?_)
      refine pc_s ?_
      first | trivial | (repeat (first | assumption | refine frM_u (by decide) ?_))
  · refine pc_s ?_
    first | trivial | (repeat (first | assumption | refine frM_u (by decide) ?_))
theorem q_MD_slope_130 {I0 : MI} {I : MI} {J : MJ} (h : frM I I0) : pc (F_MD_slope_130 I J) (fun r : Int32 × MI × MJ => frM r.2.1 I0) := by
  unfold F_MD_slope_130
  refine pc_if ?_ ?_
  · refine pc_b (q_MD_stands (I0 := I0)  (by first | assumption | (repeat (first | assumption | refine frM_u (by decide) ?_)))) (fun r2 hr2 => ?_)
    refine pc_s ?_
    first | trivial | (repeat (first | assumption | refine frM_u (by decide) ?_))
  · refine pc_s ?_
    first | trivial | (repeat (first | assumption | refine frM_u (by decide) ?_))
theorem q_MD_slope {I0 : MI} {I : MI} {J : MJ} (h : frM I I0) : pc (F_MD_slope I J) (fun r : Int32 × MI × MJ => frM r.2.1 I0) := by
  unfold F_MD_slope
  refine pc_bnd ?_
  refine pc_b (pc_wl (fun s : Int32 × MI => frM s.2 I0) (fun s hs => q_MD_slope_54 (I0 := I0)  (by first | exact hs | assumption | (repeat (first | assumption | refine frM_u (by decide) ?_)))) (by first | assumption | trivial | (repeat (first | assumption | refine frM_u (by decide) ?_)))) (fun t2 ht2 => ?_)
  refine pc_b (q_MD_slopeTold (I0 := I0)  (by first | assumption | (repeat (first | assumption | refine frM_u (by decide) ?_)))) (fun r3 hr3 => ?_)
  refine pc_b (pc_wl (fun s : MI × MJ => frM s.1 I0) (fun s hs => q_MD_slope_108 (I0 := I0)  (by first | exact hs | assumption | (repeat (first | assumption | refine frM_u (by decide) ?_)))) (by first | assumption | trivial | (repeat (first | assumption | refine frM_u (by decide) ?_)))) (fun t4 ht4 => ?_)
  exact (q_MD_slope_130 (I0 := I0)  (by first | assumption | (repeat (first | assumption | refine frM_u (by decide) ?_))))
theorem q_MD_qPuts {I0 : MI} {I : MI} {J : MJ} {v1 : Int64} (h : frM I I0) : pc (F_MD_qPuts I J v1) (fun r : MI × MJ => frM r.1 I0) := by
  unfold F_MD_qPuts
  refine pc_gd ?_
  refine pc_s ?_
  first | trivial | (repeat (first | assumption | refine frM_u (by decide) ?_))
theorem q_MD_qJoins {I0 : MI} {I : MI} {J : MJ} {v1 : Int32} (h : frM I I0) : pc (F_MD_qJoins I J v1) (fun r : MI × MJ => frM r.1 I0) := by
  unfold F_MD_qJoins
  refine pc_gd ?_
  refine pc_gd ?_
  refine pc_if ?_ ?_
  · refine pc_b' (fun r4 => ?_)
    refine pc_b (q_MD_qPuts (I0 := I0)  (by first | assumption | (repeat (first | assumption | refine frM_u (by decide) ?_)))) (fun r5 hr5 => ?_)
    refine pc_s ?_
    first | trivial | (repeat (first | assumption | refine frM_u (by decide) ?_))
  · refine pc_if ?_ ?_
    · refine pc_b' (fun r7 => ?_)
      refine pc_b (q_MD_qPuts (I0 := I0)  (by first | assumption | (repeat (first | assumption | refine frM_u (by decide) ?_)))) (fun r8 hr8 => ?_)
      refine pc_s ?_
      first | trivial | (repeat (first | assumption | refine frM_u (by decide) ?_))
    · refine pc_if ?_ ?_
      · refine pc_b' (fun r10 => ?_)
        refine pc_b (q_MD_qPuts (I0 := I0)  (by first | assumption | (repeat (first | assumption | refine frM_u (by decide) ?_)))) (fun r11 hr11 => ?_)
        refine pc_s ?_
        first | trivial | (repeat (first | assumption | refine frM_u (by decide) ?_))
      · refine pc_if ?_ ?_
        · refine pc_b' (fun r13 => ?_)
          refine pc_b (q_MD_qPuts (I0 := I0)  (by first | assumption | (repeat (first | assumption | refine frM_u (by decide) ?_)))) (fun r14 hr14 => ?_)
          refine pc_s ?_
          first | trivial | (repeat (first | assumption | refine frM_u (by decide) ?_))
        · refine pc_if ?_ ?_
          · refine pc_if ?_ ?_
            · refine pc_b (q_MD_qPuts (I0 := I0)  (by first | assumption | (repeat (first | assumption | refine frM_u (by decide) ?_)))) (fun r17 hr17 => ?_)
              refine pc_s ?_
              first | trivial | (repeat (first | assumption | refine frM_u (by decide) ?_))
            · refine pc_b (q_MD_qPuts (I0 := I0)  (by first | assumption | (repeat (first | assumption | refine frM_u (by decide) ?_)))) (fun r18 hr18 => ?_)
              refine pc_s ?_
              first | trivial | (repeat (first | assumption | refine frM_u (by decide) ?_))
          · refine pc_if ?_ ?_
            · refine pc_if ?_ ?_
              · refine pc_b (q_MD_qPuts (I0 := I0)  (by first | assumption | (repeat (first | assumption | refine frM_u (by decide) ?_)))) (fun r21 hr21 => ?_)
                refine pc_s ?_
                first | trivial | (repeat (first | assumption | refine frM_u (by decide) ?_))
              · refine pc_b (q_MD_qPuts (I0 := I0)  (by first | assumption | (repeat (first | assumption | refine frM_u (by decide) ?_)))) (fun r22 hr22 => ?_)
                refine pc_s ?_
                first | trivial | (repeat (first | assumption | refine frM_u (by decide) ?_))
            · refine pc_if ?_ ?_
              · refine pc_if ?_ ?_
                · refine pc_b (q_MD_qPuts (I0 := I0)  (by first | assumption | (repeat (first | assumption | refine frM_u (by decide) ?_)))) (fun r25 hr25 => ?_)
                  refine pc_s ?_
                  first | trivial | (repeat (first | assumption | refine frM_u (by decide) ?_))
                · refine pc_b (q_MD_qPuts (I0 := I0)  (by first | assumption | (repeat (first | assumption | refine frM_u (by decide) ?_)))) (fun r26 hr26 => ?_)
                  refine pc_s ?_
                  first | trivial | (repeat (first | assumption | refine frM_u (by decide) ?_))
              · refine pc_if ?_ ?_
                · refine pc_if ?_ ?_
                  · refine pc_b (q_MD_qPuts (I0 := I0)  (by first | assumption | (repeat (first | assumption | refine frM_u (by decide) ?_)))) (fun r29 hr29 => ?_)
                    refine pc_s ?_
                    first | trivial | (repeat (first | assumption | refine frM_u (by decide) ?_))
                  · refine pc_b (q_MD_qPuts (I0 := I0)  (by first | assumption | (repeat (first | assumption | refine frM_u (by decide) ?_)))) (fun r30 hr30 => ?_)
                    refine pc_s ?_
                    first | trivial | (repeat (first | assumption | refine frM_u (by decide) ?_))
                · refine pc_if ?_ ?_
                  · refine pc_if ?_ ?_
                    · refine pc_b (q_MD_qPuts (I0 := I0)  (by first | assumption | (repeat (first | assumption | refine frM_u (by decide) ?_)))) (fun r34 hr34 => ?_)
                      refine pc_s ?_
                      first | trivial | (repeat (first | assumption | refine frM_u (by decide) ?_))
                    · refine pc_b (q_MD_qPuts (I0 := I0)  (by first | assumption | (repeat (first | assumption | refine frM_u (by decide) ?_)))) (fun r33 hr33 => ?_)
                      refine pc_s ?_
                      first | trivial | (repeat (first | assumption | refine frM_u (by decide) ?_))
                  · refine pc_if ?_ ?_
                    · refine pc_b (q_MD_qPuts (I0 := I0)  (by first | assumption | (repeat (first | assumption | refine frM_u (by decide) ?_)))) (fun r36 hr36 => ?_)
                      refine pc_s ?_
                      first | trivial | (repeat (first | assumption | refine frM_u (by decide) ?_))
                    · refine pc_if ?_ ?_
                      · refine pc_b (q_MD_qPuts (I0 := I0)  (by first | assumption | (repeat (first | assumption | refine frM_u (by decide) ?_)))) (fun r38 hr38 => ?_)
                        refine pc_s ?_
                        first | trivial | (repeat (first | assumption | refine frM_u (by decide) ?_))
                      · refine pc_b (q_MD_qPuts (I0 := I0)  (by first | assumption | (repeat (first | assumption | refine frM_u (by decide) ?_)))) (fun r39 hr39 => ?_)
                        refine pc_s ?_
                        first | trivial | (repeat (first | assumption | refine frM_u (by decide) ?_))
theorem q_MD_codesTell_19 {I0 : MI} {I : MI} {J : MJ} {v1 : Int32} {v2 : Int32} {v3 : Int32} (h : frM I I0) : pc (F_MD_codesTell_19 I J v1 v2 v3) (Sum.elim (fun r : Int32 × MI × MJ => frM r.2.1 I0) (fun r : MI × MJ => frM r.1 I0)) := by
  unfold F_MD_codesTell_19
  refine pc_gd ?_
  refine pc_if ?_ ?_
  · refine pc_s ?_
    first | trivial | (repeat (first | assumption | refine frM_u (by decide) ?_))
  · refine pc_gd ?_
    refine pc_if ?_ ?_
    · refine pc_if ?_ ?_
      · refine pc_if ?_ ?_
        · refine pc_b (q_MD_qPuts (I0 := I0)  (by first | assumption | (repeat (first | assumption | refine frM_u (by decide) ?_)))) (fun r12 hr12 => ?_)
          refine pc_s ?_
          first | trivial | (repeat (first | assumption | refine frM_u (by decide) ?_))
        · refine pc_if ?_ ?_
          · refine pc_gd ?_
            refine pc_gd ?_
            refine pc_bnd ?_
            refine pc_s ?_
            first | trivial | (repeat (first | assumption | refine frM_u (by decide) ?_))
          · refine pc_b (q_MD_qJoins (I0 := I0)  (by first | assumption | (repeat (first | assumption | refine frM_u (by decide) ?_)))) (fun r8 hr8 => ?_)
            refine pc_s ?_
            first | trivial | (repeat (first | assumption | refine frM_u (by decide) ?_))
      · refine pc_b' (fun r13 => ?_)
        refine pc_b (q_MD_qPuts (I0 := I0)  (by first | assumption | (repeat (first | assumption | refine frM_u (by decide) ?_)))) (fun r14 hr14 => ?_)
        refine pc_s ?_
        first | trivial | (repeat (first | assumption | refine frM_u (by decide) ?_))
    · refine pc_b (q_MD_qPuts (I0 := I0)  (by first | assumption | (repeat (first | assumption | refine frM_u (by decide) ?_)))) (fun r15 hr15 => ?_)
      refine pc_s ?_
      first | trivial | (repeat (first | assumption | refine frM_u (by decide) ?_))
theorem q_MD_codesTell {I0 : MI} {I : MI} {J : MJ} {v1 : Int32} {v2 : Int32} (h : frM I I0) : pc (F_MD_codesTell I J v1 v2) (fun r : Int64 × MI × MJ => frM r.2.1 I0) := by
  unfold F_MD_codesTell
  refine pc_gd ?_
  refine pc_b (pc_wl (fun s : Int32 × MI × MJ => frM s.2.1 I0) (fun s hs => q_MD_codesTell_19 (I0 := I0)  (by first | exact hs | assumption | (repeat (first | assumption | refine frM_u (by decide) ?_)))) (by first | assumption | trivial | (repeat (first | assumption | refine frM_u (by decide) ?_)))) (fun t2 ht2 => ?_)
  refine pc_s ?_
  first | trivial | (repeat (first | assumption | refine frM_u (by decide) ?_))
theorem q_MD_walkOf {I0 : MI} {I : MI} {J : MJ} {v1 : Int32} {v2 : Int32} (h : frM I I0) : pc (F_MD_walkOf I J v1 v2) (fun r : Int32 × MI × MJ => frM r.2.1 I0) := by
  unfold F_MD_walkOf
  refine pc_if ?_ ?_
  · refine pc_gd ?_
    refine pc_s ?_
    first | trivial | (repeat (first | assumption | refine frM_u (by decide) ?_))
  · refine pc_b' (fun r2 => ?_)
    refine pc_b (q_MD_codesTell (I0 := I0)  (by first | assumption | (repeat (first | assumption | refine frM_u (by decide) ?_)))) (fun r3 hr3 => ?_)
    refine pc_if ?_ ?_
    · refine pc_if ?_ ?_
      · refine pc_s ?_
        first | trivial | (repeat (first | assumption | refine frM_u (by decide) ?_))
      · refine pc_s ?_
        first | trivial | (repeat (first | assumption | refine frM_u (by decide) ?_))
    · refine pc_s ?_
      first | trivial | (repeat (first | assumption | refine frM_u (by decide) ?_))
theorem q_MD_walks {I0 : MI} {I : MI} {J : MJ} {v1 : Int32} {v2 : Int32} (h : frM I I0) : pc (F_MD_walks I J v1 v2) (fun r : Int32 × MI × MJ => frM r.2.1 I0) := by
  unfold F_MD_walks
  refine pc_b' (fun r1 => ?_)
  refine pc_if ?_ ?_
  · refine pc_s ?_
    first | trivial | (repeat (first | assumption | refine frM_u (by decide) ?_))
  · refine pc_b' (fun r3 => ?_)
    refine pc_if ?_ ?_
    · refine pc_s ?_
      first | trivial | (repeat (first | assumption | refine frM_u (by decide) ?_))
    · refine pc_b' (fun r5 => ?_)
      refine pc_if ?_ ?_
      · refine pc_s ?_
        first | trivial | (repeat (first | assumption | refine frM_u (by decide) ?_))
      · refine pc_b (q_MD_walkOf (I0 := I0)  (by first | assumption | (repeat (first | assumption | refine frM_u (by decide) ?_)))) (fun r7 hr7 => ?_)
        refine pc_s ?_
        first | trivial | (repeat (first | assumption | refine frM_u (by decide) ?_))
theorem q_MD_putsAside_7 {I0 : MI} {I : MI} {v1 : Int32} (h : frM I I0) : pc (F_MD_putsAside_7 I v1) (Sum.elim (fun r : Int32 × MI => frM r.2 I0) (fun r : MI => frM r I0)) := by
  unfold F_MD_putsAside_7
  refine pc_if ?_ ?_
  · refine pc_s ?_
    first | trivial | (repeat (first | assumption | refine frM_u (by decide) ?_))
  · refine pc_gd ?_
    refine pc_gd ?_
    refine pc_s ?_
    first | trivial | (repeat (first | assumption | refine frM_u (by decide) ?_))
theorem q_MD_putsAside {I0 : MI} {I : MI} (h : frM I I0) : pc (F_MD_putsAside I) (fun r : MI => frM r I0) := by
  unfold F_MD_putsAside
  refine pc_b (pc_wl (fun s : Int32 × MI => frM s.2 I0) (fun s hs => q_MD_putsAside_7 (I0 := I0)  (by first | exact hs | assumption | (repeat (first | assumption | refine frM_u (by decide) ?_)))) (by first | assumption | trivial | (repeat (first | assumption | refine frM_u (by decide) ?_)))) (fun t1 ht1 => ?_)
  refine pc_s ?_
  first | trivial | (repeat (first | assumption | refine frM_u (by decide) ?_))
theorem q_MD_triesAnew_2 {I0 : MI} {I : MI} {v1 : Int32} (h : frM I I0) : pc (F_MD_triesAnew_2 I v1) (Sum.elim (fun r : Int32 × MI => frM r.2 I0) (fun r : MI => frM r I0)) := by
  unfold F_MD_triesAnew_2
  refine pc_if ?_ ?_
  · refine pc_s ?_
    first | trivial | (repeat (first | assumption | refine frM_u (by decide) ?_))
  · refine pc_gd ?_
    refine pc_gd ?_
    refine pc_s ?_
    first | trivial | (repeat (first | assumption | refine frM_u (by decide) ?_))
theorem q_MD_triesAnew {I0 : MI} {I : MI} (h : frM I I0) : pc (F_MD_triesAnew I) (fun r : MI => frM r I0) := by
  unfold F_MD_triesAnew
  refine pc_b (pc_wl (fun s : Int32 × MI => frM s.2 I0) (fun s hs => q_MD_triesAnew_2 (I0 := I0)  (by first | exact hs | assumption | (repeat (first | assumption | refine frM_u (by decide) ?_)))) (by first | assumption | trivial | (repeat (first | assumption | refine frM_u (by decide) ?_)))) (fun t1 ht1 => ?_)
  refine pc_s ?_
  first | trivial | (repeat (first | assumption | refine frM_u (by decide) ?_))
theorem q_MD_takesBack {I0 : MI} {I : MI} (h : frM I I0) : pc (F_MD_takesBack I) (fun r : MI => frM r I0) := by
  unfold F_MD_takesBack
  refine pc_b (q_MD_triesAnew (I0 := I0)  (by first | assumption | (repeat (first | assumption | refine frM_u (by decide) ?_)))) (fun r1 hr1 => ?_)
  refine pc_s ?_
  first | trivial | (repeat (first | assumption | refine frM_u (by decide) ?_))
theorem q_MD_doesRoot {I0 : MI} {I : MI} {J : MJ} {v1 : Int32} (h : frM I I0) : pc (F_MD_doesRoot I J v1) (fun r : Int32 × MI × MJ => frM r.2.1 I0) := by
  unfold F_MD_doesRoot
  refine pc_if ?_ ?_
  · refine pc_s ?_
    first | trivial | (repeat (first | assumption | refine frM_u (by decide) ?_))
  · refine pc_b (q_MD_codesTell (I0 := I0)  (by first | assumption | (repeat (first | assumption | refine frM_u (by decide) ?_)))) (fun r2 hr2 => ?_)
    refine pc_if ?_ ?_
    · refine pc_s ?_
      first | trivial | (repeat (first | assumption | refine frM_u (by decide) ?_))
    · refine pc_s ?_
      first | trivial | (repeat (first | assumption | refine frM_u (by decide) ?_))
theorem q_MD_isKept_64 {I0 : MI} {I : MI} {v1 : Int32} {v2 : Int32} (h : frM I I0) : pc (F_MD_isKept_64 I v1 v2) (fun r : MI => frM r I0) := by
  unfold F_MD_isKept_64
  refine pc_gd ?_
  refine pc_gd ?_
  refine pc_gd ?_
  refine pc_bnd ?_
  refine pc_s ?_
  first | trivial | (repeat (first | assumption | refine frM_u (by decide) ?_))
theorem q_MD_isKept_23 {I0 : MI} {I : MI} {v1 : Int32} {v2 : Int32} {v3 : Int32} (h : frM I I0) : pc (F_MD_isKept_23 I v1 v2 v3) (Sum.elim (fun r : Int32 × MI => frM r.2 I0) (fun r : MI => frM r I0)) := by
  unfold F_MD_isKept_23
  refine pc_if ?_ ?_
  · refine pc_s ?_
    first | trivial | (repeat (first | assumption | refine frM_u (by decide) ?_))
  · refine pc_gd ?_
    refine pc_gd ?_
    refine pc_s ?_
    first | trivial | (repeat (first | assumption | refine frM_u (by decide) ?_))
theorem q_MD_isKept {I0 : MI} {I : MI} {v1 : Int32} {v2 : Int32} (h : frM I I0) : pc (F_MD_isKept I v1 v2) (fun r : MI => frM r I0) := by
  unfold F_MD_isKept
  refine pc_if ?_ ?_
  · refine pc_if ?_ ?_
    · refine pc_b (pc_wl (fun s : Int32 × MI => frM s.2 I0) (fun s hs => q_MD_isKept_23 (I0 := I0)  (by first | exact hs | assumption | (repeat (first | assumption | refine frM_u (by decide) ?_)))) (by first | assumption | trivial | (repeat (first | assumption | refine frM_u (by decide) ?_)))) (fun t3 ht3 => ?_)
      exact (q_MD_isKept_64 (I0 := I0)  (by first | assumption | (repeat (first | assumption | refine frM_u (by decide) ?_))))
    · exact (q_MD_isKept_64 (I0 := I0)  (by first | assumption | (repeat (first | assumption | refine frM_u (by decide) ?_))))
  · refine pc_s ?_
    first | trivial | (repeat (first | assumption | refine frM_u (by decide) ?_))
theorem q_MD_rowIs {I0 : MI} {I : MI} {v1 : Int32} {v2 : Int32} {v3 : Int32} (h : frM I I0) : pc (F_MD_rowIs I v1 v2 v3) (fun r : MI => frM r I0) := by
  unfold F_MD_rowIs
  refine pc_gd ?_
  refine pc_s ?_
  first | trivial | (repeat (first | assumption | refine frM_u (by decide) ?_))
theorem q_MD_isSet_15 {I0 : MI} {I : MI} {v1 : Int32} {v2 : Int32} (h : frM I I0) : pc (F_MD_isSet_15 I v1 v2) (Sum.elim (fun r : Int32 × MI => frM r.2 I0) (fun r : MI => frM r I0)) := by
  unfold F_MD_isSet_15
  refine pc_if ?_ ?_
  · refine pc_s ?_
    first | trivial | (repeat (first | assumption | refine frM_u (by decide) ?_))
  · refine pc_b (q_MD_rowIs (I0 := I0)  (by first | assumption | (repeat (first | assumption | refine frM_u (by decide) ?_)))) (fun r2 hr2 => ?_)
    refine pc_s ?_
    first | trivial | (repeat (first | assumption | refine frM_u (by decide) ?_))
theorem q_MD_isSet {I0 : MI} {I : MI} {v1 : Int32} (h : frM I I0) : pc (F_MD_isSet I v1) (fun r : MI => frM r I0) := by
  unfold F_MD_isSet
  refine pc_gd ?_
  refine pc_b (pc_wl (fun s : Int32 × MI => frM s.2 I0) (fun s hs => q_MD_isSet_15 (I0 := I0)  (by first | exact hs | assumption | (repeat (first | assumption | refine frM_u (by decide) ?_)))) (by first | assumption | trivial | (repeat (first | assumption | refine frM_u (by decide) ?_)))) (fun t2 ht2 => ?_)
  refine pc_s ?_
  first | trivial | (repeat (first | assumption | refine frM_u (by decide) ?_))
theorem q_MD_isGone {I0 : MI} {I : MI} {v1 : Int32} {v2 : Int32} (h : frM I I0) : pc (F_MD_isGone I v1 v2) (fun r : MI => frM r I0) := by
  unfold F_MD_isGone
  refine pc_b (q_MD_rowIs (I0 := I0)  (by first | assumption | (repeat (first | assumption | refine frM_u (by decide) ?_)))) (fun r1 hr1 => ?_)
  refine pc_b (q_MD_isKept (I0 := I0)  (by first | assumption | (repeat (first | assumption | refine frM_u (by decide) ?_)))) (fun r2 hr2 => ?_)
  refine pc_s ?_
  first | trivial | (repeat (first | assumption | refine frM_u (by decide) ?_))
theorem q_MD_stakeWalks_3 {I0 : MI} {I : MI} {v1 : Int32} {v2 : Int32} {v3 : Int32} {v4 : Int32} (h : frM I I0) : pc (F_MD_stakeWalks_3 I v1 v2 v3 v4) (Sum.elim (fun r : Int32 × MI => frM r.2 I0) (Sum.elim (fun r : MI => frM r I0) (fun r : MI => frM r I0))) := by
  unfold F_MD_stakeWalks_3
  refine pc_if ?_ ?_
  · refine pc_s ?_
    first | trivial | (repeat (first | assumption | refine frM_u (by decide) ?_))
  · refine pc_b' (fun r2 => ?_)
    refine pc_b' (fun r3 => ?_)
    refine pc_if ?_ ?_
    · refine pc_if ?_ ?_
      · refine pc_b (q_MD_isGone (I0 := I0)  (by first | assumption | (repeat (first | assumption | refine frM_u (by decide) ?_)))) (fun r7 hr7 => ?_)
        refine pc_s ?_
        first | trivial | (repeat (first | assumption | refine frM_u (by decide) ?_))
      · refine pc_b (q_MD_rowIs (I0 := I0)  (by first | assumption | (repeat (first | assumption | refine frM_u (by decide) ?_)))) (fun r6 hr6 => ?_)
        refine pc_s ?_
        first | trivial | (repeat (first | assumption | refine frM_u (by decide) ?_))
    · refine pc_s ?_
      first | trivial | (repeat (first | assumption | refine frM_u (by decide) ?_))
theorem q_MD_stakeWalks {I0 : MI} {I : MI} {v1 : Int32} {v2 : Int32} {v3 : Int32} (h : frM I I0) : pc (F_MD_stakeWalks I v1 v2 v3) (fun r : MI => frM r I0) := by
  unfold F_MD_stakeWalks
  refine pc_b (pc_wl (fun s : Int32 × MI => frM s.2 I0) (fun s hs => q_MD_stakeWalks_3 (I0 := I0)  (by first | exact hs | assumption | (repeat (first | assumption | refine frM_u (by decide) ?_)))) (by first | assumption | trivial | (repeat (first | assumption | refine frM_u (by decide) ?_)))) (fun q hq => ?_)
  rcases q with t1 | q
  · have ht1 := hq
    refine pc_s ?_
    first | trivial | (repeat (first | assumption | refine frM_u (by decide) ?_))
  · show pc (some q) _
    refine pc_s ?_
    first | exact hq | trivial | (repeat (first | assumption | refine frM_u (by decide) ?_))
theorem q_MD_yearGoes_12 {I0 : MI} {I : MI} {J : MJ} {v1 : Int32} {v2 : Int32} (h : frM I I0) : pc (F_MD_yearGoes_12 I J v1 v2) (Sum.elim (fun r : Int32 × MI × MJ => frM r.2.1 I0) (fun r : MI × MJ => frM r.1 I0)) := by
  unfold F_MD_yearGoes_12
  refine pc_if ?_ ?_
  · refine pc_s ?_
    first | trivial | (repeat (first | assumption | refine frM_u (by decide) ?_))
  · refine pc_b' (fun r2 => ?_)
    refine pc_if ?_ ?_
    · refine pc_b' (fun r5 => ?_)
      refine pc_if ?_ ?_
      · refine pc_gd ?_
        refine pc_s ?_
        first | trivial | (repeat (first | assumption | refine frM_u (by decide) ?_))
      · refine pc_b (q_MD_walkOf (I0 := I0)  (by first | assumption | (repeat (first | assumption | refine frM_u (by decide) ?_)))) (fun r7 hr7 => ?_)
        refine pc_gd ?_
        refine pc_s ?_
        first | trivial | (repeat (first | assumption | refine frM_u (by decide) ?_))
    · refine pc_gd ?_
      refine pc_s ?_
      first | trivial | (repeat (first | assumption | refine frM_u (by decide) ?_))
theorem q_MD_yearGoes_2 {I0 : MI} {I : MI} {J : MJ} {v1 : Int32} (h : frM I I0) : pc (F_MD_yearGoes_2 I J v1) (Sum.elim (fun r : Int32 × MI × MJ => frM r.2.1 I0) (fun r : MI × MJ => frM r.1 I0)) := by
  unfold F_MD_yearGoes_2
  refine pc_b' (fun r1 => ?_)
  refine pc_if ?_ ?_
  · refine pc_s ?_
    first | trivial | (repeat (first | assumption | refine frM_u (by decide) ?_))
  · refine pc_b (pc_wl (fun s : Int32 × MI × MJ => frM s.2.1 I0) (fun s hs => q_MD_yearGoes_12 (I0 := I0)  (by first | exact hs | assumption | (repeat (first | assumption | refine frM_u (by decide) ?_)))) (by first | assumption | trivial | (repeat (first | assumption | refine frM_u (by decide) ?_)))) (fun t3 ht3 => ?_)
    refine pc_s ?_
    first | trivial | (repeat (first | assumption | refine frM_u (by decide) ?_))
theorem q_MD_yearGoes_85 {I0 : MI} {I : MI} {v1 : Int32} {v2 : Int32} (h : frM I I0) : pc (F_MD_yearGoes_85 I v1 v2) (Sum.elim (fun r : Int32 × MI => frM r.2 I0) (fun r : MI => frM r I0)) := by
  unfold F_MD_yearGoes_85
  refine pc_if ?_ ?_
  · refine pc_s ?_
    first | trivial | (repeat (first | assumption | refine frM_u (by decide) ?_))
  · refine pc_b' (fun r2 => ?_)
    refine pc_if ?_ ?_
    · refine pc_s ?_
      first | trivial | (repeat (first | assumption | refine frM_u (by decide) ?_))
    · refine pc_gd ?_
      refine pc_b (q_MD_stakeWalks (I0 := I0)  (by first | assumption | (repeat (first | assumption | refine frM_u (by decide) ?_)))) (fun r5 hr5 => ?_)
      refine pc_s ?_
      first | trivial | (repeat (first | assumption | refine frM_u (by decide) ?_))
theorem q_MD_yearGoes_75 {I0 : MI} {I : MI} {v1 : Int32} (h : frM I I0) : pc (F_MD_yearGoes_75 I v1) (Sum.elim (fun r : Int32 × MI => frM r.2 I0) (fun r : MI => frM r I0)) := by
  unfold F_MD_yearGoes_75
  refine pc_b' (fun r1 => ?_)
  refine pc_if ?_ ?_
  · refine pc_s ?_
    first | trivial | (repeat (first | assumption | refine frM_u (by decide) ?_))
  · refine pc_b (pc_wl (fun s : Int32 × MI => frM s.2 I0) (fun s hs => q_MD_yearGoes_85 (I0 := I0)  (by first | exact hs | assumption | (repeat (first | assumption | refine frM_u (by decide) ?_)))) (by first | assumption | trivial | (repeat (first | assumption | refine frM_u (by decide) ?_)))) (fun t3 ht3 => ?_)
    refine pc_s ?_
    first | trivial | (repeat (first | assumption | refine frM_u (by decide) ?_))
theorem q_MD_yearGoes_170 {I0 : MI} {I : MI} {v1 : Int32} (h : frM I I0) : pc (F_MD_yearGoes_170 I v1) (Sum.elim (fun r : Int32 × MI => frM r.2 I0) (fun r : MI => frM r I0)) := by
  unfold F_MD_yearGoes_170
  refine pc_gd ?_
  refine pc_s ?_
  first | trivial | (repeat (first | assumption | refine frM_u (by decide) ?_))
theorem q_MD_yearGoes_136 {I0 : MI} {I : MI} {v1 : Int32} (h : frM I I0) : pc (F_MD_yearGoes_136 I v1) (Sum.elim (fun r : Int32 × MI => frM r.2 I0) (fun r : MI => frM r I0)) := by
  unfold F_MD_yearGoes_136
  refine pc_b' (fun r1 => ?_)
  refine pc_if ?_ ?_
  · refine pc_s ?_
    first | trivial | (repeat (first | assumption | refine frM_u (by decide) ?_))
  · refine pc_b' (fun r3 => ?_)
    refine pc_if ?_ ?_
    · exact (q_MD_yearGoes_170 (I0 := I0)  (by first | assumption | (repeat (first | assumption | refine frM_u (by decide) ?_))))
    · refine pc_gd ?_
      refine pc_gd ?_
      refine pc_bnd ?_
      exact (q_MD_yearGoes_170 (I0 := I0)  (by first | assumption | (repeat (first | assumption | refine frM_u (by decide) ?_))))
theorem q_MD_yearGoes_193 {I0 : MI} {I : MI} {J : MJ} {v1 : Int32} (h : frM I I0) : pc (F_MD_yearGoes_193 I J v1) (Sum.elim (fun r : Int32 × MI × MJ => frM r.2.1 I0) (fun r : MI × MJ => frM r.1 I0)) := by
  unfold F_MD_yearGoes_193
  refine pc_b' (fun r1 => ?_)
  refine pc_if ?_ ?_
  · refine pc_s ?_
    first | trivial | (repeat (first | assumption | refine frM_u (by decide) ?_))
  · refine pc_b (q_MD_doesRoot (I0 := I0)  (by first | assumption | (repeat (first | assumption | refine frM_u (by decide) ?_)))) (fun r3 hr3 => ?_)
    refine pc_if ?_ ?_
    · refine pc_s ?_
      first | trivial | (repeat (first | assumption | refine frM_u (by decide) ?_))
    · refine pc_b (q_MD_isSet (I0 := I0)  (by first | assumption | (repeat (first | assumption | refine frM_u (by decide) ?_)))) (fun r5 hr5 => ?_)
      refine pc_b (q_MD_isKept (I0 := I0)  (by first | assumption | (repeat (first | assumption | refine frM_u (by decide) ?_)))) (fun r6 hr6 => ?_)
      refine pc_s ?_
      first | trivial | (repeat (first | assumption | refine frM_u (by decide) ?_))
theorem q_MD_yearGoes {I0 : MI} {I : MI} {J : MJ} (h : frM I I0) : pc (F_MD_yearGoes I J) (fun r : MI × MJ => frM r.1 I0) := by
  unfold F_MD_yearGoes
  refine pc_b (pc_wl (fun s : Int32 × MI × MJ => frM s.2.1 I0) (fun s hs => q_MD_yearGoes_2 (I0 := I0)  (by first | exact hs | assumption | (repeat (first | assumption | refine frM_u (by decide) ?_)))) (by first | assumption | trivial | (repeat (first | assumption | refine frM_u (by decide) ?_)))) (fun t1 ht1 => ?_)
  refine pc_b (pc_wl (fun s : Int32 × MI => frM s.2 I0) (fun s hs => q_MD_yearGoes_75 (I0 := I0)  (by first | exact hs | assumption | (repeat (first | assumption | refine frM_u (by decide) ?_)))) (by first | assumption | trivial | (repeat (first | assumption | refine frM_u (by decide) ?_)))) (fun t2 ht2 => ?_)
  refine pc_b (pc_wl (fun s : Int32 × MI => frM s.2 I0) (fun s hs => q_MD_yearGoes_136 (I0 := I0)  (by first | exact hs | assumption | (repeat (first | assumption | refine frM_u (by decide) ?_)))) (by first | assumption | trivial | (repeat (first | assumption | refine frM_u (by decide) ?_)))) (fun t3 ht3 => ?_)
  refine pc_b (pc_wl (fun s : Int32 × MI × MJ => frM s.2.1 I0) (fun s hs => q_MD_yearGoes_193 (I0 := I0)  (by first | exact hs | assumption | (repeat (first | assumption | refine frM_u (by decide) ?_)))) (by first | assumption | trivial | (repeat (first | assumption | refine frM_u (by decide) ?_)))) (fun t4 ht4 => ?_)
  refine pc_s ?_
  first | trivial | (repeat (first | assumption | refine frM_u (by decide) ?_))
theorem q_MD_yearsGo_2 {I0 : MI} {I : MI} {J : MJ} {v1 : Int32} {v2 : Int32} (h : frM I I0) : pc (F_MD_yearsGo_2 I J v1 v2) (Sum.elim (fun r : Int32 × MI × MJ => frM r.2.1 I0) (fun r : MI × MJ => frM r.1 I0)) := by
  unfold F_MD_yearsGo_2
  refine pc_if ?_ ?_
  · refine pc_s ?_
    first | trivial | (repeat (first | assumption | refine frM_u (by decide) ?_))
  · refine pc_b (q_MD_yearGoes (I0 := I0)  (by first | assumption | (repeat (first | assumption | refine frM_u (by decide) ?_)))) (fun r2 hr2 => ?_)
    refine pc_s ?_
    first | trivial | (repeat (first | assumption | refine frM_u (by decide) ?_))
theorem q_MD_yearsGo {I0 : MI} {I : MI} {J : MJ} {v1 : Int32} (h : frM I I0) : pc (F_MD_yearsGo I J v1) (fun r : MI × MJ => frM r.1 I0) := by
  unfold F_MD_yearsGo
  refine pc_b (pc_wl (fun s : Int32 × MI × MJ => frM s.2.1 I0) (fun s hs => q_MD_yearsGo_2 (I0 := I0)  (by first | exact hs | assumption | (repeat (first | assumption | refine frM_u (by decide) ?_)))) (by first | assumption | trivial | (repeat (first | assumption | refine frM_u (by decide) ?_)))) (fun t1 ht1 => ?_)
  refine pc_s ?_
  first | trivial | (repeat (first | assumption | refine frM_u (by decide) ?_))
theorem q_MD_later {I0 : MI} {I : MI} {J : MJ} {v1 : Int32} {v2 : Int32} {v3 : Int32} (h : frM I I0) : pc (F_MD_later I J v1 v2 v3) (fun r : Int32 × MI × MJ => frM r.2.1 I0) := by
  unfold F_MD_later
  refine pc_b' (fun r1 => ?_)
  refine pc_if ?_ ?_
  · refine pc_s ?_
    first | trivial | (repeat (first | assumption | refine frM_u (by decide) ?_))
  · refine pc_b' (fun r3 => ?_)
    refine pc_if ?_ ?_
    · refine pc_s ?_
      first | trivial | (repeat (first | assumption | refine frM_u (by decide) ?_))
    · refine pc_b' (fun r5 => ?_)
      refine pc_if ?_ ?_
      · refine pc_s ?_
        first | trivial | (repeat (first | assumption | refine frM_u (by decide) ?_))
      · refine pc_b (q_MD_putsAside (I0 := I0)  (by first | assumption | (repeat (first | assumption | refine frM_u (by decide) ?_)))) (fun r7 hr7 => ?_)
        refine pc_b (q_MD_yearsGo (I0 := I0)  (by first | assumption | (repeat (first | assumption | refine frM_u (by decide) ?_)))) (fun r8 hr8 => ?_)
        refine pc_if ?_ ?_
        · refine pc_b' (fun r15 => ?_)
          refine pc_b (q_MD_takesBack (I0 := I0)  (by first | assumption | (repeat (first | assumption | refine frM_u (by decide) ?_)))) (fun r16 hr16 => ?_)
          refine pc_s ?_
          first | trivial | (repeat (first | assumption | refine frM_u (by decide) ?_))
        · refine pc_if ?_ ?_
          · refine pc_b' (fun r13 => ?_)
            refine pc_b (q_MD_takesBack (I0 := I0)  (by first | assumption | (repeat (first | assumption | refine frM_u (by decide) ?_)))) (fun r14 hr14 => ?_)
            refine pc_s ?_
            first | trivial | (repeat (first | assumption | refine frM_u (by decide) ?_))
          · refine pc_b' (fun r11 => ?_)
            refine pc_b (q_MD_takesBack (I0 := I0)  (by first | assumption | (repeat (first | assumption | refine frM_u (by decide) ?_)))) (fun r12 hr12 => ?_)
            refine pc_s ?_
            first | trivial | (repeat (first | assumption | refine frM_u (by decide) ?_))
theorem q_MD_whose {I0 : MI} {I : MI} {J : MJ} {v1 : Int32} {v2 : Int32} {v3 : Int32} (h : frM I I0) : pc (F_MD_whose I J v1 v2 v3) (fun r : Int32 × MI × MJ => frM r.2.1 I0) := by
  unfold F_MD_whose
  refine pc_b' (fun r1 => ?_)
  refine pc_if ?_ ?_
  · refine pc_s ?_
    first | trivial | (repeat (first | assumption | refine frM_u (by decide) ?_))
  · refine pc_b' (fun r3 => ?_)
    refine pc_if ?_ ?_
    · refine pc_s ?_
      first | trivial | (repeat (first | assumption | refine frM_u (by decide) ?_))
    · refine pc_b (q_MD_putsAside (I0 := I0)  (by first | assumption | (repeat (first | assumption | refine frM_u (by decide) ?_)))) (fun r5 hr5 => ?_)
      refine pc_b (q_MD_yearsGo (I0 := I0)  (by first | assumption | (repeat (first | assumption | refine frM_u (by decide) ?_)))) (fun r6 hr6 => ?_)
      refine pc_b' (fun r7 => ?_)
      refine pc_b (q_MD_takesBack (I0 := I0)  (by first | assumption | (repeat (first | assumption | refine frM_u (by decide) ?_)))) (fun r8 hr8 => ?_)
      refine pc_s ?_
      first | trivial | (repeat (first | assumption | refine frM_u (by decide) ?_))
theorem q_MD_meets_17 {I0 : MI} {I : MI} {J : MJ} {v1 : Int32} {v2 : Int32} {v3 : Int32} (h : frM I I0) : pc (F_MD_meets_17 I J v1 v2 v3) (Sum.elim (fun r : Int32 × MI × MJ => frM r.2.1 I0) (fun r : Int32 × MI × MJ => frM r.2.1 I0)) := by
  unfold F_MD_meets_17
  refine pc_b' (fun r1 => ?_)
  refine pc_if ?_ ?_
  · refine pc_if ?_ ?_
    · refine pc_s ?_
      first | trivial | (repeat (first | assumption | refine frM_u (by decide) ?_))
    · refine pc_if ?_ ?_
      · refine pc_s ?_
        first | trivial | (repeat (first | assumption | refine frM_u (by decide) ?_))
      · refine pc_b (q_MD_yearGoes (I0 := I0)  (by first | assumption | (repeat (first | assumption | refine frM_u (by decide) ?_)))) (fun r5 hr5 => ?_)
        refine pc_s ?_
        first | trivial | (repeat (first | assumption | refine frM_u (by decide) ?_))
  · refine pc_s ?_
    first | trivial | (repeat (first | assumption | refine frM_u (by decide) ?_))
theorem q_MD_meets_54 {I0 : MI} {I : MI} {J : MJ} {v1 : Int32} {v2 : Int32} {v3 : Int32} (h : frM I I0) : pc (F_MD_meets_54 I J v1 v2 v3) (fun r : Int32 × MI × MJ => frM r.2.1 I0) := by
  unfold F_MD_meets_54
  refine pc_b' (fun r1 => ?_)
  refine pc_b (q_MD_takesBack (I0 := I0)  (by first | assumption | (repeat (first | assumption | refine frM_u (by decide) ?_)))) (fun r2 hr2 => ?_)
  refine pc_if ?_ ?_
  · refine pc_s ?_
    first | trivial | (repeat (first | assumption | refine frM_u (by decide) ?_))
  · refine pc_s ?_
    first | trivial | (repeat (first | assumption | refine frM_u (by decide) ?_))
theorem q_MD_meets {I0 : MI} {I : MI} {J : MJ} {v1 : Int32} {v2 : Int32} (h : frM I I0) : pc (F_MD_meets I J v1 v2) (fun r : Int32 × MI × MJ => frM r.2.1 I0) := by
  unfold F_MD_meets
  refine pc_b' (fun r1 => ?_)
  refine pc_if ?_ ?_
  · refine pc_s ?_
    first | trivial | (repeat (first | assumption | refine frM_u (by decide) ?_))
  · refine pc_b (q_MD_putsAside (I0 := I0)  (by first | assumption | (repeat (first | assumption | refine frM_u (by decide) ?_)))) (fun r3 hr3 => ?_)
    refine pc_b (pc_wl (fun s : Int32 × MI × MJ => frM s.2.1 I0) (fun s hs => q_MD_meets_17 (I0 := I0)  (by first | exact hs | assumption | (repeat (first | assumption | refine frM_u (by decide) ?_)))) (by first | assumption | trivial | (repeat (first | assumption | refine frM_u (by decide) ?_)))) (fun t4 ht4 => ?_)
    exact (q_MD_meets_54 (I0 := I0)  (by first | assumption | (repeat (first | assumption | refine frM_u (by decide) ?_))))
theorem q_MD_leastField_23 {I0 : MI} {I : MI} {J : MJ} {v1 : Int32} {v2 : Int32} {v3 : Int32} {v4 : Int32} {v5 : Int32} (h : frM I I0) : pc (F_MD_leastField_23 I J v1 v2 v3 v4 v5) (Sum.elim (fun r : Int32 × Int32 × MI × MJ => frM r.2.2.1 I0) (fun r : Int32 × MI × MJ => frM r.2.1 I0)) := by
  unfold F_MD_leastField_23
  refine pc_b (q_MD_yearGoes (I0 := I0)  (by first | assumption | (repeat (first | assumption | refine frM_u (by decide) ?_)))) (fun r1 hr1 => ?_)
  refine pc_b' (fun r2 => ?_)
  refine pc_if ?_ ?_
  · refine pc_s ?_
    first | trivial | (repeat (first | assumption | refine frM_u (by decide) ?_))
  · refine pc_if ?_ ?_
    · refine pc_s ?_
      first | trivial | (repeat (first | assumption | refine frM_u (by decide) ?_))
    · refine pc_s ?_
      first | trivial | (repeat (first | assumption | refine frM_u (by decide) ?_))
theorem q_MD_leastField_6 {I0 : MI} {I : MI} {J : MJ} {v1 : Int32} {v2 : Int32} {v3 : Int32} {v4 : Int32} {v5 : Int32} (h : frM I I0) : pc (F_MD_leastField_6 I J v1 v2 v3 v4 v5) (Sum.elim (fun r : Int32 × Int32 × MI × MJ => frM r.2.2.1 I0) (fun r : Int32 × MI × MJ => frM r.2.1 I0)) := by
  unfold F_MD_leastField_6
  refine pc_if ?_ ?_
  · refine pc_s ?_
    first | trivial | (repeat (first | assumption | refine frM_u (by decide) ?_))
  · refine pc_if ?_ ?_
    · refine pc_b (q_MD_isSet (I0 := I0)  (by first | assumption | (repeat (first | assumption | refine frM_u (by decide) ?_)))) (fun r3 hr3 => ?_)
      exact (q_MD_leastField_23 (I0 := I0)  (by first | assumption | (repeat (first | assumption | refine frM_u (by decide) ?_))))
    · exact (q_MD_leastField_23 (I0 := I0)  (by first | assumption | (repeat (first | assumption | refine frM_u (by decide) ?_))))
theorem q_MD_leastField {I0 : MI} {I : MI} {J : MJ} {v1 : Int32} {v2 : Int32} {v3 : Int32} (h : frM I I0) : pc (F_MD_leastField I J v1 v2 v3) (fun r : Int32 × MI × MJ => frM r.2.1 I0) := by
  unfold F_MD_leastField
  refine pc_b (pc_wl (fun s : Int32 × Int32 × MI × MJ => frM s.2.2.1 I0) (fun s hs => q_MD_leastField_6 (I0 := I0)  (by first | exact hs | assumption | (repeat (first | assumption | refine frM_u (by decide) ?_)))) (by first | assumption | trivial | (repeat (first | assumption | refine frM_u (by decide) ?_)))) (fun t1 ht1 => ?_)
  refine pc_b (q_MD_triesAnew (I0 := I0)  (by first | assumption | (repeat (first | assumption | refine frM_u (by decide) ?_)))) (fun r2 hr2 => ?_)
  refine pc_s ?_
  first | trivial | (repeat (first | assumption | refine frM_u (by decide) ?_))
theorem q_MD_sets_50 {I0 : MI} {I : MI} {J : MJ} {v1 : Int32} {v2 : Int32} {v3 : Int32} {v4 : Int32} {v5 : Int32} {v6 : Int32} (h : frM I I0) : pc (F_MD_sets_50 I J v1 v2 v3 v4 v5 v6) (Sum.elim (fun r : Int32 × Int32 × Int32 × MI × MJ => frM r.2.2.2.1 I0) (fun r : Int32 × Int32 × MI × MJ => frM r.2.2.1 I0)) := by
  unfold F_MD_sets_50
  refine pc_if ?_ ?_
  · refine pc_s ?_
    first | trivial | (repeat (first | assumption | refine frM_u (by decide) ?_))
  · refine pc_b (q_MD_leastField (I0 := I0)  (by first | assumption | (repeat (first | assumption | refine frM_u (by decide) ?_)))) (fun r2 hr2 => ?_)
    refine pc_if ?_ ?_
    · refine pc_s ?_
      first | trivial | (repeat (first | assumption | refine frM_u (by decide) ?_))
    · refine pc_s ?_
      first | trivial | (repeat (first | assumption | refine frM_u (by decide) ?_))
theorem q_MD_sets {I0 : MI} {I : MI} {J : MJ} {v1 : Int32} {v2 : Int32} {v3 : Int32} (h : frM I I0) : pc (F_MD_sets I J v1 v2 v3) (fun r : Int32 × MI × MJ => frM r.2.1 I0) := by
  unfold F_MD_sets
  refine pc_b' (fun r1 => ?_)
  refine pc_if ?_ ?_
  · refine pc_s ?_
    first | trivial | (repeat (first | assumption | refine frM_u (by decide) ?_))
  · refine pc_b' (fun r3 => ?_)
    refine pc_if ?_ ?_
    · refine pc_s ?_
      first | trivial | (repeat (first | assumption | refine frM_u (by decide) ?_))
    · refine pc_b' (fun r5 => ?_)
      refine pc_if ?_ ?_
      · refine pc_s ?_
        first | trivial | (repeat (first | assumption | refine frM_u (by decide) ?_))
      · refine pc_b (q_MD_putsAside (I0 := I0)  (by first | assumption | (repeat (first | assumption | refine frM_u (by decide) ?_)))) (fun r7 hr7 => ?_)
        refine pc_b (q_MD_leastField (I0 := I0)  (by first | assumption | (repeat (first | assumption | refine frM_u (by decide) ?_)))) (fun r8 hr8 => ?_)
        refine pc_b (pc_wl (fun s : Int32 × Int32 × Int32 × MI × MJ => frM s.2.2.2.1 I0) (fun s hs => q_MD_sets_50 (I0 := I0)  (by first | exact hs | assumption | (repeat (first | assumption | refine frM_u (by decide) ?_)))) (by first | assumption | trivial | (repeat (first | assumption | refine frM_u (by decide) ?_)))) (fun t9 ht9 => ?_)
        refine pc_b (q_MD_takesBack (I0 := I0)  (by first | assumption | (repeat (first | assumption | refine frM_u (by decide) ?_)))) (fun r10 hr10 => ?_)
        refine pc_if ?_ ?_
        · refine pc_s ?_
          first | trivial | (repeat (first | assumption | refine frM_u (by decide) ?_))
        · refine pc_s ?_
          first | trivial | (repeat (first | assumption | refine frM_u (by decide) ?_))
theorem q_MD_irons_85 {I0 : MI} {I : MI} {J : MJ} {v1 : Int32} {v2 : Int32} {v3 : Int32} {v4 : Int32} {v5 : Int32} {v6 : Int32} {v7 : Int32} {v8 : Int32} (h : frM I I0) : pc (F_MD_irons_85 I J v1 v2 v3 v4 v5 v6 v7 v8) (Sum.elim (fun r : Int32 × Int32 × Int32 × Int32 × MI × MJ => frM r.2.2.2.2.1 I0) (fun r : Int32 × Int32 × Int32 × MI × MJ => frM r.2.2.2.1 I0)) := by
  unfold F_MD_irons_85
  refine pc_if ?_ ?_
  · refine pc_s ?_
    first | trivial | (repeat (first | assumption | refine frM_u (by decide) ?_))
  · refine pc_b' (fun r2 => ?_)
    refine pc_if ?_ ?_
    · refine pc_gd ?_
      refine pc_gd ?_
      refine pc_bnd ?_
      refine pc_b (q_MD_yearsGo (I0 := I0)  (by first | assumption | (repeat (first | assumption | refine frM_u (by decide) ?_)))) (fun r7 hr7 => ?_)
      refine pc_b' (fun r8 => ?_)
      refine pc_b (q_MD_triesAnew (I0 := I0)  (by first | assumption | (repeat (first | assumption | refine frM_u (by decide) ?_)))) (fun r9 hr9 => ?_)
      refine pc_if ?_ ?_
      · refine pc_s ?_
        first | trivial | (repeat (first | assumption | refine frM_u (by decide) ?_))
      · refine pc_s ?_
        first | trivial | (repeat (first | assumption | refine frM_u (by decide) ?_))
    · refine pc_s ?_
      first | trivial | (repeat (first | assumption | refine frM_u (by decide) ?_))
theorem q_MD_irons_71 {I0 : MI} {I : MI} {J : MJ} {v1 : Int32} {v2 : Int32} {v3 : Int32} {v4 : Int32} {v5 : Int32} {v6 : Int32} {v7 : Int32} (h : frM I I0) : pc (F_MD_irons_71 I J v1 v2 v3 v4 v5 v6 v7) (Sum.elim (fun r : Int32 × Int32 × Int32 × Int32 × MI × MJ => frM r.2.2.2.2.1 I0) (fun r : Int32 × Int32 × Int32 × MI × MJ => frM r.2.2.2.1 I0)) := by
  unfold F_MD_irons_71
  refine pc_if ?_ ?_
  · refine pc_s ?_
    first | trivial | (repeat (first | assumption | refine frM_u (by decide) ?_))
  · refine pc_b (pc_wl (fun s : Int32 × Int32 × Int32 × Int32 × MI × MJ => frM s.2.2.2.2.1 I0) (fun s hs => q_MD_irons_85 (I0 := I0)  (by first | exact hs | assumption | (repeat (first | assumption | refine frM_u (by decide) ?_)))) (by first | assumption | trivial | (repeat (first | assumption | refine frM_u (by decide) ?_)))) (fun t2 ht2 => ?_)
    refine pc_s ?_
    first | trivial | (repeat (first | assumption | refine frM_u (by decide) ?_))
theorem q_MD_irons {I0 : MI} {I : MI} {J : MJ} {v1 : Int32} {v2 : Int32} {v3 : Int32} (h : frM I I0) : pc (F_MD_irons I J v1 v2 v3) (fun r : Int32 × MI × MJ => frM r.2.1 I0) := by
  unfold F_MD_irons
  refine pc_b' (fun r1 => ?_)
  refine pc_if ?_ ?_
  · refine pc_s ?_
    first | trivial | (repeat (first | assumption | refine frM_u (by decide) ?_))
  · refine pc_b' (fun r3 => ?_)
    refine pc_if ?_ ?_
    · refine pc_s ?_
      first | trivial | (repeat (first | assumption | refine frM_u (by decide) ?_))
    · refine pc_b' (fun r5 => ?_)
      refine pc_if ?_ ?_
      · refine pc_s ?_
        first | trivial | (repeat (first | assumption | refine frM_u (by decide) ?_))
      · refine pc_b' (fun r7 => ?_)
        refine pc_if ?_ ?_
        · refine pc_s ?_
          first | trivial | (repeat (first | assumption | refine frM_u (by decide) ?_))
        · refine pc_b (q_MD_putsAside (I0 := I0)  (by first | assumption | (repeat (first | assumption | refine frM_u (by decide) ?_)))) (fun r9 hr9 => ?_)
          refine pc_b (q_MD_yearsGo (I0 := I0)  (by first | assumption | (repeat (first | assumption | refine frM_u (by decide) ?_)))) (fun r10 hr10 => ?_)
          refine pc_b' (fun r11 => ?_)
          refine pc_b (q_MD_triesAnew (I0 := I0)  (by first | assumption | (repeat (first | assumption | refine frM_u (by decide) ?_)))) (fun r12 hr12 => ?_)
          refine pc_b (pc_wl (fun s : Int32 × Int32 × Int32 × Int32 × MI × MJ => frM s.2.2.2.2.1 I0) (fun s hs => q_MD_irons_71 (I0 := I0)  (by first | exact hs | assumption | (repeat (first | assumption | refine frM_u (by decide) ?_)))) (by first | assumption | trivial | (repeat (first | assumption | refine frM_u (by decide) ?_)))) (fun t13 ht13 => ?_)
          refine pc_b (q_MD_takesBack (I0 := I0)  (by first | assumption | (repeat (first | assumption | refine frM_u (by decide) ?_)))) (fun r14 hr14 => ?_)
          refine pc_if ?_ ?_
          · refine pc_s ?_
            first | trivial | (repeat (first | assumption | refine frM_u (by decide) ?_))
          · refine pc_if ?_ ?_
            · refine pc_s ?_
              first | trivial | (repeat (first | assumption | refine frM_u (by decide) ?_))
            · refine pc_if ?_ ?_
              · refine pc_s ?_
                first | trivial | (repeat (first | assumption | refine frM_u (by decide) ?_))
              · refine pc_s ?_
                first | trivial | (repeat (first | assumption | refine frM_u (by decide) ?_))
theorem q_MD_laysFields_18 {I0 : MI} {I : MI} {v1 : Int32} {v2 : Int32} {v3 : Int32} (h : frM I I0) : pc (F_MD_laysFields_18 I v1 v2 v3) (Sum.elim (fun r : Int32 × MI => frM r.2 I0) (fun r : MI => frM r I0)) := by
  unfold F_MD_laysFields_18
  refine pc_b' (fun r1 => ?_)
  refine pc_if ?_ ?_
  · refine pc_s ?_
    first | trivial | (repeat (first | assumption | refine frM_u (by decide) ?_))
  · refine pc_gd ?_
    refine pc_bnd ?_
    refine pc_s ?_
    first | trivial | (repeat (first | assumption | refine frM_u (by decide) ?_))
theorem q_MD_laysFields_58 {I0 : MI} {I : MI} {v1 : Int32} {v2 : Int32} {v3 : Int32} (h : frM I I0) : pc (F_MD_laysFields_58 I v1 v2 v3) (Sum.elim (fun r : Int32 × MI => frM r.2 I0) (fun r : MI => frM r I0)) := by
  unfold F_MD_laysFields_58
  refine pc_b' (fun r1 => ?_)
  refine pc_if ?_ ?_
  · refine pc_s ?_
    first | trivial | (repeat (first | assumption | refine frM_u (by decide) ?_))
  · refine pc_b' (fun r3 => ?_)
    refine pc_gd ?_
    refine pc_s ?_
    first | trivial | (repeat (first | assumption | refine frM_u (by decide) ?_))
theorem q_MD_laysFields_6 {I0 : MI} {I : MI} {J : MJ} {v1 : Int32} {v2 : Int32} (h : frM I I0) : pc (F_MD_laysFields_6 I J v1 v2) (Sum.elim (fun r : Int32 × MI × MJ => frM r.2.1 I0) (fun r : MI × MJ => frM r.1 I0)) := by
  unfold F_MD_laysFields_6
  refine pc_b' (fun r1 => ?_)
  refine pc_if ?_ ?_
  · refine pc_s ?_
    first | trivial | (repeat (first | assumption | refine frM_u (by decide) ?_))
  · refine pc_b (pc_wl (fun s : Int32 × MI => frM s.2 I0) (fun s hs => q_MD_laysFields_18 (I0 := I0)  (by first | exact hs | assumption | (repeat (first | assumption | refine frM_u (by decide) ?_)))) (by first | assumption | trivial | (repeat (first | assumption | refine frM_u (by decide) ?_)))) (fun t3 ht3 => ?_)
    refine pc_b (q_MD_yearsGo (I0 := I0)  (by first | assumption | (repeat (first | assumption | refine frM_u (by decide) ?_)))) (fun r4 hr4 => ?_)
    refine pc_b (pc_wl (fun s : Int32 × MI => frM s.2 I0) (fun s hs => q_MD_laysFields_58 (I0 := I0)  (by first | exact hs | assumption | (repeat (first | assumption | refine frM_u (by decide) ?_)))) (by first | assumption | trivial | (repeat (first | assumption | refine frM_u (by decide) ?_)))) (fun t5 ht5 => ?_)
    refine pc_b (q_MD_triesAnew (I0 := I0)  (by first | assumption | (repeat (first | assumption | refine frM_u (by decide) ?_)))) (fun r6 hr6 => ?_)
    refine pc_s ?_
    first | trivial | (repeat (first | assumption | refine frM_u (by decide) ?_))
theorem q_MD_laysFields {I0 : MI} {I : MI} {J : MJ} {v1 : Int32} (h : frM I I0) : pc (F_MD_laysFields I J v1) (fun r : MI × MJ => frM r.1 I0) := by
  unfold F_MD_laysFields
  refine pc_b (q_MD_putsAside (I0 := I0)  (by first | assumption | (repeat (first | assumption | refine frM_u (by decide) ?_)))) (fun r1 hr1 => ?_)
  refine pc_b (pc_wl (fun s : Int32 × MI × MJ => frM s.2.1 I0) (fun s hs => q_MD_laysFields_6 (I0 := I0)  (by first | exact hs | assumption | (repeat (first | assumption | refine frM_u (by decide) ?_)))) (by first | assumption | trivial | (repeat (first | assumption | refine frM_u (by decide) ?_)))) (fun t2 ht2 => ?_)
  refine pc_b (q_MD_takesBack (I0 := I0)  (by first | assumption | (repeat (first | assumption | refine frM_u (by decide) ?_)))) (fun r3 hr3 => ?_)
  refine pc_s ?_
  first | trivial | (repeat (first | assumption | refine frM_u (by decide) ?_))
theorem q_MD_rest {I0 : MI} {I : MI} {J : MJ} {v1 : Int32} (h : frM I I0) : pc (F_MD_rest I J v1) (fun r : Int32 × MI × MJ => frM r.2.1 I0) := by
  unfold F_MD_rest
  refine pc_b' (fun r1 => ?_)
  refine pc_if ?_ ?_
  · refine pc_s ?_
    first | trivial | (repeat (first | assumption | refine frM_u (by decide) ?_))
  · refine pc_b (q_MD_laysFields (I0 := I0)  (by first | assumption | (repeat (first | assumption | refine frM_u (by decide) ?_)))) (fun r3 hr3 => ?_)
    refine pc_b' (fun t4 => ?_)
    refine pc_s ?_
    first | trivial | (repeat (first | assumption | refine frM_u (by decide) ?_))
theorem q_MD_refuses {I0 : MI} {I : MI} {v1 : Int32} (h : frM I I0) : pc (F_MD_refuses I v1) (fun r : Int32 × MI => frM r.2 I0) := by
  unfold F_MD_refuses
  refine pc_gd ?_
  refine pc_gd ?_
  refine pc_s ?_
  first | trivial | (repeat (first | assumption | refine frM_u (by decide) ?_))
theorem q_MD_see_126 {I0 : MI} {I : MI} {v1 : Int32} {v3 : Int32} (h : frM I I0) : pc (F_MD_see_126 I v1 v3) (Sum.elim (fun r : Int32 × MI => frM r.2 I0) (fun r : MI => frM r I0)) := by
  unfold F_MD_see_126
  refine pc_if ?_ ?_
  · refine pc_s ?_
    first | trivial | (repeat (first | assumption | refine frM_u (by decide) ?_))
  · refine pc_if ?_ ?_
    · refine pc_gd ?_
      refine pc_if ?_ ?_
      · refine pc_gd ?_
        refine pc_s ?_
        first | trivial | (repeat (first | assumption | refine frM_u (by decide) ?_))
      · refine pc_gd ?_
        refine pc_gd ?_
        refine pc_s ?_
        first | trivial | (repeat (first | assumption | refine frM_u (by decide) ?_))
    · refine pc_gd ?_
      refine pc_gd ?_
      refine pc_s ?_
      first | trivial | (repeat (first | assumption | refine frM_u (by decide) ?_))
theorem q_MD_see_114 {I0 : MI} {I : MI} {v1 : Int32} {v2 : Int32} (h : frM I I0) : pc (F_MD_see_114 I v1 v2) (fun r : Int32 × MI => frM r.2 I0) := by
  unfold F_MD_see_114
  refine pc_if ?_ ?_
  · refine pc_b (q_MD_refuses (I0 := I0)  (by first | assumption | (repeat (first | assumption | refine frM_u (by decide) ?_)))) (fun r3 hr3 => ?_)
    refine pc_s ?_
    first | trivial | (repeat (first | assumption | refine frM_u (by decide) ?_))
  · refine pc_b (pc_wl (fun s : Int32 × MI => frM s.2 I0) (fun s hs => q_MD_see_126 (I0 := I0)  (by first | exact hs | assumption | (repeat (first | assumption | refine frM_u (by decide) ?_)))) (by first | assumption | trivial | (repeat (first | assumption | refine frM_u (by decide) ?_)))) (fun t2 ht2 => ?_)
    refine pc_s ?_
    first | trivial | (repeat (first | assumption | refine frM_u (by decide) ?_))
theorem q_MD_see_40 {I0 : MI} {I : MI} {v1 : Int32} {y0 : Int32} (h : frM I I0) : pc (F_MD_see_40 I v1 y0) (fun r : Int32 × MI => frM r.2 I0) := by
  unfold F_MD_see_40
  refine pc_b' (fun t1 => ?_)
  exact (q_MD_see_114 (I0 := I0)  (by first | assumption | (repeat (first | assumption | refine frM_u (by decide) ?_))))
theorem q_MD_see_39 {I0 : MI} {I : MI} {v1 : Int32} (h : frM I I0) : pc (F_MD_see_39 I v1) (fun r : Int32 × MI => frM r.2 I0) := by
  unfold F_MD_see_39
  exact (q_MD_see_40 (I0 := I0)  (by first | assumption | (repeat (first | assumption | refine frM_u (by decide) ?_))))
theorem q_MD_see {I0 : MI} {I : MI} (h : frM I I0) : pc (F_MD_see I) (fun r : Int32 × MI => frM r.2 I0) := by
  unfold F_MD_see
  refine pc_if ?_ ?_
  · exact (q_MD_see_39 (I0 := I0)  (by first | assumption | (repeat (first | assumption | refine frM_u (by decide) ?_))))
  · refine pc_if ?_ ?_
    · exact (q_MD_see_39 (I0 := I0)  (by first | assumption | (repeat (first | assumption | refine frM_u (by decide) ?_))))
    · refine pc_if ?_ ?_
      · refine pc_if ?_ ?_
        · exact (q_MD_see_39 (I0 := I0)  (by first | assumption | (repeat (first | assumption | refine frM_u (by decide) ?_))))
        · exact (q_MD_see_40 (I0 := I0)  (by first | assumption | (repeat (first | assumption | refine frM_u (by decide) ?_))))
      · exact (q_MD_see_39 (I0 := I0)  (by first | assumption | (repeat (first | assumption | refine frM_u (by decide) ?_))))
theorem q_MD_laysFits_80 {I0 : MI} {I : MI} {v1 : Int32} {v2 : Int32} {v3 : Int32} (h : frM I I0) : pc (F_MD_laysFits_80 I v1 v2 v3) (Sum.elim (fun r : Int32 × MI => frM r.2 I0) (fun r : MI => frM r I0)) := by
  unfold F_MD_laysFits_80
  refine pc_if ?_ ?_
  · refine pc_s ?_
    first | trivial | (repeat (first | assumption | refine frM_u (by decide) ?_))
  · refine pc_b' (fun r2 => ?_)
    refine pc_gd ?_
    refine pc_s ?_
    first | trivial | (repeat (first | assumption | refine frM_u (by decide) ?_))
theorem q_MD_laysFits_68 {I0 : MI} {I : MI} {v1 : Int32} {v2 : Int32} (h : frM I I0) : pc (F_MD_laysFits_68 I v1 v2) (Sum.elim (fun r : Int32 × MI => frM r.2 I0) (fun r : MI => frM r I0)) := by
  unfold F_MD_laysFits_68
  refine pc_if ?_ ?_
  · refine pc_s ?_
    first | trivial | (repeat (first | assumption | refine frM_u (by decide) ?_))
  · refine pc_b (pc_wl (fun s : Int32 × MI => frM s.2 I0) (fun s hs => q_MD_laysFits_80 (I0 := I0)  (by first | exact hs | assumption | (repeat (first | assumption | refine frM_u (by decide) ?_)))) (by first | assumption | trivial | (repeat (first | assumption | refine frM_u (by decide) ?_)))) (fun t2 ht2 => ?_)
    refine pc_s ?_
    first | trivial | (repeat (first | assumption | refine frM_u (by decide) ?_))
theorem q_MD_laysFits_66 {I0 : MI} {I : MI} {J : MJ} {v1 : Int32} (h : frM I I0) : pc (F_MD_laysFits_66 I J v1) (Sum.elim (fun r : Int32 × MI × MJ => frM r.2.1 I0) (fun r : MI × MJ => frM r.1 I0)) := by
  unfold F_MD_laysFits_66
  refine pc_b (pc_wl (fun s : Int32 × MI => frM s.2 I0) (fun s hs => q_MD_laysFits_68 (I0 := I0)  (by first | exact hs | assumption | (repeat (first | assumption | refine frM_u (by decide) ?_)))) (by first | assumption | trivial | (repeat (first | assumption | refine frM_u (by decide) ?_)))) (fun t1 ht1 => ?_)
  refine pc_b (q_MD_yearGoes (I0 := I0)  (by first | assumption | (repeat (first | assumption | refine frM_u (by decide) ?_)))) (fun r2 hr2 => ?_)
  refine pc_s ?_
  first | trivial | (repeat (first | assumption | refine frM_u (by decide) ?_))
theorem q_MD_laysFits_46 {I0 : MI} {I : MI} {J : MJ} {v1 : Int32} {y0 : Int32} {y1 : Int32} (h : frM I I0) : pc (F_MD_laysFits_46 I J v1 y0 y1) (Sum.elim (fun r : Int32 × MI × MJ => frM r.2.1 I0) (fun r : MI × MJ => frM r.1 I0)) := by
  unfold F_MD_laysFits_46
  refine pc_gd ?_
  refine pc_gd ?_
  refine pc_if ?_ ?_
  · exact (q_MD_laysFits_66 (I0 := I0)  (by first | assumption | (repeat (first | assumption | refine frM_u (by decide) ?_))))
  · exact (q_MD_laysFits_66 (I0 := I0)  (by first | assumption | (repeat (first | assumption | refine frM_u (by decide) ?_))))
theorem q_MD_laysFits_45 {I0 : MI} {I : MI} {J : MJ} {v1 : Int32} {y0 : Int32} (h : frM I I0) : pc (F_MD_laysFits_45 I J v1 y0) (Sum.elim (fun r : Int32 × MI × MJ => frM r.2.1 I0) (fun r : MI × MJ => frM r.1 I0)) := by
  unfold F_MD_laysFits_45
  exact (q_MD_laysFits_46 (I0 := I0)  (by first | assumption | (repeat (first | assumption | refine frM_u (by decide) ?_))))
theorem q_MD_laysFits_11 {I0 : MI} {I : MI} {J : MJ} {v1 : Int32} (h : frM I I0) : pc (F_MD_laysFits_11 I J v1) (Sum.elim (fun r : Int32 × MI × MJ => frM r.2.1 I0) (fun r : MI × MJ => frM r.1 I0)) := by
  unfold F_MD_laysFits_11
  refine pc_if ?_ ?_
  · refine pc_s ?_
    first | trivial | (repeat (first | assumption | refine frM_u (by decide) ?_))
  · refine pc_if ?_ ?_
    · exact (q_MD_laysFits_45 (I0 := I0)  (by first | assumption | (repeat (first | assumption | refine frM_u (by decide) ?_))))
    · refine pc_b' (fun r3 => ?_)
      refine pc_if ?_ ?_
      · exact (q_MD_laysFits_45 (I0 := I0)  (by first | assumption | (repeat (first | assumption | refine frM_u (by decide) ?_))))
      · exact (q_MD_laysFits_46 (I0 := I0)  (by first | assumption | (repeat (first | assumption | refine frM_u (by decide) ?_))))
theorem q_MD_laysFits {I0 : MI} {I : MI} {J : MJ} (h : frM I I0) : pc (F_MD_laysFits I J) (fun r : MI × MJ => frM r.1 I0) := by
  unfold F_MD_laysFits
  refine pc_b (q_MD_putsAside (I0 := I0)  (by first | assumption | (repeat (first | assumption | refine frM_u (by decide) ?_)))) (fun r1 hr1 => ?_)
  refine pc_b (pc_wl (fun s : Int32 × MI × MJ => frM s.2.1 I0) (fun s hs => q_MD_laysFits_11 (I0 := I0)  (by first | exact hs | assumption | (repeat (first | assumption | refine frM_u (by decide) ?_)))) (by first | assumption | trivial | (repeat (first | assumption | refine frM_u (by decide) ?_)))) (fun t2 ht2 => ?_)
  refine pc_b (q_MD_takesBack (I0 := I0)  (by first | assumption | (repeat (first | assumption | refine frM_u (by decide) ?_)))) (fun r3 hr3 => ?_)
  refine pc_s ?_
  first | trivial | (repeat (first | assumption | refine frM_u (by decide) ?_))
theorem q_MD_fits {I0 : MI} {I : MI} {J : MJ} {v1 : Int32} (h : frM I I0) : pc (F_MD_fits I J v1) (fun r : Int32 × MI × MJ => frM r.2.1 I0) := by
  unfold F_MD_fits
  refine pc_if ?_ ?_
  · refine pc_s ?_
    first | trivial | (repeat (first | assumption | refine frM_u (by decide) ?_))
  · refine pc_b' (fun r2 => ?_)
    refine pc_if ?_ ?_
    · refine pc_s ?_
      first | trivial | (repeat (first | assumption | refine frM_u (by decide) ?_))
    · refine pc_b (q_MD_laysFits (I0 := I0)  (by first | assumption | (repeat (first | assumption | refine frM_u (by decide) ?_)))) (fun r4 hr4 => ?_)
      refine pc_b' (fun t5 => ?_)
      refine pc_if ?_ ?_
      · refine pc_s ?_
        first | trivial | (repeat (first | assumption | refine frM_u (by decide) ?_))
      · refine pc_if ?_ ?_
        · refine pc_s ?_
          first | trivial | (repeat (first | assumption | refine frM_u (by decide) ?_))
        · refine pc_s ?_
          first | trivial | (repeat (first | assumption | refine frM_u (by decide) ?_))
theorem q_MD_mostAlike_5 {I0 : MI} {I : MI} {v1 : Int32} {v2 : Int32} {v3 : Int32} {v4 : Int32} (h : frM I I0) : pc (F_MD_mostAlike_5 I v1 v2 v3 v4) (Sum.elim (fun r : Int32 × MI => frM r.2 I0) (fun r : MI => frM r I0)) := by
  unfold F_MD_mostAlike_5
  refine pc_if ?_ ?_
  · refine pc_s ?_
    first | trivial | (repeat (first | assumption | refine frM_u (by decide) ?_))
  · refine pc_gd ?_
    refine pc_s ?_
    first | trivial | (repeat (first | assumption | refine frM_u (by decide) ?_))
theorem q_MD_mostAlike_29 {I0 : MI} {I : MI} {v1 : Int32} {v2 : Int32} {v3 : Int32} {v4 : Int32} (h : frM I I0) : pc (F_MD_mostAlike_29 I v1 v2 v3 v4) (Sum.elim (fun r : Int32 × Int32 × MI => frM r.2.2 I0) (fun r : Int32 × MI => frM r.2 I0)) := by
  unfold F_MD_mostAlike_29
  refine pc_if ?_ ?_
  · refine pc_s ?_
    first | trivial | (repeat (first | assumption | refine frM_u (by decide) ?_))
  · refine pc_gd ?_
    refine pc_if ?_ ?_
    · refine pc_s ?_
      first | trivial | (repeat (first | assumption | refine frM_u (by decide) ?_))
    · refine pc_gd ?_
      refine pc_gd ?_
      refine pc_gd ?_
      refine pc_bnd ?_
      refine pc_gd ?_
      refine pc_if ?_ ?_
      · refine pc_s ?_
        first | trivial | (repeat (first | assumption | refine frM_u (by decide) ?_))
      · refine pc_gd ?_
        refine pc_bnd ?_
        refine pc_s ?_
        first | trivial | (repeat (first | assumption | refine frM_u (by decide) ?_))
theorem q_MD_mostAlike {I0 : MI} {I : MI} {v1 : Int32} {v2 : Int32} (h : frM I I0) : pc (F_MD_mostAlike I v1 v2) (fun r : Int32 × MI => frM r.2 I0) := by
  unfold F_MD_mostAlike
  refine pc_b (pc_wl (fun s : Int32 × MI => frM s.2 I0) (fun s hs => q_MD_mostAlike_5 (I0 := I0)  (by first | exact hs | assumption | (repeat (first | assumption | refine frM_u (by decide) ?_)))) (by first | assumption | trivial | (repeat (first | assumption | refine frM_u (by decide) ?_)))) (fun t1 ht1 => ?_)
  refine pc_b (pc_wl (fun s : Int32 × Int32 × MI => frM s.2.2 I0) (fun s hs => q_MD_mostAlike_29 (I0 := I0)  (by first | exact hs | assumption | (repeat (first | assumption | refine frM_u (by decide) ?_)))) (by first | assumption | trivial | (repeat (first | assumption | refine frM_u (by decide) ?_)))) (fun t2 ht2 => ?_)
  refine pc_s ?_
  first | trivial | (repeat (first | assumption | refine frM_u (by decide) ?_))
theorem q_MD_tells_56 {I0 : MI} {I : MI} {v1 : Int32} {v2 : Int32} {v3 : Int32} {v4 : Int32} {v5 : Int32} {v6 : Int32} (h : frM I I0) : pc (F_MD_tells_56 I v1 v2 v3 v4 v5 v6) (Sum.elim (fun r : Int32 × Int32 × Int32 × Int32 × MI => frM r.2.2.2.2 I0) (fun r : Int32 × Int32 × Int32 × MI => frM r.2.2.2 I0)) := by
  unfold F_MD_tells_56
  refine pc_if ?_ ?_
  · refine pc_s ?_
    first | trivial | (repeat (first | assumption | refine frM_u (by decide) ?_))
  · refine pc_b (q_MD_mostAlike (I0 := I0)  (by first | assumption | (repeat (first | assumption | refine frM_u (by decide) ?_)))) (fun r2 hr2 => ?_)
    refine pc_if ?_ ?_
    · refine pc_s ?_
      first | trivial | (repeat (first | assumption | refine frM_u (by decide) ?_))
    · refine pc_if ?_ ?_
      · refine pc_s ?_
        first | trivial | (repeat (first | assumption | refine frM_u (by decide) ?_))
      · refine pc_s ?_
        first | trivial | (repeat (first | assumption | refine frM_u (by decide) ?_))
theorem q_MD_tells_35 {I0 : MI} {I : MI} {v1 : Int32} {v2 : Int32} {v3 : Int32} {v4 : Int32} {v5 : Int32} (h : frM I I0) : pc (F_MD_tells_35 I v1 v2 v3 v4 v5) (Sum.elim (fun r : Int32 × Int32 × Int32 × Int32 × MI => frM r.2.2.2.2 I0) (fun r : Int32 × Int32 × Int32 × MI => frM r.2.2.2 I0)) := by
  unfold F_MD_tells_35
  refine pc_if ?_ ?_
  · refine pc_s ?_
    first | trivial | (repeat (first | assumption | refine frM_u (by decide) ?_))
  · refine pc_if ?_ ?_
    · refine pc_s ?_
      first | trivial | (repeat (first | assumption | refine frM_u (by decide) ?_))
    · refine pc_b (pc_wl (fun s : Int32 × Int32 × Int32 × Int32 × MI => frM s.2.2.2.2 I0) (fun s hs => q_MD_tells_56 (I0 := I0)  (by first | exact hs | assumption | (repeat (first | assumption | refine frM_u (by decide) ?_)))) (by first | assumption | trivial | (repeat (first | assumption | refine frM_u (by decide) ?_)))) (fun t3 ht3 => ?_)
      refine pc_s ?_
      first | trivial | (repeat (first | assumption | refine frM_u (by decide) ?_))
theorem q_MD_tells_114 {I0 : MI} {I : MI} {J : MJ} {v1 : Int32} {v2 : Int32} {v3 : Int32} {v4 : Int32} (h : frM I I0) : pc (F_MD_tells_114 I J v1 v2 v3 v4) (fun r : Int32 × MI × MJ => frM r.2.1 I0) := by
  unfold F_MD_tells_114
  refine pc_if ?_ ?_
  · refine pc_s ?_
    first | trivial | (repeat (first | assumption | refine frM_u (by decide) ?_))
  · refine pc_if ?_ ?_
    · refine pc_s ?_
      first | trivial | (repeat (first | assumption | refine frM_u (by decide) ?_))
    · refine pc_if ?_ ?_
      · refine pc_s ?_
        first | trivial | (repeat (first | assumption | refine frM_u (by decide) ?_))
      · refine pc_s ?_
        first | trivial | (repeat (first | assumption | refine frM_u (by decide) ?_))
theorem q_MD_tells {I0 : MI} {I : MI} {J : MJ} {v1 : Int32} (h : frM I I0) : pc (F_MD_tells I J v1) (fun r : Int32 × MI × MJ => frM r.2.1 I0) := by
  unfold F_MD_tells
  refine pc_if ?_ ?_
  · refine pc_s ?_
    first | trivial | (repeat (first | assumption | refine frM_u (by decide) ?_))
  · refine pc_b' (fun r2 => ?_)
    refine pc_if ?_ ?_
    · refine pc_s ?_
      first | trivial | (repeat (first | assumption | refine frM_u (by decide) ?_))
    · refine pc_b (q_MD_laysFits (I0 := I0)  (by first | assumption | (repeat (first | assumption | refine frM_u (by decide) ?_)))) (fun r4 hr4 => ?_)
      refine pc_b (pc_wl (fun s : Int32 × Int32 × Int32 × Int32 × MI => frM s.2.2.2.2 I0) (fun s hs => q_MD_tells_35 (I0 := I0)  (by first | exact hs | assumption | (repeat (first | assumption | refine frM_u (by decide) ?_)))) (by first | assumption | trivial | (repeat (first | assumption | refine frM_u (by decide) ?_)))) (fun t5 ht5 => ?_)
      exact (q_MD_tells_114 (I0 := I0)  (by first | assumption | (repeat (first | assumption | refine frM_u (by decide) ?_))))
theorem q_MD_undo_21 {I0 : MI} {I : MI} {v1 : Int32} (h : frM I I0) : pc (F_MD_undo_21 I v1) (Sum.elim (fun r : Int32 × MI => frM r.2 I0) (fun r : MI => frM r I0)) := by
  unfold F_MD_undo_21
  refine pc_if ?_ ?_
  · refine pc_s ?_
    first | trivial | (repeat (first | assumption | refine frM_u (by decide) ?_))
  · refine pc_gd ?_
    refine pc_gd ?_
    refine pc_s ?_
    first | trivial | (repeat (first | assumption | refine frM_u (by decide) ?_))
theorem q_MD_undo {I0 : MI} {I : MI} (h : frM I I0) : pc (F_MD_undo I) (fun r : Int32 × MI => frM r.2 I0) := by
  unfold F_MD_undo
  refine pc_if ?_ ?_
  · refine pc_s ?_
    first | trivial | (repeat (first | assumption | refine frM_u (by decide) ?_))
  · refine pc_b (pc_wl (fun s : Int32 × MI => frM s.2 I0) (fun s hs => q_MD_undo_21 (I0 := I0)  (by first | exact hs | assumption | (repeat (first | assumption | refine frM_u (by decide) ?_)))) (by first | assumption | trivial | (repeat (first | assumption | refine frM_u (by decide) ?_)))) (fun t2 ht2 => ?_)
    refine pc_bnd ?_
    refine pc_s ?_
    first | trivial | (repeat (first | assumption | refine frM_u (by decide) ?_))
theorem q_MD_isRefused {I0 : MI} {I : MI} (h : frM I I0) : pc (F_MD_isRefused I) (fun r : Int32 × MI => frM r.2 I0) := by
  unfold F_MD_isRefused
  refine pc_s ?_
  first | trivial | (repeat (first | assumption | refine frM_u (by decide) ?_))
theorem q_MD_keeps_15 {I0 : MI} {I : MI} {v1 : Int32} (h : frM I I0) : pc (F_MD_keeps_15 I v1) (Sum.elim (fun r : Int32 × MI => frM r.2 I0) (fun r : MI => frM r I0)) := by
  unfold F_MD_keeps_15
  refine pc_if ?_ ?_
  · refine pc_s ?_
    first | trivial | (repeat (first | assumption | refine frM_u (by decide) ?_))
  · refine pc_gd ?_
    refine pc_gd ?_
    refine pc_s ?_
    first | trivial | (repeat (first | assumption | refine frM_u (by decide) ?_))
theorem q_MD_keeps {I0 : MI} {I : MI} (h : frM I I0) : pc (F_MD_keeps I) (fun r : MI => frM r I0) := by
  unfold F_MD_keeps
  refine pc_b (pc_wl (fun s : Int32 × MI => frM s.2 I0) (fun s hs => q_MD_keeps_15 (I0 := I0)  (by first | exact hs | assumption | (repeat (first | assumption | refine frM_u (by decide) ?_)))) (by first | assumption | trivial | (repeat (first | assumption | refine frM_u (by decide) ?_)))) (fun t1 ht1 => ?_)
  refine pc_if ?_ ?_
  · refine pc_s ?_
    first | trivial | (repeat (first | assumption | refine frM_u (by decide) ?_))
  · refine pc_s ?_
    first | trivial | (repeat (first | assumption | refine frM_u (by decide) ?_))
theorem q_MD_set {I0 : MI} {I : MI} {v1 : Int32} (h : frM I I0) : pc (F_MD_set I v1) (fun r : Int32 × MI => frM r.2 I0) := by
  unfold F_MD_set
  refine pc_b' (fun r1 => ?_)
  refine pc_if ?_ ?_
  · refine pc_b (q_MD_isRefused (I0 := I0)  (by first | assumption | (repeat (first | assumption | refine frM_u (by decide) ?_)))) (fun r5 hr5 => ?_)
    refine pc_gq ?_
    refine pc_s ?_
    first | trivial | (repeat (first | assumption | refine frM_u (by decide) ?_))
  · refine pc_b (q_MD_keeps (I0 := I0)  (by first | assumption | (repeat (first | assumption | refine frM_u (by decide) ?_)))) (fun r3 hr3 => ?_)
    refine pc_b (q_MD_isSet (I0 := I0)  (by first | assumption | (repeat (first | assumption | refine frM_u (by decide) ?_)))) (fun r4 hr4 => ?_)
    refine pc_s ?_
    first | trivial | (repeat (first | assumption | refine frM_u (by decide) ?_))
theorem q_MD_cut {I0 : MI} {I : MI} {v1 : Int32} (h : frM I I0) : pc (F_MD_cut I v1) (fun r : Int32 × MI => frM r.2 I0) := by
  unfold F_MD_cut
  refine pc_b' (fun r1 => ?_)
  refine pc_if ?_ ?_
  · refine pc_b (q_MD_isRefused (I0 := I0)  (by first | assumption | (repeat (first | assumption | refine frM_u (by decide) ?_)))) (fun r3 hr3 => ?_)
    refine pc_gq ?_
    refine pc_s ?_
    first | trivial | (repeat (first | assumption | refine frM_u (by decide) ?_))
  · refine pc_b' (fun r5 => ?_)
    refine pc_if ?_ ?_
    · refine pc_b (q_MD_keeps (I0 := I0)  (by first | assumption | (repeat (first | assumption | refine frM_u (by decide) ?_)))) (fun r7 hr7 => ?_)
      refine pc_gd ?_
      refine pc_s ?_
      first | trivial | (repeat (first | assumption | refine frM_u (by decide) ?_))
    · refine pc_b (q_MD_isRefused (I0 := I0)  (by first | assumption | (repeat (first | assumption | refine frM_u (by decide) ?_)))) (fun r9 hr9 => ?_)
      refine pc_gq ?_
      refine pc_s ?_
      first | trivial | (repeat (first | assumption | refine frM_u (by decide) ?_))
theorem q_MD_iron {I0 : MI} {I : MI} {v1 : Int32} {v2 : Int32} (h : frM I I0) : pc (F_MD_iron I v1 v2) (fun r : Int32 × MI => frM r.2 I0) := by
  unfold F_MD_iron
  refine pc_b' (fun r1 => ?_)
  refine pc_if ?_ ?_
  · refine pc_b (q_MD_refuses (I0 := I0)  (by first | assumption | (repeat (first | assumption | refine frM_u (by decide) ?_)))) (fun r3 hr3 => ?_)
    refine pc_s ?_
    first | trivial | (repeat (first | assumption | refine frM_u (by decide) ?_))
  · refine pc_b' (fun r4 => ?_)
    refine pc_if ?_ ?_
    · refine pc_b' (fun r7 => ?_)
      refine pc_if ?_ ?_
      · refine pc_b (q_MD_refuses (I0 := I0)  (by first | assumption | (repeat (first | assumption | refine frM_u (by decide) ?_)))) (fun r14 hr14 => ?_)
        refine pc_s ?_
        first | trivial | (repeat (first | assumption | refine frM_u (by decide) ?_))
      · refine pc_b (q_MD_keeps (I0 := I0)  (by first | assumption | (repeat (first | assumption | refine frM_u (by decide) ?_)))) (fun r9 hr9 => ?_)
        refine pc_gd ?_
        refine pc_gd ?_
        refine pc_bnd ?_
        refine pc_b' (fun r13 => ?_)
        refine pc_s ?_
        first | trivial | (repeat (first | assumption | refine frM_u (by decide) ?_))
    · refine pc_b (q_MD_refuses (I0 := I0)  (by first | assumption | (repeat (first | assumption | refine frM_u (by decide) ?_)))) (fun r6 hr6 => ?_)
      refine pc_s ?_
      first | trivial | (repeat (first | assumption | refine frM_u (by decide) ?_))
theorem q_MD_years {I0 : MI} {I : MI} {J : MJ} {v1 : Int32} (h : frM I I0) : pc (F_MD_years I J v1) (fun r : Int32 × MI × MJ => frM r.2.1 I0) := by
  unfold F_MD_years
  refine pc_b' (fun r1 => ?_)
  refine pc_if ?_ ?_
  · refine pc_b (q_MD_refuses (I0 := I0)  (by first | assumption | (repeat (first | assumption | refine frM_u (by decide) ?_)))) (fun r5 hr5 => ?_)
    refine pc_s ?_
    first | trivial | (repeat (first | assumption | refine frM_u (by decide) ?_))
  · refine pc_b (q_MD_keeps (I0 := I0)  (by first | assumption | (repeat (first | assumption | refine frM_u (by decide) ?_)))) (fun r3 hr3 => ?_)
    refine pc_b (q_MD_yearsGo (I0 := I0)  (by first | assumption | (repeat (first | assumption | refine frM_u (by decide) ?_)))) (fun r4 hr4 => ?_)
    refine pc_s ?_
    first | trivial | (repeat (first | assumption | refine frM_u (by decide) ?_))
theorem q_MD_seed {I0 : MI} {I : MI} {J : MJ} {v1 : Int32} (h : frM I I0) : pc (F_MD_seed I J v1) (fun r : Int32 × MI × MJ => frM r.2.1 I0) := by
  unfold F_MD_seed
  refine pc_if ?_ ?_
  · refine pc_s ?_
    first | trivial | (repeat (first | assumption | refine frM_u (by decide) ?_))
  · refine pc_s ?_
    first | trivial | (repeat (first | assumption | refine frM_u (by decide) ?_))
theorem q_MD_chance_25 {I0 : MI} {I : MI} {J : MJ} {v1 : Int32} {v2 : Int32} {v3 : Int32} (h : frM I I0) : pc (F_MD_chance_25 I J v1 v2 v3) (Sum.elim (fun r : Int32 × Int32 × MI × MJ => frM r.2.2.1 I0) (fun r : Int32 × MI × MJ => frM r.2.1 I0)) := by
  unfold F_MD_chance_25
  refine pc_if ?_ ?_
  · refine pc_s ?_
    first | trivial | (repeat (first | assumption | refine frM_u (by decide) ?_))
  · refine pc_b' (fun r2 => ?_)
    refine pc_if ?_ ?_
    · refine pc_b (q_MD_yearGoes (I0 := I0)  (by first | assumption | (repeat (first | assumption | refine frM_u (by decide) ?_)))) (fun r4 hr4 => ?_)
      refine pc_s ?_
      first | trivial | (repeat (first | assumption | refine frM_u (by decide) ?_))
    · refine pc_b' (fun r5 => ?_)
      refine pc_if ?_ ?_
      · refine pc_b (q_MD_yearGoes (I0 := I0)  (by first | assumption | (repeat (first | assumption | refine frM_u (by decide) ?_)))) (fun r7 hr7 => ?_)
        refine pc_s ?_
        first | trivial | (repeat (first | assumption | refine frM_u (by decide) ?_))
      · refine pc_b' (fun r8 => ?_)
        refine pc_b' (fun r9 => ?_)
        refine pc_b' (fun r10 => ?_)
        refine pc_b' (fun r11 => ?_)
        refine pc_if ?_ ?_
        · refine pc_b (q_MD_yearGoes (I0 := I0)  (by first | assumption | (repeat (first | assumption | refine frM_u (by decide) ?_)))) (fun r13 hr13 => ?_)
          refine pc_s ?_
          first | trivial | (repeat (first | assumption | refine frM_u (by decide) ?_))
        · refine pc_b (q_MD_isGone (I0 := I0)  (by first | assumption | (repeat (first | assumption | refine frM_u (by decide) ?_)))) (fun r14 hr14 => ?_)
          refine pc_b (q_MD_yearGoes (I0 := I0)  (by first | assumption | (repeat (first | assumption | refine frM_u (by decide) ?_)))) (fun r15 hr15 => ?_)
          refine pc_s ?_
          first | trivial | (repeat (first | assumption | refine frM_u (by decide) ?_))
theorem q_MD_chance {I0 : MI} {I : MI} {J : MJ} {v1 : Int32} (h : frM I I0) : pc (F_MD_chance I J v1) (fun r : Int32 × MI × MJ => frM r.2.1 I0) := by
  unfold F_MD_chance
  refine pc_b' (fun r1 => ?_)
  refine pc_if ?_ ?_
  · refine pc_b (q_MD_refuses (I0 := I0)  (by first | assumption | (repeat (first | assumption | refine frM_u (by decide) ?_)))) (fun r5 hr5 => ?_)
    refine pc_s ?_
    first | trivial | (repeat (first | assumption | refine frM_u (by decide) ?_))
  · refine pc_b (q_MD_keeps (I0 := I0)  (by first | assumption | (repeat (first | assumption | refine frM_u (by decide) ?_)))) (fun r3 hr3 => ?_)
    refine pc_b (pc_wl (fun s : Int32 × Int32 × MI × MJ => frM s.2.2.1 I0) (fun s hs => q_MD_chance_25 (I0 := I0)  (by first | exact hs | assumption | (repeat (first | assumption | refine frM_u (by decide) ?_)))) (by first | assumption | trivial | (repeat (first | assumption | refine frM_u (by decide) ?_)))) (fun t4 ht4 => ?_)
    refine pc_s ?_
    first | trivial | (repeat (first | assumption | refine frM_u (by decide) ?_))
theorem q_MD_qKind_76 {I0 : MI} {I : MI} {y0 : Int32} (h : frM I I0) : pc (F_MD_qKind_76 I y0) (fun r : Int32 × MI => frM r.2 I0) := by
  unfold F_MD_qKind_76
  refine pc_if ?_ ?_
  · refine pc_b (q_MD_asks (I0 := I0)  (by first | assumption | (repeat (first | assumption | refine frM_u (by decide) ?_)))) (fun r2 hr2 => ?_)
    refine pc_s ?_
    first | trivial | (repeat (first | assumption | refine frM_u (by decide) ?_))
  · refine pc_s ?_
    first | trivial | (repeat (first | assumption | refine frM_u (by decide) ?_))
theorem q_MD_qKind {I0 : MI} {I : MI} (h : frM I I0) : pc (F_MD_qKind I) (fun r : Int32 × MI => frM r.2 I0) := by
  unfold F_MD_qKind
  refine pc_b (q_MD_takes (I0 := I0)  (by first | assumption | (repeat (first | assumption | refine frM_u (by decide) ?_)))) (fun r1 hr1 => ?_)
  refine pc_if ?_ ?_
  · refine pc_b (q_MD_takes (I0 := I0)  (by first | assumption | (repeat (first | assumption | refine frM_u (by decide) ?_)))) (fun r3 hr3 => ?_)
    refine pc_if ?_ ?_
    · refine pc_b (q_MD_takes (I0 := I0)  (by first | assumption | (repeat (first | assumption | refine frM_u (by decide) ?_)))) (fun r5 hr5 => ?_)
      refine pc_if ?_ ?_
      · refine pc_b (q_MD_takes (I0 := I0)  (by first | assumption | (repeat (first | assumption | refine frM_u (by decide) ?_)))) (fun r7 hr7 => ?_)
        refine pc_if ?_ ?_
        · refine pc_b (q_MD_takes (I0 := I0)  (by first | assumption | (repeat (first | assumption | refine frM_u (by decide) ?_)))) (fun r9 hr9 => ?_)
          refine pc_if ?_ ?_
          · exact (q_MD_qKind_76 (I0 := I0)  (by first | assumption | (repeat (first | assumption | refine frM_u (by decide) ?_))))
          · exact (q_MD_qKind_76 (I0 := I0)  (by first | assumption | (repeat (first | assumption | refine frM_u (by decide) ?_))))
        · exact (q_MD_qKind_76 (I0 := I0)  (by first | assumption | (repeat (first | assumption | refine frM_u (by decide) ?_))))
      · exact (q_MD_qKind_76 (I0 := I0)  (by first | assumption | (repeat (first | assumption | refine frM_u (by decide) ?_))))
    · exact (q_MD_qKind_76 (I0 := I0)  (by first | assumption | (repeat (first | assumption | refine frM_u (by decide) ?_))))
  · exact (q_MD_qKind_76 (I0 := I0)  (by first | assumption | (repeat (first | assumption | refine frM_u (by decide) ?_))))
theorem q_MD_qTakes_90 {I0 : MI} {I : MI} {J : MJ} {v1 : Int32} {v2 : Int64} (h : frM I I0) : pc (F_MD_qTakes_90 I J v1 v2) (fun r : MI × MJ => frM r.1 I0) := by
  unfold F_MD_qTakes_90
  refine pc_if ?_ ?_
  · refine pc_s ?_
    first | trivial | (repeat (first | assumption | refine frM_u (by decide) ?_))
  · refine pc_if ?_ ?_
    · refine pc_if ?_ ?_
      · refine pc_if ?_ ?_
        · refine pc_s ?_
          first | trivial | (repeat (first | assumption | refine frM_u (by decide) ?_))
        · refine pc_s ?_
          first | trivial | (repeat (first | assumption | refine frM_u (by decide) ?_))
      · refine pc_if ?_ ?_
        · refine pc_s ?_
          first | trivial | (repeat (first | assumption | refine frM_u (by decide) ?_))
        · refine pc_s ?_
          first | trivial | (repeat (first | assumption | refine frM_u (by decide) ?_))
    · refine pc_s ?_
      first | trivial | (repeat (first | assumption | refine frM_u (by decide) ?_))
theorem q_MD_qTakes_75 {I0 : MI} {I : MI} {J : MJ} {v1 : Int32} {v2 : Int64} (h : frM I I0) : pc (F_MD_qTakes_75 I J v1 v2) (fun r : MI × MJ => frM r.1 I0) := by
  unfold F_MD_qTakes_75
  refine pc_if ?_ ?_
  · exact (q_MD_qTakes_90 (I0 := I0)  (by first | assumption | (repeat (first | assumption | refine frM_u (by decide) ?_))))
  · exact (q_MD_qTakes_90 (I0 := I0)  (by first | assumption | (repeat (first | assumption | refine frM_u (by decide) ?_))))
theorem q_MD_qTakes_55 {I0 : MI} {I : MI} {J : MJ} {v1 : Int32} {v2 : Int64} {v5 : Int32} (h : frM I I0) : pc (F_MD_qTakes_55 I J v1 v2 v5) (fun r : MI × MJ => frM r.1 I0) := by
  unfold F_MD_qTakes_55
  refine pc_if ?_ ?_
  · refine pc_if ?_ ?_
    · exact (q_MD_qTakes_75 (I0 := I0)  (by first | assumption | (repeat (first | assumption | refine frM_u (by decide) ?_))))
    · exact (q_MD_qTakes_75 (I0 := I0)  (by first | assumption | (repeat (first | assumption | refine frM_u (by decide) ?_))))
  · exact (q_MD_qTakes_75 (I0 := I0)  (by first | assumption | (repeat (first | assumption | refine frM_u (by decide) ?_))))
theorem q_MD_qTakes_48 {I0 : MI} {I : MI} {J : MJ} {v1 : Int32} {v2 : Int64} {v4 : Int32} {v5 : Int32} (h : frM I I0) : pc (F_MD_qTakes_48 I J v1 v2 v4 v5) (fun r : MI × MJ => frM r.1 I0) := by
  unfold F_MD_qTakes_48
  exact (q_MD_qTakes_55 (I0 := I0)  (by first | assumption | (repeat (first | assumption | refine frM_u (by decide) ?_))))
theorem q_MD_qTakes_38 {I0 : MI} {I : MI} {J : MJ} {v1 : Int32} {v2 : Int64} {v4 : Int32} {v5 : Int32} (h : frM I I0) : pc (F_MD_qTakes_38 I J v1 v2 v4 v5) (fun r : MI × MJ => frM r.1 I0) := by
  unfold F_MD_qTakes_38
  refine pc_if ?_ ?_
  · refine pc_if ?_ ?_
    · exact (q_MD_qTakes_55 (I0 := I0)  (by first | assumption | (repeat (first | assumption | refine frM_u (by decide) ?_))))
    · exact (q_MD_qTakes_48 (I0 := I0)  (by first | assumption | (repeat (first | assumption | refine frM_u (by decide) ?_))))
  · exact (q_MD_qTakes_55 (I0 := I0)  (by first | assumption | (repeat (first | assumption | refine frM_u (by decide) ?_))))
theorem q_MD_qTakes_16 {I0 : MI} {I : MI} {J : MJ} {v1 : Int32} {v2 : Int64} {v4 : Int32} {y0 : Int32} (h : frM I I0) : pc (F_MD_qTakes_16 I J v1 v2 v4 y0) (fun r : MI × MJ => frM r.1 I0) := by
  unfold F_MD_qTakes_16
  refine pc_if ?_ ?_
  · refine pc_if ?_ ?_
    · exact (q_MD_qTakes_38 (I0 := I0)  (by first | assumption | (repeat (first | assumption | refine frM_u (by decide) ?_))))
    · refine pc_if ?_ ?_
      · exact (q_MD_qTakes_48 (I0 := I0)  (by first | assumption | (repeat (first | assumption | refine frM_u (by decide) ?_))))
      · exact (q_MD_qTakes_38 (I0 := I0)  (by first | assumption | (repeat (first | assumption | refine frM_u (by decide) ?_))))
  · exact (q_MD_qTakes_38 (I0 := I0)  (by first | assumption | (repeat (first | assumption | refine frM_u (by decide) ?_))))
theorem q_MD_qTakes_15 {I0 : MI} {I : MI} {J : MJ} {v1 : Int32} {v2 : Int64} {v4 : Int32} (h : frM I I0) : pc (F_MD_qTakes_15 I J v1 v2 v4) (fun r : MI × MJ => frM r.1 I0) := by
  unfold F_MD_qTakes_15
  exact (q_MD_qTakes_16 (I0 := I0)  (by first | assumption | (repeat (first | assumption | refine frM_u (by decide) ?_))))
theorem q_MD_qTakes {I0 : MI} {I : MI} {J : MJ} {v1 : Int32} {v2 : Int64} {v4 : Int32} (h : frM I I0) : pc (F_MD_qTakes I J v1 v2 v4) (fun r : MI × MJ => frM r.1 I0) := by
  unfold F_MD_qTakes
  refine pc_if ?_ ?_
  · exact (q_MD_qTakes_15 (I0 := I0)  (by first | assumption | (repeat (first | assumption | refine frM_u (by decide) ?_))))
  · refine pc_if ?_ ?_
    · exact (q_MD_qTakes_16 (I0 := I0)  (by first | assumption | (repeat (first | assumption | refine frM_u (by decide) ?_))))
    · exact (q_MD_qTakes_15 (I0 := I0)  (by first | assumption | (repeat (first | assumption | refine frM_u (by decide) ?_))))
theorem q_MD_qTold_7 {I0 : MI} {I : MI} {J : MJ} {v1 : Int32} {v2 : Int32} (h : frM I I0) : pc (F_MD_qTold_7 I J v1 v2) (Sum.elim (fun r : Int32 × MI × MJ => frM r.2.1 I0) (fun r : MI × MJ => frM r.1 I0)) := by
  unfold F_MD_qTold_7
  refine pc_if ?_ ?_
  · refine pc_s ?_
    first | trivial | (repeat (first | assumption | refine frM_u (by decide) ?_))
  · refine pc_gd ?_
    refine pc_if ?_ ?_
    · refine pc_if ?_ ?_
      · refine pc_if ?_ ?_
        · refine pc_if ?_ ?_
          · refine pc_b (q_MD_qPuts (I0 := I0)  (by first | assumption | (repeat (first | assumption | refine frM_u (by decide) ?_)))) (fun r12 hr12 => ?_)
            refine pc_s ?_
            first | trivial | (repeat (first | assumption | refine frM_u (by decide) ?_))
          · refine pc_if ?_ ?_
            · refine pc_gd ?_
              refine pc_gd ?_
              refine pc_bnd ?_
              refine pc_s ?_
              first | trivial | (repeat (first | assumption | refine frM_u (by decide) ?_))
            · refine pc_b (q_MD_qJoins (I0 := I0)  (by first | assumption | (repeat (first | assumption | refine frM_u (by decide) ?_)))) (fun r8 hr8 => ?_)
              refine pc_s ?_
              first | trivial | (repeat (first | assumption | refine frM_u (by decide) ?_))
        · refine pc_b' (fun r13 => ?_)
          refine pc_b' (fun r14 => ?_)
          refine pc_b (q_MD_qPuts (I0 := I0)  (by first | assumption | (repeat (first | assumption | refine frM_u (by decide) ?_)))) (fun r15 hr15 => ?_)
          refine pc_s ?_
          first | trivial | (repeat (first | assumption | refine frM_u (by decide) ?_))
      · refine pc_gd ?_
        refine pc_b' (fun r17 => ?_)
        refine pc_b' (fun r18 => ?_)
        refine pc_gd ?_
        refine pc_s ?_
        first | trivial | (repeat (first | assumption | refine frM_u (by decide) ?_))
    · refine pc_b (q_MD_qPuts (I0 := I0)  (by first | assumption | (repeat (first | assumption | refine frM_u (by decide) ?_)))) (fun r20 hr20 => ?_)
      refine pc_s ?_
      first | trivial | (repeat (first | assumption | refine frM_u (by decide) ?_))
theorem q_MD_qTold {I0 : MI} {I : MI} {J : MJ} {v1 : Int32} (h : frM I I0) : pc (F_MD_qTold I J v1) (fun r : Int64 × MI × MJ => frM r.2.1 I0) := by
  unfold F_MD_qTold
  refine pc_b (pc_wl (fun s : Int32 × MI × MJ => frM s.2.1 I0) (fun s hs => q_MD_qTold_7 (I0 := I0)  (by first | exact hs | assumption | (repeat (first | assumption | refine frM_u (by decide) ?_)))) (by first | assumption | trivial | (repeat (first | assumption | refine frM_u (by decide) ?_)))) (fun t1 ht1 => ?_)
  refine pc_s ?_
  first | trivial | (repeat (first | assumption | refine frM_u (by decide) ?_))
theorem q_MD_ask_188 {I0 : MI} {I : MI} {J : MJ} {v1 : Int32} {v2 : Int32} (h : frM I I0) : pc (F_MD_ask_188 I J v1 v2) (Sum.elim (fun r : Int32 × MI × MJ => frM r.2.1 I0) (fun r : MI × MJ => frM r.1 I0)) := by
  unfold F_MD_ask_188
  refine pc_b' (fun r1 => ?_)
  refine pc_if ?_ ?_
  · refine pc_s ?_
    first | trivial | (repeat (first | assumption | refine frM_u (by decide) ?_))
  · refine pc_b (q_MD_qTold (I0 := I0)  (by first | assumption | (repeat (first | assumption | refine frM_u (by decide) ?_)))) (fun r3 hr3 => ?_)
    refine pc_b (q_MD_qTakes (I0 := I0)  (by first | assumption | (repeat (first | assumption | refine frM_u (by decide) ?_)))) (fun r4 hr4 => ?_)
    refine pc_s ?_
    first | trivial | (repeat (first | assumption | refine frM_u (by decide) ?_))
theorem q_MD_ask_173 {I0 : MI} {I : MI} {J : MJ} {v1 : Int32} {y0 : Int64} (h : frM I I0) : pc (F_MD_ask_173 I J v1 y0) (fun r : Int64 × MI × MJ => frM r.2.1 I0) := by
  unfold F_MD_ask_173
  refine pc_b (pc_wl (fun s : Int32 × MI × MJ => frM s.2.1 I0) (fun s hs => q_MD_ask_188 (I0 := I0)  (by first | exact hs | assumption | (repeat (first | assumption | refine frM_u (by decide) ?_)))) (by first | assumption | trivial | (repeat (first | assumption | refine frM_u (by decide) ?_)))) (fun t1 ht1 => ?_)
  refine pc_s ?_
  first | trivial | (repeat (first | assumption | refine frM_u (by decide) ?_))
theorem q_MD_ask_133 {I0 : MI} {I : MI} {J : MJ} {v1 : Int32} (h : frM I I0) : pc (F_MD_ask_133 I J v1) (fun r : Int64 × MI × MJ => frM r.2.1 I0) := by
  unfold F_MD_ask_133
  refine pc_if ?_ ?_
  · refine pc_if ?_ ?_
    · exact (q_MD_ask_173 (I0 := I0)  (by first | assumption | (repeat (first | assumption | refine frM_u (by decide) ?_))))
    · exact (q_MD_ask_173 (I0 := I0)  (by first | assumption | (repeat (first | assumption | refine frM_u (by decide) ?_))))
  · refine pc_s ?_
    first | trivial | (repeat (first | assumption | refine frM_u (by decide) ?_))
theorem q_MD_ask_109 {I0 : MI} {I : MI} {J : MJ} {v1 : Int32} (h : frM I I0) : pc (F_MD_ask_109 I J v1) (fun r : Int64 × MI × MJ => frM r.2.1 I0) := by
  unfold F_MD_ask_109
  refine pc_if ?_ ?_
  · refine pc_b (q_MD_look (I0 := I0)  (by first | assumption | (repeat (first | assumption | refine frM_u (by decide) ?_)))) (fun r2 hr2 => ?_)
    refine pc_if ?_ ?_
    · exact (q_MD_ask_133 (I0 := I0)  (by first | assumption | (repeat (first | assumption | refine frM_u (by decide) ?_))))
    · refine pc_b (q_MD_fail (I0 := I0)  (by first | assumption | (repeat (first | assumption | refine frM_u (by decide) ?_)))) (fun r4 hr4 => ?_)
      exact (q_MD_ask_133 (I0 := I0)  (by first | assumption | (repeat (first | assumption | refine frM_u (by decide) ?_))))
  · exact (q_MD_ask_133 (I0 := I0)  (by first | assumption | (repeat (first | assumption | refine frM_u (by decide) ?_))))
theorem q_MD_ask_98 {I0 : MI} {I : MI} {J : MJ} {v1 : Int32} (h : frM I I0) : pc (F_MD_ask_98 I J v1) (fun r : Int64 × MI × MJ => frM r.2.1 I0) := by
  unfold F_MD_ask_98
  refine pc_if ?_ ?_
  · refine pc_b (q_MD_qSums (I0 := I0)  (by first | assumption | (repeat (first | assumption | refine frM_u (by decide) ?_)))) (fun r2 hr2 => ?_)
    exact (q_MD_ask_109 (I0 := I0)  (by first | assumption | (repeat (first | assumption | refine frM_u (by decide) ?_))))
  · exact (q_MD_ask_109 (I0 := I0)  (by first | assumption | (repeat (first | assumption | refine frM_u (by decide) ?_))))
theorem q_MD_ask {I0 : MI} {I : MI} {J : MJ} (h : frM I I0) : pc (F_MD_ask I J) (fun r : Int64 × MI × MJ => frM r.2.1 I0) := by
  unfold F_MD_ask
  refine pc_if ?_ ?_
  · refine pc_s ?_
    first | trivial | (repeat (first | assumption | refine frM_u (by decide) ?_))
  · refine pc_bnd ?_
    refine pc_b (q_MD_qKind (I0 := I0)  (by first | assumption | (repeat (first | assumption | refine frM_u (by decide) ?_)))) (fun r3 hr3 => ?_)
    refine pc_if ?_ ?_
    · refine pc_if ?_ ?_
      · exact (q_MD_ask_98 (I0 := I0)  (by first | assumption | (repeat (first | assumption | refine frM_u (by decide) ?_))))
      · refine pc_b (q_MD_qTest (I0 := I0)  (by first | assumption | (repeat (first | assumption | refine frM_u (by decide) ?_)))) (fun r6 hr6 => ?_)
        exact (q_MD_ask_109 (I0 := I0)  (by first | assumption | (repeat (first | assumption | refine frM_u (by decide) ?_))))
    · exact (q_MD_ask_98 (I0 := I0)  (by first | assumption | (repeat (first | assumption | refine frM_u (by decide) ?_))))
theorem q_MD_writes {I0 : MI} {I : MI} {v1 : Int32} (h : frM I I0) : pc (F_MD_writes I v1) (fun r : MI => frM r I0) := by
  unfold F_MD_writes
  refine pc_gd ?_
  refine pc_s ?_
  first | trivial | (repeat (first | assumption | refine frM_u (by decide) ?_))
theorem q_MD_image_55 {I0 : MI} {I : MI} {v1 : Int32} {v2 : Int32} (h : frM I I0) : pc (F_MD_image_55 I v1 v2) (Sum.elim (fun r : Int32 × MI => frM r.2 I0) (fun r : MI => frM r I0)) := by
  unfold F_MD_image_55
  refine pc_if ?_ ?_
  · refine pc_s ?_
    first | trivial | (repeat (first | assumption | refine frM_u (by decide) ?_))
  · refine pc_b' (fun r2 => ?_)
    refine pc_if ?_ ?_
    · refine pc_s ?_
      first | trivial | (repeat (first | assumption | refine frM_u (by decide) ?_))
    · refine pc_b (q_MD_writes (I0 := I0)  (by first | assumption | (repeat (first | assumption | refine frM_u (by decide) ?_)))) (fun r4 hr4 => ?_)
      refine pc_b (q_MD_writes (I0 := I0)  (by first | assumption | (repeat (first | assumption | refine frM_u (by decide) ?_)))) (fun r5 hr5 => ?_)
      refine pc_s ?_
      first | trivial | (repeat (first | assumption | refine frM_u (by decide) ?_))
theorem q_MD_image_43 {I0 : MI} {I : MI} {v1 : Int32} (h : frM I I0) : pc (F_MD_image_43 I v1) (Sum.elim (fun r : Int32 × MI => frM r.2 I0) (fun r : MI => frM r I0)) := by
  unfold F_MD_image_43
  refine pc_if ?_ ?_
  · refine pc_s ?_
    first | trivial | (repeat (first | assumption | refine frM_u (by decide) ?_))
  · refine pc_b (pc_wl (fun s : Int32 × MI => frM s.2 I0) (fun s hs => q_MD_image_55 (I0 := I0)  (by first | exact hs | assumption | (repeat (first | assumption | refine frM_u (by decide) ?_)))) (by first | assumption | trivial | (repeat (first | assumption | refine frM_u (by decide) ?_)))) (fun t2 ht2 => ?_)
    refine pc_s ?_
    first | trivial | (repeat (first | assumption | refine frM_u (by decide) ?_))
theorem q_MD_image_134 {I0 : MI} {I : MI} {v1 : Int32} {v2 : Int32} (h : frM I I0) : pc (F_MD_image_134 I v1 v2) (Sum.elim (fun r : Int32 × MI => frM r.2 I0) (fun r : MI => frM r I0)) := by
  unfold F_MD_image_134
  refine pc_if ?_ ?_
  · refine pc_s ?_
    first | trivial | (repeat (first | assumption | refine frM_u (by decide) ?_))
  · refine pc_b' (fun r2 => ?_)
    refine pc_if ?_ ?_
    · refine pc_b (q_MD_writes (I0 := I0)  (by first | assumption | (repeat (first | assumption | refine frM_u (by decide) ?_)))) (fun r6 hr6 => ?_)
      refine pc_s ?_
      first | trivial | (repeat (first | assumption | refine frM_u (by decide) ?_))
    · refine pc_b' (fun r4 => ?_)
      refine pc_b (q_MD_writes (I0 := I0)  (by first | assumption | (repeat (first | assumption | refine frM_u (by decide) ?_)))) (fun r5 hr5 => ?_)
      refine pc_s ?_
      first | trivial | (repeat (first | assumption | refine frM_u (by decide) ?_))
theorem q_MD_image_129 {I0 : MI} {I : MI} {v1 : Int32} {y0 : Int32} (h : frM I I0) : pc (F_MD_image_129 I v1 y0) (Sum.elim (fun r : Int32 × MI => frM r.2 I0) (fun r : MI => frM r I0)) := by
  unfold F_MD_image_129
  refine pc_b (q_MD_writes (I0 := I0)  (by first | assumption | (repeat (first | assumption | refine frM_u (by decide) ?_)))) (fun r1 hr1 => ?_)
  refine pc_b (pc_wl (fun s : Int32 × MI => frM s.2 I0) (fun s hs => q_MD_image_134 (I0 := I0)  (by first | exact hs | assumption | (repeat (first | assumption | refine frM_u (by decide) ?_)))) (by first | assumption | trivial | (repeat (first | assumption | refine frM_u (by decide) ?_)))) (fun t2 ht2 => ?_)
  refine pc_s ?_
  first | trivial | (repeat (first | assumption | refine frM_u (by decide) ?_))
theorem q_MD_image_98 {I0 : MI} {I : MI} {v1 : Int32} (h : frM I I0) : pc (F_MD_image_98 I v1) (Sum.elim (fun r : Int32 × MI => frM r.2 I0) (fun r : MI => frM r I0)) := by
  unfold F_MD_image_98
  refine pc_b' (fun r1 => ?_)
  refine pc_if ?_ ?_
  · refine pc_s ?_
    first | trivial | (repeat (first | assumption | refine frM_u (by decide) ?_))
  · refine pc_b' (fun r3 => ?_)
    refine pc_b (q_MD_writes (I0 := I0)  (by first | assumption | (repeat (first | assumption | refine frM_u (by decide) ?_)))) (fun r4 hr4 => ?_)
    refine pc_b' (fun r5 => ?_)
    refine pc_if ?_ ?_
    · exact (q_MD_image_129 (I0 := I0)  (by first | assumption | (repeat (first | assumption | refine frM_u (by decide) ?_))))
    · exact (q_MD_image_129 (I0 := I0)  (by first | assumption | (repeat (first | assumption | refine frM_u (by decide) ?_))))
theorem q_MD_image {I0 : MI} {I : MI} (h : frM I I0) : pc (F_MD_image I) (fun r : Int32 × MI => frM r.2 I0) := by
  unfold F_MD_image
  refine pc_b (q_MD_writes (I0 := I0)  (by first | assumption | (repeat (first | assumption | refine frM_u (by decide) ?_)))) (fun r1 hr1 => ?_)
  refine pc_b (q_MD_writes (I0 := I0)  (by first | assumption | (repeat (first | assumption | refine frM_u (by decide) ?_)))) (fun r2 hr2 => ?_)
  refine pc_b' (fun r3 => ?_)
  refine pc_b (q_MD_writes (I0 := I0)  (by first | assumption | (repeat (first | assumption | refine frM_u (by decide) ?_)))) (fun r4 hr4 => ?_)
  refine pc_b (pc_wl (fun s : Int32 × MI => frM s.2 I0) (fun s hs => q_MD_image_43 (I0 := I0)  (by first | exact hs | assumption | (repeat (first | assumption | refine frM_u (by decide) ?_)))) (by first | assumption | trivial | (repeat (first | assumption | refine frM_u (by decide) ?_)))) (fun t5 ht5 => ?_)
  refine pc_b (pc_wl (fun s : Int32 × MI => frM s.2 I0) (fun s hs => q_MD_image_98 (I0 := I0)  (by first | exact hs | assumption | (repeat (first | assumption | refine frM_u (by decide) ?_)))) (by first | assumption | trivial | (repeat (first | assumption | refine frM_u (by decide) ?_)))) (fun t6 ht6 => ?_)
  refine pc_b' (fun r7 => ?_)
  refine pc_b (q_MD_writes (I0 := I0)  (by first | assumption | (repeat (first | assumption | refine frM_u (by decide) ?_)))) (fun r8 hr8 => ?_)
  refine pc_s ?_
  first | trivial | (repeat (first | assumption | refine frM_u (by decide) ?_))
theorem q_MD_on_64 {I0 : MI} {I : MI} {v2 : Int32} {v3 : Int32} (h : frM I I0) : pc (F_MD_on_64 I v2 v3) (Sum.elim (fun r : Int32 × MI => frM r.2 I0) (fun r : MI => frM r I0)) := by
  unfold F_MD_on_64
  refine pc_if ?_ ?_
  · refine pc_s ?_
    first | trivial | (repeat (first | assumption | refine frM_u (by decide) ?_))
  · refine pc_gd ?_
    refine pc_s ?_
    first | trivial | (repeat (first | assumption | refine frM_u (by decide) ?_))
theorem q_MD_on_87 {I0 : MI} {I : MI} {v2 : Int32} {v3 : Int32} (h : frM I I0) : pc (F_MD_on_87 I v2 v3) (Sum.elim (fun r : Int32 × MI => frM r.2 I0) (fun r : MI => frM r I0)) := by
  unfold F_MD_on_87
  refine pc_if ?_ ?_
  · refine pc_s ?_
    first | trivial | (repeat (first | assumption | refine frM_u (by decide) ?_))
  · refine pc_gd ?_
    refine pc_gd ?_
    refine pc_gd ?_
    refine pc_gd ?_
    refine pc_bnd ?_
    refine pc_s ?_
    first | trivial | (repeat (first | assumption | refine frM_u (by decide) ?_))
theorem q_MD_on_206 {I0 : MI} {I : MI} {v2 : Int32} {v3 : Int32} {v4 : Int32} {v5 : Int32} (h : frM I I0) : pc (F_MD_on_206 I v2 v3 v4 v5) (Sum.elim (fun r : Int32 × MI => frM r.2 I0) (fun r : MI => frM r I0)) := by
  unfold F_MD_on_206
  refine pc_if ?_ ?_
  · refine pc_s ?_
    first | trivial | (repeat (first | assumption | refine frM_u (by decide) ?_))
  · refine pc_gd ?_
    refine pc_if ?_ ?_
    · refine pc_b (q_MD_rowIs (I0 := I0)  (by first | assumption | (repeat (first | assumption | refine frM_u (by decide) ?_)))) (fun r6 hr6 => ?_)
      refine pc_s ?_
      first | trivial | (repeat (first | assumption | refine frM_u (by decide) ?_))
    · refine pc_gd ?_
      refine pc_b (q_MD_rowIs (I0 := I0)  (by first | assumption | (repeat (first | assumption | refine frM_u (by decide) ?_)))) (fun r5 hr5 => ?_)
      refine pc_s ?_
      first | trivial | (repeat (first | assumption | refine frM_u (by decide) ?_))
theorem q_MD_on_137 {I0 : MI} {I : MI} {v2 : Int32} {v3 : Int32} (h : frM I I0) : pc (F_MD_on_137 I v2 v3) (Sum.elim (fun r : Int32 × MI => frM r.2 I0) (fun r : MI => frM r I0)) := by
  unfold F_MD_on_137
  refine pc_b' (fun r1 => ?_)
  refine pc_if ?_ ?_
  · refine pc_s ?_
    first | trivial | (repeat (first | assumption | refine frM_u (by decide) ?_))
  · refine pc_gd ?_
    refine pc_gd ?_
    refine pc_gd ?_
    refine pc_gd ?_
    refine pc_bnd ?_
    refine pc_b (pc_wl (fun s : Int32 × MI => frM s.2 I0) (fun s hs => q_MD_on_206 (I0 := I0)  (by first | exact hs | assumption | (repeat (first | assumption | refine frM_u (by decide) ?_)))) (by first | assumption | trivial | (repeat (first | assumption | refine frM_u (by decide) ?_)))) (fun t8 ht8 => ?_)
    refine pc_s ?_
    first | trivial | (repeat (first | assumption | refine frM_u (by decide) ?_))
theorem q_MD_on {I0 : MI} {I : MI} (h : frM I I0) : pc (F_MD_on I) (fun r : Int32 × MI => frM r.2 I0) := by
  unfold F_MD_on
  refine pc_b' (fun r1 => ?_)
  refine pc_if ?_ ?_
  · refine pc_s ?_
    first | trivial | (repeat (first | assumption | refine frM_u (by decide) ?_))
  · refine pc_b (pc_wl (fun s : Int32 × MI => frM s.2 I0) (fun s hs => q_MD_on_64 (I0 := I0)  (by first | exact hs | assumption | (repeat (first | assumption | refine frM_u (by decide) ?_)))) (by first | assumption | trivial | (repeat (first | assumption | refine frM_u (by decide) ?_)))) (fun t3 ht3 => ?_)
    refine pc_b (pc_wl (fun s : Int32 × MI => frM s.2 I0) (fun s hs => q_MD_on_87 (I0 := I0)  (by first | exact hs | assumption | (repeat (first | assumption | refine frM_u (by decide) ?_)))) (by first | assumption | trivial | (repeat (first | assumption | refine frM_u (by decide) ?_)))) (fun t4 ht4 => ?_)
    refine pc_b (pc_wl (fun s : Int32 × MI => frM s.2 I0) (fun s hs => q_MD_on_137 (I0 := I0)  (by first | exact hs | assumption | (repeat (first | assumption | refine frM_u (by decide) ?_)))) (by first | assumption | trivial | (repeat (first | assumption | refine frM_u (by decide) ?_)))) (fun t5 ht5 => ?_)
    refine pc_s ?_
    first | trivial | (repeat (first | assumption | refine frM_u (by decide) ?_))
