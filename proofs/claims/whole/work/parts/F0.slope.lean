/-! slope, the whole -/
section LF0
variable {I : MI} {J : MJ} {sl sd : Nat} {R : MRR}
theorem op_slope (hs : (sl = 3 ∧ sd = 11) ∨ (sl = 11 ∧ sd = 3)) (hr : Rel I J sl) : ∃ a I1 R1 I2 J2, F_WF_slope sl sd R I = some (a, I1, R1) ∧ F_MD_slope I1 J = some (a, I2, J2) ∧ ((Rel I2 J2 sl ∧ R1 = m_up R 19 4 (some (8, 0, sd))) ∨ (Rel I2 J2 sd ∧ R1 = m_up (m_up (m_up (m_up R 19 4 (some (8, 0, sd))) 0 2 (some (8, 0, sl))) 0 1 (some (8, 0, sd))) 24 1 (some (8, 0, sd)))) := by
  obtain ⟨hq, p, w, kl, un, h⟩ := id hr
  obtain ⟨n, tb, n16, t1, t2, t3⟩ := h.1.1
  have hq2 : sd = 3 ∨ sd = 11 := by omega
  have hg := h.2.2.2.2.2
  rcases read_j (sd := sd) hq2 t1 n16 (fun j hj => ⟨(t3 j hj).1, (t3 j hj).2.2⟩) hg with ⟨p2, w2, td2, nm2, L2, cn2, X2, s1, -, s3, s4, s5, s6, s7⟩ | ⟨k, at', X2, s1, s2, s3, s4, s5⟩
  · obtain ⟨a, I1, I2, J2, e1, e2, e3⟩ := slope_yes (R := R) hs hr rfl n16 t2 (fun j hj => ⟨(t3 j hj).1, (t3 j hj).2.1⟩) s1 s3 s4 s5 s6 s7
    exact ⟨a, I1, _, I2, J2, e1, e2, Or.inr ⟨e3, rfl⟩⟩
  · obtain ⟨I1, I2, J2, e1, e2, e3⟩ := slope_no (R := R) hs hr s4 rfl n16 t2 (fun j hj => ⟨(t3 j hj).1, (t3 j hj).2.1⟩) s1 s2 s3 s5
    exact ⟨-1, I1, _, I2, J2, e1, e2, Or.inl ⟨e3, rfl⟩⟩
end LF0
