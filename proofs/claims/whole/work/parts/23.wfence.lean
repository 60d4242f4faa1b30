/-! Walker: a fence walks -/
/-- what isn't in P is as it was -/
def fr (P : Nat → Prop) (X I : MI) : Prop := ∀ q, ¬ P q → X q = I q
theorem fr_refl {P : Nat → Prop} {I : MI} : fr P I I := fun _ _ => rfl
theorem fr_trans {P : Nat → Prop} {X Y I : MI} (h : fr P X Y) (h2 : fr P Y I) : fr P X I := fun q hq => (h q hq).trans (h2 q hq)
theorem fr_up {P : Nat → Prop} {X I : MI} {c j : Nat} {v : Int32} (h : fr P X I) (hc : P c) : fr P (m_up X c j v) I := fun q hq => (m_up_ne (i := q) (k := c) (fun e => hq (by rw [e]; exact hc))).trans (h q hq)
theorem fr_putStake {P : Nat → Prop} {X I : MI} {k : Nat} {f c r : Int32} (h : fr P X I) (hc : P (k + 3)) : fr P (w_putStake X k f c r) I := by
  unfold w_putStake
  split
  · exact fr_up h hc
  · exact h
theorem fr_putAge {P : Nat → Prop} {X I : MI} {k : Nat} {f a : Int32} (h : fr P X I) (hc : P (k + 1)) : fr P (gI_Lay_putAge X k f a) I := by
  unfold gI_Lay_putAge
  repeat' split
  all_goals first | exact h | exact fr_up h hc
theorem fr_rk {P : Nat → Prop} {I : MI} {q a : Nat} (hc : P 26) : ∀ n, (∀ X, rk_run I q a n = .inl X → fr P X I) ∧ ∀ t X, rk_run I q a n = .inr (t, X) → fr P X I := by
  intro n
  induction n with
  | zero =>
    refine ⟨fun X h => ?_, fun t X h => ?_⟩
    · simp [rk_run] at h
    · simp only [rk_run, Sum.inr.injEq, Prod.mk.injEq] at h
      rw [← h.2]; exact fr_refl
  | succ n ih =>
    cases hr : rk_run I q a n with
    | inl Y =>
      refine ⟨fun X h => ?_, fun t X h => ?_⟩
      · simp only [rk_run, hr, Sum.inl.injEq] at h
        rw [← h]; exact ih.1 Y hr
      · simp [rk_run, hr] at h
    | inr w =>
      obtain ⟨t, Y⟩ := w
      have hY := ih.2 t Y hr
      have key : ∀ t2 X, rk_step Y t (Y q (a + n)) = some (t2, X) → fr P X I := by
        intro t2 X h
        unfold rk_step at h
        repeat' split at h
        all_goals first
          | (cases h; done)
          | (simp only [Option.some.injEq, Prod.mk.injEq] at h; rw [← h.2]; exact fr_up hY hc)
      cases hs : rk_step Y t (Y q (a + n)) with
      | none =>
        refine ⟨fun X h => ?_, fun t X h => ?_⟩
        · simp only [rk_run, hr, hs, Sum.inl.injEq] at h
          rw [← h]; exact hY
        · simp [rk_run, hr, hs] at h
      | some r =>
        obtain ⟨t2, Z⟩ := r
        refine ⟨fun X h => ?_, fun t X h => ?_⟩
        · simp [rk_run, hr, hs] at h
        · simp only [rk_run, hr, hs, Sum.inr.injEq, Prod.mk.injEq] at h
          rw [← h.2]; exact key t2 Z hs
theorem fr_run {P : Nat → Prop} {X I : MI} {q : Nat} {a b : Int32} (h : fr P X I) (hc : P 26) : fr P (w_run X q a b) I := by
  unfold w_run
  cases hr : rk_run X q a.toNatClampNeg (rk_M a b) with
  | inl Y => exact fr_trans ((fr_rk hc _).1 Y hr) h
  | inr w => exact fr_trans ((fr_rk hc _).2 w.1 w.2 hr) h
theorem fr_paces {P : Nat → Prop} {X I : MI} {sl : Nat} {c r : Int32} (h : fr P X I) (h6 : P 26) (h7 : P 27) : fr P (gI_Walker_paces X sl c r) I := by
  unfold gI_Walker_paces
  split
  · exact h
  · unfold uI_Walker_paces_0
    exact fr_run (fr_up (fr_up h h7) h7) h6
theorem fr_note {P : Nat → Prop} {X I : MI} {g : Nat} {y f c : Int32} (h : fr P X I) (h1 : P g) (h2 : P (g + 1)) : fr P (gI_Log_note X g y f c) I := by
  unfold gI_Log_note
  repeat' split
  all_goals first | exact h | (unfold uI_Log_note_0; exact fr_up (fr_up h h2) h1) | (unfold uI_Log_note_1; exact fr_up (fr_up h h2) h1)
def wf_note (lg : Option Nat) (X : MI) (k : Nat) (f c : Int32) : MI := match lg with
  | none => X
  | some g => gI_Log_note X g (X k 0) f c
/-- the cells that a year may touch -/
def FP (k : Nat) (lg : Option Nat) (q : Nat) : Prop := q = 26 ∨ q = 27 ∨ q = k ∨ q = k + 1 ∨ q = k + 3 ∨ ∃ g, lg = some g ∧ (q = g ∨ q = g + 1)
theorem fr_wnote {k : Nat} {lg : Option Nat} {X I : MI} {f c : Int32} (h : fr (FP k lg) X I) : fr (FP k lg) (wf_note lg X k f c) I := by
  cases lg with
  | none => exact h
  | some g => exact fr_note h (by simp [FP]) (by simp [FP])
def wf_to (X : MI) (k sl : Nat) (f c : Int32) : Int32 := f_Walker_landing (gI_Walker_paces X sl c (v_rowOf X k f c)) sl (f_Lay_postsOf X k c) (v_rowOf X k f c) (f_Walker_paces X sl c (v_rowOf X k f c))
def wf_put (X : MI) (k sl : Nat) (f c : Int32) : MI := w_putStake (gI_Walker_paces X sl c (v_rowOf X k f c)) k f c (wf_to X k sl f c)
/-- a fence's stakes in the first n columns have walked: how many went, the memory -/
def l_wf (lg : Option Nat) (I : MI) (k sl : Nat) (f : Int32) : Nat → Int32 × MI
  | 0 => (0, m_up (m_up I 27 6 (f_Lay_ageOf I k f)) 27 11 ((m_up I 27 6 (f_Lay_ageOf I k f)) k 0))
  | n + 1 => if v_rowOf (l_wf lg I k sl f n).2 k f (nI n) = -1 then l_wf lg I k sl f n
    else if wf_to (l_wf lg I k sl f n).2 k sl f (nI n) = -1 then ((l_wf lg I k sl f n).1 + 1, wf_note lg (wf_put (l_wf lg I k sl f n).2 k sl f (nI n)) k f (nI n))
    else ((l_wf lg I k sl f n).1, wf_put (l_wf lg I k sl f n).2 k sl f (nI n))
theorem fr_wf (lg : Option Nat) (I : MI) (k sl : Nat) (f : Int32) : ∀ n, fr (FP k lg) (l_wf lg I k sl f n).2 I := by
  intro n
  induction n with
  | zero => exact fr_up (fr_up fr_refl (by simp [FP])) (by simp [FP])
  | succ n ih =>
    have hp : fr (FP k lg) (wf_put (l_wf lg I k sl f n).2 k sl f (nI n)) I := fr_putStake (fr_paces ih (by simp [FP]) (by simp [FP])) (by simp [FP])
    simp only [l_wf]
    repeat' split
    · exact ih
    · exact fr_wnote hp
    · exact hp
theorem wf_e1 {lg : Option Nat} {I X : MI} {k sl n : Nat} {f w : Int32} (hh : l_wf lg I k sl f n = (w, X)) (h1 : v_rowOf X k f (nI n) = -1) : l_wf lg I k sl f (n + 1) = (w, X) := by
  simp only [l_wf, hh, h1, if_true]
theorem wf_e2 {lg : Option Nat} {I X : MI} {k sl n : Nat} {f w : Int32} (hh : l_wf lg I k sl f n = (w, X)) (h1 : ¬ v_rowOf X k f (nI n) = -1) (h2 : wf_to X k sl f (nI n) = -1) : l_wf lg I k sl f (n + 1) = (w + 1, wf_note lg (wf_put X k sl f (nI n)) k f (nI n)) := by
  simp only [l_wf, hh, h1, h2, if_true, if_false]
theorem wf_e3 {lg : Option Nat} {I X : MI} {k sl n : Nat} {f w : Int32} (hh : l_wf lg I k sl f n = (w, X)) (h1 : ¬ v_rowOf X k f (nI n) = -1) (h2 : ¬ wf_to X k sl f (nI n) = -1) : l_wf lg I k sl f (n + 1) = (w, wf_put X k sl f (nI n)) := by
  simp only [l_wf, hh, h1, h2, if_false]
theorem wf_col {lg : Option Nat} {I X : MI} {k sl n : Nat} {f w : Int32} (hd : ¬ FP k lg sl) (hh : l_wf lg I k sl f n = (w, X)) : X sl = I sl := by
  have h := fr_wf lg I k sl f n sl hd
  rw [hh] at h
  exact h
theorem wf_ge {lg : Option Nat} {I X : MI} {k sl n : Nat} {f w : Int32} (hd : ¬ FP k lg sl) (hh : l_wf lg I k sl f n = (w, X)) (hn : n < (I sl 1).toNatClampNeg) (h : X sl 1 ≤ nI n) : False := by
  rw [wf_col hd hh] at h
  exact absurd ((ge_cl (by have := cl_lt (I sl 1); omega)).mp h) (by omega)
set_option maxRecDepth 100000 in
set_option maxHeartbeats 4000000 in
theorem c_Walker_walkFence_N {G : MG} {L : List (Nat × Nat)} {I : Nat → Nat → Int32} {J : Nat → Nat → Int64} {R : Nat → Nat → Option MRef} (k : Nat) (f : Int32) (sl : Nat) (hR : RF R) (hs : R 24 1 = some (8, 0, sl)) (hsl : SlopeR R sl) (hk : LayR R k)  (hd : ¬ FP k none sl) : m_met G 5 0 0 y_Walker_walkFence M_Walker_walkFence [mR (10, 0, 24), mR (3, 0, k), mI f, mN] (L, I, J, R) (m_is (some (mI ((l_wf none I k sl f (I sl 1).toNatClampNeg).1))) (L, (l_wf none I k sl f (I sl 1).toNatClampNeg).2, J, R)) := by
  refine m_met_in n_Walker_walkFence (plainFor_of_name (by decide)) (by decide) (Nat.le_of_ble_eq_true rfl) (ls := [some (mR (10, 0, 24)), some (mR (3, 0, k)), some (mI f), some (mN), none, none, none, none]) rfl ?_
  refine b_blk (pc' := 6) (ls' := [some (mR (10, 0, 24)), some (mR (3, 0, k)), some (mI f), some (mN), some (mI 0), none, none, none]) (st' := [mI f, mR (3, 0, k), mR (10, 0, 24)]) (S' := (L, I, J, R)) (P := True) [(.iconst 0, (0, 0, 0, 0, 0)), (.istore 4, (0, 0, 0, 0, 0)), (.aload_n 0, (0, 0, 0, 0, 0)), (.aload_n 1, (0, 0, 0, 0, 0)), (.iload_n 2, (0, 0, 0, 0, 0))] [] (by decide +kernel) rfl trivial ?_
  refine b_cV (as := [mR (3, 0, k), mI f]) (st := []) (by decide +kernel) k_10_97 n_Walker_face rfl (by decide) v_Walker_face (c_Walker_face k f hR (by assumption)) (Nat.le_of_ble_eq_true rfl) (by decide) rfl rfl (fun _ h => h) ?_
  show m_B _ _ _ _ _ _ 9 [some (mR (10, 0, 24)), some (mR (3, 0, k)), some (mI f), some (mN), some (mI 0), none, none, none] [] (L, m_up (m_up I 27 6 (f_Lay_ageOf I k f)) 27 11 ((m_up I 27 6 (f_Lay_ageOf I k f)) k 0), J, R)
  refine b_blk (pc' := 12) (ls' := [some (mR (10, 0, 24)), some (mR (3, 0, k)), some (mI f), some (mN), some (mI 0), some (mI 0), none, none]) (st' := []) (S' := (L, m_up (m_up I 27 6 (f_Lay_ageOf I k f)) 27 11 ((m_up I 27 6 (f_Lay_ageOf I k f)) k 0), J, R)) (P := True) [(.iconst 0, (0, 0, 0, 0, 0)), (.istore 5, (0, 0, 0, 0, 0))] [] (by decide +kernel) rfl trivial ?_
  suffices hx : ∀ (w : Int32) (X : MI), l_wf none I k sl f ((I sl 1).toNatClampNeg) = (w, X) → m_B G (m_rm 5 0 0) M_Walker_walkFence (m_is (some (mI ((l_wf none I k sl f (I sl 1).toNatClampNeg).1))) (L, (l_wf none I k sl f (I sl 1).toNatClampNeg).2, J, R)) 0 0 103 [some (mR (10, 0, 24)), some (mR (3, 0, k)), some (mI f), some (mN), some (mI w), some (mI (nI ((I sl 1).toNatClampNeg))), none, none] [] (L, X, J, R) by
    refine m_B_cg ?_ rfl ?_ (loop_up ((I sl 1).toNatClampNeg) (fun n => ∀ (w : Int32) (X : MI), l_wf none I k sl f n = (w, X) → m_B G (m_rm 5 0 0) M_Walker_walkFence (m_is (some (mI ((l_wf none I k sl f (I sl 1).toNatClampNeg).1))) (L, (l_wf none I k sl f (I sl 1).toNatClampNeg).2, J, R)) 0 0 12 [some (mR (10, 0, 24)), some (mR (3, 0, k)), some (mI f), some (mN), some (mI w), some (mI (nI n)), none, none] [] (L, X, J, R)) ?_ ?_ 0 (Nat.zero_le _) 0 (m_up (m_up I 27 6 (f_Lay_ageOf I k f)) 27 11 ((m_up I 27 6 (f_Lay_ageOf I k f)) k 0)) ?_)
    · first | with_reducible rfl | (simp [m_clr, nI_succ, nI_0]; done)
    · first | with_reducible rfl | (simp [m_clr, nI_succ, nI_0]; done)
    · intro w X hh
      refine b_blk (pc' := 21) (ls' := [some (mR (10, 0, 24)), some (mR (3, 0, k)), some (mI f), some (mN), some (mI w), some (mI (nI ((I sl 1).toNatClampNeg))), none, none]) (st' := [mI (X sl 1), mI (nI ((I sl 1).toNatClampNeg))]) (S' := (L, X, J, R)) (P := (True ∧ R 24 1 = some (8, 0, sl))) [(.iload 5, (0, 0, 0, 0, 0)), (.aload_n 0, (0, 0, 0, 0, 0)), (.getfield 18, (10, 1, 3, 0, 0)), (.getfield 85, (8, 1, 0, 0, 0))] [some (8, 0, sl)] (by decide +kernel) rfl ⟨trivial, hs⟩ ?_
      refine b_icmp_ge (off := 82) (tgt := 103) (by decide +kernel) (by decide) (fun h1 => ?_) (fun h1 => ?_)
      · exact hx w X hh
      · exact absurd (by rw [wf_col hd hh]; exact ge_clN _) h1
    · intro n hn ih w X hh
      refine b_blk (pc' := 21) (ls' := [some (mR (10, 0, 24)), some (mR (3, 0, k)), some (mI f), some (mN), some (mI w), some (mI (nI n)), none, none]) (st' := [mI (X sl 1), mI (nI n)]) (S' := (L, X, J, R)) (P := (True ∧ R 24 1 = some (8, 0, sl))) [(.iload 5, (0, 0, 0, 0, 0)), (.aload_n 0, (0, 0, 0, 0, 0)), (.getfield 18, (10, 1, 3, 0, 0)), (.getfield 85, (8, 1, 0, 0, 0))] [some (8, 0, sl)] (by decide +kernel) rfl ⟨trivial, hs⟩ ?_
      refine b_icmp_ge (off := 82) (tgt := 103) (by decide +kernel) (by decide) (fun h2 => ?_) (fun h2 => ?_)
      · exact (wf_ge hd hh hn h2).elim
      · refine b_blk (pc' := 28) (ls' := [some (mR (10, 0, 24)), some (mR (3, 0, k)), some (mI f), some (mN), some (mI w), some (mI (nI n)), none, none]) (st' := [mI (nI n), mI f, mR (3, 0, k)]) (S' := (L, X, J, R)) (P := True) [(.aload_n 1, (0, 0, 0, 0, 0)), (.iload_n 2, (0, 0, 0, 0, 0)), (.iload 5, (0, 0, 0, 0, 0))] [] (by decide +kernel) rfl trivial ?_
        refine b_cV (as := [mI f, mI (nI n)]) (st := []) (by decide +kernel) k_10_101 n_Lay_rowOf rfl (by decide) v_Lay_rowOf (c_Lay_rowOf k f (nI n) (by assumption)) (Nat.le_of_ble_eq_true rfl) (by decide) rfl rfl (fun _ h => h) ?_
        show m_B _ _ _ _ _ _ 31 [some (mR (10, 0, 24)), some (mR (3, 0, k)), some (mI f), some (mN), some (mI w), some (mI (nI n)), none, none] [mI (v_rowOf X k f (nI n))] (L, X, J, R)
        refine b_blk (pc' := 36) (ls' := [some (mR (10, 0, 24)), some (mR (3, 0, k)), some (mI f), some (mN), some (mI w), some (mI (nI n)), some (mI (v_rowOf X k f (nI n))), none]) (st' := [mI (-1), mI (v_rowOf X k f (nI n))]) (S' := (L, X, J, R)) (P := True) [(.istore 6, (0, 0, 0, 0, 0)), (.iload 6, (0, 0, 0, 0, 0)), (.iconst (-1), (0, 0, 0, (-1), 0))] [] (by decide +kernel) rfl trivial ?_
        refine b_icmp_ne (off := 6) (tgt := 42) (by decide +kernel) (by decide) (fun h3 => ?_) (fun h3 => ?_)
        · refine b_blk (pc' := 46) (ls' := [some (mR (10, 0, 24)), some (mR (3, 0, k)), some (mI f), some (mN), some (mI w), some (mI (nI n)), some (mI (v_rowOf X k f (nI n))), none]) (st' := [mI (nI n), mR (3, 0, k), mR (10, 0, 24)]) (S' := (L, X, J, R)) (P := True) [(.aload_n 0, (0, 0, 0, 0, 0)), (.aload_n 1, (0, 0, 0, 0, 0)), (.iload 5, (0, 0, 0, 0, 0))] [] (by decide +kernel) rfl trivial ?_
          refine b_cV (as := [mI (nI n)]) (st := [mR (10, 0, 24)]) (by decide +kernel) k_10_104 n_Lay_postsOf rfl (by decide) v_Lay_postsOf (c_Lay_postsOf k (nI n) (by assumption)) (Nat.le_of_ble_eq_true rfl) (by decide) rfl rfl (fun _ h => h) ?_
          show m_B _ _ _ _ _ _ 49 [some (mR (10, 0, 24)), some (mR (3, 0, k)), some (mI f), some (mN), some (mI w), some (mI (nI n)), some (mI (v_rowOf X k f (nI n))), none] [mI (f_Lay_postsOf X k (nI n)), mR (10, 0, 24)] (L, X, J, R)
          refine b_blk (pc' := 56) (ls' := [some (mR (10, 0, 24)), some (mR (3, 0, k)), some (mI f), some (mN), some (mI w), some (mI (nI n)), some (mI (v_rowOf X k f (nI n))), none]) (st' := [mI (v_rowOf X k f (nI n)), mI (nI n), mR (10, 0, 24), mI (v_rowOf X k f (nI n)), mI (f_Lay_postsOf X k (nI n)), mR (10, 0, 24)]) (S' := (L, X, J, R)) (P := True) [(.iload 6, (0, 0, 0, 0, 0)), (.aload_n 0, (0, 0, 0, 0, 0)), (.iload 5, (0, 0, 0, 0, 0)), (.iload 6, (0, 0, 0, 0, 0))] [] (by decide +kernel) rfl trivial ?_
          refine b_cV (as := [mI (nI n), mI (v_rowOf X k f (nI n))]) (st := [mI (v_rowOf X k f (nI n)), mI (f_Lay_postsOf X k (nI n)), mR (10, 0, 24)]) (by decide +kernel) k_10_107 n_Walker_paces rfl (by decide) v_Walker_paces (c_Walker_paces (nI n) (v_rowOf X k f (nI n)) sl hR hs hsl) (Nat.le_of_ble_eq_true rfl) (by decide) rfl rfl (fun _ h => h) ?_
          show m_B _ _ _ _ _ _ 59 [some (mR (10, 0, 24)), some (mR (3, 0, k)), some (mI f), some (mN), some (mI w), some (mI (nI n)), some (mI (v_rowOf X k f (nI n))), none] [mI (f_Walker_paces X sl (nI n) (v_rowOf X k f (nI n))), mI (v_rowOf X k f (nI n)), mI (f_Lay_postsOf X k (nI n)), mR (10, 0, 24)] (L, gI_Walker_paces X sl (nI n) (v_rowOf X k f (nI n)), J, R)
          refine b_cV (as := [mI (f_Lay_postsOf X k (nI n)), mI (v_rowOf X k f (nI n)), mI (f_Walker_paces X sl (nI n) (v_rowOf X k f (nI n)))]) (st := []) (by decide +kernel) k_10_110 n_Walker_landing rfl (by decide) v_Walker_landing (c_Walker_landing (f_Lay_postsOf X k (nI n)) (v_rowOf X k f (nI n)) (f_Walker_paces X sl (nI n) (v_rowOf X k f (nI n))) sl hR hs hsl) (Nat.le_of_ble_eq_true rfl) (by decide) rfl rfl (fun _ h => h) ?_
          show m_B _ _ _ _ _ _ 62 [some (mR (10, 0, 24)), some (mR (3, 0, k)), some (mI f), some (mN), some (mI w), some (mI (nI n)), some (mI (v_rowOf X k f (nI n))), none] [mI (f_Walker_landing (gI_Walker_paces X sl (nI n) (v_rowOf X k f (nI n))) sl (f_Lay_postsOf X k (nI n)) (v_rowOf X k f (nI n)) (f_Walker_paces X sl (nI n) (v_rowOf X k f (nI n))))] (L, (gI_Walker_paces X sl (nI n) (v_rowOf X k f (nI n))), J, R)
          refine b_blk (pc' := 70) (ls' := [some (mR (10, 0, 24)), some (mR (3, 0, k)), some (mI f), some (mN), some (mI w), some (mI (nI n)), some (mI (v_rowOf X k f (nI n))), some (mI (f_Walker_landing (gI_Walker_paces X sl (nI n) (v_rowOf X k f (nI n))) sl (f_Lay_postsOf X k (nI n)) (v_rowOf X k f (nI n)) (f_Walker_paces X sl (nI n) (v_rowOf X k f (nI n)))))]) (st' := [mI (f_Walker_landing (gI_Walker_paces X sl (nI n) (v_rowOf X k f (nI n))) sl (f_Lay_postsOf X k (nI n)) (v_rowOf X k f (nI n)) (f_Walker_paces X sl (nI n) (v_rowOf X k f (nI n)))), mI (nI n), mI f, mR (3, 0, k)]) (S' := (L, (gI_Walker_paces X sl (nI n) (v_rowOf X k f (nI n))), J, R)) (P := True) [(.istore 7, (0, 0, 0, 0, 0)), (.aload_n 1, (0, 0, 0, 0, 0)), (.iload_n 2, (0, 0, 0, 0, 0)), (.iload 5, (0, 0, 0, 0, 0)), (.iload 7, (0, 0, 0, 0, 0))] [] (by decide +kernel) rfl trivial ?_
          refine b_cV (as := [mI f, mI (nI n), mI (f_Walker_landing (gI_Walker_paces X sl (nI n) (v_rowOf X k f (nI n))) sl (f_Lay_postsOf X k (nI n)) (v_rowOf X k f (nI n)) (f_Walker_paces X sl (nI n) (v_rowOf X k f (nI n))))]) (st := []) (by decide +kernel) k_10_114 n_Lay_putStake rfl (by decide) v_Lay_putStake (c_Lay_putStake k f (nI n) (f_Walker_landing (gI_Walker_paces X sl (nI n) (v_rowOf X k f (nI n))) sl (f_Lay_postsOf X k (nI n)) (v_rowOf X k f (nI n)) (f_Walker_paces X sl (nI n) (v_rowOf X k f (nI n)))) (by assumption)) (Nat.le_of_ble_eq_true rfl) (by decide) rfl rfl (fun _ h => h) ?_
          show m_B _ _ _ _ _ _ 73 [some (mR (10, 0, 24)), some (mR (3, 0, k)), some (mI f), some (mN), some (mI w), some (mI (nI n)), some (mI (v_rowOf X k f (nI n))), some (mI (f_Walker_landing (gI_Walker_paces X sl (nI n) (v_rowOf X k f (nI n))) sl (f_Lay_postsOf X k (nI n)) (v_rowOf X k f (nI n)) (f_Walker_paces X sl (nI n) (v_rowOf X k f (nI n)))))] [] (L, w_putStake (gI_Walker_paces X sl (nI n) (v_rowOf X k f (nI n))) k f (nI n) (f_Walker_landing (gI_Walker_paces X sl (nI n) (v_rowOf X k f (nI n))) sl (f_Lay_postsOf X k (nI n)) (v_rowOf X k f (nI n)) (f_Walker_paces X sl (nI n) (v_rowOf X k f (nI n)))), J, R)
          refine b_blk (pc' := 76) (ls' := [some (mR (10, 0, 24)), some (mR (3, 0, k)), some (mI f), some (mN), some (mI w), some (mI (nI n)), some (mI (v_rowOf X k f (nI n))), some (mI (f_Walker_landing (gI_Walker_paces X sl (nI n) (v_rowOf X k f (nI n))) sl (f_Lay_postsOf X k (nI n)) (v_rowOf X k f (nI n)) (f_Walker_paces X sl (nI n) (v_rowOf X k f (nI n)))))]) (st' := [mI (-1), mI (f_Walker_landing (gI_Walker_paces X sl (nI n) (v_rowOf X k f (nI n))) sl (f_Lay_postsOf X k (nI n)) (v_rowOf X k f (nI n)) (f_Walker_paces X sl (nI n) (v_rowOf X k f (nI n))))]) (S' := (L, w_putStake (gI_Walker_paces X sl (nI n) (v_rowOf X k f (nI n))) k f (nI n) (f_Walker_landing (gI_Walker_paces X sl (nI n) (v_rowOf X k f (nI n))) sl (f_Lay_postsOf X k (nI n)) (v_rowOf X k f (nI n)) (f_Walker_paces X sl (nI n) (v_rowOf X k f (nI n)))), J, R)) (P := True) [(.iload 7, (0, 0, 0, 0, 0)), (.iconst (-1), (0, 0, 0, (-1), 0))] [] (by decide +kernel) rfl trivial ?_
          refine b_icmp_ne (off := 21) (tgt := 97) (by decide +kernel) (by decide) (fun h4 => ?_) (fun h4 => ?_)
          · refine b_blk (pc' := 12) (ls' := [some (mR (10, 0, 24)), some (mR (3, 0, k)), some (mI f), some (mN), some (mI w), some (mI ((nI n) + 1)), some (mI (v_rowOf X k f (nI n))), some (mI (f_Walker_landing (gI_Walker_paces X sl (nI n) (v_rowOf X k f (nI n))) sl (f_Lay_postsOf X k (nI n)) (v_rowOf X k f (nI n)) (f_Walker_paces X sl (nI n) (v_rowOf X k f (nI n)))))]) (st' := []) (S' := (L, w_putStake (gI_Walker_paces X sl (nI n) (v_rowOf X k f (nI n))) k f (nI n) (f_Walker_landing (gI_Walker_paces X sl (nI n) (v_rowOf X k f (nI n))) sl (f_Lay_postsOf X k (nI n)) (v_rowOf X k f (nI n)) (f_Walker_paces X sl (nI n) (v_rowOf X k f (nI n)))), J, R)) (P := True) [(.iinc 5 1, (0, 0, 0, 1, 0)), (.goto (-88), (0, 12, 0, 0, 0))] [] (by decide +kernel) rfl trivial ?_
            refine b_frg 6 ?_
            refine b_frg 7 ?_
            refine m_B_cg ?_ rfl ?_ (ih w (w_putStake (gI_Walker_paces X sl (nI n) (v_rowOf X k f (nI n))) k f (nI n) (f_Walker_landing (gI_Walker_paces X sl (nI n) (v_rowOf X k f (nI n))) sl (f_Lay_postsOf X k (nI n)) (v_rowOf X k f (nI n)) (f_Walker_paces X sl (nI n) (v_rowOf X k f (nI n))))) ?_)
            · first | with_reducible rfl | (simp [m_clr, nI_succ, nI_0]; done)
            · first | with_reducible rfl | (simp [m_clr, nI_succ, nI_0]; done)
            · first | exact wf_e1 hh (by assumption) | exact wf_e2 hh (by assumption) (by assumption) | exact wf_e3 hh (by assumption) (by assumption)
          · refine b_blk (pc' := 83) (ls' := [some (mR (10, 0, 24)), some (mR (3, 0, k)), some (mI f), some (mN), some (mI (w + 1)), some (mI (nI n)), some (mI (v_rowOf X k f (nI n))), some (mI (f_Walker_landing (gI_Walker_paces X sl (nI n) (v_rowOf X k f (nI n))) sl (f_Lay_postsOf X k (nI n)) (v_rowOf X k f (nI n)) (f_Walker_paces X sl (nI n) (v_rowOf X k f (nI n)))))]) (st' := [mN]) (S' := (L, w_putStake (gI_Walker_paces X sl (nI n) (v_rowOf X k f (nI n))) k f (nI n) (f_Walker_landing (gI_Walker_paces X sl (nI n) (v_rowOf X k f (nI n))) sl (f_Lay_postsOf X k (nI n)) (v_rowOf X k f (nI n)) (f_Walker_paces X sl (nI n) (v_rowOf X k f (nI n)))), J, R)) (P := True) [(.iinc 4 1, (0, 0, 0, 1, 0)), (.aload_n 3, (0, 0, 0, 0, 0))] [] (by decide +kernel) rfl trivial ?_
            refine b_ifnull_N (r := (0, 0, 0)) (off := 14) (tgt := 97) (by decide +kernel) (by decide) ?_
            refine b_blk (pc' := 12) (ls' := [some (mR (10, 0, 24)), some (mR (3, 0, k)), some (mI f), some (mN), some (mI (w + 1)), some (mI ((nI n) + 1)), some (mI (v_rowOf X k f (nI n))), some (mI (f_Walker_landing (gI_Walker_paces X sl (nI n) (v_rowOf X k f (nI n))) sl (f_Lay_postsOf X k (nI n)) (v_rowOf X k f (nI n)) (f_Walker_paces X sl (nI n) (v_rowOf X k f (nI n)))))]) (st' := []) (S' := (L, w_putStake (gI_Walker_paces X sl (nI n) (v_rowOf X k f (nI n))) k f (nI n) (f_Walker_landing (gI_Walker_paces X sl (nI n) (v_rowOf X k f (nI n))) sl (f_Lay_postsOf X k (nI n)) (v_rowOf X k f (nI n)) (f_Walker_paces X sl (nI n) (v_rowOf X k f (nI n)))), J, R)) (P := True) [(.iinc 5 1, (0, 0, 0, 1, 0)), (.goto (-88), (0, 12, 0, 0, 0))] [] (by decide +kernel) rfl trivial ?_
            refine b_frg 6 ?_
            refine b_frg 7 ?_
            refine m_B_cg ?_ rfl ?_ (ih (w + 1) (w_putStake (gI_Walker_paces X sl (nI n) (v_rowOf X k f (nI n))) k f (nI n) (f_Walker_landing (gI_Walker_paces X sl (nI n) (v_rowOf X k f (nI n))) sl (f_Lay_postsOf X k (nI n)) (v_rowOf X k f (nI n)) (f_Walker_paces X sl (nI n) (v_rowOf X k f (nI n))))) ?_)
            · first | with_reducible rfl | (simp [m_clr, nI_succ, nI_0]; done)
            · first | with_reducible rfl | (simp [m_clr, nI_succ, nI_0]; done)
            · first | exact wf_e1 hh (by assumption) | exact wf_e2 hh (by assumption) (by assumption) | exact wf_e3 hh (by assumption) (by assumption)
        · refine b_blk (pc' := 97) (ls' := [some (mR (10, 0, 24)), some (mR (3, 0, k)), some (mI f), some (mN), some (mI w), some (mI (nI n)), some (mI (v_rowOf X k f (nI n))), none]) (st' := []) (S' := (L, X, J, R)) (P := True) [(.goto 58, (0, 97, 0, 0, 0))] [] (by decide +kernel) rfl trivial ?_
          refine b_blk (pc' := 12) (ls' := [some (mR (10, 0, 24)), some (mR (3, 0, k)), some (mI f), some (mN), some (mI w), some (mI ((nI n) + 1)), some (mI (v_rowOf X k f (nI n))), none]) (st' := []) (S' := (L, X, J, R)) (P := True) [(.iinc 5 1, (0, 0, 0, 1, 0)), (.goto (-88), (0, 12, 0, 0, 0))] [] (by decide +kernel) rfl trivial ?_
          refine b_frg 6 ?_
          refine m_B_cg ?_ rfl ?_ (ih w X ?_)
          · first | with_reducible rfl | (simp [m_clr, nI_succ, nI_0]; done)
          · first | with_reducible rfl | (simp [m_clr, nI_succ, nI_0]; done)
          · first | exact wf_e1 hh (by assumption) | exact wf_e2 hh (by assumption) (by assumption) | exact wf_e3 hh (by assumption) (by assumption)
    · rfl
  intro w X hh
  refine b_blk (pc' := 105) (ls' := [some (mR (10, 0, 24)), some (mR (3, 0, k)), some (mI f), some (mN), some (mI w), some (mI (nI ((I sl 1).toNatClampNeg))), none, none]) (st' := [mI w]) (S' := (L, X, J, R)) (P := True) [(.iload 4, (0, 0, 0, 0, 0))] [] (by decide +kernel) rfl trivial ?_
  refine b_iret (by decide +kernel) rfl ⟨?_, ?_⟩
  · rw [hh]
  · rw [hh]
set_option maxRecDepth 100000 in
set_option maxHeartbeats 4000000 in
theorem c_Walker_walkFence_L {G : MG} {L : List (Nat × Nat)} {I : Nat → Nat → Int32} {J : Nat → Nat → Int64} {R : Nat → Nat → Option MRef} (k : Nat) (f : Int32) (g : Nat) (sl : Nat) (hR : RF R) (hs : R 24 1 = some (8, 0, sl)) (hsl : SlopeR R sl) (hk : LayR R k) (hg : LogR R g) (hd : ¬ FP k (some g) sl) : m_met G 5 0 0 y_Walker_walkFence M_Walker_walkFence [mR (10, 0, 24), mR (3, 0, k), mI f, mR (4, 0, g)] (L, I, J, R) (m_is (some (mI ((l_wf (some g) I k sl f (I sl 1).toNatClampNeg).1))) (L, (l_wf (some g) I k sl f (I sl 1).toNatClampNeg).2, J, R)) := by
  refine m_met_in n_Walker_walkFence (plainFor_of_name (by decide)) (by decide) (Nat.le_of_ble_eq_true rfl) (ls := [some (mR (10, 0, 24)), some (mR (3, 0, k)), some (mI f), some (mR (4, 0, g)), none, none, none, none]) rfl ?_
  refine b_blk (pc' := 6) (ls' := [some (mR (10, 0, 24)), some (mR (3, 0, k)), some (mI f), some (mR (4, 0, g)), some (mI 0), none, none, none]) (st' := [mI f, mR (3, 0, k), mR (10, 0, 24)]) (S' := (L, I, J, R)) (P := True) [(.iconst 0, (0, 0, 0, 0, 0)), (.istore 4, (0, 0, 0, 0, 0)), (.aload_n 0, (0, 0, 0, 0, 0)), (.aload_n 1, (0, 0, 0, 0, 0)), (.iload_n 2, (0, 0, 0, 0, 0))] [] (by decide +kernel) rfl trivial ?_
  refine b_cV (as := [mR (3, 0, k), mI f]) (st := []) (by decide +kernel) k_10_97 n_Walker_face rfl (by decide) v_Walker_face (c_Walker_face k f hR (by assumption)) (Nat.le_of_ble_eq_true rfl) (by decide) rfl rfl (fun _ h => h) ?_
  show m_B _ _ _ _ _ _ 9 [some (mR (10, 0, 24)), some (mR (3, 0, k)), some (mI f), some (mR (4, 0, g)), some (mI 0), none, none, none] [] (L, m_up (m_up I 27 6 (f_Lay_ageOf I k f)) 27 11 ((m_up I 27 6 (f_Lay_ageOf I k f)) k 0), J, R)
  refine b_blk (pc' := 12) (ls' := [some (mR (10, 0, 24)), some (mR (3, 0, k)), some (mI f), some (mR (4, 0, g)), some (mI 0), some (mI 0), none, none]) (st' := []) (S' := (L, m_up (m_up I 27 6 (f_Lay_ageOf I k f)) 27 11 ((m_up I 27 6 (f_Lay_ageOf I k f)) k 0), J, R)) (P := True) [(.iconst 0, (0, 0, 0, 0, 0)), (.istore 5, (0, 0, 0, 0, 0))] [] (by decide +kernel) rfl trivial ?_
  suffices hx : ∀ (w : Int32) (X : MI), l_wf (some g) I k sl f ((I sl 1).toNatClampNeg) = (w, X) → m_B G (m_rm 5 0 0) M_Walker_walkFence (m_is (some (mI ((l_wf (some g) I k sl f (I sl 1).toNatClampNeg).1))) (L, (l_wf (some g) I k sl f (I sl 1).toNatClampNeg).2, J, R)) 0 0 103 [some (mR (10, 0, 24)), some (mR (3, 0, k)), some (mI f), some (mR (4, 0, g)), some (mI w), some (mI (nI ((I sl 1).toNatClampNeg))), none, none] [] (L, X, J, R) by
    refine m_B_cg ?_ rfl ?_ (loop_up ((I sl 1).toNatClampNeg) (fun n => ∀ (w : Int32) (X : MI), l_wf (some g) I k sl f n = (w, X) → m_B G (m_rm 5 0 0) M_Walker_walkFence (m_is (some (mI ((l_wf (some g) I k sl f (I sl 1).toNatClampNeg).1))) (L, (l_wf (some g) I k sl f (I sl 1).toNatClampNeg).2, J, R)) 0 0 12 [some (mR (10, 0, 24)), some (mR (3, 0, k)), some (mI f), some (mR (4, 0, g)), some (mI w), some (mI (nI n)), none, none] [] (L, X, J, R)) ?_ ?_ 0 (Nat.zero_le _) 0 (m_up (m_up I 27 6 (f_Lay_ageOf I k f)) 27 11 ((m_up I 27 6 (f_Lay_ageOf I k f)) k 0)) ?_)
    · first | with_reducible rfl | (simp [m_clr, nI_succ, nI_0]; done)
    · first | with_reducible rfl | (simp [m_clr, nI_succ, nI_0]; done)
    · intro w X hh
      refine b_blk (pc' := 21) (ls' := [some (mR (10, 0, 24)), some (mR (3, 0, k)), some (mI f), some (mR (4, 0, g)), some (mI w), some (mI (nI ((I sl 1).toNatClampNeg))), none, none]) (st' := [mI (X sl 1), mI (nI ((I sl 1).toNatClampNeg))]) (S' := (L, X, J, R)) (P := (True ∧ R 24 1 = some (8, 0, sl))) [(.iload 5, (0, 0, 0, 0, 0)), (.aload_n 0, (0, 0, 0, 0, 0)), (.getfield 18, (10, 1, 3, 0, 0)), (.getfield 85, (8, 1, 0, 0, 0))] [some (8, 0, sl)] (by decide +kernel) rfl ⟨trivial, hs⟩ ?_
      refine b_icmp_ge (off := 82) (tgt := 103) (by decide +kernel) (by decide) (fun h1 => ?_) (fun h1 => ?_)
      · exact hx w X hh
      · exact absurd (by rw [wf_col hd hh]; exact ge_clN _) h1
    · intro n hn ih w X hh
      refine b_blk (pc' := 21) (ls' := [some (mR (10, 0, 24)), some (mR (3, 0, k)), some (mI f), some (mR (4, 0, g)), some (mI w), some (mI (nI n)), none, none]) (st' := [mI (X sl 1), mI (nI n)]) (S' := (L, X, J, R)) (P := (True ∧ R 24 1 = some (8, 0, sl))) [(.iload 5, (0, 0, 0, 0, 0)), (.aload_n 0, (0, 0, 0, 0, 0)), (.getfield 18, (10, 1, 3, 0, 0)), (.getfield 85, (8, 1, 0, 0, 0))] [some (8, 0, sl)] (by decide +kernel) rfl ⟨trivial, hs⟩ ?_
      refine b_icmp_ge (off := 82) (tgt := 103) (by decide +kernel) (by decide) (fun h2 => ?_) (fun h2 => ?_)
      · exact (wf_ge hd hh hn h2).elim
      · refine b_blk (pc' := 28) (ls' := [some (mR (10, 0, 24)), some (mR (3, 0, k)), some (mI f), some (mR (4, 0, g)), some (mI w), some (mI (nI n)), none, none]) (st' := [mI (nI n), mI f, mR (3, 0, k)]) (S' := (L, X, J, R)) (P := True) [(.aload_n 1, (0, 0, 0, 0, 0)), (.iload_n 2, (0, 0, 0, 0, 0)), (.iload 5, (0, 0, 0, 0, 0))] [] (by decide +kernel) rfl trivial ?_
        refine b_cV (as := [mI f, mI (nI n)]) (st := []) (by decide +kernel) k_10_101 n_Lay_rowOf rfl (by decide) v_Lay_rowOf (c_Lay_rowOf k f (nI n) (by assumption)) (Nat.le_of_ble_eq_true rfl) (by decide) rfl rfl (fun _ h => h) ?_
        show m_B _ _ _ _ _ _ 31 [some (mR (10, 0, 24)), some (mR (3, 0, k)), some (mI f), some (mR (4, 0, g)), some (mI w), some (mI (nI n)), none, none] [mI (v_rowOf X k f (nI n))] (L, X, J, R)
        refine b_blk (pc' := 36) (ls' := [some (mR (10, 0, 24)), some (mR (3, 0, k)), some (mI f), some (mR (4, 0, g)), some (mI w), some (mI (nI n)), some (mI (v_rowOf X k f (nI n))), none]) (st' := [mI (-1), mI (v_rowOf X k f (nI n))]) (S' := (L, X, J, R)) (P := True) [(.istore 6, (0, 0, 0, 0, 0)), (.iload 6, (0, 0, 0, 0, 0)), (.iconst (-1), (0, 0, 0, (-1), 0))] [] (by decide +kernel) rfl trivial ?_
        refine b_icmp_ne (off := 6) (tgt := 42) (by decide +kernel) (by decide) (fun h3 => ?_) (fun h3 => ?_)
        · refine b_blk (pc' := 46) (ls' := [some (mR (10, 0, 24)), some (mR (3, 0, k)), some (mI f), some (mR (4, 0, g)), some (mI w), some (mI (nI n)), some (mI (v_rowOf X k f (nI n))), none]) (st' := [mI (nI n), mR (3, 0, k), mR (10, 0, 24)]) (S' := (L, X, J, R)) (P := True) [(.aload_n 0, (0, 0, 0, 0, 0)), (.aload_n 1, (0, 0, 0, 0, 0)), (.iload 5, (0, 0, 0, 0, 0))] [] (by decide +kernel) rfl trivial ?_
          refine b_cV (as := [mI (nI n)]) (st := [mR (10, 0, 24)]) (by decide +kernel) k_10_104 n_Lay_postsOf rfl (by decide) v_Lay_postsOf (c_Lay_postsOf k (nI n) (by assumption)) (Nat.le_of_ble_eq_true rfl) (by decide) rfl rfl (fun _ h => h) ?_
          show m_B _ _ _ _ _ _ 49 [some (mR (10, 0, 24)), some (mR (3, 0, k)), some (mI f), some (mR (4, 0, g)), some (mI w), some (mI (nI n)), some (mI (v_rowOf X k f (nI n))), none] [mI (f_Lay_postsOf X k (nI n)), mR (10, 0, 24)] (L, X, J, R)
          refine b_blk (pc' := 56) (ls' := [some (mR (10, 0, 24)), some (mR (3, 0, k)), some (mI f), some (mR (4, 0, g)), some (mI w), some (mI (nI n)), some (mI (v_rowOf X k f (nI n))), none]) (st' := [mI (v_rowOf X k f (nI n)), mI (nI n), mR (10, 0, 24), mI (v_rowOf X k f (nI n)), mI (f_Lay_postsOf X k (nI n)), mR (10, 0, 24)]) (S' := (L, X, J, R)) (P := True) [(.iload 6, (0, 0, 0, 0, 0)), (.aload_n 0, (0, 0, 0, 0, 0)), (.iload 5, (0, 0, 0, 0, 0)), (.iload 6, (0, 0, 0, 0, 0))] [] (by decide +kernel) rfl trivial ?_
          refine b_cV (as := [mI (nI n), mI (v_rowOf X k f (nI n))]) (st := [mI (v_rowOf X k f (nI n)), mI (f_Lay_postsOf X k (nI n)), mR (10, 0, 24)]) (by decide +kernel) k_10_107 n_Walker_paces rfl (by decide) v_Walker_paces (c_Walker_paces (nI n) (v_rowOf X k f (nI n)) sl hR hs hsl) (Nat.le_of_ble_eq_true rfl) (by decide) rfl rfl (fun _ h => h) ?_
          show m_B _ _ _ _ _ _ 59 [some (mR (10, 0, 24)), some (mR (3, 0, k)), some (mI f), some (mR (4, 0, g)), some (mI w), some (mI (nI n)), some (mI (v_rowOf X k f (nI n))), none] [mI (f_Walker_paces X sl (nI n) (v_rowOf X k f (nI n))), mI (v_rowOf X k f (nI n)), mI (f_Lay_postsOf X k (nI n)), mR (10, 0, 24)] (L, gI_Walker_paces X sl (nI n) (v_rowOf X k f (nI n)), J, R)
          refine b_cV (as := [mI (f_Lay_postsOf X k (nI n)), mI (v_rowOf X k f (nI n)), mI (f_Walker_paces X sl (nI n) (v_rowOf X k f (nI n)))]) (st := []) (by decide +kernel) k_10_110 n_Walker_landing rfl (by decide) v_Walker_landing (c_Walker_landing (f_Lay_postsOf X k (nI n)) (v_rowOf X k f (nI n)) (f_Walker_paces X sl (nI n) (v_rowOf X k f (nI n))) sl hR hs hsl) (Nat.le_of_ble_eq_true rfl) (by decide) rfl rfl (fun _ h => h) ?_
          show m_B _ _ _ _ _ _ 62 [some (mR (10, 0, 24)), some (mR (3, 0, k)), some (mI f), some (mR (4, 0, g)), some (mI w), some (mI (nI n)), some (mI (v_rowOf X k f (nI n))), none] [mI (f_Walker_landing (gI_Walker_paces X sl (nI n) (v_rowOf X k f (nI n))) sl (f_Lay_postsOf X k (nI n)) (v_rowOf X k f (nI n)) (f_Walker_paces X sl (nI n) (v_rowOf X k f (nI n))))] (L, (gI_Walker_paces X sl (nI n) (v_rowOf X k f (nI n))), J, R)
          refine b_blk (pc' := 70) (ls' := [some (mR (10, 0, 24)), some (mR (3, 0, k)), some (mI f), some (mR (4, 0, g)), some (mI w), some (mI (nI n)), some (mI (v_rowOf X k f (nI n))), some (mI (f_Walker_landing (gI_Walker_paces X sl (nI n) (v_rowOf X k f (nI n))) sl (f_Lay_postsOf X k (nI n)) (v_rowOf X k f (nI n)) (f_Walker_paces X sl (nI n) (v_rowOf X k f (nI n)))))]) (st' := [mI (f_Walker_landing (gI_Walker_paces X sl (nI n) (v_rowOf X k f (nI n))) sl (f_Lay_postsOf X k (nI n)) (v_rowOf X k f (nI n)) (f_Walker_paces X sl (nI n) (v_rowOf X k f (nI n)))), mI (nI n), mI f, mR (3, 0, k)]) (S' := (L, (gI_Walker_paces X sl (nI n) (v_rowOf X k f (nI n))), J, R)) (P := True) [(.istore 7, (0, 0, 0, 0, 0)), (.aload_n 1, (0, 0, 0, 0, 0)), (.iload_n 2, (0, 0, 0, 0, 0)), (.iload 5, (0, 0, 0, 0, 0)), (.iload 7, (0, 0, 0, 0, 0))] [] (by decide +kernel) rfl trivial ?_
          refine b_cV (as := [mI f, mI (nI n), mI (f_Walker_landing (gI_Walker_paces X sl (nI n) (v_rowOf X k f (nI n))) sl (f_Lay_postsOf X k (nI n)) (v_rowOf X k f (nI n)) (f_Walker_paces X sl (nI n) (v_rowOf X k f (nI n))))]) (st := []) (by decide +kernel) k_10_114 n_Lay_putStake rfl (by decide) v_Lay_putStake (c_Lay_putStake k f (nI n) (f_Walker_landing (gI_Walker_paces X sl (nI n) (v_rowOf X k f (nI n))) sl (f_Lay_postsOf X k (nI n)) (v_rowOf X k f (nI n)) (f_Walker_paces X sl (nI n) (v_rowOf X k f (nI n)))) (by assumption)) (Nat.le_of_ble_eq_true rfl) (by decide) rfl rfl (fun _ h => h) ?_
          show m_B _ _ _ _ _ _ 73 [some (mR (10, 0, 24)), some (mR (3, 0, k)), some (mI f), some (mR (4, 0, g)), some (mI w), some (mI (nI n)), some (mI (v_rowOf X k f (nI n))), some (mI (f_Walker_landing (gI_Walker_paces X sl (nI n) (v_rowOf X k f (nI n))) sl (f_Lay_postsOf X k (nI n)) (v_rowOf X k f (nI n)) (f_Walker_paces X sl (nI n) (v_rowOf X k f (nI n)))))] [] (L, w_putStake (gI_Walker_paces X sl (nI n) (v_rowOf X k f (nI n))) k f (nI n) (f_Walker_landing (gI_Walker_paces X sl (nI n) (v_rowOf X k f (nI n))) sl (f_Lay_postsOf X k (nI n)) (v_rowOf X k f (nI n)) (f_Walker_paces X sl (nI n) (v_rowOf X k f (nI n)))), J, R)
          refine b_blk (pc' := 76) (ls' := [some (mR (10, 0, 24)), some (mR (3, 0, k)), some (mI f), some (mR (4, 0, g)), some (mI w), some (mI (nI n)), some (mI (v_rowOf X k f (nI n))), some (mI (f_Walker_landing (gI_Walker_paces X sl (nI n) (v_rowOf X k f (nI n))) sl (f_Lay_postsOf X k (nI n)) (v_rowOf X k f (nI n)) (f_Walker_paces X sl (nI n) (v_rowOf X k f (nI n)))))]) (st' := [mI (-1), mI (f_Walker_landing (gI_Walker_paces X sl (nI n) (v_rowOf X k f (nI n))) sl (f_Lay_postsOf X k (nI n)) (v_rowOf X k f (nI n)) (f_Walker_paces X sl (nI n) (v_rowOf X k f (nI n))))]) (S' := (L, w_putStake (gI_Walker_paces X sl (nI n) (v_rowOf X k f (nI n))) k f (nI n) (f_Walker_landing (gI_Walker_paces X sl (nI n) (v_rowOf X k f (nI n))) sl (f_Lay_postsOf X k (nI n)) (v_rowOf X k f (nI n)) (f_Walker_paces X sl (nI n) (v_rowOf X k f (nI n)))), J, R)) (P := True) [(.iload 7, (0, 0, 0, 0, 0)), (.iconst (-1), (0, 0, 0, (-1), 0))] [] (by decide +kernel) rfl trivial ?_
          refine b_icmp_ne (off := 21) (tgt := 97) (by decide +kernel) (by decide) (fun h4 => ?_) (fun h4 => ?_)
          · refine b_blk (pc' := 12) (ls' := [some (mR (10, 0, 24)), some (mR (3, 0, k)), some (mI f), some (mR (4, 0, g)), some (mI w), some (mI ((nI n) + 1)), some (mI (v_rowOf X k f (nI n))), some (mI (f_Walker_landing (gI_Walker_paces X sl (nI n) (v_rowOf X k f (nI n))) sl (f_Lay_postsOf X k (nI n)) (v_rowOf X k f (nI n)) (f_Walker_paces X sl (nI n) (v_rowOf X k f (nI n)))))]) (st' := []) (S' := (L, w_putStake (gI_Walker_paces X sl (nI n) (v_rowOf X k f (nI n))) k f (nI n) (f_Walker_landing (gI_Walker_paces X sl (nI n) (v_rowOf X k f (nI n))) sl (f_Lay_postsOf X k (nI n)) (v_rowOf X k f (nI n)) (f_Walker_paces X sl (nI n) (v_rowOf X k f (nI n)))), J, R)) (P := True) [(.iinc 5 1, (0, 0, 0, 1, 0)), (.goto (-88), (0, 12, 0, 0, 0))] [] (by decide +kernel) rfl trivial ?_
            refine b_frg 6 ?_
            refine b_frg 7 ?_
            refine m_B_cg ?_ rfl ?_ (ih w (w_putStake (gI_Walker_paces X sl (nI n) (v_rowOf X k f (nI n))) k f (nI n) (f_Walker_landing (gI_Walker_paces X sl (nI n) (v_rowOf X k f (nI n))) sl (f_Lay_postsOf X k (nI n)) (v_rowOf X k f (nI n)) (f_Walker_paces X sl (nI n) (v_rowOf X k f (nI n))))) ?_)
            · first | with_reducible rfl | (simp [m_clr, nI_succ, nI_0]; done)
            · first | with_reducible rfl | (simp [m_clr, nI_succ, nI_0]; done)
            · first | exact wf_e1 hh (by assumption) | exact wf_e2 hh (by assumption) (by assumption) | exact wf_e3 hh (by assumption) (by assumption)
          · refine b_blk (pc' := 83) (ls' := [some (mR (10, 0, 24)), some (mR (3, 0, k)), some (mI f), some (mR (4, 0, g)), some (mI (w + 1)), some (mI (nI n)), some (mI (v_rowOf X k f (nI n))), some (mI (f_Walker_landing (gI_Walker_paces X sl (nI n) (v_rowOf X k f (nI n))) sl (f_Lay_postsOf X k (nI n)) (v_rowOf X k f (nI n)) (f_Walker_paces X sl (nI n) (v_rowOf X k f (nI n)))))]) (st' := [mR (4, 0, g)]) (S' := (L, w_putStake (gI_Walker_paces X sl (nI n) (v_rowOf X k f (nI n))) k f (nI n) (f_Walker_landing (gI_Walker_paces X sl (nI n) (v_rowOf X k f (nI n))) sl (f_Lay_postsOf X k (nI n)) (v_rowOf X k f (nI n)) (f_Walker_paces X sl (nI n) (v_rowOf X k f (nI n)))), J, R)) (P := True) [(.iinc 4 1, (0, 0, 0, 1, 0)), (.aload_n 3, (0, 0, 0, 0, 0))] [] (by decide +kernel) rfl trivial ?_
            refine b_ifnull_R (off := 14) (tgt := 97) (by decide +kernel) (by decide) ?_
            refine b_blk (pc' := 94) (ls' := [some (mR (10, 0, 24)), some (mR (3, 0, k)), some (mI f), some (mR (4, 0, g)), some (mI (w + 1)), some (mI (nI n)), some (mI (v_rowOf X k f (nI n))), some (mI (f_Walker_landing (gI_Walker_paces X sl (nI n) (v_rowOf X k f (nI n))) sl (f_Lay_postsOf X k (nI n)) (v_rowOf X k f (nI n)) (f_Walker_paces X sl (nI n) (v_rowOf X k f (nI n)))))]) (st' := [mI (nI n), mI f, mI ((w_putStake (gI_Walker_paces X sl (nI n) (v_rowOf X k f (nI n))) k f (nI n) (f_Walker_landing (gI_Walker_paces X sl (nI n) (v_rowOf X k f (nI n))) sl (f_Lay_postsOf X k (nI n)) (v_rowOf X k f (nI n)) (f_Walker_paces X sl (nI n) (v_rowOf X k f (nI n))))) k 0), mR (4, 0, g)]) (S' := (L, w_putStake (gI_Walker_paces X sl (nI n) (v_rowOf X k f (nI n))) k f (nI n) (f_Walker_landing (gI_Walker_paces X sl (nI n) (v_rowOf X k f (nI n))) sl (f_Lay_postsOf X k (nI n)) (v_rowOf X k f (nI n)) (f_Walker_paces X sl (nI n) (v_rowOf X k f (nI n)))), J, R)) (P := True) [(.aload_n 3, (0, 0, 0, 0, 0)), (.aload_n 1, (0, 0, 0, 0, 0)), (.getfield 32, (3, 0, 0, 0, 0)), (.iload_n 2, (0, 0, 0, 0, 0)), (.iload 5, (0, 0, 0, 0, 0))] [] (by decide +kernel) rfl trivial ?_
            refine b_cV (as := [mI ((w_putStake (gI_Walker_paces X sl (nI n) (v_rowOf X k f (nI n))) k f (nI n) (f_Walker_landing (gI_Walker_paces X sl (nI n) (v_rowOf X k f (nI n))) sl (f_Lay_postsOf X k (nI n)) (v_rowOf X k f (nI n)) (f_Walker_paces X sl (nI n) (v_rowOf X k f (nI n))))) k 0), mI f, mI (nI n)]) (st := []) (by decide +kernel) k_10_91 n_Log_note rfl (by decide) v_Log_note (c_Log_note g ((w_putStake (gI_Walker_paces X sl (nI n) (v_rowOf X k f (nI n))) k f (nI n) (f_Walker_landing (gI_Walker_paces X sl (nI n) (v_rowOf X k f (nI n))) sl (f_Lay_postsOf X k (nI n)) (v_rowOf X k f (nI n)) (f_Walker_paces X sl (nI n) (v_rowOf X k f (nI n))))) k 0) f (nI n) (by assumption)) (Nat.le_of_ble_eq_true rfl) (by decide) rfl rfl (fun _ h => h) ?_
            show m_B _ _ _ _ _ _ 97 [some (mR (10, 0, 24)), some (mR (3, 0, k)), some (mI f), some (mR (4, 0, g)), some (mI (w + 1)), some (mI (nI n)), some (mI (v_rowOf X k f (nI n))), some (mI (f_Walker_landing (gI_Walker_paces X sl (nI n) (v_rowOf X k f (nI n))) sl (f_Lay_postsOf X k (nI n)) (v_rowOf X k f (nI n)) (f_Walker_paces X sl (nI n) (v_rowOf X k f (nI n)))))] [] (L, gI_Log_note (w_putStake (gI_Walker_paces X sl (nI n) (v_rowOf X k f (nI n))) k f (nI n) (f_Walker_landing (gI_Walker_paces X sl (nI n) (v_rowOf X k f (nI n))) sl (f_Lay_postsOf X k (nI n)) (v_rowOf X k f (nI n)) (f_Walker_paces X sl (nI n) (v_rowOf X k f (nI n))))) g ((w_putStake (gI_Walker_paces X sl (nI n) (v_rowOf X k f (nI n))) k f (nI n) (f_Walker_landing (gI_Walker_paces X sl (nI n) (v_rowOf X k f (nI n))) sl (f_Lay_postsOf X k (nI n)) (v_rowOf X k f (nI n)) (f_Walker_paces X sl (nI n) (v_rowOf X k f (nI n))))) k 0) f (nI n), J, R)
            refine b_blk (pc' := 12) (ls' := [some (mR (10, 0, 24)), some (mR (3, 0, k)), some (mI f), some (mR (4, 0, g)), some (mI (w + 1)), some (mI ((nI n) + 1)), some (mI (v_rowOf X k f (nI n))), some (mI (f_Walker_landing (gI_Walker_paces X sl (nI n) (v_rowOf X k f (nI n))) sl (f_Lay_postsOf X k (nI n)) (v_rowOf X k f (nI n)) (f_Walker_paces X sl (nI n) (v_rowOf X k f (nI n)))))]) (st' := []) (S' := (L, gI_Log_note (w_putStake (gI_Walker_paces X sl (nI n) (v_rowOf X k f (nI n))) k f (nI n) (f_Walker_landing (gI_Walker_paces X sl (nI n) (v_rowOf X k f (nI n))) sl (f_Lay_postsOf X k (nI n)) (v_rowOf X k f (nI n)) (f_Walker_paces X sl (nI n) (v_rowOf X k f (nI n))))) g ((w_putStake (gI_Walker_paces X sl (nI n) (v_rowOf X k f (nI n))) k f (nI n) (f_Walker_landing (gI_Walker_paces X sl (nI n) (v_rowOf X k f (nI n))) sl (f_Lay_postsOf X k (nI n)) (v_rowOf X k f (nI n)) (f_Walker_paces X sl (nI n) (v_rowOf X k f (nI n))))) k 0) f (nI n), J, R)) (P := True) [(.iinc 5 1, (0, 0, 0, 1, 0)), (.goto (-88), (0, 12, 0, 0, 0))] [] (by decide +kernel) rfl trivial ?_
            refine b_frg 6 ?_
            refine b_frg 7 ?_
            refine m_B_cg ?_ rfl ?_ (ih (w + 1) (gI_Log_note (w_putStake (gI_Walker_paces X sl (nI n) (v_rowOf X k f (nI n))) k f (nI n) (f_Walker_landing (gI_Walker_paces X sl (nI n) (v_rowOf X k f (nI n))) sl (f_Lay_postsOf X k (nI n)) (v_rowOf X k f (nI n)) (f_Walker_paces X sl (nI n) (v_rowOf X k f (nI n))))) g ((w_putStake (gI_Walker_paces X sl (nI n) (v_rowOf X k f (nI n))) k f (nI n) (f_Walker_landing (gI_Walker_paces X sl (nI n) (v_rowOf X k f (nI n))) sl (f_Lay_postsOf X k (nI n)) (v_rowOf X k f (nI n)) (f_Walker_paces X sl (nI n) (v_rowOf X k f (nI n))))) k 0) f (nI n)) ?_)
            · first | with_reducible rfl | (simp [m_clr, nI_succ, nI_0]; done)
            · first | with_reducible rfl | (simp [m_clr, nI_succ, nI_0]; done)
            · first | exact wf_e1 hh (by assumption) | exact wf_e2 hh (by assumption) (by assumption) | exact wf_e3 hh (by assumption) (by assumption)
        · refine b_blk (pc' := 97) (ls' := [some (mR (10, 0, 24)), some (mR (3, 0, k)), some (mI f), some (mR (4, 0, g)), some (mI w), some (mI (nI n)), some (mI (v_rowOf X k f (nI n))), none]) (st' := []) (S' := (L, X, J, R)) (P := True) [(.goto 58, (0, 97, 0, 0, 0))] [] (by decide +kernel) rfl trivial ?_
          refine b_blk (pc' := 12) (ls' := [some (mR (10, 0, 24)), some (mR (3, 0, k)), some (mI f), some (mR (4, 0, g)), some (mI w), some (mI ((nI n) + 1)), some (mI (v_rowOf X k f (nI n))), none]) (st' := []) (S' := (L, X, J, R)) (P := True) [(.iinc 5 1, (0, 0, 0, 1, 0)), (.goto (-88), (0, 12, 0, 0, 0))] [] (by decide +kernel) rfl trivial ?_
          refine b_frg 6 ?_
          refine m_B_cg ?_ rfl ?_ (ih w X ?_)
          · first | with_reducible rfl | (simp [m_clr, nI_succ, nI_0]; done)
          · first | with_reducible rfl | (simp [m_clr, nI_succ, nI_0]; done)
          · first | exact wf_e1 hh (by assumption) | exact wf_e2 hh (by assumption) (by assumption) | exact wf_e3 hh (by assumption) (by assumption)
    · rfl
  intro w X hh
  refine b_blk (pc' := 105) (ls' := [some (mR (10, 0, 24)), some (mR (3, 0, k)), some (mI f), some (mR (4, 0, g)), some (mI w), some (mI (nI ((I sl 1).toNatClampNeg))), none, none]) (st' := [mI w]) (S' := (L, X, J, R)) (P := True) [(.iload 4, (0, 0, 0, 0, 0))] [] (by decide +kernel) rfl trivial ?_
  refine b_iret (by decide +kernel) rfl ⟨?_, ?_⟩
  · rw [hh]
  · rw [hh]
