/-! a block of plain instructions -/
section MK
variable {G : MG} {R : Room} {M : MM} {Q : Option MV → MS → Prop} {rc rs : Nat}
/-- the judgement at a place of the small machine -/
abbrev m_BX (G : MG) (R : Room) (M : MM) (Q : Option MV → MS → Prop) (rc rs : Nat) (x : MX) : Prop := m_B G R M Q rc rs x.1 x.2.1 x.2.2.1 x.2.2.2.1
set_option maxHeartbeats 4000000 in
theorem m_one {i : Instr} {a : MA} {r0 : Option MRef} {x y : MX} (hd : decode M.2.1 x.1 = .ok (i, m_il i)) (ha : m_okB M.1 M.2.2.1 x.1 i a M.2.2.2.2 = true) (hs : m_step i a r0 x = some y) : (y.2.2.2.2 → x.2.2.2.2) ∧ y.1 = m_nx x.1 i a ∧ (y.2.2.2.2 → m_BX G R M Q rc rs y → m_BX G R M Q rc rs x) := by
  obtain ⟨pc, ls, st, S, Pr⟩ := x
  cases i with
  | iload_n k =>
    simp only [m_step, m_ldI] at hs
    split at hs
    · rename_i v hg
      cases hs
      exact ⟨id, rfl, fun _ h => b_iload_n hd hg h⟩
    · cases hs
  | iload k =>
    simp only [m_step, m_ldI] at hs
    split at hs
    · rename_i v hg
      cases hs
      exact ⟨id, rfl, fun _ h => b_iload hd hg h⟩
    · cases hs
  | lload_n k =>
    simp only [m_step, m_ldJ] at hs
    split at hs
    · rename_i v hg
      cases hs
      exact ⟨id, rfl, fun _ h => b_lload_n hd hg h⟩
    · cases hs
  | lload k =>
    simp only [m_step, m_ldJ] at hs
    split at hs
    · rename_i v hg
      cases hs
      exact ⟨id, rfl, fun _ h => b_lload hd hg h⟩
    · cases hs
  | aload_n k =>
    simp only [m_step, m_ldR] at hs
    split at hs
    · rename_i v hg
      cases hs
      exact ⟨id, rfl, fun _ h => b_aload_n hd hg h⟩
    · cases hs
  | aload k =>
    simp only [m_step, m_ldR] at hs
    split at hs
    · rename_i v hg
      cases hs
      exact ⟨id, rfl, fun _ h => b_aload hd hg h⟩
    · cases hs
  | istore_n k =>
    simp only [m_okB, decide_eq_true_eq] at ha
    match st, hs with
    | .inl (.inl v) :: st, hs => cases hs; exact ⟨id, rfl, fun _ h => b_istore_n hd ha h⟩
    | .inl (.inr v) :: st, hs => cases hs
    | .inr v :: st, hs => cases hs
    | [], hs => cases hs
  | istore k =>
    simp only [m_okB, decide_eq_true_eq] at ha
    match st, hs with
    | .inl (.inl v) :: st, hs => cases hs; exact ⟨id, rfl, fun _ h => b_istore hd ha h⟩
    | .inl (.inr v) :: st, hs => cases hs
    | .inr v :: st, hs => cases hs
    | [], hs => cases hs
  | lstore_n k =>
    simp only [m_okB, decide_eq_true_eq] at ha
    match st, hs with
    | .inl (.inl v) :: st, hs => cases hs
    | .inl (.inr v) :: st, hs => cases hs; exact ⟨id, rfl, fun _ h => b_lstore_n hd ha h⟩
    | .inr v :: st, hs => cases hs
    | [], hs => cases hs
  | lstore k =>
    simp only [m_okB, decide_eq_true_eq] at ha
    match st, hs with
    | .inl (.inl v) :: st, hs => cases hs
    | .inl (.inr v) :: st, hs => cases hs; exact ⟨id, rfl, fun _ h => b_lstore hd ha h⟩
    | .inr v :: st, hs => cases hs
    | [], hs => cases hs
  | astore_n k =>
    simp only [m_okB, decide_eq_true_eq] at ha
    match st, hs with
    | .inl (.inl v) :: st, hs => cases hs
    | .inl (.inr v) :: st, hs => cases hs
    | .inr v :: st, hs => cases hs; exact ⟨id, rfl, fun _ h => b_astore_n hd ha h⟩
    | [], hs => cases hs
  | astore k =>
    simp only [m_okB, decide_eq_true_eq] at ha
    match st, hs with
    | .inl (.inl v) :: st, hs => cases hs
    | .inl (.inr v) :: st, hs => cases hs
    | .inr v :: st, hs => cases hs; exact ⟨id, rfl, fun _ h => b_astore hd ha h⟩
    | [], hs => cases hs
  | iinc k n =>
    simp only [m_okB, Bool.and_eq_true, decide_eq_true_eq] at ha
    simp only [m_step, m_inc] at hs
    split at hs
    · rename_i v hg
      cases hs
      exact ⟨id, rfl, fun _ h => b_iinc hd ha.1 ha.2 hg h⟩
    · cases hs
  | iconst k =>
    simp only [m_okB, decide_eq_true_eq] at ha
    cases hs
    exact ⟨id, rfl, fun _ h => b_iconst hd ha h⟩
  | bipush k =>
    simp only [m_okB, decide_eq_true_eq] at ha
    cases hs
    exact ⟨id, rfl, fun _ h => b_bipush hd ha h⟩
  | sipush k =>
    simp only [m_okB, decide_eq_true_eq] at ha
    cases hs
    exact ⟨id, rfl, fun _ h => b_sipush hd ha h⟩
  | lconst k =>
    simp only [m_okB, decide_eq_true_eq] at ha
    cases hs
    exact ⟨id, rfl, fun _ h => b_lconst hd ha h⟩
  | ldc k =>
    simp only [m_okB, decide_eq_true_eq] at ha
    cases hs
    exact ⟨id, rfl, fun _ h => b_ldc hd ha h⟩
  | ldc_w k =>
    simp only [m_okB, decide_eq_true_eq] at ha
    cases hs
    exact ⟨id, rfl, fun _ h => b_ldcw hd ha h⟩
  | ldc2_w k =>
    simp only [m_okB, decide_eq_true_eq] at ha
    cases hs
    exact ⟨id, rfl, fun _ h => b_ldc2 hd ha h⟩
  | aconst_null =>
    cases hs
    exact ⟨id, rfl, fun _ h => b_null hd h⟩
  | goto off =>
    simp only [m_okB, decide_eq_true_eq] at ha
    cases hs
    exact ⟨id, rfl, fun _ h => b_goto hd ha h⟩
  | iadd =>
    simp only [m_step, m_bin] at hs
    split at hs
    · cases hs
      exact ⟨id, rfl, fun _ h => b_iadd hd h⟩
    · cases hs
  | isub =>
    simp only [m_step, m_bin] at hs
    split at hs
    · cases hs
      exact ⟨id, rfl, fun _ h => b_isub hd h⟩
    · cases hs
  | imul =>
    simp only [m_step, m_bin] at hs
    split at hs
    · cases hs
      exact ⟨id, rfl, fun _ h => b_imul hd h⟩
    · cases hs
  | iand =>
    simp only [m_step, m_bin] at hs
    split at hs
    · cases hs
      exact ⟨id, rfl, fun _ h => b_iand hd h⟩
    · cases hs
  | ior =>
    simp only [m_step, m_bin] at hs
    split at hs
    · cases hs
      exact ⟨id, rfl, fun _ h => b_ior hd h⟩
    · cases hs
  | ixor =>
    simp only [m_step, m_bin] at hs
    split at hs
    · cases hs
      exact ⟨id, rfl, fun _ h => b_ixor hd h⟩
    · cases hs
  | ishl =>
    simp only [m_step, m_bin] at hs
    split at hs
    · cases hs
      exact ⟨id, rfl, fun _ h => b_ishl hd h⟩
    · cases hs
  | ishr =>
    simp only [m_step, m_bin] at hs
    split at hs
    · cases hs
      exact ⟨id, rfl, fun _ h => b_ishr hd h⟩
    · cases hs
  | iushr =>
    simp only [m_step, m_bin] at hs
    split at hs
    · cases hs
      exact ⟨id, rfl, fun _ h => b_iushr hd h⟩
    · cases hs
  | idiv =>
    simp only [m_step, m_binD] at hs
    split at hs
    · cases hs
      exact ⟨And.left, rfl, fun c h => b_idiv hd c.2 h⟩
    · cases hs
  | irem =>
    simp only [m_step, m_binD] at hs
    split at hs
    · cases hs
      exact ⟨And.left, rfl, fun c h => b_irem hd c.2 h⟩
    · cases hs
  | ladd =>
    simp only [m_step, m_binJ] at hs
    split at hs
    · cases hs
      exact ⟨id, rfl, fun _ h => b_ladd hd h⟩
    · cases hs
  | lsub =>
    simp only [m_step, m_binJ] at hs
    split at hs
    · cases hs
      exact ⟨id, rfl, fun _ h => b_lsub hd h⟩
    · cases hs
  | lmul =>
    simp only [m_step, m_binJ] at hs
    split at hs
    · cases hs
      exact ⟨id, rfl, fun _ h => b_lmul hd h⟩
    · cases hs
  | ldiv =>
    simp only [m_step, m_binJD] at hs
    split at hs
    · cases hs
      exact ⟨And.left, rfl, fun c h => b_ldiv hd c.2 h⟩
    · cases hs
  | lrem =>
    simp only [m_step, m_binJD] at hs
    split at hs
    · cases hs
      exact ⟨And.left, rfl, fun c h => b_lrem hd c.2 h⟩
    · cases hs
  | lcmp =>
    simp only [m_step, m_cmp] at hs
    split at hs
    · cases hs
      exact ⟨id, rfl, fun _ h => b_lcmp hd h⟩
    · cases hs
  | i2l =>
    simp only [m_step, m_unI] at hs
    split at hs
    · cases hs
      exact ⟨id, rfl, fun _ h => b_i2l hd h⟩
    · cases hs
  | i2b =>
    simp only [m_step, m_unI] at hs
    split at hs
    · cases hs
      exact ⟨id, rfl, fun _ h => b_i2b hd h⟩
    · cases hs
  | i2c =>
    simp only [m_step, m_unI] at hs
    split at hs
    · cases hs
      exact ⟨id, rfl, fun _ h => b_i2c hd h⟩
    · cases hs
  | l2i =>
    simp only [m_step, m_unJ] at hs
    split at hs
    · cases hs
      exact ⟨id, rfl, fun _ h => b_l2i hd h⟩
    · cases hs
  | dup =>
    match st, hs with
    | .inl (.inl a) :: st, hs => cases hs; exact ⟨id, rfl, fun _ h => b_dup hd rfl h⟩
    | .inl (.inr a) :: st, hs => cases hs
    | .inr a :: st, hs => cases hs; exact ⟨id, rfl, fun _ h => b_dup hd rfl h⟩
    | [], hs => cases hs
  | pop =>
    match st, hs with
    | .inl (.inl a) :: st, hs => cases hs; exact ⟨id, rfl, fun _ h => b_pop hd rfl h⟩
    | .inl (.inr a) :: st, hs => cases hs
    | .inr a :: st, hs => cases hs; exact ⟨id, rfl, fun _ h => b_pop hd rfl h⟩
    | [], hs => cases hs
  | dup2 =>
    simp only [m_step, m_dup2] at hs
    split at hs
    · cases hs; exact ⟨id, rfl, fun _ h => b_dup2J hd h⟩
    · cases hs; exact ⟨id, rfl, fun _ h => b_dup2 hd rfl rfl h⟩
    · cases hs
  | getfield k =>
    obtain ⟨ac, aj, at0, av, aw⟩ := a
    simp only [m_okB, Bool.and_eq_true, decide_eq_true_eq] at ha
    obtain ⟨hf, ht⟩ := ha
    have hfv := fun k' => (show m_fv S k' ac aj = m_fv S k' ac aj from rfl)
    simp only [m_step, m_gtf] at hs
    split at hs
    · rename_i r st'
      obtain ⟨rc', rn, rk⟩ := r
      dsimp only at hs
      split at hs
      · rename_i hrc
        subst hrc
        split at hs
        · cases hs
          exact ⟨id, rfl, fun _ h => b_getf hd hf (by unfold m_fv; rw [ht]; exact h)⟩
        · cases hs
          exact ⟨id, rfl, fun _ h => b_getf hd hf (by unfold m_fv; rw [ht]; exact h)⟩
        · cases hs
          exact ⟨id, rfl, fun _ h => b_getf hd hf (by unfold m_fv; rw [ht]; exact h)⟩
        · cases hs
          exact ⟨And.left, rfl, fun c h => b_getf hd hf (by unfold m_fv; rw [ht]; have c2 := c.2; dsimp only at c2 ⊢; rw [c2]; exact h)⟩
        · cases hs
      · cases hs
    · cases hs
  | putfield k =>
    obtain ⟨ac, aj, at0, av, aw⟩ := a
    simp only [m_okB, Bool.and_eq_true, decide_eq_true_eq] at ha
    obtain ⟨hf, ht, hfin⟩ := ha
    simp only [m_step, m_ptf] at hs
    split at hs
    · try dsimp only at hs
      split at hs
      · rename_i r st' hrc
        obtain ⟨rc', rn, rk⟩ := r
        dsimp only at hrc
        subst hrc
        cases hs
        exact ⟨id, rfl, fun _ h => b_putI hd hf hfin ht h⟩
      · cases hs
    · try dsimp only at hs
      split at hs
      · rename_i r st' hrc
        obtain ⟨rc', rn, rk⟩ := r
        dsimp only at hrc
        subst hrc
        cases hs
        exact ⟨And.left, rfl, fun c h => b_putZ hd hf hfin ht c.2 h⟩
      · cases hs
    · try dsimp only at hs
      split at hs
      · rename_i r st' hrc
        obtain ⟨rc', rn, rk⟩ := r
        dsimp only at hrc
        subst hrc
        cases hs
        exact ⟨id, rfl, fun _ h => b_putJ hd hf hfin ht h⟩
      · cases hs
    · try dsimp only at hs
      split at hs
      · rename_i r st' hrc
        obtain ⟨rc', rn, rk⟩ := r
        dsimp only at hrc
        subst hrc
        cases hs
        exact ⟨id, rfl, fun _ h => b_putR hd hf hfin ht h⟩
      · cases hs
    · cases hs
  | iaload =>
    simp only [m_step, m_ald] at hs
    split at hs
    · rename_i r st'
      obtain ⟨rc', rn, rk⟩ := r
      dsimp only at hs
      split at hs
      · rename_i hrc
        subst hrc
        cases hs
        exact ⟨And.left, rfl, fun c h => b_iald hd c.2 h⟩
      · cases hs
    · cases hs
  | caload =>
    simp only [m_step, m_ald] at hs
    split at hs
    · rename_i r st'
      obtain ⟨rc', rn, rk⟩ := r
      dsimp only at hs
      split at hs
      · rename_i hrc
        subst hrc
        cases hs
        exact ⟨And.left, rfl, fun c h => b_cald hd c.2 h⟩
      · cases hs
    · cases hs
  | laload =>
    simp only [m_step, m_aldJ] at hs
    split at hs
    · rename_i r st'
      obtain ⟨rc', rn, rk⟩ := r
      dsimp only at hs
      split at hs
      · rename_i hrc
        subst hrc
        cases hs
        exact ⟨And.left, rfl, fun c h => b_lald hd c.2 h⟩
      · cases hs
    · cases hs
  | iastore =>
    simp only [m_step, m_ast] at hs
    split at hs
    · rename_i r st'
      obtain ⟨rc', rn, rk⟩ := r
      dsimp only at hs
      split at hs
      · rename_i hrc
        subst hrc
        cases hs
        exact ⟨And.left, rfl, fun c h => b_iast hd c.2 h⟩
      · cases hs
    · cases hs
  | castore =>
    simp only [m_step, m_ast] at hs
    split at hs
    · rename_i r st'
      obtain ⟨rc', rn, rk⟩ := r
      dsimp only at hs
      split at hs
      · rename_i hrc
        subst hrc
        cases hs
        exact ⟨And.left, rfl, fun c h => b_cast hd c.2 h⟩
      · cases hs
    · cases hs
  | lastore =>
    simp only [m_step, m_astJ] at hs
    split at hs
    · rename_i r st'
      obtain ⟨rc', rn, rk⟩ := r
      dsimp only at hs
      split at hs
      · rename_i hrc
        subst hrc
        cases hs
        exact ⟨And.left, rfl, fun c h => b_last hd c.2 h⟩
      · cases hs
    · cases hs
  | baload =>
    simp only [m_step, m_baldk] at hs
    split at hs
    · rename_i r st'
      obtain ⟨rc', rn, rk⟩ := r
      dsimp only at hs
      split at hs
      · rename_i hrc
        cases hs
        rcases hrc with rfl | rfl
        · exact ⟨And.left, rfl, fun c h => b_bald hd c.2 h⟩
        · exact ⟨And.left, rfl, fun c h => b_zald hd c.2 h⟩
      · cases hs
    · cases hs
  | aaload =>
    obtain ⟨ac, aj, at0, av, aw⟩ := a
    simp only [m_step, m_aldR] at hs
    split at hs
    · rename_i r st'
      obtain ⟨rc', rn, rk⟩ := r
      dsimp only at hs
      split at hs
      · rename_i hrc
        cases hs
        rcases hrc with rfl | rfl
        · exact ⟨fun c => c.1.1, rfl, fun c h => b_aald25 hd c.1.2 (by have c2 := c.2; dsimp only at c2 ⊢; rw [c2]; exact h)⟩
        · exact ⟨fun c => c.1.1, rfl, fun c h => b_aald26 hd c.1.2 (by have c2 := c.2; dsimp only at c2 ⊢; rw [c2]; exact h)⟩
      · cases hs
    · cases hs
  | bastore =>
    simp only [m_step, m_bast] at hs
    split at hs
    · rename_i r st'
      obtain ⟨rc', rn, rk⟩ := r
      dsimp only at hs
      split at hs
      · rename_i hrc
        subst hrc
        cases hs
        exact ⟨And.left, rfl, fun c h => b_bast hd c.2 h⟩
      · split at hs
        · rename_i hrc
          subst hrc
          cases hs
          exact ⟨And.left, rfl, fun c h => b_zast hd c.2 h⟩
        · cases hs
    · cases hs
  | aastore =>
    simp only [m_step, m_astR] at hs
    split at hs
    · rename_i v i0 r st'
      obtain ⟨rc', rn, rk⟩ := r
      obtain ⟨vc, vn, vk⟩ := v
      dsimp only at hs
      split at hs
      · rename_i hrc
        cases hs
        rcases hrc with ⟨rfl, rfl⟩ | ⟨rfl, rfl⟩
        · exact ⟨And.left, rfl, fun c h => b_aast25 hd c.2 h⟩
        · exact ⟨And.left, rfl, fun c h => b_aast26 hd c.2 h⟩
      · cases hs
    · cases hs
  | arraylength =>
    simp only [m_step, m_len] at hs
    split at hs
    · rename_i r st'
      obtain ⟨rc', rn, rk⟩ := r
      dsimp only at hs
      split at hs
      · rename_i hrc
        cases hs
        exact ⟨id, rfl, fun _ h => b_alen hd hrc h⟩
      · cases hs
    · cases hs
  | _ => cases hs
theorem m_many : ∀ (is : List (Instr × MA)) (qs : List (Option MRef)) (x y : MX), m_chk M.1 M.2.1 M.2.2.1 M.2.2.2.2 x.1 is = true → m_steps is qs x = some y → (y.2.2.2.2 → x.2.2.2.2) ∧ (y.2.2.2.2 → m_BX G R M Q rc rs y → m_BX G R M Q rc rs x) := by
  intro is
  induction is with
  | nil => intro qs x y _ h; cases h; exact ⟨id, fun _ h => h⟩
  | cons q is ih =>
    intro qs x y hc hs
    obtain ⟨i, a⟩ := q
    simp only [m_chk, Bool.and_eq_true, decide_eq_true_eq] at hc
    simp only [m_steps] at hs
    split at hs
    · cases qs with
      | nil => cases hs
      | cons r qs =>
        dsimp only at hs
        split at hs
        · rename_i z hz
          obtain ⟨g1, g2, g3⟩ := m_one (G := G) (R := R) (M := M) (Q := Q) (rc := rc) (rs := rs) hc.1 hc.2.1 hz
          obtain ⟨k1, k2⟩ := ih qs z y (by rw [g2]; exact hc.2.2) hs
          exact ⟨fun q => g1 (k1 q), fun q h => g3 (k1 q) (k2 q h)⟩
        · cases hs
    · split at hs
      · rename_i z hz
        obtain ⟨g1, g2, g3⟩ := m_one (G := G) (R := R) (M := M) (Q := Q) (rc := rc) (rs := rs) hc.1 hc.2.1 hz
        obtain ⟨k1, k2⟩ := ih qs z y (by rw [g2]; exact hc.2.2) hs
        exact ⟨fun q => g1 (k1 q), fun q h => g3 (k1 q) (k2 q h)⟩
      · cases hs
/-- a block: the code is there, its steps give that place, what must hold holds, and from there on it goes well -/
theorem b_blk {pc pc' : Nat} {ls ls' : ML} {st st' : List MV} {S S' : MS} {P : Prop} (is : List (Instr × MA)) (qs : List (Option MRef)) (hc : m_chk M.1 M.2.1 M.2.2.1 M.2.2.2.2 pc is = true) (hs : m_steps is qs (pc, ls, st, S, True) = some (pc', ls', st', S', P)) (hp : P) (h : m_B G R M Q rc rs pc' ls' st' S') : m_B G R M Q rc rs pc ls st S :=
  (m_many is qs _ _ hc hs).2 hp h
end MK
