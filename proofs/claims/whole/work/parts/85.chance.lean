/-! chance -/
/-- the seed, what stands, what is kept, how many were washed -/
abbrev CT : Type := Nat × WD × List NT × Nat
def a_wsh (w : WD) (f c : Nat) : WD := (wY w, wK w, wA w, wP w, fun f' c' => if f' = f ∧ c' = c then -1 else wR w f' c')
/-- a step before its year -/
noncomputable def ch_w (p : CF) (ch : Int32) (t : CT) : CT :=
  if ch ≤ nI (a_dr t.1 100) ∨ cF p = 0 then (a_nx t.1, t.2.1, t.2.2.1, t.2.2.2) else
    if wR t.2.1 (a_dr (a_nx t.1) (cF p)) (a_dr (a_nx (a_nx t.1)) (cC p)) = -1 then (a_nx (a_nx (a_nx t.1)), t.2.1, t.2.2.1, t.2.2.2 + 1) else
      (a_nx (a_nx (a_nx t.1)), a_wsh t.2.1 (a_dr (a_nx t.1) (cF p)) (a_dr (a_nx (a_nx t.1)) (cC p)), k_add t.2.2.1 (wY t.2.1, nI (a_dr (a_nx t.1) (cF p)), nI (a_dr (a_nx (a_nx t.1)) (cC p))), t.2.2.2 + 1)
noncomputable def ch_s (p : CF) (ch : Int32) (t : CT) : CT := ((ch_w p ch t).1, a_year p (ch_w p ch t).2.1, a_kept p (ch_w p ch t).2.1 false (ch_w p ch t).2.2.1, (ch_w p ch t).2.2.2)
noncomputable def ch_n (p : CF) (ch : Int32) (t : CT) : Nat → CT
  | 0 => t
  | n + 1 => ch_s p ch (ch_n p ch t n)
section L85
variable {I X Z B : MI} {J JX J2 : MJ} {k o sl sd : Nat} {p : CF} {w w' : WD} {kl kl' : List NT} {un un' : List (WD × List NT)} {ch : Int32} {t : CT}
theorem chw_Y : wY (ch_w p ch t).2.1 = wY t.2.1 := by
  unfold ch_w
  split
  · rfl
  · split <;> rfl
theorem chw_s (h : t.1 < 2 ^ 31) : (ch_w p ch t).1 < 2 ^ 31 := by
  unfold ch_w
  split
  · exact nx_lt _
  · split <;> exact nx_lt _
theorem chw_A (ho : CO p) (hC0 : 0 < cC p) (h : AW p t.2.1 t.2.2.1) : AW p (ch_w p ch t).2.1 (ch_w p ch t).2.2.1 := by
  have hC := ho.1; have hF := ho.2.2.1
  unfold ch_w
  split
  · exact h
  rename_i h1
  split
  · exact h
  · obtain ⟨hv, hx, hk⟩ := h
    have hf : a_dr (a_nx t.1) (cF p) < cF p := Nat.mod_lt _ (by omega)
    have hc : a_dr (a_nx (a_nx t.1)) (cC p) < cC p := Nat.mod_lt _ hC0
    refine ⟨⟨hv.1, hv.2.1, hv.2.2.1, hv.2.2.2.1, fun f c => ?_, fun f c hfc => ?_⟩, hx, KN_add hk (NO_of hv hx (by omega) (by omega))⟩
    · show -1 ≤ (if f = _ ∧ c = _ then (-1 : Int32) else wR t.2.1 f c) ∧ (if f = _ ∧ c = _ then (-1 : Int32) else wR t.2.1 f c) < nI (cR p) ∨ (if f = _ ∧ c = _ then (-1 : Int32) else wR t.2.1 f c) = -1
      split
      · exact Or.inr rfl
      · exact hv.2.2.2.2.1 f c
    · show (if f = _ ∧ c = _ then (-1 : Int32) else wR t.2.1 f c) = -1
      split
      · rfl
      · exact hv.2.2.2.2.2 f c hfc
theorem AC_seed (h : AC Z I w kl un) (hu : un.length ≤ 20) (v : Int32) : AC (m_up Z 0 12 v) I w kl un := by
  obtain ⟨h1, h2, h3, h4, h5⟩ := h
  have kk : ∀ q, q ≠ 0 → m_up Z 0 12 v q = Z q := fun q hq => up_k _ _ _ hq
  exact ⟨WC_c h1 (fun q a b => kk q (by omega)), KC_c h2 (fun q hq => kk q (by omega)), HC_c h3 hu (fun q a b => kk q (by omega)), by rw [kk 30 (by decide)]; exact h4, fs_up (LX := [(0, some 12)]) (by decide +kernel) (by decide) h5⟩
theorem AC_wash (h : AC Z I w kl un) (hu : un.length ≤ 20) {f c : Nat} (hf : f < 6) (hc : c < 6) : AC (gI_Log_note (w_putStake Z 20 (nI f) (nI c) (-1)) 45 ((w_putStake Z 20 (nI f) (nI c) (-1)) 20 0) (nI f) (nI c)) I (a_wsh w f c) (k_add kl (wY w, nI f, nI c)) un ∧ (gI_Log_note (w_putStake Z 20 (nI f) (nI c) (-1)) 45 ((w_putStake Z 20 (nI f) (nI c) (-1)) 20 0) (nI f) (nI c)) 0 = Z 0 := by
  obtain ⟨h1, h2, h3, h4, h5⟩ := h
  have fp : fr (fun q => q = 23) (w_putStake Z 20 (nI f) (nI c) (-1)) Z := fr_putStake fr_refl rfl
  have wp : WC (w_putStake Z 20 (nI f) (nI c) (-1)) 20 (a_wsh w f c) := WC_put h1 hf hc rfl rfl rfl rfl (fun _ _ _ _ => rfl)
  have kp : KC (w_putStake Z 20 (nI f) (nI c) (-1)) 45 kl := KC_c h2 (fun q hq => fp q (by omega))
  have e0 : (w_putStake Z 20 (nI f) (nI c) (-1)) 20 0 = wY w := wp.1
  have fn : fr (fun q => q = 23 ∨ q = 45 ∨ q = 46) (gI_Log_note (w_putStake Z 20 (nI f) (nI c) (-1)) 45 ((w_putStake Z 20 (nI f) (nI c) (-1)) 20 0) (nI f) (nI c)) Z := fr_note (fr_mono fp (fun q hq => Or.inl hq)) (Or.inr (Or.inl rfl)) (Or.inr (Or.inr rfl))
  have fn2 : fr (fun q => q = 45 ∨ q = 46) (gI_Log_note (w_putStake Z 20 (nI f) (nI c) (-1)) 45 ((w_putStake Z 20 (nI f) (nI c) (-1)) 20 0) (nI f) (nI c)) (w_putStake Z 20 (nI f) (nI c) (-1)) := fr_note fr_refl (Or.inl rfl) (Or.inr rfl)
  have kn := note_c (y := (w_putStake Z 20 (nI f) (nI c) (-1)) 20 0) (f := nI f) (c := nI c) kp
  rw [e0] at *
  refine ⟨⟨WC_c wp (fun q a b => fn2 q (by omega)), kn, HC_c h3 hu (fun q a b => fn q (by omega)), by rw [fn 30 (by omega)]; exact h4, fs_tr (fs_fr fn (fun q hq => by rcases hq with z | z | z <;> subst z <;> simp [DA])) h5⟩, fn 0 (by omega)⟩
/-- one step of the class -/
theorem chs_c (h : RelX I J sl p w' kl' un') (hq : sl = 3 ∨ sl = 11) (hC0 : 0 < cC p) (hc : AC Z I t.2.1 t.2.2.1 un) (hu : un.length ≤ 20) (hA : AW p t.2.1 t.2.2.1) (hy : wY t.2.1 < 999) (hs : Z 0 12 = nI t.1) {n m : Nat} (hm : m < n) (hn : n < 1000) : ∃ Y, F_WF_chance_39 sl sd Z (nI n) (nI t.2.2.2) (nI m) = some (.inl (nI (ch_s p (I sl 4) t).2.2.2, nI (m + 1), Y)) ∧ AC Y I (ch_s p (I sl 4) t).2.1 (ch_s p (I sl 4) t).2.2.1 un ∧ Y 0 12 = nI (ch_s p (I sl 4) t).1 := by
  obtain ⟨⟨ho, hQ, h00, -⟩, ⟨hcc, hcd, -, -⟩, -⟩ := h.2.1.2.1
  have hC := ho.1; have hF := ho.2.2.1
  have hW := chw_A (ch := I sl 4) ho hC0 hA
  have hY : wY (ch_w p (I sl 4) t).2.1 < 999 := by rw [chw_Y]; exact hy
  -- the year
  have last : ∀ Y : MI, AC Y I (ch_w p (I sl 4) t).2.1 (ch_w p (I sl 4) t).2.2.1 un → Y 0 12 = nI (ch_w p (I sl 4) t).1 → F_WF_chance_99 sl sd Y (nI n) (nI (ch_w p (I sl 4) t).2.2.2) (nI m) = some (.inl (nI (ch_s p (I sl 4) t).2.2.2, nI (m + 1), py_year (some 45) Y 20 sl)) ∧ AC (py_year (some 45) Y 20 sl) I (ch_s p (I sl 4) t).2.1 (ch_s p (I sl 4) t).2.2.1 un ∧ (py_year (some 45) Y 20 sl) 0 12 = nI (ch_s p (I sl 4) t).1 := by
    intro Y g1 g2
    obtain ⟨z1, -, z3⟩ := AC_year h hq g1 hu hW.1 hY
    refine ⟨?_, z1, by rw [z3]; exact g2⟩
    unfold F_WF_chance_99
    rw [nI_s]; rfl
  have slk : ∀ (Y : MI), fsL DA Y I → ∀ j, Y sl j = I sl j := fun Y g j => by rw [DA_k g (by omega)]
  unfold F_WF_chance_39
  rw [if_neg (nI_ge hm (by omega)), show (100 : Int32) = nI 100 from rfl, draw_c hs (by decide) (by decide)]
  simp only [Option.bind_some]
  have g1 := AC_seed hc hu (nI (a_nx t.1))
  have s1 : (m_up Z 0 12 (nI (a_nx t.1))) 0 12 = nI (a_nx t.1) := up_e _ _ _ _
  generalize m_up Z 0 12 (nI (a_nx t.1)) = Z1 at *
  rw [slk Z1 g1.2.2.2.2, slk Z1 g1.2.2.2.2, hcc.2.2.1]
  by_cases q1 : I sl 4 ≤ nI (a_dr t.1 100)
  · rw [if_pos q1]
    have e : ch_w p (I sl 4) t = (a_nx t.1, t.2.1, t.2.2.1, t.2.2.2) := if_pos (Or.inl q1)
    have := last Z1 (by rw [e]; exact g1) (by rw [e]; exact s1)
    rw [e] at this
    exact ⟨_, this⟩
  rw [if_neg q1]
  by_cases q2 : cF p = 0
  · rw [q2, if_pos (show nI 0 ≤ 0 by decide)]
    have e : ch_w p (I sl 4) t = (a_nx t.1, t.2.1, t.2.2.1, t.2.2.2) := if_pos (Or.inr q2)
    have := last Z1 (by rw [e]; exact g1) (by rw [e]; exact s1)
    rw [e] at this
    exact ⟨_, this⟩
  have hf : a_dr (a_nx t.1) (cF p) < cF p := Nat.mod_lt _ (by omega)
  have hcl : a_dr (a_nx (a_nx t.1)) (cC p) < cC p := Nat.mod_lt _ hC0
  rw [if_neg (show ¬ nI (cF p) ≤ 0 from nI_ge (a := 0) (by omega) (by omega)), draw_c s1 (by omega) (by omega)]
  simp only [Option.bind_some]
  have g2 := AC_seed g1 hu (nI (a_nx (a_nx t.1)))
  have s2 : (m_up Z1 0 12 (nI (a_nx (a_nx t.1)))) 0 12 = nI (a_nx (a_nx t.1)) := up_e _ _ _ _
  generalize m_up Z1 0 12 (nI (a_nx (a_nx t.1))) = Z2 at *
  rw [slk Z2 g2.2.2.2.2, hcc.1, draw_c s2 hC0 (by omega)]
  simp only [Option.bind_some]
  have g3 := AC_seed g2 hu (nI (a_nx (a_nx (a_nx t.1))))
  have s3 : (m_up Z2 0 12 (nI (a_nx (a_nx (a_nx t.1))))) 0 12 = nI (a_nx (a_nx (a_nx t.1))) := up_e _ _ _ _
  generalize m_up Z2 0 12 (nI (a_nx (a_nx (a_nx t.1)))) = Z3 at *
  unfold F_WF_washOut
  rw [row_c g3.1 (by omega) (by omega)]
  by_cases q3 : wR t.2.1 (a_dr (a_nx t.1) (cF p)) (a_dr (a_nx (a_nx t.1)) (cC p)) = -1
  · have e : ch_w p (I sl 4) t = (a_nx (a_nx (a_nx t.1)), t.2.1, t.2.2.1, t.2.2.2 + 1) := by unfold ch_w; rw [if_neg (fun z => z.elim q1 q2), if_pos q3]
    have := last Z3 (by rw [e]; exact g3) (by rw [e]; exact s3)
    rw [e] at this
    rw [if_pos q3, nI_s]
    exact ⟨_, this⟩
  · have e : ch_w p (I sl 4) t = (a_nx (a_nx (a_nx t.1)), a_wsh t.2.1 (a_dr (a_nx t.1) (cF p)) (a_dr (a_nx (a_nx t.1)) (cC p)), k_add t.2.2.1 (wY t.2.1, nI (a_dr (a_nx t.1) (cF p)), nI (a_dr (a_nx (a_nx t.1)) (cC p))), t.2.2.2 + 1) := by unfold ch_w; rw [if_neg (fun z => z.elim q1 q2), if_neg q3]
    obtain ⟨g4, s4⟩ := AC_wash g3 hu (f := a_dr (a_nx t.1) (cF p)) (c := a_dr (a_nx (a_nx t.1)) (cC p)) (by omega) (by omega)
    have := last _ (by rw [e]; exact g4) (by rw [e, s4]; exact s3)
    rw [e] at this
    rw [if_neg q3, nI_s]
    exact ⟨_, this⟩
end L85
