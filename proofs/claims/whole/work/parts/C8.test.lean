/-! both sides read a fact -/
def sW (W : List Nat) : Prop := ∀ x, x ∈ W → x = 10 ∨ x = 11 ∨ x = 12 ∨ x = 25
theorem sW_a {W : List Nat} {x : Nat} (h : sW W) (hx : x = 10 ∨ x = 11 ∨ x = 12 ∨ x = 25) : sW (W ++ [x]) := fun y hy => by
  rcases List.mem_append.mp hy with z | z
  · exact h y z
  · rw [List.mem_singleton.mp z]; exact hx
theorem sW_t {W : List Nat} (h : sW W) : ¬ tp (fun x => (1 ≤ x ∧ x ≤ 4) ∨ 60 ≤ x) W := by
  rintro ⟨W0, x, e, hx⟩
  have := h x (by rw [e]; exact List.mem_append_right _ (List.mem_singleton.mpr rfl))
  omega
def JF (F : Option (Int32 × MI)) (X : MI) (sd : Nat) (tb : Nat → Nat) (n e : Nat) (b : Bool) (L : List Nat) (tk o : Nat) : Prop :=
  (∃ e' b' cs X', F = some (1, X') ∧ CE X' sd tb n e' b' (L ++ cs) tk ∧ FX sd X' X ∧ e + cs.length ≤ e' ∧ e < e' ∧ tyk true (12 + 8 * o) cs ∧ alk tk cs ∧ ∀ Y W K bs, RE Y tb n e b W K o bs tk → sW W → ∃ Y', KT Y = KD Y' ∧ RE Y' tb n e' b' W (K ++ cs) o bs tk ∧ fsL LQ2 Y' Y) ∨
  (∃ k at' X', F = some (0, X') ∧ FTt X' k at' ∧ FX sd X' X ∧ (1 ≤ k ∧ k < 100) ∧ ∀ Y W K bs, RE Y tb n e b W K o bs tk → sW W → ∃ Y', KT Y = some Y' ∧ MFt Y' k at' ∧ fsL LQ2 Y' Y)
def JB (t : Bool) (F : Option (Int32 × MI)) (X : MI) (sd : Nat) (tb : Nat → Nat) (n e : Nat) (b : Bool) (L : List Nat) (tk o : Nat) : Prop :=
  (∃ e' b' cs X', F = some (1, X') ∧ CE X' sd tb n e' b' (L ++ cs) tk ∧ FX sd X' X ∧ e + cs.length ≤ e' ∧ e < e' ∧ tyk true ((if t = true then 10 else 11) + 8 * o) cs ∧ alk tk cs ∧ (¬ wo tb n e' b' = some 19 ∧ (t = true → ¬ wo tb n e' b' = some 18)) ∧ ∀ Y W K bs, RE Y tb n e b W K o bs tk → sW W → ¬ tp (fun x => x = 12 ∨ x = 10 ∨ (t = true ∧ x = 11)) W → ∃ Y' S ks, KT Y = KH Y' ∧ RE Y' tb n e' b' (W ++ S) (K ++ ks) o bs tk ∧ anS t S ∧ cs = ks ++ S.reverse ∧ fsL LQ2 Y' Y) ∨
  (∃ k at' X', F = some (0, X') ∧ FTt X' k at' ∧ FX sd X' X ∧ (1 ≤ k ∧ k < 100) ∧ ∀ Y W K bs, RE Y tb n e b W K o bs tk → sW W → ¬ tp (fun x => x = 12 ∨ x = 10 ∨ (t = true ∧ x = 11)) W → ∃ Y', KT Y = some Y' ∧ MFt Y' k at' ∧ fsL LQ2 Y' Y)
theorem ty_c {k : Nat} (h : 7 ≤ k) (h2 : k ≤ 9) (t : List Bool) : q_ty1 k (false :: false :: t) = some (true :: t) := by
  unfold q_ty1
  rw [if_neg (by omega), if_neg (by omega), if_neg (by omega), if_neg (by omega), if_neg (by omega), if_neg (by omega), if_pos ⟨h, h2⟩]
theorem ty_t {k : Nat} (h : 10 ≤ k) (h2 : k ≤ 11) (t : List Bool) : q_ty1 k (true :: true :: t) = some (true :: t) := by
  unfold q_ty1
  rw [if_neg (by omega), if_neg (by omega), if_neg (by omega), if_neg (by omega), if_neg (by omega), if_neg (by omega), if_neg (by omega), if_pos ⟨h, h2⟩]
theorem ty_13 {m : Nat} (hm : m ≤ 80) : tyk true m [13] := fun t ht => by
  show (q_ty1 13 t).bind (q_ty []) = _
  unfold q_ty1
  rw [if_neg (by omega), if_neg (by omega), if_neg (by omega), if_pos rfl, if_pos (by omega)]; rfl
theorem ty_12 (t : List Bool) : q_ty1 12 (true :: t) = some (true :: t) := rfl
section LC8
variable {I X Y Z : MI} {sd n e o tk : Nat} {b : Bool} {tb : Nat → Nat} {L : List Nat} {F : Option (Int32 × MI)}
theorem isw_w (h : RS X tb n e b) {i : Nat} (hi : i < 29) : F_Reader_isWord sd X (nI i) = some (bI (decide (wo tb n e b = some i))) := by rw [isw_c h, isw_o hi]
/-- a comparison -/
theorem cmp_r {c m : Nat} (hc : (c = 60 ∧ m = 7) ∨ (c = 62 ∧ m = 8) ∨ (c = 61 ∧ m = 9)) (v : Nat) : (if nI c = (60 : Int32) then (7 : Nat) else if nI c = (62 : Int32) then 8 else 9) = m := by
  rcases hc with ⟨z, w⟩ | ⟨z, w⟩ | ⟨z, w⟩ <;> subst z <;> subst w <;> rfl
theorem F63 {c m : Nat} (hc : (c = 60 ∧ m = 7) ∨ (c = 62 ∧ m = 8) ∨ (c = 61 ∧ m = 9)) (Y : MI) : F_MD_qFact_63 Y (nI c) = (F_MD_qSums (m_up Y 177 2 (Y 177 2 + 1))).bind fun r => F_MD_qCode r (nI m) := by
  unfold F_MD_qFact_63
  congr 1
  funext r
  rcases hc with ⟨z, w⟩ | ⟨z, w⟩ | ⟨z, w⟩ <;> subst z <;> subst w
  · rw [if_pos (by decide)]; exact bind_id _
  · rw [if_neg (by decide), if_pos (by decide)]; exact bind_id _
  · rw [if_neg (by decide), if_neg (by decide)]; exact bind_id _
theorem F147 {c m : Nat} (hc : (c = 60 ∧ m = 7) ∨ (c = 62 ∧ m = 8) ∨ (c = 61 ∧ m = 9)) (rc : Nat → MI → Int32 → Option (Int32 × MI)) (v : Int32) : F_Reader_fact_147 sd rc X v (nI c) = (F_Reader_advance sd X).bind fun r1 => (rc 3 r1 v).bind fun r2 => if r2.1 = 0 then some (0, r2.2) else (F_Reader_emit sd r2.2 (nI (q_tau m))).bind fun r => if r.1 = 0 then some (0, r.2) else some (1, r.2) := by
  unfold F_Reader_fact_147
  congr 1
  funext r1
  congr 1
  funext r2
  rcases hc with ⟨z, w⟩ | ⟨z, w⟩ | ⟨z, w⟩ <;> subst z <;> subst w
  · rw [if_pos (show nI 60 = (60 : Int32) from rfl)]; rfl
  · rw [if_neg (show ¬ nI 62 = (60 : Int32) by decide), if_pos (show nI 62 = (62 : Int32) from rfl)]; rfl
  · rw [if_neg (show ¬ nI 61 = (60 : Int32) by decide), if_neg (show ¬ nI 61 = (62 : Int32) by decide)]; rfl
/-- SUM < SUM -/
theorem fact_c (hq : sd = 3 ∨ sd = 11) (h : CE X sd tb n e b L tk) (ho : o ≤ 6) (w20 : ¬ wo tb n e b = some 20) (w21 : ¬ wo tb n e b = some 21) (k91 : ¬ kd tb n e b = 91) {rc : Nat → MI → Int32 → Option (Int32 × MI)} (hrs : ∀ X e b L, CE X sd tb n e b L tk → JS true (rc 3 X (nI o)) X sd tb n e b L tk o) : JF (F_Reader_fact sd rc X (nI o)) X sd tb n e b L tk o := by
  have hb : ∀ j, j < n → tb j < 256 := fun j hj => (h.1.1.2.2.1 j hj).1
  have n6 : ¬ X 19 6 = 91 := fun z => k91 ((kd_is h.1 (by decide) (show (91 : Int32) = nI 91 from rfl)).mp z)
  have i20 : F_Reader_isWord sd X 20 = _ := isw_w (sd := sd) h.1 (i := 20) (by decide)
  have i21 : F_Reader_isWord sd X 21 = _ := isw_w (sd := sd) h.1 (i := 21) (by decide)
  unfold F_Reader_fact
  rw [i20]
  simp only [Option.bind_some]
  rw [bI_if, if_neg w20, if_neg n6, i21]
  simp only [Option.bind_some]
  rw [bI_if, if_neg w21]
  -- the reference's fact
  have tk0 : ∀ {Y : MI} {W K : List Nat} {bs : Nat}, RE Y tb n e b W K o bs tk → F_MD_takes 231 3 (LK' Y tb n e) = some (0, LK' Y tb n e) := fun {Y W K bs} hY => by
    unfold F_MD_takes
    rw [hereL hY.1 (w := 231) (i := 21) (lw := 3) (by decide) rfl, decide_eq_false w21]; rfl
  rcases qsum_j (hrs X _ _ _ h) with ⟨e1, b1, cs, X1, s1, s2, s3, s4, s5, s6, s7, s8, s9⟩ | ⟨k, at', X1, s1, s2, s3, s4, s5⟩
  · have hF : ∀ {Y : MI} {W K : List Nat} {bs : Nat}, RE Y tb n e b W K o bs tk → sW W → ∃ Y1, RE Y1 tb n e1 b1 W (K ++ cs) o bs tk ∧ fsL LQ2 Y1 Y ∧ F_MD_qFact (LK' Y tb n e) = (if ch tb n e1 = (60 : Int32) then (F_MD_qFact_63 (LK' Y1 tb n e1) (ch tb n e1)) else (if ch tb n e1 = (62 : Int32) then (F_MD_qFact_63 (LK' Y1 tb n e1) (ch tb n e1)) else (if ch tb n e1 = (61 : Int32) then (F_MD_qFact_63 (LK' Y1 tb n e1) (ch tb n e1)) else ((F_MD_fail (LK' Y1 tb n e1) (1 : Int32) (LK' Y1 tb n e1 177 2)).bind fun r9 => some r9)))) := fun {Y W K bs} hY hW => by
      obtain ⟨r1, r2⟩ := RE_LK hY
      obtain ⟨Y1, y1, y2, y3⟩ := s9 _ W K bs r1 (sW_t hW)
      refine ⟨Y1, y2, fs_tr y3 (fs_sub (by decide) r2), ?_⟩
      unfold F_MD_qFact
      rw [tk0 hY]
      simp only [Option.bind_some]
      rw [if_pos trivial, y1]
      simp only [Option.bind_some]
      rw [if_pos y2.1.1.1, look_m y2.1]; rfl
    rw [s1]
    simp only [Option.bind_some]
    rw [if_neg (by decide)]
    by_cases hc : ∃ c m, kd tb n e1 b1 = c ∧ ((c = 60 ∧ m = 7) ∨ (c = 62 ∧ m = 8) ∨ (c = 61 ∧ m = 9))
    · obtain ⟨c, m, hk, hm⟩ := hc
      have c6 : c < 256 := by omega
      have sgc : sgn c := by
        rcases hm with z | z | z
        · rw [z.1]; exact sg60
        · rw [z.1]; exact sg62
        · rw [z.1]; exact sg61
      obtain ⟨ql, -⟩ := kd_sign (e := e1) (b := b1) (tb := tb) (n := n) (by omega)
      have sg1 := sk_ge (tb := tb) (n := n) e1
      have x6 : X1 19 6 = nI c := (kd_is s2.1 (by omega) rfl).mpr hk
      have hch : ch tb n e1 = nI c := (ch_is (b := b1) hb sgc).mpr hk
      obtain ⟨A, ea, a1, a2⟩ := sign_n (sd := sd) s2.1 c6 hk
      have cA := CE_m hq s2 a1 (fs_sub (by decide) a2) (by omega)
      have cls : (if (X1 19 6) = (60 : Int32) then (F_Reader_fact_147 sd rc X1 (nI o) (X1 19 6)) else (if (X1 19 6) = (62 : Int32) then (F_Reader_fact_147 sd rc X1 (nI o) (X1 19 6)) else (if (X1 19 6) = (61 : Int32) then (F_Reader_fact_147 sd rc X1 (nI o) (X1 19 6)) else ((F_Reader_wrong sd X1 (1 : Int32) (X1 19 7)).bind fun r11 => gq (r11.1 = 0 ∨ r11.1 = 1) <| some ((r11.1 : Int32), r11.2))))) = F_Reader_fact_147 sd rc X1 (nI o) (nI c) := by
        rw [x6]
        rcases hm with ⟨z, -⟩ | ⟨z, -⟩ | ⟨z, -⟩ <;> subst z
        · rw [if_pos (by decide)]
        · rw [if_neg (by decide), if_pos (by decide)]
        · rw [if_neg (by decide), if_neg (by decide), if_pos (by decide)]
      rw [cls, F147 hm, ea]
      simp only [Option.bind_some]
      have hF2 : ∀ {Y : MI} {W K : List Nat} {bs : Nat}, RE Y tb n e b W K o bs tk → sW W → ∃ Y2, RE Y2 tb n (sk tb n e1 + 1) false W (K ++ cs) o bs tk ∧ fsL LQ2 Y2 Y ∧ F_MD_qFact (LK' Y tb n e) = (F_MD_qSums Y2).bind fun r => F_MD_qCode r (nI m) := fun {Y W K bs} hY hW => by
        obtain ⟨Y1, y1, y2, y3⟩ := hF hY hW
        obtain ⟨r1, r2⟩ := RE_LK y1
        have at2 : LK' Y1 tb n e1 177 2 = nI (sk tb n e1) := (LK_s y1.1).2.1
        have f2 : fsL LM (m_up (LK' Y1 tb n e1) 177 2 (nI (sk tb n e1 + 1))) (LK' Y1 tb n e1) := fs_up (LX := LM) (by decide) (by decide) (fs_r _)
        refine ⟨m_up (LK' Y1 tb n e1) 177 2 (nI (sk tb n e1 + 1)), ⟨QP_s r1.1 (by omega) (by omega), QS_f r1.2.1 f2 (by decide), (f2 177 50 (by decide)).trans r1.2.2.1, r1.2.2.2.1, r1.2.2.2.2.1, by have := r1.2.2.2.2.2.1; omega, r1.2.2.2.2.2.2.1, ho⟩, fs_tr (fs_sub (by decide) f2) (fs_tr (fs_sub (by decide) r2) y2), ?_⟩
        rw [y3, hch]
        have e63 := F63 hm (LK' Y1 tb n e1)
        rw [at2, nI_s] at e63
        rw [← e63]
        rcases hm with ⟨z, -⟩ | ⟨z, -⟩ | ⟨z, -⟩ <;> subst z
        · rw [if_pos (by decide)]
        · rw [if_neg (by decide), if_pos (by decide)]
        · rw [if_neg (by decide), if_neg (by decide), if_pos (by decide)]
      rcases qsum_j (hrs A _ _ _ cA) with ⟨e2, b2, ds, X2, t1, t2, t3, t4, t5, t6, t7, t8, t9⟩ | ⟨k, at', X2, t1, t2, t3, t4, t5⟩
      · obtain ⟨U, u1, u2, u3⟩ := emit_n hq t2 (by rw [List.length_append, List.length_append]; have := h.2.1.2.2; omega) m
        rw [t1]
        simp only [Option.bind_some]
        rw [if_neg (by decide), u1]
        simp only [Option.bind_some]
        rw [if_neg (by decide)]
        left
        refine ⟨e2, b2, cs ++ ds ++ [m], U, rfl, by simpa [List.append_assoc] using u2, FX_t u3 (FX_t t3 (FX_t (FX_R a2) s3)), by simp; omega, by omega, ?_, alk_a (alk_a s7 t7) (alk_1 (by omega)), fun Y W K bs hY hW => ?_⟩
        · exact tyk_2 (tyk_l s6 (by omega)) t6 (by omega) (fun t _ => ty_c (by omega) (by omega) t)
        · obtain ⟨Y2, y1, y2, y3⟩ := hF2 hY hW
          obtain ⟨Y3, z1, z2, z3⟩ := t9 Y2 W _ bs y1 (sW_t hW)
          obtain ⟨n16, hn, -, -⟩ := RE_n z2
          have zl := z2.2.2.2.2.2.1
          rw [List.length_append, List.length_append] at zl
          have yl := y1.2.2.2.2.2.1
          rw [List.length_append] at yl
          obtain ⟨Y4, v1, v2, v3⟩ := code_m z2.2.1 (by rw [List.length_append, List.length_append]; omega) m
          rw [z1] at y3
          simp only [Option.bind_some] at y3
          rw [v1] at y3
          have q4 : QP Y4 tb n e2 b2 := QP_f z2.1 v3 (by decide) (by decide +kernel)
          refine ⟨Y4, (KT_f hY k91 w20).1 Y4 y3 q4.1.1, ⟨q4, by simpa [List.append_assoc] using v2, (v3 177 50 (by decide)).trans z2.2.2.1, z2.2.2.2.1, z2.2.2.2.2.1, ?_, z2.2.2.2.2.2.2.1, ho⟩, fs_tr (fs_sub (by decide) v3) (fs_tr z3 y2)⟩
          have kl := hY.2.2.2.2.2.1
          simp; omega
      · right
        rw [t1]
        simp only [Option.bind_some]
        rw [if_pos trivial]
        refine ⟨k, at', X2, rfl, t2, FX_t t3 (FX_t (FX_R a2) s3), t4, fun Y W K bs hY hW => ?_⟩
        obtain ⟨Y2, y1, y2, y3⟩ := hF2 hY hW
        obtain ⟨Y3, z1, ⟨z2, mm, z4, z5⟩, z3⟩ := t5 Y2 W _ bs y1 (sW_t hW)
        rw [z1] at y3
        simp only [Option.bind_some] at y3
        have e4 : F_MD_qCode Y3 (nI m) = some (m_up (m_up Y3 244 mm (nI m)) 177 92 (nI (mm + 1))) := by
          unfold F_MD_qCode
          rw [z5, gd_n (by omega) (by decide), nI_clamp (by omega), nI_s]
        rw [e4] at y3
        have f4 : fsL LSt (m_up (m_up Y3 244 mm (nI m)) 177 92 (nI (mm + 1))) Y3 := fs_up (LX := LSt) (by decide) (by decide) (fs_up (LX := [(244, none)]) (by decide) (by simp [inL]) (fs_r Y3))
        have b4 : MFt (m_up (m_up Y3 244 mm (nI m)) 177 92 (nI (mm + 1))) k at' := ⟨(f4 177 5 (by decide)).trans z2.1, (f4 177 6 (by decide)).trans z2.2⟩
        exact ⟨_, (KT_f hY k91 w20).2 _ y3 (mf_ne b4 t4.1 t4.2), b4, fs_tr (fs_sub (by decide) f4) (fs_tr z3 y2)⟩
    · have d60 : ¬ kd tb n e1 b1 = 60 := fun z => hc ⟨60, 7, z, Or.inl ⟨rfl, rfl⟩⟩
      have d62 : ¬ kd tb n e1 b1 = 62 := fun z => hc ⟨62, 8, z, Or.inr (Or.inl ⟨rfl, rfl⟩)⟩
      have d61 : ¬ kd tb n e1 b1 = 61 := fun z => hc ⟨61, 9, z, Or.inr (Or.inr ⟨rfl, rfl⟩)⟩
      have x60 : ¬ X1 19 6 = 60 := fun z => d60 ((kd_is s2.1 (by decide) (show (60 : Int32) = nI 60 from rfl)).mp z)
      have x62 : ¬ X1 19 6 = 62 := fun z => d62 ((kd_is s2.1 (by decide) (show (62 : Int32) = nI 62 from rfl)).mp z)
      have x61 : ¬ X1 19 6 = 61 := fun z => d61 ((kd_is s2.1 (by decide) (show (61 : Int32) = nI 61 from rfl)).mp z)
      rw [if_neg x60, if_neg x62, if_neg x61, s2.1.2.1.2.1, show (1 : Int32) = nI 1 from rfl, wrong_e]
      simp only [Option.bind_some]
      rw [gq_e (Or.inl trivial)]
      right
      refine ⟨1, sk tb n e1, wrm X1 1 (sk tb n e1), rfl, wrm_t X1 1 _, FX_t (FX_N (wrm_f 1 _ (by decide))) s3, ⟨by decide, by decide⟩, fun Y W K bs hY hW => ?_⟩
      obtain ⟨Y1, y1, y2, y3⟩ := hF hY hW
      obtain ⟨r1, r2⟩ := RE_LK y1
      have at2 : LK' Y1 tb n e1 177 2 = nI (sk tb n e1) := (LK_s y1.1).2.1
      have ff1 : F_MD_fail (LK' Y1 tb n e1) 1 (nI (sk tb n e1)) = _ := fail_m r1.1.1.1 1 (sk tb n e1)
      rw [if_neg (fun z => d60 ((ch_60 (b := b1) hb).mp z)), if_neg (fun z => d62 ((ch_62 (b := b1) hb).mp z)), if_neg (fun z => d61 ((ch_61 (b := b1) hb).mp z)), at2, ff1] at y3
      have b4 := fail_t (LK' Y1 tb n e1) 1 (sk tb n e1)
      exact ⟨_, (KT_f hY k91 w20).2 _ y3 (mf_ne b4 (by decide) (by decide)), b4, fs_tr (fs_sub (by decide) (fail_f (LK' Y1 tb n e1) 1 (sk tb n e1))) (fs_tr (fs_sub (by decide) r2) y2)⟩
  · right
    refine ⟨k, at', X1, by rw [s1]; rfl, s2, s3, s4, fun Y W K bs hY hW => ?_⟩
    obtain ⟨r1, r2⟩ := RE_LK hY
    obtain ⟨Y1, y1, y2, y3⟩ := s5 _ W K bs r1 (sW_t hW)
    have ne := mf_ne y2.1 s4.1 s4.2
    refine ⟨Y1, (KT_f hY k91 w20).2 Y1 ?_ ne, y2.1, fs_tr y3 (fs_sub (by decide) r2)⟩
    unfold F_MD_qFact
    rw [tk0 hY]
    simp only [Option.bind_some]
    rw [if_pos trivial, y1]
    simp only [Option.bind_some]
    rw [if_neg ne]
end LC8
