/-! later, meets -/
theorem fs_fr_k {X I : MI} (h : fsL DC X I) {q : Nat} (hq : q < 26) : X q = I q := fs_k h (by
  simp only [DC, List.all_cons, List.all_nil, Bool.and_true, Bool.and_eq_true, Bool.not_eq_true', beq_eq_false_iff_ne]
  omega)
section L69
variable {I X : MI} {J JX : MJ} {k o sl sd : Nat} {p : CF} {w : WD} {kl : List NT} {un : List (WD × List NT)}
theorem F_told {f : Int32} (ho : CO p) (h0 : cC p = 0 → cF p = 0 ∧ cR p = 0) (q : 0 ≤ f ∧ f < nI (cF p)) : 0 < cC p := by
  by_cases z : 0 < cC p
  · exact z
  · have z1 := q.1; have z2 := q.2
    rw [(h0 (by omega)).1, nI_0] at z2
    exact absurd z2 (by grind)
/-- later -/
theorem op_later (hr : Rel I J sl) (f v u : Int32) : ∃ a I1 I2 J2, F_WF_later sl sd I f v u = some (a, I1) ∧ F_MD_later I1 J f v u = some (a, I2, J2) ∧ Rel I2 J2 sl := by
  obtain ⟨hq, p, w, kl, un, h⟩ := id hr
  obtain ⟨⟨ho, hQ, h00, -⟩, ⟨hc, hcd, hm, hcn⟩, ht, -⟩ := h.2.1.2.1
  obtain ⟨⟨hv, -, -⟩, hw, hwm, hkc, hkm⟩ := h.2.1.2.2.1
  have hF := ho.2.2.1; have hC := ho.1; have hR := ho.2.1
  obtain ⟨y, y1, y2⟩ := RelX_y h
  unfold F_WF_later
  rw [hasFence_c ho hc]
  by_cases q : 0 ≤ f ∧ f < nI (cF p)
  · have hC0 := F_told ho h00 q
    have hah : ∀ X : MI, WM X p w → X 177 49 = bI (decide (0 < cC p)) → F_MD_isAhead X v 0 60 = some (@ite _ (nI 0 ≤ v ∧ v ≤ nI (min 60 (999 - y))) (Classical.propDecidable _) 1 0) := fun X g1 g2 => ahead_e (a := 0) (b := 60) g1 g2 hC0 y2 y1 (by decide) v
    rw [if_pos q, if_neg (by decide), show (60 : Int32) = nI 60 from rfl, most_c hw y2 y1 (by decide)]
    simp only [Option.bind_some]
    by_cases c1 : nI 0 ≤ v ∧ v ≤ nI (min 60 (999 - y))
    · have c0 : ¬ v < 0 := by have := c1.1; rw [nI_0] at this; grind
      obtain ⟨n, hn, rfl⟩ := nI_of2 (M := nI (min 60 (999 - y))) (n := min 60 (999 - y)) (nI_toInt (by omega)) c0 c1.2
      obtain ⟨a, ha, rfl⟩ := ix_2 (by omega) q
      rw [if_neg c0, if_pos c1.2, nI_clamp (by omega)]
      obtain ⟨z1, z2⟩ := goC h hq y2 (n := n) (by omega)
      generalize py_it (w_take I 31 20) 31 sl n = Z at *
      have hO := it_O ho (RelX_R h) hv y2 n (by omega)
      have hcZ : CC Z sl p := CC_c hc (fun q h1 h2 => fs_fr_k z2 (by omega))
      have hmZ : CM Z p := CM_c hm (fun k hk => fs_k z2 (by rcases hk with z | z | z <;> subst z <;> decide))
      have e49 : Z 177 49 = bI (decide (0 < cC p)) := by rw [z2 177 49 (by decide)]; exact ht
      have hwZ : WM Z p w := WM_c ho hwm (fun j _ => by rw [fs_k z2 (by decide)])
      have start : ∀ (u : Int32), F_MD_later Z J (nI a) (nI n) u = ((F_MD_isIn u.toInt64 (0 : Int64) (2 : Int64)).bind fun r5 => if r5 = (0 : Int32) then (some (((-1) : Int32), Z, J)) else ((F_MD_putsAside Z).bind fun r7 => (F_MD_yearsGo r7 J (nI n)).bind fun r8 => if u = (0 : Int32) then ((F_MD_fieldOf r8.1 (nI a)).bind fun r15 => (F_MD_takesBack r8.1).bind fun r16 => some ((r15 : Int32), r16, r8.2)) else (if u = (1 : Int32) then ((F_MD_leftOf r8.1 (nI a)).bind fun r13 => (F_MD_takesBack r8.1).bind fun r14 => some ((r13 : Int32), r14, r8.2)) else ((F_MD_ageOf r8.1 (nI a)).bind fun r11 => (F_MD_takesBack r8.1).bind fun r12 => some ((r11 : Int32), r12, r8.2))))) := fun u => by
        unfold F_MD_later
        rw [isFence_e ho hmZ]
        simp only [Option.bind_some]
        rw [if_pos q, if_neg (by decide), hah Z hwZ e49]
        simp only [Option.bind_some]
        rw [if_pos c1, if_neg (by decide)]
      have back : ∀ (a : Int32) (C : MI) (JB : MJ), WM C p w → KM C kl → C 177 55 = 0 → fsL (DM ++ DC) C I → fsL K1 JB J → Rel C JB sl := fun a C JB g1 g2 g3 g4 g5 => ⟨hq, p, w, kl, un, RelX_t hq h g4 g5 g1 g2 g3 (by decide) (by decide) (by decide) (by decide) (by decide) (by decide) (by decide) (by decide) (by decide +kernel) (gIron_c (ag_of (by decide) g4) h.2.2.1) (by decide +kernel) (by decide)⟩
      obtain ⟨A, ea, a1, a2, a3, ⟨⟨B, JB⟩, eb, b1, b2, b3, b4⟩⟩ := goM h hq z2 (by decide) (by decide) y2 (n := n) (by omega)
      have b1 : TH B p (a_it p w n) kl := b1
      obtain ⟨C, ec, c2, c3, c4, c5⟩ := backT ho b1 b2
      have hx : fsL (DM ++ DC) C I := fs_tr (fs_sub (by decide) c5) (fs_tr (fs_sub (by decide) b3) (fs_sub (by decide) z2))
      by_cases u0 : u = 0
      · subst u0
        refine ⟨nI (a_fd p (a_it p w n) a), Z, C, JB, ?_, ?_, back 0 C JB c2 c3 c4 hx b4⟩
        · rw [if_pos rfl, hcZ.2.1, field_c z1 hO ho (by omega)]; rfl
        · rw [start, show (0 : Int32).toInt64 = (0 : Int64) by decide, show F_MD_isIn 0 0 2 = some 1 by rw [isIn_e]; rfl]
          simp only [Option.bind_some]
          rw [if_neg (by decide), ea]
          simp only [Option.bind_some]
          rw [eb]
          simp only [Option.bind_some]
          rw [if_pos trivial, field_e ho b1.1 b1.2.2.1 hO]
          simp only [Option.bind_some]
          rw [ec]; rfl
      rw [if_neg u0]
      by_cases u1 : u = 1
      · subst u1
        refine ⟨nI (a_left p (wR (a_it p w n) a)), Z, C, JB, ?_, ?_, back 0 C JB c2 c3 c4 hx b4⟩
        · rw [if_pos rfl, left_c z1 hO ho (by omega)]; rfl
        · rw [start, show (1 : Int32).toInt64 = (1 : Int64) by decide, show F_MD_isIn 1 0 2 = some 1 by rw [isIn_e]; rfl]
          simp only [Option.bind_some]
          rw [if_neg (by decide), ea]
          simp only [Option.bind_some]
          rw [eb]
          simp only [Option.bind_some]
          rw [if_neg (by decide), if_pos trivial, left_e ho b1.1 b1.2.2.1 ha]
          simp only [Option.bind_some]
          rw [ec]; rfl
      rw [if_neg u1]
      by_cases u2 : u = 2
      · subst u2
        refine ⟨wA (a_it p w n) a, Z, C, JB, ?_, ?_, back 0 C JB c2 c3 c4 hx b4⟩
        · rw [if_pos rfl, gd_n (by omega) (by decide), nI_clamp (by omega), show Z 32 a = wA (a_it p w n) a from z1.2.2.1 a (by omega)]
        · rw [start, show (2 : Int32).toInt64 = (2 : Int64) by decide, show F_MD_isIn 2 0 2 = some 1 by rw [isIn_e]; rfl]
          simp only [Option.bind_some]
          rw [if_neg (by decide), ea]
          simp only [Option.bind_some]
          rw [eb]
          simp only [Option.bind_some]
          rw [if_neg (by decide), if_neg (by decide), age_e ho b1.2.2.1 ha]
          simp only [Option.bind_some]
          rw [ec]; rfl
      rw [if_neg u2]
      refine ⟨-1, Z, Z, J, rfl, ?_, hq, p, w, kl, un, RelX_f (DJ := []) hq h z2 (fs_r J) (by decide) (by decide) (by decide) (by decide) (by decide) (by decide) (by decide) (by decide) (by decide +kernel) (by decide) (by decide +kernel) (by decide) (by decide)⟩
      rw [start, show (0 : Int64) = (0 : Int32).toInt64 by decide, show (2 : Int64) = (2 : Int32).toInt64 by decide, isIn_i]
      simp only [Option.bind_some]
      rw [if_neg (show ¬ ((0 : Int32) ≤ u ∧ u ≤ 2) by grind), if_pos rfl]
    · refine ⟨-1, I, I, J, ?_, ?_, hr⟩
      · by_cases c0 : v < 0
        · rw [if_pos c0]
        · rw [if_neg c0, if_neg (fun z => c1 ⟨by rw [nI_0]; grind, z⟩)]
      · unfold F_MD_later
        rw [isFence_e ho hm]
        simp only [Option.bind_some]
        rw [if_pos q, if_neg (by decide), hah I hwm ht]
        simp only [Option.bind_some]
        rw [if_neg c1, if_pos rfl]
  · refine ⟨-1, I, I, J, by rw [if_neg q, if_pos rfl], ?_, hr⟩
    unfold F_MD_later
    rw [isFence_e ho hm]
    simp only [Option.bind_some]
    rw [if_neg q, if_pos rfl]
/-- the first year, of the first n, in which they meet -/
def a_mt (p : CF) (w : WD) (a b : Nat) : Nat → Option Nat
  | 0 => none
  | n + 1 => match a_mt p w a b n with
    | some j => some j
    | none => if b_meet (a_it p w n) a b (cC p) then some n else none
theorem a_mt_up {a b n m j : Nat} (h : a_mt p w a b n = some j) (hm : n ≤ m) : a_mt p w a b m = some j := by
  induction hm with
  | refl => exact h
  | step _ ih => simp only [a_mt]; rw [ih]
/-- meets -/
theorem op_meets (hr : Rel I J sl) (v u : Int32) : ∃ a I1 I2 J2, F_WF_meets sl sd I v u = some (a, I1) ∧ F_MD_meets I1 J v u = some (a, I2, J2) ∧ Rel I2 J2 sl := by
  obtain ⟨hq, p, w, kl, un, h⟩ := id hr
  obtain ⟨⟨ho, hQ, h00, -⟩, ⟨hc, hcd, hm, hcn⟩, ht, -⟩ := h.2.1.2.1
  obtain ⟨⟨hv, -, -⟩, hw, hwm, hkc, hkm⟩ := h.2.1.2.2.1
  have hF := ho.2.2.1; have hC := ho.1; have hR := ho.2.1
  obtain ⟨y, y1, y2⟩ := RelX_y h
  unfold F_WF_meets
  rw [two_c ho hc]
  simp only [Option.bind_some]
  by_cases q : (0 ≤ v ∧ v < nI (cF p)) ∧ (0 ≤ u ∧ u < nI (cF p)) ∧ ¬ v = u
  · rw [if_pos q, if_neg (by decide), show (60 : Int32) = nI 60 from rfl, most_c hw y2 y1 (by decide)]
    simp only [Option.bind_some]
    obtain ⟨a, ha, rfl⟩ := ix_2 (by omega) q.1
    obtain ⟨b, hb, rfl⟩ := ix_2 (by omega) q.2.1
    rw [gq_e (nI_le (by omega) (by decide))]
    generalize hM : min 60 (999 - y) = m at *
    have hmle : m_le (nI m) = m + 1 := by unfold m_le; rw [if_neg (nI_pos (by omega)), nI_clamp (by omega)]
    have mtE : ∀ n, n ≤ m + 1 → mt (w_take I 31 20) sl (nI a) (nI b) n = a_mt p w a b n := by
      intro n
      induction n with
      | zero => intro _; rfl
      | succ n ih =>
        intro hn
        simp only [mt, a_mt]
        rw [ih (by omega)]
        have z1 := (goC h hq y2 (n := n) (by omega)).1
        rw [meet_c z1 (it_O ho (RelX_R h) hv y2 n (by omega)) ho (by omega) (by omega)]
        cases a_mt p w a b n with
        | some j => rfl
        | none =>
          cases b_meet (a_it p w n) a b (cC p) <;> rfl
    have fZ : fsL DC (fm_w I sl (nI a) (nI b) (nI m)) I := by
      unfold fm_w
      split <;> exact fs_fr (fr_itT (fr_takeT fr_refl)) FT_D
    have vZ : fm_v I sl (nI a) (nI b) (nI m) = match a_mt p w a b (m + 1) with
      | some j => nI j
      | none => -1 := by
      unfold fm_v
      rw [hmle, mtE _ (by omega)]
      cases a_mt p w a b (m + 1) <;> rfl
    generalize fm_w I sl (nI a) (nI b) (nI m) = Z at *
    have hmZ : CM Z p := CM_c hm (fun k hk => fs_k fZ (by rcases hk with z | z | z <;> subst z <;> decide))
    have hnZ : CN Z p := CN_c hcn (fun k hk => fs_k fZ (by rcases hk with z | z | z <;> subst z <;> decide))
    have hwZ : WM Z p w := WM_c ho hwm (fun j _ => by rw [fs_k fZ (by decide)])
    have hkZ : KM Z kl := KM_c hkm (fun j _ => by rw [fs_k fZ (by decide)])
    obtain ⟨A, ea, a1, a2, a3⟩ := aside_e hmZ hnZ hwZ hkZ
    have a4 : WMg (A 214) p w := WMg_of ho hwZ a2
    have loop : ∀ d n (X : MI) (JX : MJ), n + d = m → TH X p (a_it p w n) kl → fsL LY X A → fsL K1 JX J → a_mt p w a b n = none → ok (wl (fun s : Int32 × MI × MJ => F_MD_meets_17 s.2.1 s.2.2 (nI a) (nI b) s.1) (nI n, X, JX)) (fun t => ∃ n', n' ≤ m ∧ t.1 = nI n' ∧ TH t.2.1 p (a_it p w n') kl ∧ fsL LY t.2.1 A ∧ fsL K1 t.2.2 J ∧ a_mt p w a b n' = none ∧ (b_meet (a_it p w n') a b (cC p) = true ∨ n' = m)) := by
      intro d
      induction d with
      | zero =>
        intro n X JX hn hT f1 f2 h0
        have hn : n = m := by omega
        refine ok_e (x := (nI n, X, JX)) (wl_in ?_) ⟨n, by omega, rfl, hT, f1, f2, h0, Or.inr hn⟩
        simp only [F_MD_meets_17]
        rw [doMeet_e ho hT.1 hT.2.2.1 ha hb]
        simp only [Option.bind_some]
        by_cases z : bI (b_meet (a_it p w n) a b (cC p)) = 0
        · rw [if_pos z]
          by_cases z2 : (60 : Int32) ≤ nI n
          · rw [if_pos z2]
          · rw [if_neg z2, if_pos]
            rw [hT.2.2.1.1, it_Y, y2, nI_add]
            refine nI_le (a := 999) ?_ (by omega)
            have : ¬ 60 ≤ n := fun z3 => z2 (nI_le (a := 60) z3 (by omega))
            omega
        · rw [if_neg z]
      | succ d ih =>
        intro n X JX hn hT f1 f2 h0
        by_cases z : b_meet (a_it p w n) a b (cC p) = true
        · refine ok_e (x := (nI n, X, JX)) (wl_in ?_) ⟨n, by omega, rfl, hT, f1, f2, h0, Or.inl z⟩
          simp only [F_MD_meets_17]
          rw [doMeet_e ho hT.1 hT.2.2.1 ha hb]
          simp only [Option.bind_some]
          rw [z, if_neg (show ¬ bI true = 0 by decide)]
        · have zf : b_meet (a_it p w n) a b (cC p) = false := by simpa using z
          obtain ⟨⟨Y, JY⟩, ey, g1, g2, g3⟩ := yearT ho hQ (RelX_R h) (it_O ho (RelX_R h) hv y2 n (by omega)) hT JX
          have st : F_MD_meets_17 X JX (nI a) (nI b) (nI n) = some (.inl (nI (n + 1), Y, JY)) := by
            simp only [F_MD_meets_17]
            rw [doMeet_e ho hT.1 hT.2.2.1 ha hb]
            simp only [Option.bind_some]
            rw [zf, if_pos (show bI false = 0 from rfl), if_neg (show ¬ (60 : Int32) ≤ nI n from nI_ge (b := 60) (by omega) (by decide)), if_neg (show ¬ (999 : Int32) ≤ X 213 0 by rw [hT.2.2.1.1, it_Y, y2, nI_add]; exact nI_ge (b := 999) (by omega) (by decide)), ey]
            simp only [Option.bind_some, nI_s]
          have e1 : wl (fun s : Int32 × MI × MJ => F_MD_meets_17 s.2.1 s.2.2 (nI a) (nI b) s.1) (nI n, X, JX) = wl (fun s : Int32 × MI × MJ => F_MD_meets_17 s.2.1 s.2.2 (nI a) (nI b) s.1) (nI (n + 1), Y, JY) := wl_st st
          rw [e1]
          refine ih (n + 1) Y JY (by omega) g1 (fs_tr g2 f1) (fs_tr g3 f2) ?_
          simp only [a_mt]
          rw [h0, zf]; rfl
    obtain ⟨⟨t1, B, JB⟩, eb, n', n1, n2, n3, n4, n5, n6, n7⟩ := loop m 0 A J (by omega) a1 (fs_r A) (fs_r J) rfl
    have n2 : t1 = nI n' := n2
    have n3 : TH B p (a_it p w n') kl := n3
    have n4 : fsL LY B A := n4
    obtain ⟨C, ec, c2, c3, c4, c5⟩ := backT ho n3 (w0 := w) (by rw [fs_k n4 (by decide)]; exact a4)
    have hx : fsL (DM ++ DC) C I := fs_tr (fs_sub (by decide) c5) (fs_tr (fs_sub (by decide) n4) (fs_tr (fs_sub (by decide) a3) (fs_sub (by decide) fZ)))
    have ans : (match a_mt p w a b (m + 1) with
      | some j => nI j
      | none => (-1 : Int32)) = if bI (b_meet (a_it p w n') a b (cC p)) = 0 then -1 else nI n' := by
      cases zb : b_meet (a_it p w n') a b (cC p) with
      | true =>
        have : a_mt p w a b (n' + 1) = some n' := by simp only [a_mt]; rw [n6, zb]; rfl
        rw [a_mt_up this (by omega)]; rfl
      | false =>
        have hn : n' = m := by
          rcases n7 with z | z
          · rw [zb] at z; cases z
          · exact z
        have : a_mt p w a b (m + 1) = none := by
          simp only [a_mt]
          rw [← hn, n6, zb]; rfl
        rw [this]; rfl
    refine ⟨_, Z, C, JB, rfl, ?_, hq, p, w, kl, un, RelX_t hq h hx n5 c2 c3 c4 (by decide) (by decide) (by decide) (by decide) (by decide) (by decide) (by decide) (by decide) (by decide +kernel) (gIron_c (ag_of (by decide) hx) h.2.2.1) (by decide +kernel) (by decide)⟩
    rw [vZ, ans]
    unfold F_MD_meets
    rw [two_e ho hmZ]
    simp only [Option.bind_some]
    rw [if_pos q, if_neg (by decide), ea]
    simp only [Option.bind_some]
    rw [nI_0] at eb
    rw [eb]
    simp only [Option.bind_some]
    unfold F_MD_meets_54
    rw [doMeet_e ho n3.1 n3.2.2.1 ha hb]
    simp only [Option.bind_some]
    rw [ec]
    simp only [Option.bind_some]
    rw [n2]
    split <;> rfl
  · refine ⟨-1, I, I, J, by rw [if_neg q, if_pos rfl], ?_, hr⟩
    unfold F_MD_meets
    rw [two_e ho hm]
    simp only [Option.bind_some]
    rw [if_neg q, if_pos rfl]
end L69
