/-! both sides read a sum; the recursion -/
section LC5
variable {I X Y Z : MI} {sd n e o tk : Nat} {b : Bool} {tb : Nat → Nat} {L : List Nat} {F : Option (Int32 × MI)}
theorem sum_l (hq : sd = 3 ∨ sd = 11) (ho : o ≤ 6) (h3 : tk < 3) {rc : Nat → MI → Int32 → Option (Int32 × MI)} (hrp : ∀ X e b L, CE X sd tb n e b L tk → JS false (rc 4 X (nI o)) X sd tb n e b L tk o) : ∀ d e, n - e ≤ d → ∀ X b L c, CE X sd tb n e b L tk → c ≤ e → ¬ kd tb n e b = 42 → ¬ kd tb n e b = 47 →
    (∃ e' b' cs X', wl (fun s : Int32 × MI => F_Reader_sum_12 sd rc s.2 (nI o) s.1) (nI c, X) = some (.inl X') ∧ CE X' sd tb n e' b' (L ++ cs) tk ∧ FX sd X' X ∧ e + cs.length ≤ e' ∧ (∀ pre, tyk false (20 + 8 * o) pre → tyk false (20 + 8 * o) (pre ++ cs)) ∧ alk tk cs ∧ nop (kd tb n e' b') ∧ ∀ v0 Y W S K bs, RE Y tb n e b (W ++ S) K o bs tk → ¬ tp (fun x => (1 ≤ x ∧ x ≤ 4) ∨ 60 ≤ x) W → bs ≤ W.length → opS S → ∃ Y' S' ks, KG v0 Y = KG v0 Y' ∧ RE Y' tb n e' b' (W ++ S') (K ++ ks) o bs tk ∧ opS S' ∧ S.reverse ++ cs = ks ++ S'.reverse ∧ fsL LQ Y' Y) ∨
    (∃ k at' X', wl (fun s : Int32 × MI => F_Reader_sum_12 sd rc s.2 (nI o) s.1) (nI c, X) = some (.inr (0, X')) ∧ FTt X' k at' ∧ FX sd X' X ∧ (1 ≤ k ∧ k < 100) ∧ ∀ v0 Y W S K bs, RE Y tb n e b (W ++ S) K o bs tk → ¬ tp (fun x => (1 ≤ x ∧ x ≤ 4) ∨ 60 ≤ x) W → bs ≤ W.length → opS S → ∃ Y', KG v0 Y = some Y' ∧ MFr Y' k at' ∧ fsL LQ Y' Y) := by
  intro d
  induction d with
  | zero =>
    intro e hd X b L c h hc n1 n2
    have he := h.1.2.2
    have kE : kd tb n e b = 258 := by
      rcases kd_end (tb := tb) b he with z | z
      · have := sk_ge (tb := tb) (n := n) e; omega
      · exact z.2
    have stp : F_Reader_sum_12 sd rc X (nI o) (nI c) = some (.inr (.inl X)) := by
      unfold F_Reader_sum_12
      by_cases z : (1600 : Int32) ≤ nI c
      · rw [if_pos z]
      · rw [if_neg z, if_neg (fun y => by have := (kd_is h.1 (by decide) (show (43 : Int32) = nI 43 from rfl)).mp y; omega), if_neg (fun y => by have := (kd_is h.1 (by decide) (show (45 : Int32) = nI 45 from rfl)).mp y; omega)]
    left
    refine ⟨e, b, [], X, wl_in stp, by rw [List.append_nil]; exact h, FX_r sd X, by simp, fun pre hp => by rw [List.append_nil]; exact hp, fun x hx => (by cases hx), ⟨by omega, by omega, by omega, by omega⟩, fun v0 Y W S K bs hY hW hb hS => ⟨Y, S, [], rfl, by rw [List.append_nil]; exact hY, hS, by simp, fs_r Y⟩⟩
  | succ d ih =>
    intro e hd X b L c h hc n1 n2
    have he := h.1.2.2
    have n16 := h.1.1.2.1
    by_cases k : kd tb n e b = 43 ∨ kd tb n e b = 45
    · obtain ⟨ql, -, -, -, te1⟩ := kd_sign (e := e) (b := b) (tb := tb) (n := n) (by omega)
      have sg := sk_ge (tb := tb) (n := n) e
      obtain ⟨A, ea, a1, a2⟩ := sign_n (sd := sd) h.1 (c := kd tb n e b) (by omega) rfl
      have cA := CE_m hq h a1 (fs_sub (by decide) a2) (by omega)
      have hop : ∃ m, (m = 1 ∨ m = 2) ∧ m = (if kd tb n e b = 43 then 1 else 2) ∧ F_Reader_sum_12 sd rc X (nI o) (nI c) = F_Reader_sum_55 sd rc X (nI o) (nI c) (nI (q_tau m)) := by
        refine ⟨if kd tb n e b = 43 then 1 else 2, by split <;> simp, rfl, ?_⟩
        unfold F_Reader_sum_12 F_Reader_sum_37
        rw [if_neg (show ¬ (1600 : Int32) ≤ nI c from nI_ge (b := 1600) (by omega) (by decide))]
        by_cases z : kd tb n e b = 43
        · have e6 : X 19 6 = 43 := (kd_is h.1 (by decide) (show (43 : Int32) = nI 43 from rfl)).mpr z
          rw [if_pos e6, if_pos e6, if_pos z]; rfl
        · have e6 : ¬ X 19 6 = 43 := fun y => z ((kd_is h.1 (by decide) (show (43 : Int32) = nI 43 from rfl)).mp y)
          rw [if_neg e6, if_pos ((kd_is h.1 (by decide) (show (45 : Int32) = nI 45 from rfl)).mpr (k.resolve_left z)), if_neg e6, if_neg z]; rfl
      obtain ⟨m, m1, m2, m3⟩ := hop
      unfold F_Reader_sum_55 at m3
      rw [ea] at m3
      simp only [Option.bind_some] at m3
      have goY : ∀ v0 Y W S K bs, RE Y tb n e b (W ++ S) K o bs tk → ¬ tp (fun x => (1 ≤ x ∧ x ≤ 4) ∨ 60 ≤ x) W → bs ≤ W.length → opS S → ∃ Y1, KG v0 Y = KP v0 Y1 ∧ RE Y1 tb n (sk tb n e + 1) false (W ++ [m]) (K ++ S.reverse) o bs tk ∧ fsL LQ Y1 Y := by
        intro v0 Y W S K bs hY hW hbs hS
        obtain ⟨Y1, y1, y2, y3⟩ := go_add (v0 := v0) hY k hS (tp_m hW (fun x hx => Or.inl hx)) hbs
        rw [← m2] at y2
        exact ⟨Y1, y1, y2, y3⟩
      have tpm : ∀ W : List Nat, ¬ tp (fun x => ((if false = true then 1 else 3) ≤ x ∧ x ≤ 4) ∨ 60 ≤ x) (W ++ [m]) := fun W z => by have := tp_a.mp z; simp at this; omega
      rcases hrp A _ _ _ cA with ⟨e1, b1, cs, X1, s1, s2, s3, s4, s5, s6, s7, s8, s9⟩ | ⟨k2, at', X1, s1, s2, s3, s4, s5⟩
      · obtain ⟨U, u1, u2, u3⟩ := emit_n hq s2 (by rw [List.length_append]; have := h.2.1.2.2; omega) m
        rw [s1] at m3
        simp only [Option.bind_some] at m3
        rw [if_neg (by decide), u1] at m3
        simp only [Option.bind_some, nI_s] at m3
        have e2 : wl (fun s : Int32 × MI => F_Reader_sum_12 sd rc s.2 (nI o) s.1) (nI c, X) = wl (fun s : Int32 × MI => F_Reader_sum_12 sd rc s.2 (nI o) s.1) (nI (c + 1), U) := wl_st m3
        have fU : FX sd U X := FX_t u3 (FX_t s3 (FX_R a2))
        rw [e2]
        have s6 : tyk false (21 + 8 * o) cs := s6
        have hty : ∀ pre, tyk false (20 + 8 * o) pre → tyk false (20 + 8 * o) (pre ++ (cs ++ [m])) := fun pre hp => by
          rw [← List.append_assoc]
          exact tyk_2 hp s6 (by omega) (fun t _ => ty_b (by omega) (by omega) t)
        have opm : ∀ {Sp : List Nat}, (∀ x, x ∈ Sp → (if false = true then 1 else 3) ≤ x ∧ x ≤ 4) → opS ([m] ++ Sp) := fun hSp x hx => by
          rcases List.mem_append.mp hx with z | z
          · rw [List.mem_singleton.mp z]; omega
          · have := hSp x z; simp at this; omega
        rcases ih e1 (by omega) U b1 (L ++ cs ++ [m]) (c + 1) u2 (by omega) s8.1 s8.2.1 with ⟨e3, b3, ds, X3, t1, t2, t3, t4, t5, t6, t7, t8⟩ | ⟨k3, at3, X3, t1, t2, t3, t4, t5⟩
        · left
          refine ⟨e3, b3, cs ++ [m] ++ ds, X3, t1, by simpa [List.append_assoc] using t2, FX_t t3 fU, by simp; omega, fun pre hp => ?_, alk_a (alk_a s7 (alk_1 (by omega))) t6, t7, fun v0 Y W S K bs hY hW hbs hS => ?_⟩
          · have := t5 _ (hty pre hp)
            simpa [List.append_assoc] using this
          · obtain ⟨Y1, y1, y2, y3⟩ := goY v0 Y W S K bs hY hW hbs hS
            obtain ⟨Y2, Sp, kp, z1, z2, z3, z4, z5⟩ := s9 v0 Y1 _ _ bs y2 (tpm W)
            rw [List.append_assoc] at z2
            obtain ⟨Y3, S', ks, w1, w2, w3, w4, w5⟩ := t8 v0 Y2 W ([m] ++ Sp) _ bs z2 hW hbs (opm z3)
            refine ⟨Y3, S', S.reverse ++ kp ++ ks, (y1.trans z1).trans w1, by simpa [List.append_assoc] using w2, w3, ?_, fs_tr w5 (fs_tr z5 y3)⟩
            have w4 : Sp.reverse ++ ([m] ++ ds) = ks ++ S'.reverse := by rw [← w4]; simp
            rw [z4]
            have : S.reverse ++ (kp ++ Sp.reverse ++ [m] ++ ds) = S.reverse ++ kp ++ (Sp.reverse ++ ([m] ++ ds)) := by simp
            rw [this, w4]; simp
        · right
          refine ⟨k3, at3, X3, t1, t2, FX_t t3 fU, t4, fun v0 Y W S K bs hY hW hbs hS => ?_⟩
          obtain ⟨Y1, y1, y2, y3⟩ := goY v0 Y W S K bs hY hW hbs hS
          obtain ⟨Y2, Sp, kp, z1, z2, z3, z4, z5⟩ := s9 v0 Y1 _ _ bs y2 (tpm W)
          rw [List.append_assoc] at z2
          obtain ⟨Y3, w1, w2, w3⟩ := t5 v0 Y2 W ([m] ++ Sp) _ bs z2 hW hbs (opm z3)
          exact ⟨Y3, (y1.trans z1).trans w1, w2, fs_tr w3 (fs_tr z5 y3)⟩
      · right
        rw [s1] at m3
        simp only [Option.bind_some] at m3
        rw [if_pos trivial] at m3
        refine ⟨k2, at', X1, wl_in m3, s2, FX_t s3 (FX_R a2), s4, fun v0 Y W S K bs hY hW hbs hS => ?_⟩
        obtain ⟨Y1, y1, y2, y3⟩ := goY v0 Y W S K bs hY hW hbs hS
        obtain ⟨Y2, z1, z2, z3⟩ := s5 v0 Y1 _ _ bs y2 (tpm W)
        exact ⟨Y2, y1.trans z1, z2, fs_tr z3 y3⟩
    · have stp : F_Reader_sum_12 sd rc X (nI o) (nI c) = some (.inr (.inl X)) := by
        unfold F_Reader_sum_12
        by_cases z : (1600 : Int32) ≤ nI c
        · rw [if_pos z]
        · rw [if_neg z, if_neg (fun y => k (Or.inl ((kd_is h.1 (by decide) (show (43 : Int32) = nI 43 from rfl)).mp y))), if_neg (fun y => k (Or.inr ((kd_is h.1 (by decide) (show (45 : Int32) = nI 45 from rfl)).mp y)))]
      left
      refine ⟨e, b, [], X, wl_in stp, by rw [List.append_nil]; exact h, FX_r sd X, by simp, fun pre hp => by rw [List.append_nil]; exact hp, fun x hx => (by cases hx), ⟨n1, n2, fun z => k (Or.inl z), fun z => k (Or.inr z)⟩, fun v0 Y W S K bs hY hW hb hS => ⟨Y, S, [], rfl, by rw [List.append_nil]; exact hY, hS, by simp, fs_r Y⟩⟩
/-- a sum -/
theorem sum_j (hq : sd = 3 ∨ sd = 11) (ho : o ≤ 6) (h3 : tk < 3) {rc : Nat → MI → Int32 → Option (Int32 × MI)} (hrp : ∀ X e b L, CE X sd tb n e b L tk → JS false (rc 4 X (nI o)) X sd tb n e b L tk o) (h : CE X sd tb n e b L tk) : JS true (F_Reader_sum sd rc X (nI o)) X sd tb n e b L tk o := by
  unfold F_Reader_sum
  have tw : ∀ {W : List Nat}, ¬ tp (fun x => ((if true = true then 1 else 3) ≤ x ∧ x ≤ 4) ∨ 60 ≤ x) W → ¬ tp (fun x => (1 ≤ x ∧ x ≤ 4) ∨ 60 ≤ x) W ∧ ¬ tp (fun x => ((if false = true then 1 else 3) ≤ x ∧ x ≤ 4) ∨ 60 ≤ x) W := fun hW => ⟨tp_m hW (fun x hx => by simp; omega), tp_m hW (fun x hx => by simp at hx ⊢; omega)⟩
  rcases hrp X _ _ _ h with ⟨e1, b1, cs, X1, s1, s2, s3, s4, s5, s6, s7, s8, s9⟩ | ⟨k, at', X1, s1, s2, s3, s4, s5⟩
  · rw [s1]
    simp only [Option.bind_some]
    rw [if_neg (by decide)]
    have opp : ∀ {Sp : List Nat}, (∀ x, x ∈ Sp → (if false = true then 1 else 3) ≤ x ∧ x ≤ 4) → opS Sp := fun hSp x hx => by have := hSp x hx; simp at this; omega
    rcases sum_l hq ho h3 hrp (n - e1) e1 (Nat.le_refl _) X1 b1 (L ++ cs) 0 s2 (Nat.zero_le _) s8.1 s8.2.1 with ⟨e2, b2, ds, X2, t1, t2, t3, t4, t5, t6, t7, t8⟩ | ⟨k, at', X2, t1, t2, t3, t4, t5⟩
    · left
      have t1 : wl (fun s : Int32 × MI => F_Reader_sum_12 sd rc s.2 (nI o) s.1) (0, X1) = some (.inl X2) := t1
      have s6 : tyk false (21 + 8 * o) cs := s6
      refine ⟨e2, b2, cs ++ ds, X2, by rw [t1]; rfl, by simpa [List.append_assoc] using t2, FX_t t3 s3, by simp; omega, by omega, t5 cs (tyk_l s6 (by omega)), alk_a s7 t6, ⟨t7.1, t7.2.1, fun _ => ⟨t7.2.2.1, t7.2.2.2⟩⟩, fun v0 Y W K bs hY hW => ?_⟩
      obtain ⟨hW1, hW2⟩ := tw hW
      obtain ⟨Y1, Sp, kp, y1, y2, y3, y4, y5⟩ := s9 v0 Y W K bs hY hW2
      obtain ⟨Y2, S', ks, w1, w2, w3, w4, w5⟩ := t8 v0 Y1 W Sp _ bs y2 hW1 (RE_o hY) (opp y3)
      refine ⟨Y2, S', kp ++ ks, y1.trans w1, by simpa [List.append_assoc] using w2, fun x hx => by have := w3 x hx; simp; omega, ?_, fs_tr w5 y5⟩
      rw [y4, List.append_assoc, w4]; simp
    · right
      have t1 : wl (fun s : Int32 × MI => F_Reader_sum_12 sd rc s.2 (nI o) s.1) (0, X1) = some (.inr (0, X2)) := t1
      refine ⟨k, at', X2, by rw [t1]; rfl, t2, FX_t t3 s3, t4, fun v0 Y W K bs hY hW => ?_⟩
      obtain ⟨hW1, hW2⟩ := tw hW
      obtain ⟨Y1, Sp, kp, y1, y2, y3, y4, y5⟩ := s9 v0 Y W K bs hY hW2
      obtain ⟨Y2, w1, w2, w3⟩ := t5 v0 Y1 W Sp _ bs y2 hW1 (RE_o hY) (opp y3)
      exact ⟨Y2, y1.trans w1, w2, fs_tr w3 y5⟩
  · right
    exact ⟨k, at', X1, by rw [s1]; rfl, s2, s3, s4, fun v0 Y W K bs hY hW => s5 v0 Y W K bs hY (tw hW).2⟩
theorem rdr_j (hq : sd = 3 ∨ sd = 11) (h3 : tk < 3) : ∀ φ o, o ≤ 6 → (3 * (7 - o) + 1 ≤ φ → ∀ X e b L, CE X sd tb n e b L tk → JP (rdr sd φ 5 X (nI o)) X sd tb n e b L tk o) ∧ (3 * (7 - o) + 2 ≤ φ → ∀ X e b L, CE X sd tb n e b L tk → JS false (rdr sd φ 4 X (nI o)) X sd tb n e b L tk o) ∧ (3 * (7 - o) + 3 ≤ φ → ∀ X e b L, CE X sd tb n e b L tk → JS true (rdr sd φ 3 X (nI o)) X sd tb n e b L tk o) := by
  intro φ
  induction φ with
  | zero => intro o ho; exact ⟨fun z => by omega, fun z => by omega, fun z => by omega⟩
  | succ φ ih =>
    intro o ho
    refine ⟨fun z X e b L h => ?_, fun z X e b L h => ?_, fun z X e b L h => ?_⟩
    · have e5 : rdr sd (φ + 1) 5 X (nI o) = F_Reader_part sd (rdr sd φ) X (nI o) := rfl
      rw [e5]
      exact part_j hq h ho h3 (fun X e b L o6 h => (ih (o + 1) (by omega)).2.2 (by omega) X e b L h) (fun X e b L o6 h => (ih (o + 1) (by omega)).1 (by omega) X e b L h)
    · have e4 : rdr sd (φ + 1) 4 X (nI o) = F_Reader_product sd (rdr sd φ) X (nI o) := rfl
      rw [e4]
      exact prod_j hq ho h3 (fun X e b L h => (ih o ho).1 (by omega) X e b L h) h
    · have e3 : rdr sd (φ + 1) 3 X (nI o) = F_Reader_sum sd (rdr sd φ) X (nI o) := rfl
      rw [e3]
      exact sum_j hq ho h3 (fun X e b L h => (ih o ho).2.1 (by omega) X e b L h) h
abbrev LQ2 : List (Nat × Option Nat) := (177, some 96) :: LQ
/-- the reference's whole sum -/
theorem d53_m {W S K : List Nat} {bs : Nat} (h : QS Y (W ++ S) K o bs) (hv : wv (W ++ S)) (h5 : Y 177 5 = 0) (hb : bs = W.length) (hl : W.length + S.length + K.length < 1690) (v : Int32) : ∃ Y', wl (fun s : MI => F_MD_qSums_53 s v) Y = some Y' ∧ QS Y' W (K ++ S.reverse) o bs ∧ fsL LSt Y' Y := by
  refine drops_w (o := o) (bs := bs) (fun W => bs < W.length) (fun Y W K h hv h5 hl hK => ?_) S.length S rfl W K Y h hv h5 (fun S' x S'' ex => by rw [List.length_append, List.length_append]; simp; omega) (by omega) (by omega)
  unfold F_MD_qSums_53
  rw [if_pos h5, h.1.1, h.2.2.2]
  by_cases c : bs < W.length
  · exact ⟨fun _ => by rw [if_neg (nI_ge c (by omega))], fun z => absurd c z⟩
  · exact ⟨fun z => absurd z c, fun _ => by rw [if_pos (nI_le (by omega) (by omega))]⟩
def qsumR (F : Option (Int32 × MI)) (X : MI) (sd : Nat) (tb : Nat → Nat) (n e : Nat) (b : Bool) (L : List Nat) (tk o : Nat) : Prop :=
  (∃ e' b' cs X', F = some (1, X') ∧ CE X' sd tb n e' b' (L ++ cs) tk ∧ FX sd X' X ∧ e + cs.length ≤ e' ∧ e < e' ∧ tyk false (20 + 8 * o) cs ∧ alk tk cs ∧ nop (kd tb n e' b') ∧ ∀ Y W K bs, RE Y tb n e b W K o bs tk → ¬ tp (fun x => (1 ≤ x ∧ x ≤ 4) ∨ 60 ≤ x) W → ∃ Y', F_MD_qSums Y = some Y' ∧ RE Y' tb n e' b' W (K ++ cs) o bs tk ∧ fsL LQ2 Y' Y) ∨
  (∃ k at' X', F = some (0, X') ∧ FTt X' k at' ∧ FX sd X' X ∧ (1 ≤ k ∧ k < 100) ∧ ∀ Y W K bs, RE Y tb n e b W K o bs tk → ¬ tp (fun x => (1 ≤ x ∧ x ≤ 4) ∨ 60 ≤ x) W → ∃ Y', F_MD_qSums Y = some Y' ∧ MFr Y' k at' ∧ fsL LQ2 Y' Y)
theorem qsum_j (hJ : JS true F X sd tb n e b L tk o) : qsumR F X sd tb n e b L tk o := by
  have tw : ∀ {W : List Nat}, ¬ tp (fun x => (1 ≤ x ∧ x ≤ 4) ∨ 60 ≤ x) W → ¬ tp (fun x => ((if true = true then 1 else 3) ≤ x ∧ x ≤ 4) ∨ 60 ≤ x) W := fun hW => tp_m hW (fun x hx => by simp at hx; omega)
  have base : ∀ {Y : MI} {W K : List Nat} {bs : Nat}, RE Y tb n e b W K o bs tk → RE (m_up Y 177 96 (Y 177 94)) tb n e b W K o W.length tk ∧ fsL LQ2 (m_up Y 177 96 (Y 177 94)) Y := fun {Y W K bs} hY => by
    obtain ⟨h1, h2, h3, h4, h5, h6, h7, h8⟩ := hY
    have f1 : fsL [(177, some 96)] (m_up Y 177 96 (Y 177 94)) Y := fs_up (LX := [(177, some 96)]) (by decide) (by decide) (fs_r Y)
    refine ⟨⟨QP_f h1 f1 (by decide) (by decide +kernel), ?_, ?_, h4, Nat.le_refl _, h6, h7, h8⟩, fs_sub (by decide) f1⟩
    · obtain ⟨⟨g1, g2⟩, ⟨g3, g4⟩, g5, g6⟩ := h2
      refine ⟨⟨?_, fun i hi => ?_⟩, ⟨?_, fun i hi => ?_⟩, ?_, ?_⟩
      · rw [up_j _ _ _ (by decide)]; exact g1
      · rw [up_k _ _ _ (by decide)]; exact g2 i hi
      · rw [up_j _ _ _ (by decide)]; exact g3
      · rw [up_k _ _ _ (by decide)]; exact g4 i hi
      · rw [up_j _ _ _ (by decide)]; exact g5
      · rw [up_e]; exact g1
    · rw [up_j _ _ _ (by decide)]; exact h3
  rcases hJ with ⟨e1, b1, cs, X1, s1, s2, s3, s4, s5, s6, s7, s8, s9⟩ | ⟨k, at', X1, s1, s2, s3, s4, s5⟩
  · left
    have nn : nop (kd tb n e1 b1) := ⟨s8.1, s8.2.1, (s8.2.2 rfl).1, (s8.2.2 rfl).2⟩
    refine ⟨e1, b1, cs, X1, s1, s2, s3, s4, s5, s6, s7, nn, fun Y W K bs hY hW => ?_⟩
    obtain ⟨b2, f2⟩ := base hY
    obtain ⟨Y1, S, ks, y1, y2, y3, y4, y5⟩ := s9 (Y 177 96) _ W K W.length b2 (tw hW)
    have ops : opS S := fun x hx => by have := y3 x hx; simp at this; omega
    have y6 := go_end (v0 := Y 177 96) y2 nn ops rfl
    obtain ⟨r1, r2⟩ := RE_LK y2
    obtain ⟨n16, hn, -, -⟩ := RE_n y2
    have hlen := r1.2.2.2.2.2.1
    rw [List.length_append] at hlen
    obtain ⟨Y2, z1, z2, z3⟩ := d53_m r1.2.1 r1.2.2.2.2.2.2.1 r1.1.1.1 rfl (by omega) (Y 177 96)
    have fZ : fsL LQ2 Y2 Y := fs_tr (fs_sub (by decide) z3) (fs_tr (fs_sub (by decide) r2) (fs_tr (fs_sub (by decide) y5) f2))
    have f3 : fsL [(177, some 96)] (m_up Y2 177 96 (Y 177 96)) Y2 := fs_up (LX := [(177, some 96)]) (by decide) (by decide) (fs_r Y2)
    refine ⟨m_up Y2 177 96 (Y 177 96), ?_, ⟨QP_f (QP_f r1.1 z3 (by decide) (by decide +kernel)) f3 (by decide) (by decide +kernel), ?_, ?_, hY.2.2.2.1, RE_o hY, ?_, hY.2.2.2.2.2.2.1, hY.2.2.2.2.2.2.2⟩, fs_tr (fs_sub (by decide) f3) fZ⟩
    · unfold F_MD_qSums
      have : KP (Y 177 96) (m_up Y 177 96 (Y 177 94)) = some (LK' Y1 tb n e1) := y1.trans y6
      unfold KP at this
      rw [this]
      simp only [Option.bind_some]
      rw [z1]; rfl
    · obtain ⟨⟨g1, g2⟩, ⟨g3, g4⟩, g5, g6⟩ := z2
      rw [List.append_assoc, ← y4] at g3 g4
      refine ⟨⟨?_, fun i hi => ?_⟩, ⟨?_, fun i hi => ?_⟩, ?_, ?_⟩
      · rw [up_j _ _ _ (by decide)]; exact g1
      · rw [up_k _ _ _ (by decide)]; exact g2 i hi
      · rw [up_j _ _ _ (by decide)]; exact g3
      · rw [up_k _ _ _ (by decide)]; exact g4 i hi
      · rw [up_j _ _ _ (by decide)]; exact g5
      · rw [up_e]; exact hY.2.1.2.2.2
    · rw [up_j _ _ _ (by decide), fZ 177 50 (by decide)]; exact hY.2.2.1
    · rw [List.length_append]; have := hY.2.2.2.2.2.1; omega
  · right
    refine ⟨k, at', X1, s1, s2, s3, s4, fun Y W K bs hY hW => ?_⟩
    obtain ⟨b2, f2⟩ := base hY
    obtain ⟨Y1, y1, y2, y3⟩ := s5 (Y 177 96) _ W K W.length b2 (tw hW)
    refine ⟨m_up Y1 177 96 (Y 177 96), ?_, ⟨⟨by rw [up_j _ _ _ (by decide)]; exact y2.1.1, by rw [up_j _ _ _ (by decide)]; exact y2.1.2⟩, by rw [up_j _ _ _ (by decide)]; exact y2.2⟩, fs_up (LX := LQ2) (by decide) (by decide) (fs_tr (fs_sub (by decide) y3) f2)⟩
    unfold F_MD_qSums
    unfold KP at y1
    rw [y1]
    simp only [Option.bind_some]
    have : wl (fun s : MI => F_MD_qSums_53 s (Y 177 96)) Y1 = some Y1 := wl_in (by
      unfold F_MD_qSums_53
      rw [if_neg (mf_ne y2.1 s4.1 s4.2)])
    rw [this]; rfl
theorem sum0_j (hq : sd = 3 ∨ sd = 11) (h3 : tk < 3) (h : CE X sd tb n e b L tk) : qsumR (F_Reader_sum0 sd X 0) X sd tb n e b L tk 0 := qsum_j ((rdr_j hq h3 60 0 (by decide)).2.2 (by decide) X e b L h)
end LC5
