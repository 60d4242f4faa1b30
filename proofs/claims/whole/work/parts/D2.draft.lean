/-! the draft of a slope, on both sides -/
def rgC (X : MI) (sd a b : Nat) (L cs : List Nat) : Prop := if cs = [] then X sd b ≤ X sd a else ∃ i, X sd a = nI i ∧ X sd b = nI (i + cs.length) ∧ i + cs.length ≤ L.length ∧ ∀ j, j < cs.length → L.getD (i + j) 0 = cs.getD j 0
def rgM (Y : MI) (v : Nat) (L cs : List Nat) : Prop := if cs = [] then Y 210 v = -1 else ∃ i, Y 210 v = nI i ∧ Y 211 v = nI (i + cs.length) ∧ i + cs.length ≤ L.length ∧ ∀ j, j < cs.length → L.getD (i + j) 0 = cs.getD j 0
def DrC (X : MI) (sd : Nat) (p : CF) (w : WD) (td : Nat) (nm : Nat → List Nat) (L : List Nat) (cn : Nat) : Prop := (CC X sd p ∧ WC X (sd + 3) w) ∧ (X sd 0 = nI cn ∧ X sd 4 = nI td) ∧ (∀ f, f < cF p → ∀ k, k < 6 → X (sd + 2) (6 * f + k) = nI ((nm f).getD k 0)) ∧ (rgC X sd 9 10 L (cW p) ∧ rgC X sd 11 12 L (cT p)) ∧ (X 19 5 = nI L.length ∧ ∀ i, i < L.length → X (sd + 7) i = nI (q_tau (L.getD i 0)))
def DrM (Y : MI) (J : MJ) (p : CF) (w : WD) (td : Nat) (nm : Nat → List Nat) (L : List Nat) (cn : Nat) : Prop := (Y 204 0 = nI (cC p) ∧ Y 204 1 = nI (cR p) ∧ Y 205 0 = nI (cF p) ∧ Y 205 1 = nI (n_pst w)) ∧ ((∀ c, c < 6 → Y 207 c = cS p c) ∧ (∀ c, c < 6 → Y 208 c = wP w c) ∧ (∀ f, f < cF p → Y 209 (7 * f) = wA w f) ∧ (∀ f c, f < cF p → c < cC p → Y 209 (7 * f + 1 + c) = wR w f c)) ∧ (Y 177 42 = nI td ∧ Y 177 48 = nI cn) ∧ (∀ f, f < cF p → J 206 f = lN (n27 (nm f) 0)) ∧ (rgM Y 0 L (cW p) ∧ rgM Y 1 L (cT p)) ∧ (Y 177 47 = nI L.length ∧ ∀ i, i < L.length → Y 212 i = nI (L.getD i 0))
def DrI (p : CF) (w : WD) (td : Nat) (nm : Nat → List Nat) (L : List Nat) : Prop := (CO p ∧ 1 ≤ cC p ∧ 4 ≤ cR p ∧ CQ p) ∧ (WO p w ∧ WX p w ∧ wY w = 0 ∧ (∀ f, wK w f = 0) ∧ n_pst w ≤ 12) ∧ td ≤ 100 ∧ (∀ f, f < cF p → (nm f).length ≤ 6 ∧ 1 ≤ (nm f).length ∧ ∀ a, a ∈ nm f → 1 ≤ a ∧ a ≤ 26) ∧ L.length ≤ 1600
def FC (sd : Nat) (X' X : MI) : Prop := ∀ q, q ≠ 19 → (q < sd ∨ sd + 7 < q) → X' q = X q
abbrev LQ5 : List (Nat × Option Nat) := (177, some 35) :: (177, some 50) :: LQ2
abbrev LSl : List (Nat × Option Nat) := [(177, some 42), (177, some 47), (177, some 48), (204, some 0), (204, some 1), (205, some 0), (205, some 1), (207, some 0), (207, some 1), (207, some 2), (207, some 3), (207, some 4), (207, some 5), (208, none), (209, none), (210, some 0), (210, some 1), (211, some 0), (211, some 1), (212, none)] ++ LQ5
def FS (Y' Y : MI) : Prop := fsL LSl Y' Y ∧ ∀ j, 1600 ≤ j → Y' 212 j = Y 212 j
def FJ (J' J : MJ) : Prop := ∀ k j, k ≠ 206 ∨ 6 ≤ j → J' k j = J k j
theorem FC_r (sd : Nat) (X : MI) : FC sd X X := fun _ _ _ => rfl
theorem FC_t {sd : Nat} {X Y Z : MI} (h : FC sd Z Y) (g : FC sd Y X) : FC sd Z X := fun q a c => (h q a c).trans (g q a c)
theorem FC_X {sd : Nat} {X Y : MI} (h : FX sd Y X) : FC sd Y X := fun q a c => h.1 q a (by omega)
theorem FC_N {sd : Nat} {X Y : MI} (h : fsL LN Y X) : FC sd Y X := FC_X (FX_N h)
theorem FC_R {sd : Nat} {X Y : MI} (h : fsL LR Y X) : FC sd Y X := FC_X (FX_R h)
theorem FC_up {sd k j : Nat} {v : Int32} {X Y : MI} (hk : sd ≤ k ∧ k ≤ sd + 7) (h : FC sd Y X) : FC sd (m_up Y k j v) X := fun q a c => by rw [up_k _ _ _ (by omega)]; exact h q a c
theorem FS_r (Y : MI) : FS Y Y := ⟨fs_r Y, fun _ _ => rfl⟩
theorem FS_t {X Y Z : MI} (h : FS Z Y) (g : FS Y X) : FS Z X := ⟨fs_tr h.1 g.1, fun j hj => (h.2 j hj).trans (g.2 j hj)⟩
theorem FS_5 {X Y : MI} (h : fsL LQ5 Y X) : FS Y X := ⟨fs_sub (by decide) h, fun j _ => by rw [fs_k h (by decide)]⟩
theorem FS_M {X Y : MI} (h : fsL LM Y X) : FS Y X := FS_5 (fs_sub (by decide) h)
theorem FJ_r (J : MJ) : FJ J J := fun _ _ _ => rfl
theorem FJ_t {J K L : MJ} (h : FJ L K) (g : FJ K J) : FJ L J := fun k j a => (h k j a).trans (g k j a)
section LD2
variable {I X Y Z V : MI} {J : MJ} {sd n e td cn : Nat} {b : Bool} {tb : Nat → Nat} {p : CF} {w : WD} {nm : Nat → List Nat} {L : List Nat}
theorem DrC_c (hq : sd = 3 ∨ sd = 11) (h : DrC X sd p w td nm L cn) (e : ∀ q, sd ≤ q → q ≤ sd + 7 → Y q = X q) (e5 : Y 19 5 = X 19 5) : DrC Y sd p w td nm L cn := by
  unfold DrC CC WC rgC at *
  rw [e sd (by omega) (by omega), e (sd + 1) (by omega) (by omega), e (sd + 2) (by omega) (by omega), e (sd + 3) (by omega) (by omega), e (sd + 3 + 1) (by omega) (by omega), e (sd + 3 + 2) (by omega) (by omega), e (sd + 3 + 3) (by omega) (by omega), e (sd + 7) (by omega) (by omega), e5]
  exact h
theorem DrC_N (hq : sd = 3 ∨ sd = 11) (h : DrC X sd p w td nm L cn) (f : fsL LN Y X) : DrC Y sd p w td nm L cn := DrC_c hq h (fun q a c => (FX_N (sd := 20) f).1 q (by omega) (by omega)) (f 19 5 (by decide))
theorem DrC_R (hq : sd = 3 ∨ sd = 11) (h : DrC X sd p w td nm L cn) (f : fsL LR Y X) : DrC Y sd p w td nm L cn := DrC_N hq h (fs_sub (by decide) f)
theorem DrM_q (h : DrM Y J p w td nm L cn) (f : fsL LQ5 Z Y) : DrM Z J p w td nm L cn := by
  unfold DrM rgM at *
  rw [fs_k f (k := 204) (by decide), fs_k f (k := 205) (by decide), fs_k f (k := 207) (by decide), fs_k f (k := 208) (by decide), fs_k f (k := 209) (by decide), fs_k f (k := 210) (by decide), fs_k f (k := 211) (by decide), fs_k f (k := 212) (by decide), f 177 42 (by decide), f 177 47 (by decide), f 177 48 (by decide)]
  exact h
theorem DrM_M (h : DrM Y J p w td nm L cn) (f : fsL LM Z Y) : DrM Z J p w td nm L cn := DrM_q h (fs_sub (by decide) f)
/-- a line: the class from e, b, the reference from e2, b2 -/
def JL (F : Option (Int32 × MI)) (G : MI → MJ → Option (MI × MJ)) (X : MI) (sd : Nat) (tb : Nat → Nat) (n e e2 : Nat) (b2 : Bool) (p : CF) (w : WD) (td : Nat) (nm : Nat → List Nat) (L : List Nat) (cn : Nat) : Prop :=
  (∃ e' b' p' w' td' nm' L' X', F = some (1, X') ∧ RS X' tb n e' b' ∧ L'.length ≤ e' ∧ DrC X' sd p' w' td' nm' L' cn ∧ DrI p' w' td' nm' L' ∧ FC sd X' X ∧ e < e' ∧ ∀ Y J, QP Y tb n e2 b2 → DrM Y J p w td nm L cn → ∃ Y' J', G Y J = some (Y', J') ∧ QP Y' tb n e' b' ∧ DrM Y' J' p' w' td' nm' L' cn ∧ FS Y' Y ∧ FJ J' J) ∨
  (∃ k at' X', F = some (0, X') ∧ FTt X' k at' ∧ FC sd X' X ∧ (1 ≤ k ∧ k < 100) ∧ ∀ Y J, QP Y tb n e2 b2 → DrM Y J p w td nm L cn → ∃ Y' J', G Y J = some (Y', J') ∧ MFt Y' k at' ∧ FS Y' Y ∧ FJ J' J)
theorem nf_k {a m k at' : Nat} (h : nf tb n e b a m = some (k, at')) : 1 ≤ k ∧ k < 100 := by
  unfold nf at h
  repeat' split at h
  all_goals first | (cases h; done) | (cases h; omega)
theorem mf_k {k at' : Nat} (h : mf tb n e b = some (k, at')) : 1 ≤ k ∧ k < 100 := by
  unfold mf at h
  repeat' split at h
  all_goals first | (cases h; done) | (cases h; omega)
theorem nf_v {a m : Nat} (h : nf tb n e b a m = none) : kd tb n e b = 257 ∧ a ≤ n_val tb n e ∧ n_val tb n e ≤ m := by
  unfold nf at h
  by_cases k : kd tb n e b = 257
  · rw [if_pos k] at h
    split at h
    · split at h
      · rename_i z; exact ⟨k, z⟩
      · cases h
    · cases h
  · rw [if_neg k] at h; cases h
/-- tide -/
theorem tide_j (hq : sd = 3 ∨ sd = 11) (h : RS X tb n e b) (hk : kd tb n e b = 256) (hd : DrC X sd p w td nm L cn) (hi : DrI p w td nm L) (hl : L.length ≤ e) : JL (F_Reader_tideLine sd X) (fun Y J => (F_MD_number Y 0 100).bind fun r => some (m_up r.2 177 42 r.1, J)) X sd tb n e (tke tb n e) true p w td nm L cn := by
  have hb : ∀ j, j < n → tb j < 256 := fun j hj => (h.1.2.2.1 j hj).1
  obtain ⟨ql, -⟩ := (kd_256 hb).mp hk
  have tg := tke_gt ql
  have sg := sk_ge (tb := tb) (n := n) e
  obtain ⟨A, ea, a1, a2⟩ := word_x (sd := sd) h hk
  obtain ⟨⟨r1, V⟩, ev, v1, v2⟩ := num_c (sd := sd) a1 (a := 0) (m := 100) (by decide) (by decide)
  have ev : F_Reader_number sd A 0 100 = some (r1, V) := ev
  have v1 : fsL LN V A := v1
  unfold F_Reader_tideLine
  rw [ea]
  simp only [Option.bind_some]
  rw [ev]
  simp only [Option.bind_some]
  have fV : FC sd V X := FC_t (FC_N v1) (FC_R a2)
  have dV : DrC V sd p w td nm L cn := DrC_N hq (DrC_R hq hd a2) v1
  rcases v2 with ⟨g1, g2, g3, g4, g5⟩ | ⟨k, at', g1, g2, g3⟩
  · have g2 : r1 = 1 := g2
    have g3 : RS V tb n (tke tb n (tke tb n e)) true := g3
    have g4 : V 19 10 = nI (n_val tb n (tke tb n e)) := g4
    obtain ⟨c1, c2, c3⟩ := nf_v g1
    obtain ⟨q2, -, -⟩ := digs hb a1.2.2 c1
    have sg2 := sk_ge (tb := tb) (n := n) (tke tb n e)
    rw [g2, if_neg (by decide), g4]
    left
    refine ⟨_, true, p, w, n_val tb n (tke tb n e), nm, L, _, rfl, ⟨CTp_c g3.1 (by rw [up_k _ _ _ (by omega)]) (by rw [up_k _ _ _ (by omega)]) (by rw [up_k _ _ _ (by omega)]) (by rw [up_k _ _ _ (by omega)]), ?_, g3.2.2⟩, by omega, ?_, ⟨hi.1, hi.2.1, c3, hi.2.2.2⟩, FC_up (by omega) fV, by omega, fun Y J hY hD => ?_⟩
    · have := g3.2.1
      unfold TK at this ⊢
      rw [up_k _ _ _ (show (19 : Nat) ≠ sd by omega)]; exact this
    · unfold DrC CC WC rgC at dV ⊢
      rw [up_k _ _ _ (show sd + 1 ≠ sd by omega), up_k _ _ _ (show sd + 2 ≠ sd by omega), up_k _ _ _ (show sd + 3 ≠ sd by omega), up_k _ _ _ (show sd + 3 + 1 ≠ sd by omega), up_k _ _ _ (show sd + 3 + 2 ≠ sd by omega), up_k _ _ _ (show sd + 3 + 3 ≠ sd by omega), up_k _ _ _ (show sd + 7 ≠ sd by omega), up_k _ _ _ (show 19 ≠ sd by omega), up_j _ _ _ (show (0 : Nat) ≠ 4 by decide), up_j _ _ _ (show (1 : Nat) ≠ 4 by decide), up_j _ _ _ (show (2 : Nat) ≠ 4 by decide), up_j _ _ _ (show (3 : Nat) ≠ 4 by decide), up_j _ _ _ (show (9 : Nat) ≠ 4 by decide), up_j _ _ _ (show (10 : Nat) ≠ 4 by decide), up_j _ _ _ (show (11 : Nat) ≠ 4 by decide), up_j _ _ _ (show (12 : Nat) ≠ 4 by decide), up_e]
      exact ⟨dV.1, ⟨dV.2.1.1, rfl⟩, dV.2.2⟩
    · obtain ⟨⟨x, U⟩, eu, u1, u2⟩ := num_m hY (a := 0) (m := 100) (by decide) (by decide)
      have eu : F_MD_number Y 0 100 = some (x, U) := eu
      have u1 : fsL LM U Y := u1
      rcases u2 with ⟨-, z2, z3, -⟩ | ⟨k, at', z1, -⟩
      · have z2 : x = nI (n_val tb n (tke tb n e)) := z2
        have z3 : QP U tb n (tke tb n (tke tb n e)) true := z3
        have f3 : fsL [(177, some 42)] (m_up U 177 42 x) U := fs_up (LX := [(177, some 42)]) (by decide) (by decide) (fs_r U)
        refine ⟨m_up U 177 42 x, J, by show (F_MD_number Y 0 100).bind _ = _; rw [eu]; rfl, QP_f z3 f3 (by decide) (by decide +kernel), ?_, ⟨fs_tr (fs_sub (by decide) f3) (FS_M u1).1, fun j hj => by show m_up U 177 42 x 212 j = _; rw [up_k _ _ _ (by decide)]; exact (FS_M u1).2 j hj⟩, FJ_r J⟩
        have dU := DrM_M hD u1
        unfold DrM rgM at dU ⊢
        rw [fs_k f3 (k := 204) (by decide), fs_k f3 (k := 205) (by decide), fs_k f3 (k := 207) (by decide), fs_k f3 (k := 208) (by decide), fs_k f3 (k := 209) (by decide), fs_k f3 (k := 210) (by decide), fs_k f3 (k := 211) (by decide), fs_k f3 (k := 212) (by decide), f3 177 47 (by decide), f3 177 48 (by decide)]
        exact ⟨dU.1, dU.2.1, ⟨(up_e _ _ _ _).trans z2, dU.2.2.1.2⟩, dU.2.2.2⟩
      · rw [g1] at z1; cases z1
  · have g2 : r1 = 0 := g2
    have g3 : FTt V k at' := g3
    right
    refine ⟨k, at', V, by rw [g2, if_pos rfl], g3, fV, nf_k g1, fun Y J hY hD => ?_⟩
    obtain ⟨⟨x, U⟩, eu, u1, u2⟩ := num_m hY (a := 0) (m := 100) (by decide) (by decide)
    have eu : F_MD_number Y 0 100 = some (x, U) := eu
    have u1 : fsL LM U Y := u1
    rcases u2 with ⟨z1, -⟩ | ⟨k2, at2, z1, z2⟩
    · rw [g1] at z1; cases z1
    · rw [g1] at z1
      cases z1
      have z2 : MFt U k at' := z2
      refine ⟨m_up U 177 42 x, J, by show (F_MD_number Y 0 100).bind _ = _; rw [eu]; rfl, ⟨by rw [up_j _ _ _ (by decide)]; exact z2.1, by rw [up_j _ _ _ (by decide)]; exact z2.2⟩, ⟨fs_up (LX := LSl) (by decide) (by decide) (FS_M u1).1, fun j hj => ?_⟩, FJ_r J⟩
      show m_up U 177 42 x 212 j = _
      rw [up_k _ _ _ (by decide)]; exact (FS_M u1).2 j hj
end LD2
