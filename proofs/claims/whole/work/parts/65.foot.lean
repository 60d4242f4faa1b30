/-! which fields each group of the relation reads; calls that change little -/
def disL (D G : List (Nat × Option Nat)) : Bool := G.all (fun g => D.all (fun d => !(d.1 == g.1) || (match d.2, g.2 with
  | some a, some b => !(a == b)
  | _, _ => false)))
def ag {α : Type} (G : List (Nat × Option Nat)) (X I : Nat → Nat → α) : Prop := ∀ q, q ∈ G → match q.2 with
  | none => X q.1 = I q.1
  | some j => X q.1 j = I q.1 j
theorem ag_of {α : Type} {D G : List (Nat × Option Nat)} {X I : Nat → Nat → α} (hd : disL D G = true) (h : fsL D X I) : ag G X I := by
  intro q hq
  have h1 := List.all_eq_true.mp hd q hq
  have key : ∀ j, (q.2 = none ∨ q.2 = some j) → inL D q.1 j = false := by
    intro j hj
    cases e : inL D q.1 j with
    | false => rfl
    | true =>
      obtain ⟨d, hdm, h2⟩ := List.any_eq_true.mp e
      have h3 := List.all_eq_true.mp h1 d hdm
      simp only [Bool.and_eq_true] at h2
      rw [h2.1] at h3
      obtain ⟨q1, q2⟩ := q
      obtain ⟨d1, d2⟩ := d
      rcases hj with hj | hj
      · dsimp only at hj h3
        subst hj
        cases d2 <;> simp at h3
      · dsimp only at hj h3 h2
        subst hj
        cases d2 with
        | none => simp at h3
        | some a =>
          simp at h3 h2
          exact absurd h2.2 h3
  obtain ⟨q1, q2⟩ := q
  cases q2 with
  | none => exact funext fun j => h q1 j (key j (Or.inl rfl))
  | some j => exact h q1 j (key j (Or.inr rfl))
abbrev fTape : List (Nat × Option Nat) := [(1, some 1), (2, none), (177, some 1), (178, none)]
abbrev fFault : List (Nat × Option Nat) := [(19, some 1), (19, some 2), (177, some 7), (177, some 8)]
abbrev fRef : List (Nat × Option Nat) := [(176, none), (179, none)]
abbrev fImg : List (Nat × Option Nat) := [(174, some 1), (175, none), (177, some 102), (247, none)]
abbrev fSeed : List (Nat × Option Nat) := [(0, some 12)]
abbrev fSeen : List (Nat × Option Nat) := [(170, some 3), (171, none), (172, none), (173, none), (177, some 59), (217, none)]
abbrev fSlope : List (Nat × Option Nat) := [(3, none), (4, none), (5, none), (6, none), (7, none), (8, none), (9, none), (10, none), (11, none), (12, none), (13, none), (14, none), (15, none), (16, none), (17, none), (18, none), (177, some 49), (177, some 43), (204, none), (205, none), (207, none), (210, none), (211, none), (212, none)]
abbrev fNow : List (Nat × Option Nat) := [(20, none), (21, none), (22, none), (23, none), (45, none), (46, none), (213, none)]
abbrev fIron : List (Nat × Option Nat) := [(30, some 7), (30, some 8), (30, some 9), (30, some 10), (30, some 11)]
def fHist : List (Nat × Option Nat) := (47, some 2) :: (47, some 3) :: (177, some 66) :: (177, some 67) :: (221, none) :: (List.range 120).map (fun i => (50 + i, none))
def fWord : List (Nat × Option Nat) := (2, none) :: m_wds.map (fun q => (q.1, none))
section F65
variable {I X : MI} {J JX : MJ} {sl sd : Nat} {p : CF} {w : WD} {kl : List NT} {un : List (WD × List NT)}
theorem gTape_c (a : ag fTape X I) (h : gTape I) : gTape X := by
  obtain ⟨n, tb, h1, h2, h3, h4⟩ := h
  have a1 : X 1 1 = I 1 1 := a (1, some 1) (by decide)
  have a2 : X 2 = I 2 := a (2, none) (by decide)
  have a3 : X 177 1 = I 177 1 := a (177, some 1) (by decide)
  have a4 : X 178 = I 178 := a (178, none) (by decide)
  exact ⟨n, tb, h1, by rw [a1]; exact h2, by rw [a3]; exact h3, by rw [a2, a4]; exact h4⟩
theorem gFault_c (a : ag fFault X I) (h : gFault I) : gFault X := by
  have a1 : X 19 1 = I 19 1 := a (19, some 1) (by decide)
  have a2 : X 19 2 = I 19 2 := a (19, some 2) (by decide)
  have a3 : X 177 7 = I 177 7 := a (177, some 7) (by decide)
  have a4 : X 177 8 = I 177 8 := a (177, some 8) (by decide)
  unfold gFault
  rw [a1, a2, a3, a4]; exact h
theorem gRef_c (a : ag fRef X I) (h : gRef I) : gRef X := by
  have a1 : X 176 = I 176 := a (176, none) (by decide)
  have a2 : X 179 = I 179 := a (179, none) (by decide)
  unfold gRef
  rw [a1, a2]; exact h
theorem gImg_c (a : ag fImg X I) (h : gImg I) : gImg X := by
  have a1 : X 174 1 = I 174 1 := a (174, some 1) (by decide)
  have a2 : X 175 = I 175 := a (175, none) (by decide)
  have a3 : X 177 102 = I 177 102 := a (177, some 102) (by decide)
  have a4 : X 247 = I 247 := a (247, none) (by decide)
  unfold gImg
  rw [a1, a2, a3, a4]; exact h
theorem gSeed_c (a : ag fSeed X I) (b : JX 177 68 = J 177 68) (h : gSeed I J) : gSeed X JX := by
  have a1 : X 0 12 = I 0 12 := a (0, some 12) (by decide)
  unfold gSeed
  rw [a1, b]; exact h
theorem gSeen_c (a : ag fSeen X I) (h : gSeen I p) : gSeen X p := by
  have a1 : X 170 3 = I 170 3 := a (170, some 3) (by decide)
  have a2 : X 171 = I 171 := a (171, none) (by decide)
  have a3 : X 172 = I 172 := a (172, none) (by decide)
  have a4 : X 173 = I 173 := a (173, none) (by decide)
  have a5 : X 177 59 = I 177 59 := a (177, some 59) (by decide)
  have a6 : X 217 = I 217 := a (217, none) (by decide)
  unfold gSeen
  rw [a1, a2, a3, a4, a5, a6]; exact h
theorem sl_f (hq : sl = 3 ∨ sl = 11) (a : ag fSlope X I) : ∀ q, sl ≤ q → q ≤ sl + 7 → X q = I q := by
  intro q h1 h2
  have : 3 ≤ q ∧ q ≤ 18 := by omega
  rcases (by omega : q = 3 ∨ q = 4 ∨ q = 5 ∨ q = 6 ∨ q = 7 ∨ q = 8 ∨ q = 9 ∨ q = 10 ∨ q = 11 ∨ q = 12 ∨ q = 13 ∨ q = 14 ∨ q = 15 ∨ q = 16 ∨ q = 17 ∨ q = 18) with h | h | h | h | h | h | h | h | h | h | h | h | h | h | h | h <;> subst h <;> exact a (_, none) (by decide)
theorem gSlope_c (hq : sl = 3 ∨ sl = 11) (a : ag fSlope X I) (b : JX 206 = J 206) (h : gSlope I J sl p) : gSlope X JX sl p := by
  obtain ⟨h1, ⟨h2, h3, h4, h5⟩, h6, h7, nm, h8⟩ := h
  have e := sl_f hq a
  have a1 : X 177 49 = I 177 49 := a (177, some 49) (by decide)
  have a2 : X 177 43 = I 177 43 := a (177, some 43) (by decide)
  refine ⟨h1, ⟨CC_c h2 e, CD_c h3 e, CM_c h4 (fun k hk => ?_), CN_c h5 (fun k hk => ?_)⟩, by rw [a1]; exact h6, ?_, nm, fun f hf => ?_⟩
  · rcases hk with z | z | z <;> subst z <;> exact a (_, none) (by decide)
  · rcases hk with z | z | z <;> subst z <;> exact a (_, none) (by decide)
  · rw [a2, e sl (by omega) (by omega)]; exact h7
  · rw [b, e (sl + 2) (by omega) (by omega)]; exact h8 f hf
theorem gNow_c (a : ag fNow X I) (h : gNow I p w kl) : gNow X p w kl := by
  obtain ⟨h1, h2, h3, h4, h5⟩ := h
  have a1 : X 213 = I 213 := a (213, none) (by decide)
  refine ⟨h1, WC_c h2 (fun q c d => ?_), ?_, KC_c h4 (fun q hq => ?_), ?_⟩
  · rcases (by omega : q = 20 ∨ q = 21 ∨ q = 22 ∨ q = 23) with z | z | z | z <;> subst z <;> exact a (_, none) (by decide)
  · unfold WM; rw [a1]; exact h3
  · rcases hq with z | z <;> subst z <;> exact a (_, none) (by decide)
  · unfold KM; rw [a1]; exact h5
theorem hist_k (a : ag fHist X I) {q : Nat} (h1 : 50 ≤ q) (h2 : q < 170) : X q = I q := by
  have hm : (q, none) ∈ fHist := by
    unfold fHist
    refine List.mem_cons_of_mem _ (List.mem_cons_of_mem _ (List.mem_cons_of_mem _ (List.mem_cons_of_mem _ (List.mem_cons_of_mem _ ?_))))
    exact List.mem_map.mpr ⟨q - 50, List.mem_range.mpr (by omega), by rw [show 50 + (q - 50) = q by omega]⟩
  exact a (q, none) hm
theorem gHist_c (a : ag fHist X I) (h : gHist I p un) : gHist X p un := by
  obtain ⟨h1, h2, h3, h4, ⟨nx, h5, h6, h7⟩, ne, h8, h9, h10⟩ := h
  have a1 : X 47 2 = I 47 2 := a (47, some 2) (by unfold fHist; simp)
  have a2 : X 47 3 = I 47 3 := a (47, some 3) (by unfold fHist; simp)
  have a3 : X 177 66 = I 177 66 := a (177, some 66) (by unfold fHist; simp)
  have a4 : X 177 67 = I 177 67 := a (177, some 67) (by unfold fHist; simp)
  have a5 : X 221 = I 221 := a (221, none) (by unfold fHist; simp)
  refine ⟨h1, h2, by rw [a2]; exact h3, by rw [a3]; exact h4, ⟨nx, h5, by rw [a1]; exact h6, fun i hi q hq => ?_⟩, ne, h8, by rw [a4]; exact h9, fun i hi q hq => ?_⟩
  · obtain ⟨g1, g2⟩ := h7 i hi q hq
    exact ⟨WC_c g1 (fun q c d => hist_k a (by omega) (by omega)), KC_c g2 (fun q hq => hist_k a (by omega) (by omega))⟩
  · rw [a5]; exact h10 i hi q hq
theorem gIron_c (a : ag fIron X I) (h : gIron I p w) : gIron X p w := by
  have a1 : X 30 7 = I 30 7 := a (30, some 7) (by decide)
  have a2 : X 30 8 = I 30 8 := a (30, some 8) (by decide)
  have a3 : X 30 9 = I 30 9 := a (30, some 9) (by decide)
  have a4 : X 30 10 = I 30 10 := a (30, some 10) (by decide)
  have a5 : X 30 11 = I 30 11 := a (30, some 11) (by decide)
  unfold gIron
  rw [a1, a2, a3, a4, a5]; exact h
theorem gWord_c (a : ag fWord X I) (h : gWord I) : gWord X := by
  refine ⟨fun q hq j hj => ?_, fun j => ?_⟩
  · have : X q.1 = I q.1 := a (q.1, none) (List.mem_cons_of_mem _ (List.mem_map.mpr ⟨q, hq, rfl⟩))
    rw [this]; exact h.1 q hq j hj
  · have : X 2 = I 2 := a (2, none) (List.mem_cons_self ..)
    rw [this]; exact h.2 j
/-- nothing that matters has changed -/
theorem RelX_f {D DJ : List (Nat × Option Nat)} (hq : sl = 3 ∨ sl = 11) (h : RelX I J sl p w kl un) (hx : fsL D X I) (hj : fsL DJ JX J)
    (d1 : disL D fTape = true) (d2 : disL D fFault = true) (d3 : disL D fRef = true) (d4 : disL D fImg = true) (d5 : disL D fSeed = true) (d6 : disL D fSeen = true) (d7 : disL D fSlope = true) (d8 : disL D fNow = true) (d9 : disL D fHist = true) (d10 : disL D fIron = true) (d11 : disL D fWord = true) (d12 : disL D [(177, some 55)] = true) (e1 : disL DJ [(177, some 68), (206, none)] = true) : RelX X JX sl p w kl un := by
  obtain ⟨⟨h1, h2, h3, h4, h5⟩, ⟨h6, h7, h8, h9⟩, h10, h11, h12⟩ := h
  have a := ag_of e1 hj
  exact ⟨⟨gTape_c (ag_of d1 hx) h1, gFault_c (ag_of d2 hx) h2, gRef_c (ag_of d3 hx) h3, gImg_c (ag_of d4 hx) h4, gSeed_c (ag_of d5 hx) (a (177, some 68) (by decide)) h5⟩, ⟨gSeen_c (ag_of d6 hx) h6, gSlope_c hq (ag_of d7 hx) (a (206, none) (by decide)) h7, gNow_c (ag_of d8 hx) h8, gHist_c (ag_of d9 hx) h9⟩, gIron_c (ag_of d10 hx) h10, ((ag_of d12 hx) (177, some 55) (by decide)).trans h11, gWord_c (ag_of d11 hx) h12⟩
end F65
