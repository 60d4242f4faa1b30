/-! both sides over one memory -/
/-- n years -/
def a_it (p : CF) (w : WD) : Nat → WD
  | 0 => w
  | n + 1 => a_year p (a_it p w n)
def a_fd (p : CF) (w : WD) (f : Nat) : Nat := sm (fun c => n_fld (fun f => wR w f c) (nI f) (cF p) (cR p)) (cC p)
def a_drv (w : WD) (c r : Nat) : WD := (wY w, wK w, wA w, fun c' => if c' = c then wP w c ||| ((1 : Int32) <<< (nI r &&& 31)) else wP w c', wR w)
/-- is there a post -/
def a_pst (w : WD) (c r : Nat) : Bool := decide ((wP w c).toNatClampNeg / 2 ^ r % 2 = 1)
/-- the best place for a post: column, row, field -/
def a_irr (p : CF) (w : WD) (f n c : Nat) : Nat → NT → NT
  | 0, s => s
  | r + 1, s => if a_pst w c r then a_irr p w f n c r s else if nI (a_fd p (a_it p (a_drv w c r) n) f) ≤ (a_irr p w f n c r s).2.2 then a_irr p w f n c r s else (nI c, nI r, nI (a_fd p (a_it p (a_drv w c r) n) f))
def a_irc (p : CF) (w : WD) (f n : Nat) : Nat → NT
  | 0 => (-1, -1, nI (a_fd p (a_it p w n) f))
  | c + 1 => a_irr p w f n c (cR p) (a_irc p w f n c)
def a_irn (p : CF) (w : WD) (f n : Nat) : NT := a_irc p w f n (cC p)
def n_pst (w : WD) : Nat := sm (fun c => pop 32 (wP w c).toNatClampNeg) 6
/-- more of how all may lie -/
def WX (p : CF) (w : WD) : Prop := (∀ f, cF p ≤ f → wK w f = 0) ∧ (∀ c, cC p ≤ c → wP w c = 0) ∧ (∀ c, wP w c < nI (2 ^ cR p)) ∧ wY w ≤ 999 ∧ n_pst w ≤ 24
def WMg (g : Nat → Int32) (p : CF) (w : WD) : Prop := g 0 = wY w ∧ (∀ f, f < cF p → g (8 + 8 * f) = wK w f) ∧ (∀ f, f < cF p → g (7 + 8 * f) = wA w f) ∧ (∀ c, c < 6 → g (1 + c) = wP w c) ∧ ∀ f c, f < cF p → c < cC p → g (9 + 8 * f + c) = wR w f c
def KMg (g : Nat → Int32) (kl : List NT) : Prop := g 55 = nI kl.length ∧ kl.length ≤ 40 ∧ ∀ i, i < kl.length → (g (56 + 3 * i), g (57 + 3 * i), g (58 + 3 * i)) = kl.getD i (0, 0, 0)
/-- a note that may be -/
def NO (x : NT) : Prop := (0 ≤ x.1 ∧ x.1 ≤ 999) ∧ (0 ≤ x.2.1 ∧ x.2.1 < 6) ∧ (0 ≤ x.2.2 ∧ x.2.2 ≤ 255)
def KN (kl : List NT) : Prop := ∀ x, x ∈ kl → NO x
def gTape (I : MI) : Prop := ∃ (n : Nat) (tb : Nat → Nat), n ≤ 1600 ∧ I 1 1 = nI n ∧ I 177 1 = nI n ∧ ∀ j, j < n → tb j < 256 ∧ I 178 j = nI (tb j) ∧ I 2 j &&& 255 = nI (tb j)
def gFault (I : MI) : Prop := I 19 1 = I 177 7 ∧ I 19 2 = I 177 8
def gRef (I : MI) : Prop := ∀ j, j < 6 → I 176 j = I 179 j
def gImg (I : MI) : Prop := ∃ (n : Nat) (tb : Nat → Nat), n ≤ 100 ∧ I 174 1 = nI n ∧ I 177 102 = nI n ∧ ∀ j, j < n → tb j < 256 ∧ I 247 j = nI (tb j) ∧ I 175 j &&& 255 = nI (tb j)
def gSeed (I : MI) (J : MJ) : Prop := ∃ s : Nat, s < 2 ^ 31 ∧ I 0 12 = nI s ∧ J 177 68 = lN s
/-- rows that are seen: column, row, owner -/
def gSeen (I : MI) (p : CF) : Prop := ∃ sn : List NT, sn.length ≤ 16 ∧ I 170 3 = nI sn.length ∧ I 177 59 = nI sn.length ∧ ∀ i, i < sn.length → (I 171 i, I 172 i, I 173 i) = sn.getD i (0, 0, 0) ∧ (I 217 (3 * i), I 217 (3 * i + 1), I 217 (3 * i + 2)) = sn.getD i (0, 0, 0) ∧ ∃ c r, c < cC p ∧ r < cR p ∧ (sn.getD i (0, 0, 0)).1 = nI c ∧ (sn.getD i (0, 0, 0)).2.1 = nI r
def n27 : List Nat → Nat → Nat
  | [], v => v
  | a :: l, v => n27 l (27 * v + a)
def gName (I : MI) (J : MJ) (sl : Nat) (F : Nat) : Prop := ∃ nm : Nat → List Nat, ∀ f, f < F → (nm f).length ≤ 6 ∧ 1 ≤ (nm f).length ∧ (∀ a, a ∈ nm f → 1 ≤ a ∧ a ≤ 26) ∧ J 206 (6 + f) = lN (n27 (nm f) 0) ∧ ∀ k, k < 6 → I (sl + 2) (6 * f + k) = nI ((nm f).getD k 0)
def gSlope (I : MI) (J : MJ) (sl : Nat) (p : CF) : Prop := (CO p ∧ CQ p ∧ (cC p = 0 → cF p = 0 ∧ cR p = 0) ∧ (0 < cC p → 4 ≤ cR p)) ∧ (CC I sl p ∧ CD I sl p ∧ CM I p ∧ CN I p) ∧ I 177 49 = bI (decide (0 < cC p)) ∧ (I sl 4 = I 177 43 ∧ 0 ≤ I sl 4 ∧ I sl 4 ≤ 100) ∧ gName I J sl (cF p)
def gNow (I : MI) (p : CF) (w : WD) (kl : List NT) : Prop := (WO p w ∧ WX p w ∧ KN kl) ∧ WC I 20 w ∧ WM I p w ∧ KC I 45 kl ∧ KM I kl
/-- what can be undone, the newest first -/
def gHist (I : MI) (p : CF) (un : List (WD × List NT)) : Prop := un.length ≤ 20 ∧ (∀ q, q ∈ un → WO p q.1 ∧ WX p q.1 ∧ KN q.2) ∧ I 47 3 = nI un.length ∧ I 177 66 = nI un.length ∧ (∃ nx, nx < 20 ∧ I 47 2 = nI nx ∧ ∀ i, i < un.length → ∀ q, un[i]? = some q → WC I (50 + 6 * ((nx + 19 - i) % 20)) q.1 ∧ KC I (54 + 6 * ((nx + 19 - i) % 20)) q.2) ∧ ∃ ne, ne < 20 ∧ I 177 67 = nI ne ∧ ∀ i, i < un.length → ∀ q, un[i]? = some q → WMg (fun j => I 221 (176 * ((ne + 20 - i) % 20) + j)) p q.1 ∧ KMg (fun j => I 221 (176 * ((ne + 20 - i) % 20) + j)) q.2
/-- what was found for irons still holds -/
def gIron (I : MI) (p : CF) (w : WD) : Prop := ∀ f n, f < cF p → 1 ≤ n → n ≤ 20 → wY w + nI n ≤ 999 → I 30 7 = nI f → I 30 8 = nI n → (I 30 9, I 30 10, I 30 11) = a_irn p w f n
/-- the reference's words -/
def m_wds : List (Nat × List Int32) := [(180, [115, 108, 111, 112, 101]), (181, [98, 121]), (182, [115, 116, 101, 101, 112]), (183, [105, 114, 111, 110]), (184, [102, 101, 110, 99, 101]), (185, [114, 111, 119]), (186, [97, 103, 101]), (187, [115, 116, 97, 107, 101]), (188, [119, 97, 108, 107, 115]), (189, [114, 111, 111, 116, 115]), (190, [116, 105, 100, 101]), (191, [121, 101, 97, 114]), (192, [108, 101, 102, 116]), (193, [110, 117, 109, 98, 101, 114]), (194, [102, 105, 101, 108, 100]), (195, [99, 117, 116]), (196, [102, 105, 114, 115, 116]), (197, [98, 101, 108, 111, 119]), (198, [111, 114]), (199, [97, 110, 100]), (200, [110, 111, 116]), (201, [97, 108, 108]), (202, [109, 105, 110]), (203, [109, 97, 120]), (222, [102, 105, 114, 115, 116]), (223, [108, 97, 115, 116]), (224, [111, 102, 116, 101, 110]), (225, [116, 111, 116, 97, 108]), (226, [109, 111, 115, 116]), (227, [108, 101, 97, 115, 116]), (228, [110, 111, 116]), (229, [97, 110, 100]), (230, [111, 114]), (231, [97, 108, 108]), (232, [109, 105, 110]), (233, [109, 97, 120]), (234, [97, 103, 101]), (235, [115, 116, 101, 101, 112]), (236, [121, 101, 97, 114]), (237, [114, 111, 119]), (238, [108, 101, 102, 116]), (239, [110, 117, 109, 98, 101, 114]), (240, [102, 105, 101, 108, 100]), (241, [99, 117, 116]), (242, [114, 111, 119]), (243, [98, 101, 108, 111, 119])]
def gByte (I : MI) : Prop := ∀ j, (I 2 j).toInt8.toInt32 = I 2 j
/-- the words stand, and bytes are bytes -/
def gWord (I : MI) : Prop := (∀ q, q ∈ m_wds → ∀ j, j < q.2.length → I q.1 j = q.2.getD j 0) ∧ gByte I
def RelX (I : MI) (J : MJ) (sl : Nat) (p : CF) (w : WD) (kl : List NT) (un : List (WD × List NT)) : Prop :=
  (gTape I ∧ gFault I ∧ gRef I ∧ gImg I ∧ gSeed I J) ∧ (gSeen I p ∧ gSlope I J sl p ∧ gNow I p w kl ∧ gHist I p un) ∧ gIron I p w ∧ I 177 55 = 0 ∧ gWord I
def Rel (I : MI) (J : MJ) (sl : Nat) : Prop := (sl = 3 ∨ sl = 11) ∧ ∃ p w kl un, RelX I J sl p w kl un
