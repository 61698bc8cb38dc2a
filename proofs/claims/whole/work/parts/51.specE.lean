/-! ===== what a node finds, in pure words ===== -/
/-- the graph; the words of the hashes; the times; what the node holds; how many events; transactions: how many, to whom, how much; how many nodes -/
abbrev Vp : Type := Gr × (Nat → Nat → Int32) × (Nat → Int64) × (Nat → Bool) × Nat × (Nat → Nat) × (Nat → Nat → Int32) × (Nat → Nat → Int32)
def pg (p : Vp) : Gr := p.1
def phs (p : Vp) : Nat → Nat → Int32 := p.2.1
def ptm (p : Vp) : Nat → Int64 := p.2.2.1
def phd (p : Vp) : Nat → Bool := p.2.2.2.1
def pN (p : Vp) : Nat := p.2.2.2.2.1
def ptn (p : Vp) : Nat → Nat := p.2.2.2.2.2.1
def ptt (p : Vp) : Nat → Nat → Int32 := p.2.2.2.2.2.2.1
def pta (p : Vp) : Nat → Nat → Int32 := p.2.2.2.2.2.2.2
def phb (p : Vp) (y : Nat) : Bool := decide (phs p y 4 < 0)
/-- a vote of y that decides x -/
def dcs (p : Vp) (x y : Nat) : Bool := phd p y && (wit (pg p) y && (decide (rnd (pg p) x < rnd (pg p) y) && decide (2 ≤ vt (pg p) (phb p) x y)))
def erl (p : Vp) (i : Nat) (o : Option Nat) : Bool := match o with
  | none => true
  | some b => decide (rnd (pg p) i < rnd (pg p) b)
def bst (p : Vp) (x : Nat) : Nat → Option Nat
  | 0 => none
  | i + 1 => if dcs p x i && erl p i (bst p x i) then some i else bst p x i
def fam (p : Vp) (x : Nat) : Nat := if wit (pg p) x && phd p x then (match bst p x (pN p) with
  | none => 0
  | some b => if odd (vt (pg p) (phb p) x b) then 2 else 1) else 0
def riv (p : Vp) (x y : Nat) : Bool := decide (y ≠ x) && (decide (2 ≤ fam p y) && (decide (rnd (pg p) y = rnd (pg p) x) && decide (gc (pg p) y = gc (pg p) x)))
def unq (p : Vp) (x : Nat) : Bool := decide (fam p x = 2) && !anyN (riv p x) (pN p)
def f3 (p : Vp) (x : Nat) : Nat := if unq p x then 3 else fam p x
/-- a unique one of a round -/
def ur (p : Vp) (r u : Nat) : Bool := unq p u && decide (rnd (pg p) u = r)
def uc (p : Vp) (r : Nat) : Nat := cnt (ur p r) (pN p)
def xrt (p : Vp) (r w : Nat) : Nat → Int32
  | 0 => 0
  | M + 1 => if ur p r M then xrt p r w M ^^^ phs p M w else xrt p r w M
def xr (p : Vp) (r w : Nat) : Int32 := xrt p r w (pN p)
/-- not decided, of those held -/
def opn (p : Vp) (x : Nat) : Bool := phd p x && (wit (pg p) x && decide (fam p x = 0))
def lot (p : Vp) : Nat → Nat
  | 0 => 241
  | M + 1 => if opn p M then min (lot p M) (rnd (pg p) M) else lot p M
def stl (p : Vp) (r : Nat) : Bool := decide (1 ≤ r) && (decide (r < lot p (pN p)) && decide (0 < uc p r))
/-- all unique ones of a round have x as an ancestor -/
def bel (p : Vp) (r x : Nat) : Bool := !anyN (fun u => ur p r u && !anc (pg p) u x) (pN p)
def fst1 (q : Nat → Bool) (a : Nat) : Nat → Nat
  | 0 => 0
  | k + 1 => if q a then a else fst1 q (a + 1) k
def rcv (p : Vp) (x : Nat) : Nat := if phd p x then fst1 (fun r => stl p r && bel p r x) 1 240 else 0
def faF (g : Gr) (x : Nat) (f : Nat → Nat) (u : Nat) : Nat := match gs g u with
  | none => u
  | some s => if anc g s x then f s else u
def fa (g : Gr) (x : Nat) : Nat → Nat := fx 0 (faF g x)
def insA (f : Nat → Int64) : Nat → Int64 → (Nat → Int64)
  | 0, t => vp_updL f 0 t
  | k + 1, t => if f k ≤ t then vp_updL f (k + 1) t else insA (vp_updL f (k + 1) (f k)) k t
def srt (p : Vp) (r x : Nat) : Nat → (Nat → Int64)
  | 0 => fun _ => 0
  | M + 1 => if ur p r M then insA (srt p r x M) (cnt (ur p r) M) (ptm p (fa (pg p) x M)) else srt p r x M
def stp (p : Vp) (x : Nat) : Int64 := srt p (rcv p x) x (pN p) (uc p (rcv p x) / 2)
def ul (a : Int32) : Nat := a.toBitVec.toNat
def sv (a : Nat → Int32) : Nat → Nat → Nat
  | _, 0 => 0
  | w, k + 1 => ul (a w) * 2 ^ (32 * k) + sv a (w + 1) k
def wht (p : Vp) (x w : Nat) : Int32 := phs p x w ^^^ xr p (rcv p x) w
def keyT (p : Vp) (x : Nat) : Nat := (stp p x).toInt.toNat
/-- the place in the order, as one number: round, stamp, hash, number -/
def key (p : Vp) (x : Nat) : Nat := ((rcv p x * 2 ^ 64 + ((stp p x).toInt + 2 ^ 63).toNat) * 2 ^ 256 + sv (wht p x) 0 8) * 2 ^ 8 + x
def inR (p : Vp) (x : Nat) : Bool := !decide (rcv p x = 0)
def pl (p : Vp) (x : Nat) : Nat := cnt (fun y => inR p y && decide (key p y < key p x)) (pN p)
def payF (b : Nat → Int32) (fr to : Nat) (am : Int32) : Nat → Int32 := if b fr < am then b else upd (upd b fr (b fr - am)) to ((upd b fr (b fr - am)) to + am)
def payE (p : Vp) (x : Nat) (b : Nat → Int32) : Nat → (Nat → Int32)
  | 0 => b
  | i + 1 => payF (payE p x b i) (gc (pg p) x) (ptt p x i).toNatClampNeg (pta p x i)
def at1 (p : Vp) (k : Nat) : Nat → Nat
  | 0 => 0
  | M + 1 => if inR p M && decide (pl p M = k) then M else at1 p k M
/-- the k-th of the order -/
def atk (p : Vp) (k : Nat) : Nat := at1 p k (pN p)
def balk (p : Vp) : Nat → (Nat → Int32)
  | 0 => fun c => if c < gn (pg p) then 1000000 else 0
  | k + 1 => payE p (atk p k) (balk p k) (ptn p (atk p k))
def oL (p : Vp) : Nat := cnt (inR p) (pN p)
/-- the state that a view is found from -/
def Vb (p : Vp) (v : Nat) (σ : Sg) : Prop := 45 ≤ v ∧ POK (pg p) (pN p) ∧ pN p ≤ 240 ∧ EvA (pg p) (pN p) σ ∧ (∀ x w, x < pN p → w < 8 → σ.1 19 (x * 8 + w) = phs p x w) ∧ (∀ x, x < pN p → σ.2 15 x = ptm p x) ∧ (∀ x, x < pN p → ptn p x ≤ 3 ∧ σ.1 16 x = nI (ptn p x) ∧ ∀ i, i < ptn p x → σ.1 17 (x * 3 + i) = ptt p x i ∧ σ.1 18 (x * 3 + i) = pta p x i ∧ vp_in (ptt p x i) 8) ∧ (∃ k, k < 8 ∧ σ.1 v 0 = nI k ∧ ∀ x, x < 256 → bt σ 20 k x = phd p x) ∧ (∀ x, phd p x = true → x < pN p) ∧ GT (pg p) (pN p) σ ∧ EL (pg p) (phb p) (pN p) σ ∧ σ.1 7 10 = nI (pN p)
def sp_X5_deciderOf (v : Nat) (x1 : Int32) (σ : Sg) (K : Int32 → Sg → Prop) : Prop := ∃ (p : Vp) (x : Nat), Vb p v σ ∧ x1 = nI x ∧ x < pN p ∧ wit (pg p) x = true ∧ K (nO (bst p x (pN p))) σ
def sp_X5_findFame (v : Nat) (σ : Sg) (K : Sg → Prop) : Prop := ∃ p : Vp, Vb p v σ ∧ ∀ τ, (∀ x, x < 240 → τ.1 (v + 1) x = nI (fam p x)) → Fr [v + 1] σ τ → K τ
def sp_X5_isOnlyFamousOne (v : Nat) (x1 : Int32) (σ : Sg) (K : Int32 → Sg → Prop) : Prop := ∃ (p : Vp) (x : Nat), Vb p v σ ∧ x1 = nI x ∧ x < pN p ∧ (∀ y, y < pN p → ∃ f : Nat, σ.1 (v + 1) y = nI f ∧ f ≤ 3 ∧ (2 ≤ f ↔ 2 ≤ fam p y)) ∧ K (bI (!anyN (riv p x) (pN p))) σ
def sp_X5_addUnique (v : Nat) (x1 x2 : Int32) (σ : Sg) (K : Sg → Prop) : Prop := ∃ (p : Vp) (x r c : Nat), Vb p v σ ∧ x1 = nI x ∧ x < pN p ∧ x2 = nI r ∧ r ≤ 240 ∧ σ.1 (v + 8) r = nI c ∧ c < 8 ∧ ∀ τ, (∀ j, τ.1 (v + 7) j = if j = r * 8 + c then nI x else σ.1 (v + 7) j) → (∀ j, τ.1 (v + 8) j = if j = r then nI (c + 1) else σ.1 (v + 8) j) → (∀ q w, w < 8 → τ.1 (v + 9) (q * 8 + w) = if q = r then σ.1 (v + 9) (q * 8 + w) ^^^ phs p x w else σ.1 (v + 9) (q * 8 + w)) → Fr [v + 7, v + 8, v + 9] σ τ → K τ
/-- what is known of the unique ones -/
def VU (p : Vp) (v : Nat) (σ : Sg) : Prop := (∀ x, x < 240 → σ.1 (v + 1) x = nI (f3 p x)) ∧ (∀ r, r ≤ 240 → σ.1 (v + 8) r = nI (uc p r)) ∧ (∀ r u, r ≤ 240 → u < pN p → ur p r u = true → σ.1 (v + 7) (r * 8 + cnt (ur p r) u) = nI u) ∧ (∀ r w, r ≤ 240 → w < 8 → σ.1 (v + 9) (r * 8 + w) = xr p r w)
def sp_X5_findUniques (v : Nat) (σ : Sg) (K : Sg → Prop) : Prop := ∃ p : Vp, Vb p v σ ∧ (∀ x, x < 240 → σ.1 (v + 1) x = nI (fam p x)) ∧ ∀ τ, VU p v τ → Fr [v + 1, v + 7, v + 8, v + 9] σ τ → K τ
def sp_X5_leastOpenRound (v : Nat) (σ : Sg) (K : Int32 → Sg → Prop) : Prop := ∃ p : Vp, Vb p v σ ∧ VU p v σ ∧ K (nI (lot p (pN p))) σ
def sp_X5_settleRounds (v : Nat) (σ : Sg) (K : Sg → Prop) : Prop := ∃ p : Vp, Vb p v σ ∧ VU p v σ ∧ ∀ τ, (∀ r, 1 ≤ r → r ≤ 240 → τ.1 (v + 10) r = bI (stl p r)) → τ.1 v 16 = nI (cnt (stl p) 241) → (∀ j, j ≠ 16 → τ.1 v j = σ.1 v j) → Fr [v, v + 10] σ τ → K τ
def VS (p : Vp) (v : Nat) (σ : Sg) : Prop := VU p v σ ∧ ∀ r, 1 ≤ r → r ≤ 240 → σ.1 (v + 10) r = bI (stl p r)
def sp_X5_isBelowAllUniques (v : Nat) (x1 x2 : Int32) (σ : Sg) (K : Int32 → Sg → Prop) : Prop := ∃ (p : Vp) (x r : Nat), Vb p v σ ∧ VU p v σ ∧ x1 = nI x ∧ x < pN p ∧ x2 = nI r ∧ r ≤ 240 ∧ K (bI (bel p r x)) σ
def sp_X5_roundReceiving (v : Nat) (x1 : Int32) (σ : Sg) (K : Int32 → Sg → Prop) : Prop := ∃ (p : Vp) (x : Nat), Vb p v σ ∧ VS p v σ ∧ x1 = nI x ∧ x < pN p ∧ K (nI (fst1 (fun r => stl p r && bel p r x) 1 240)) σ
def sp_X5_firstAbove (v : Nat) (x1 x2 : Int32) (σ : Sg) (K : Int32 → Sg → Prop) : Prop := ∃ (p : Vp) (x u : Nat), Vb p v σ ∧ x1 = nI x ∧ x < pN p ∧ x2 = nI u ∧ u < pN p ∧ K (nI (fa (pg p) x u)) σ
def sp_X5_stampIn (v : Nat) (x1 x2 : Int32) (σ : Sg) (K : Int64 → Sg → Prop) : Prop := ∃ (p : Vp) (x r : Nat), Vb p v σ ∧ VU p v σ ∧ x1 = nI r ∧ r ≤ 240 ∧ 0 < uc p r ∧ x2 = nI x ∧ x < pN p ∧ ∀ τ, Fr [v + 11] σ τ → K (srt p r x (pN p) (uc p r / 2)) τ
def VR (p : Vp) (v : Nat) (σ : Sg) : Prop := (∀ x, x < 240 → σ.1 (v + 2) x = nI (rcv p x)) ∧ (∀ x, x < pN p → inR p x = true → σ.2 (v + 3) x = stp p x)
def sp_X5_findReceived (v : Nat) (σ : Sg) (K : Sg → Prop) : Prop := ∃ p : Vp, Vb p v σ ∧ VS p v σ ∧ ∀ τ, VR p v τ → Fr [v + 2, v + 3, v + 11] σ τ → K τ
def sp_X5_isBefore (v : Nat) (x1 x2 : Int32) (σ : Sg) (K : Int32 → Sg → Prop) : Prop := ∃ (p : Vp) (x y : Nat), Vb p v σ ∧ VU p v σ ∧ VR p v σ ∧ x1 = nI x ∧ x2 = nI y ∧ x < pN p ∧ y < pN p ∧ inR p x = true ∧ inR p y = true ∧ K (bI (decide (key p x < key p y))) σ
/-- the order of those below M -/
def SQ (p : Vp) (f : Nat → Int32) (q : Nat → Bool) (M : Nat) : Prop := ∀ x, x < M → q x = true → f (cnt (fun y => q y && decide (key p y < key p x)) M) = nI x
def sp_X5_insert (v : Nat) (x1 : Int32) (σ : Sg) (K : Sg → Prop) : Prop := ∃ (p : Vp) (x : Nat), Vb p v σ ∧ VU p v σ ∧ VR p v σ ∧ x1 = nI x ∧ x < pN p ∧ inR p x = true ∧ SQ p (σ.1 (v + 5)) (inR p) x ∧ σ.1 v 15 = nI (cnt (inR p) x) ∧ ∀ τ, SQ p (τ.1 (v + 5)) (inR p) (x + 1) → τ.1 v 15 = nI (cnt (inR p) (x + 1)) → (∀ j, j ≠ 15 → τ.1 v j = σ.1 v j) → Fr [v, v + 5] σ τ → K τ
def VO (p : Vp) (v : Nat) (σ : Sg) : Prop := (∀ x, x < 240 → σ.1 (v + 4) x = if inR p x then nI (pl p x) else -1) ∧ (∀ x, x < pN p → inR p x = true → σ.1 (v + 5) (pl p x) = nI x) ∧ σ.1 v 15 = nI (oL p)
def sp_X5_findOrder (v : Nat) (σ : Sg) (K : Sg → Prop) : Prop := ∃ p : Vp, Vb p v σ ∧ VU p v σ ∧ VR p v σ ∧ ∀ τ, VO p v τ → (∀ j, j ≠ 15 → τ.1 v j = σ.1 v j) → Fr [v, v + 4, v + 5] σ τ → K τ
def sp_X5_findBalances (v : Nat) (x1 : Int32) (σ : Sg) (K : Sg → Prop) : Prop := ∃ p : Vp, Vb p v σ ∧ VO p v σ ∧ x1 = nI (gn (pg p)) ∧ ∀ τ, (∀ c, c < 8 → τ.1 (v + 6) c = balk p (oL p) c) → Fr [v + 6] σ τ → K τ
/-- all that is found -/
def VF (p : Vp) (v : Nat) (σ : Sg) : Prop := VU p v σ ∧ VR p v σ ∧ VO p v σ ∧ (∀ c, c < 8 → σ.1 (v + 6) c = balk p (oL p) c) ∧ σ.1 v 16 = nI (cnt (stl p) 241) ∧ σ.1 v 17 = 0
def sp_X5_findAll (v : Nat) (x1 : Int32) (σ : Sg) (K : Sg → Prop) : Prop := ∃ p : Vp, Vb p v σ ∧ x1 = nI (gn (pg p)) ∧ ∀ τ, VF p v τ → τ.1 v 0 = σ.1 v 0 → Fr [v, v + 1, v + 2, v + 3, v + 4, v + 5, v + 6, v + 7, v + 8, v + 9, v + 10, v + 11] σ τ → K τ
