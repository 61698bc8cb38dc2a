/-! ===== the graph of events, in pure words ===== -/
abbrev Gr : Type := Nat × (Nat → Nat) × (Nat → Option Nat) × (Nat → Option Nat)
def gn (g : Gr) : Nat := g.1
def gc (g : Gr) : Nat → Nat := g.2.1
def gs (g : Gr) : Nat → Option Nat := g.2.2.1
def go (g : Gr) : Nat → Option Nat := g.2.2.2
def oA (o : Option Nat) (p : Nat → Bool) : Bool := match o with
  | none => false
  | some s => p s
def oN (o : Option Nat) (f : Nat → Nat) : Nat := match o with
  | none => 0
  | some s => f s
/-- parents are older; a self-parent is by the same creator; one first event of a creator -/
def POK (g : Gr) (N : Nat) : Prop := (∀ x, x < N → gc g x < 8 ∧ (∀ s, gs g x = some s → s < x ∧ gc g s = gc g x) ∧ (∀ o, go g x = some o → o < x) ∧ (gs g x = none → go g x = none)) ∧ (∀ x y, x < N → y < N → gs g x = none → gs g y = none → gc g x = gc g y → x = y) ∧ gn g ≤ 8
theorem POK.mono {g : Gr} {N M : Nat} (h : POK g N) (hM : M ≤ N) : POK g M := ⟨fun x hx => h.1 x (by omega), fun x y hx hy => h.2.1 x y (by omega) (by omega), h.2.2⟩
def anF (g : Gr) (f : Nat → Nat → Bool) (x : Nat) : Nat → Bool := fun y => decide (y = x) || (oA (gs g x) (fun s => f s y) || oA (go g x) (fun s => f s y))
def anc (g : Gr) : Nat → Nat → Bool := fx (fun _ => false) (anF g)
def saF (g : Gr) (f : Nat → Nat → Bool) (x : Nat) : Nat → Bool := fun y => decide (y = x) || oA (gs g x) (fun s => f s y)
def sa (g : Gr) : Nat → Nat → Bool := fx (fun _ => false) (saF g)
def deF (g : Gr) (f : Nat → Nat) (x : Nat) : Nat := oN (gs g x) f + 1
def dep (g : Gr) : Nat → Nat := fx 0 (deF g)
def frk (g : Gr) (x y : Nat) : Bool := decide (x ≠ y) && (decide (gc g x = gc g y) && (!sa g x y && !sa g y x))
def inA (g : Gr) (x c y : Nat) : Bool := anc g x y && decide (gc g y = c)
def forked (g : Gr) (x c : Nat) : Bool := anyN (fun y => inA g x c y && anyN (fun z => inA g x c z && frk g y z) y) (x + 1)
def see (g : Gr) (x y : Nat) : Bool := anc g x y && !forked g x (gc g y)
def thr (g : Gr) (x y c : Nat) : Bool := anyN (fun z => decide (gc g z = c) && (see g x z && see g z y)) (x + 1)
def most (g : Gr) (k : Nat) : Bool := decide (2 * gn g < 3 * k)
def str (g : Gr) (x y : Nat) : Bool := most g (cnt (thr g x y) 8)
def witF (g : Gr) (f : Nat → Nat) (w : Nat) : Bool := match gs g w with
  | none => true
  | some s => decide (f s < f w)
def rmask (g : Gr) (f : Nat → Nat) (x r c : Nat) : Bool := anyN (fun w => witF g f w && (decide (f w = r) && (str g x w && decide (gc g w = c)))) x
def rnF (g : Gr) (f : Nat → Nat) (x : Nat) : Nat := match gs g x with
  | none => 1
  | some s => if most g (cnt (rmask g f x (max (f s) (oN (go g x) f))) 8) then max (f s) (oN (go g x) f) + 1 else max (f s) (oN (go g x) f)
def rnd (g : Gr) : Nat → Nat := fx 0 (rnF g)
def wit (g : Gr) : Nat → Bool := witF g (rnd g)
def mx (p : Nat → Bool) (f : Nat → Nat) : Nat → Nat
  | 0 => 0
  | n + 1 => if p n then max (mx p f n) (f n) else mx p f n
def sumT (f : Nat → Nat) : Nat → Nat
  | 0 => 0
  | n + 1 => sumT f n + f n
def am (g : Gr) (x c : Nat) : Nat := cnt (inA g x c) (x + 1)
def dm (g : Gr) (x c : Nat) : Nat := mx (inA g x c) (dep g) (x + 1)
def FK (g : Gr) (N : Nat) : Nat := sumT (fun x => cnt (frk g x) x) N
def mxR (g : Gr) (N : Nat) : Nat := mx (fun _ => true) (rnd g) N
/-! what the tables hold -/
def EvA (g : Gr) (M : Nat) (σ : Sg) : Prop := ∀ x, x < M → σ.1 12 x = nI (gc g x) ∧ σ.1 13 x = nO (gs g x) ∧ σ.1 14 x = nO (go g x)
def TB (t M : Nat) (p : Nat → Nat → Bool) (σ : Sg) : Prop := ∀ x y, x < M → y < 256 → bt σ t x y = p x y
def TD (g : Gr) (M : Nat) (σ : Sg) : Prop := ∀ x, x < M → σ.1 31 x = nI (dep g x)
def TR (g : Gr) (M : Nat) (σ : Sg) : Prop := ∀ x, x < M → σ.1 32 x = nI (rnd g x) ∧ σ.1 33 x = bI (wit g x)
def GT (g : Gr) (N : Nat) (σ : Sg) : Prop := TB 23 N (anc g) σ ∧ TB 25 N (see g) σ ∧ TB 27 N (str g) σ ∧ TD g N σ ∧ TR g N σ ∧ (∀ c, c < 8 → σ.1 34 c = nI (cnt (fun y => decide (gc g y = c)) N)) ∧ σ.1 22 11 = nI (gn g) ∧ σ.1 22 12 = nI (FK g N) ∧ σ.1 22 13 = nI (mxR g N) ∧ σ.1 29 0 = nI 8
def sp_X3_findAncestors (x1 : Int32) (σ : Sg) (K : Sg → Prop) : Prop := ∃ (g : Gr) (x : Nat), x1 = nI x ∧ x < 240 ∧ POK g (x + 1) ∧ EvA g (x + 1) σ ∧ TB 23 x (anc g) σ ∧ TD g x σ ∧ ∀ τ, TB 23 (x + 1) (anc g) τ → TD g (x + 1) τ → Fr [24, 31] σ τ → K τ
def sp_X3_countAncestorsByCreator (x1 : Int32) (σ : Sg) (K : Sg → Prop) : Prop := ∃ (g : Gr) (x : Nat), x1 = nI x ∧ x < 240 ∧ POK g (x + 1) ∧ EvA g (x + 1) σ ∧ TB 23 (x + 1) (anc g) σ ∧ TD g (x + 1) σ ∧ ∀ τ, (∀ c, c < 8 → τ.1 35 c = nI (am g x c) ∧ τ.1 36 c = nI (dm g x c)) → Fr [35, 36] σ τ → K τ
def sp_X3_findSeen (x1 : Int32) (σ : Sg) (K : Sg → Prop) : Prop := ∃ (g : Gr) (x : Nat), x1 = nI x ∧ x < 240 ∧ POK g (x + 1) ∧ EvA g (x + 1) σ ∧ TB 23 (x + 1) (anc g) σ ∧ TD g (x + 1) σ ∧ TB 25 x (see g) σ ∧ ∀ τ, TB 25 (x + 1) (see g) τ → Fr [26, 35, 36] σ τ → K τ
def sp_X3_findStronglySeen (x1 : Int32) (σ : Sg) (K : Sg → Prop) : Prop := ∃ (g : Gr) (x : Nat), x1 = nI x ∧ x < 240 ∧ POK g (x + 1) ∧ EvA g (x + 1) σ ∧ TB 25 (x + 1) (see g) σ ∧ TB 27 x (str g) σ ∧ σ.1 22 11 = nI (gn g) ∧ σ.1 29 0 = nI 8 ∧ ∀ τ, TB 27 (x + 1) (str g) τ → Fr [28, 30] σ τ → K τ
def sp_X3_stronglySeesMostOf (x1 x2 : Int32) (σ : Sg) (K : Int32 → Sg → Prop) : Prop := ∃ (g : Gr) (x r : Nat), x1 = nI x ∧ x < 240 ∧ x2 = nI r ∧ r < 2 ^ 31 ∧ POK g (x + 1) ∧ EvA g (x + 1) σ ∧ TB 27 (x + 1) (str g) σ ∧ TR g x σ ∧ σ.1 22 11 = nI (gn g) ∧ K (bI (most g (cnt (rmask g (rnd g) x r) 8))) σ
def sp_X3_findRound (x1 : Int32) (σ : Sg) (K : Sg → Prop) : Prop := ∃ (g : Gr) (x : Nat), x1 = nI x ∧ x < 240 ∧ POK g (x + 1) ∧ EvA g (x + 1) σ ∧ TB 27 (x + 1) (str g) σ ∧ TR g x σ ∧ σ.1 22 11 = nI (gn g) ∧ σ.1 22 13 = nI (mxR g x) ∧ ∀ τ, TR g (x + 1) τ → τ.1 22 13 = nI (mxR g (x + 1)) → (∀ j, j ≠ 13 → τ.1 22 j = σ.1 22 j) → Fr [22, 32, 33] σ τ → K τ
def sp_X3_take (x1 : Int32) (σ : Sg) (K : Sg → Prop) : Prop := ∃ (g : Gr) (x : Nat), x1 = nI x ∧ x < 240 ∧ POK g (x + 1) ∧ EvA g (x + 1) σ ∧ GT g x σ ∧ ∀ τ, GT g (x + 1) τ → Fr [22, 24, 26, 28, 30, 31, 32, 33, 34, 35, 36] σ τ → K τ
