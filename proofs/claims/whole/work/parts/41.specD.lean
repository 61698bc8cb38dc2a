/-! ===== votes, in pure words ===== -/
def el (g : Gr) (y z : Nat) : Bool := wit g z && (decide (rnd g z + 1 = rnd g y) && str g y z)
def bN (b : Bool) : Nat := if b then 1 else 0
def odd (n : Nat) : Bool := decide (n % 2 = 1)
def vtY (g : Gr) (f : Nat → Nat) (y : Nat) : Nat := cnt (fun z => el g y z && odd (f z)) y
def vtN (g : Gr) (f : Nat → Nat) (y : Nat) : Nat := cnt (fun z => el g y z && !odd (f z)) y
def vtF (g : Gr) (hb : Nat → Bool) (x : Nat) (f : Nat → Nat) (y : Nat) : Nat :=
  if rnd g y - rnd g x = 1 then bN (see g y x)
  else if (rnd g y - rnd g x) % 4 = 0 then (if most g (max (vtY g f y) (vtN g f y)) then bN (decide (vtN g f y ≤ vtY g f y)) else bN (hb y))
  else bN (decide (vtN g f y ≤ vtY g f y)) + (if most g (max (vtY g f y) (vtN g f y)) then 2 else 0)
/-- the vote of y on x: 0 no, 1 yes, 2 more if it decides -/
def vt (g : Gr) (hb : Nat → Bool) (x : Nat) : Nat → Nat := fx 0 (vtF g hb x)
def vq (g : Gr) (hb : Nat → Bool) (N x b : Nat) : Bool := decide (b < N) && (wit g b && decide (rnd g x < rnd g b))
def HB (hb : Nat → Bool) (M : Nat) (σ : Sg) : Prop := ∀ y, y < M → (σ.1 19 (y * 8 + 4) < 0 ↔ hb y = true)
def WL (g : Gr) (N : Nat) (σ : Sg) : Prop := ∀ x, x < N → wit g x = true → σ.1 38 (cnt (wit g) x) = nI x
def EL (g : Gr) (hb : Nat → Bool) (N : Nat) (σ : Sg) : Prop := σ.1 37 6 = nI (cnt (wit g) N) ∧ σ.1 37 7 = nI (gn g) ∧ WL g N σ ∧ (∀ y b, y < N → wit g y = true → b < 256 → bt σ 39 y b = el g y b) ∧ (∀ x b, x < N → wit g x = true → b < 256 → bt σ 41 x b = (vq g hb N x b && odd (vt g hb x b))) ∧ (∀ x b, x < N → wit g x = true → b < 256 → bt σ 43 x b = (vq g hb N x b && decide (2 ≤ vt g hb x b)))
/-- a vote written -/
def vput (g : Gr) (hb : Nat → Bool) (σ : Sg) (x y : Nat) : Sg :=
  let σ1 := if odd (vt g hb x y) then bput σ 41 x y else σ
  if 2 ≤ vt g hb x y then bput σ1 43 x y else σ1
def sp_X1_castVote (x1 x2 : Int32) (σ : Sg) (K : Sg → Prop) : Prop := ∃ (g : Gr) (hb : Nat → Bool) (M x y : Nat), x1 = nI y ∧ x2 = nI x ∧ x < M ∧ y < M ∧ M ≤ 240 ∧ POK g M ∧ TB 25 M (see g) σ ∧ TR g M σ ∧ HB hb M σ ∧ σ.1 37 7 = nI (gn g) ∧ rnd g x < rnd g y ∧ (∀ b, b < 256 → bt σ 39 y b = el g y b) ∧ (rnd g x + 1 < rnd g y → ∀ z, z < y → el g y z = true → bt σ 41 x z = odd (vt g hb x z)) ∧ K (vput g hb σ x y)
def sp_X1_findElectors (x1 : Int32) (σ : Sg) (K : Sg → Prop) : Prop := ∃ (g : Gr) (x : Nat), x1 = nI x ∧ x < 240 ∧ POK g (x + 1) ∧ TB 27 (x + 1) (str g) σ ∧ TR g (x + 1) σ ∧ σ.1 37 6 = nI (cnt (wit g) x) ∧ WL g x σ ∧ ∀ τ, (∀ b, b < 256 → bt τ 39 x b = el g x b) → (∀ y b, y ≠ x → b < 256 → bt τ 39 y b = bt σ 39 y b) → Fr [40] σ τ → K τ
def sp_X1_take (x1 : Int32) (σ : Sg) (K : Sg → Prop) : Prop := ∃ (g : Gr) (hb : Nat → Bool) (x : Nat), x1 = nI x ∧ x < 240 ∧ POK g (x + 1) ∧ TB 25 (x + 1) (see g) σ ∧ TB 27 (x + 1) (str g) σ ∧ TR g (x + 1) σ ∧ HB hb (x + 1) σ ∧ EL g hb x σ ∧ ∀ τ, EL g hb (x + 1) τ → Fr [37, 38, 40, 42, 44] σ τ → K τ
