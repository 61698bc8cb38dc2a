/-! ===== the model: what its arrays hold; specs ===== -/
def Blk (l : List Int32) (σ : Sg) : Prop := σ.1 0 36 = nI l.length ∧ l.length ≤ 128 ∧ ∀ i, i < l.length → σ.1 28 i = l.getD i 0
def K0 (L : List Nat) (σ τ : Sg) : Prop := ∀ j, j ∉ L → τ.1 0 j = σ.1 0 j
def sp_X8_four (x1 : Int32) (σ : Sg) (K : Sg → Prop) : Prop := ∃ l, Blk l σ ∧ l.length + 4 ≤ 128 ∧ ∀ τ, Blk (l ++ oct4 x1) τ → K0 [36] σ τ → Fr [0, 28] σ τ → K τ
def sp_X8_compress (x1 : Int32) (σ : Sg) (K : Sg → Prop) : Prop := ∃ f : Nat, x1 = nI f ∧ f + 64 ≤ 128 ∧ (∀ j, j < 64 → σ.1 30 j = K64 j) ∧ ∀ τ, (∀ j, j < 8 → τ.1 31 j = cmp16 (fun i => wd (σ.1 28 (f + 4 * i)) (σ.1 28 (f + 4 * i + 1)) (σ.1 28 (f + 4 * i + 2)) (σ.1 28 (f + 4 * i + 3))) (σ.1 31) j) → Fr [29, 31] σ τ → K τ
def sp_X8_hash (x1 : Int32) (σ : Sg) (K : Sg → Prop) : Prop := ∃ (x n : Nat) (p1 p2 : Option Nat), x1 = nI x ∧ x < 240 ∧ n ≤ 3 ∧ σ.1 4 x = nI n ∧ σ.1 2 x = nO p1 ∧ σ.1 3 x = nO p2 ∧ (∀ y, p1 = some y → y < 240) ∧ (∀ y, p2 = some y → y < 240) ∧ (∀ j, j < 64 → σ.1 30 j = K64 j) ∧ (∀ j, j < 8 → σ.1 32 j = H8 j) ∧ ∀ τ, (∀ j, τ.1 8 j = if x * 8 ≤ j ∧ j < x * 8 + 8 then shaF (evL (σ.1 1 x) (ph (σ.1 8) p1) (ph (σ.1 8) p2) (σ.2 13 x) n (fun i => σ.1 5 (x * 3 + i)) (fun i => σ.1 6 (x * 3 + i))) (j - x * 8) else σ.1 8 j) → K0 [36] σ τ → Fr [0, 8, 28, 29, 31] σ τ → K τ
def MEv (g : Gr) (M : Nat) (σ : Sg) : Prop := ∀ x, x < M → σ.1 1 x = nI (gc g x) ∧ σ.1 2 x = nO (gs g x) ∧ σ.1 3 x = nO (go g x)
def MA (g : Gr) (M : Nat) (σ : Sg) : Prop := ∀ x y, x < 240 → y < 240 → σ.1 14 (x * 240 + y) = if x < M then bI (anc g x y) else 0
def MFk (g : Gr) (M : Nat) (σ : Sg) : Prop := ∀ x d, x < M → d < gn g → σ.1 16 (x * 8 + d) = bI (forked g x d)
def MS (g : Gr) (M : Nat) (σ : Sg) : Prop := ∀ x y, x < 240 → y < 240 → σ.1 18 (x * 240 + y) = 0 ∨ (x < M ∧ y < M ∧ σ.1 18 (x * 240 + y) = nI (1 + bN (str g x y)))
def MR (g : Gr) (M : Nat) (σ : Sg) : Prop := ∀ x, x < M → σ.1 7 x = nI (rnd g x) ∧ σ.1 17 x = bI (wit g x)
def MV (g : Gr) (hb : Nat → Bool) (M : Nat) (σ : Sg) : Prop := ∀ y x, y < 240 → x < 240 → σ.1 19 (y * 240 + x) = 0 ∨ (y < M ∧ x < M ∧ σ.1 19 (y * 240 + x) = nI (1 + vt g hb x y))
def MB (hb : Nat → Bool) (M : Nat) (σ : Sg) : Prop := ∀ y, y < M → (σ.1 8 (y * 8 + 4) < 0 ↔ hb y = true)
/-- a graph with its creators among the nodes -/
def MO (g : Gr) (M : Nat) : Prop := M ≤ 240 ∧ POK g M ∧ ∀ x, x < M → gc g x < gn g
def MT (g : Gr) (M : Nat) (σ : Sg) : Prop := MO g M ∧ σ.1 0 1 = nI (gn g) ∧ MEv g M σ ∧ MA g M σ ∧ MFk g M σ
def sp_X8_isSelf (x1 x2 : Int32) (σ : Sg) (K : Int32 → Sg → Prop) : Prop := ∃ (g : Gr) (M x y : Nat), x1 = nI x ∧ x2 = nI y ∧ x < M ∧ y < M ∧ M ≤ 240 ∧ POK g M ∧ MEv g M σ ∧ K (bI (sa g x y)) σ
def sp_X8_isFork (x1 x2 : Int32) (σ : Sg) (K : Int32 → Sg → Prop) : Prop := ∃ (g : Gr) (M x y : Nat), x1 = nI x ∧ x2 = nI y ∧ x < M ∧ y < M ∧ M ≤ 240 ∧ POK g M ∧ MEv g M σ ∧ K (bI (frk g x y)) σ
def sp_X8_isForked (x1 x2 : Int32) (σ : Sg) (K : Int32 → Sg → Prop) : Prop := ∃ (g : Gr) (M x d : Nat), x1 = nI x ∧ x2 = nI d ∧ x < M ∧ d < 8 ∧ M ≤ 240 ∧ POK g M ∧ MEv g M σ ∧ MA g M σ ∧ K (bI (forked g x d)) σ
def sp_X8_sees (x1 x2 : Int32) (σ : Sg) (K : Int32 → Sg → Prop) : Prop := ∃ (g : Gr) (M x y : Nat), x1 = nI x ∧ x2 = nI y ∧ x < M ∧ y < M ∧ MT g M σ ∧ K (bI (see g x y)) σ
def sp_X8_strongly (x1 x2 : Int32) (σ : Sg) (K : Int32 → Sg → Prop) : Prop := ∃ (g : Gr) (M x y : Nat), x1 = nI x ∧ x2 = nI y ∧ x < M ∧ y < M ∧ MT g M σ ∧ MS g M σ ∧ ∀ τ, MS g M τ → Fr [18] σ τ → K (bI (str g x y)) τ
def sp_X8_voteOf (x1 x2 : Int32) (σ : Sg) (K : Int32 → Sg → Prop) : Prop := ∃ (g : Gr) (hb : Nat → Bool) (M y x : Nat), x1 = nI y ∧ x2 = nI x ∧ y < M ∧ x < M ∧ wit g y = true ∧ wit g x = true ∧ rnd g x < rnd g y ∧ MT g M σ ∧ MS g M σ ∧ MR g M σ ∧ MV g hb M σ ∧ MB hb M σ ∧ ∀ τ, MS g M τ → MV g hb M τ → Fr [18, 19] σ τ → K (nI (vt g hb x y)) τ
/-- all that the model holds of the events -/
def ME (h : Hs) (σ : Sg) : Prop := HC h ∧ MT (hg h) (hN h) σ ∧ MS (hg h) (hN h) σ ∧ MR (hg h) (hN h) σ ∧ MV (hg h) (hhb h) (hN h) σ ∧ σ.1 0 2 = nI (hN h) ∧ (∀ x w, x < hN h → w < 8 → σ.1 8 (x * 8 + w) = hsh h x w) ∧ (∀ x, x < hN h → σ.2 13 x = htm h x) ∧ (∀ x, x < hN h → σ.1 4 x = nI (htn h x) ∧ ∀ i, i < htn h x → σ.1 5 (x * 3 + i) = htt h x i ∧ σ.1 6 (x * 3 + i) = hta h x i) ∧ (∀ j, j < 64 → σ.1 30 j = K64 j) ∧ ∀ j, j < 8 → σ.1 32 j = H8 j
def MH (h : Hs) (σ : Sg) : Prop := ∀ k x, k < 8 → x < 240 → σ.1 15 (k * 240 + x) = bI (hhd h k x)
def MW (h : Hs) (σ : Sg) : Prop := ∀ k, k < gn (hg h) → σ.1 10 k = nI (hwn h k) ∧ ∀ j, j < hwn h k → σ.1 11 (k * 8 + j) = hwt h k j ∧ σ.1 12 (k * 8 + j) = hwa h k j
def MLt (h : Hs) (σ : Sg) : Prop := ∀ k, k < gn (hg h) → σ.1 9 k = nI (hlat h k)
/-- what was found for a node -/
def MVw (p : Vp) (σ : Sg) : Prop := (∀ x, x < pN p → σ.1 20 x = nI (f3 p x) ∧ σ.1 21 x = nI (rcv p x) ∧ σ.1 22 x = (if inR p x then nI (pl p x) else -1) ∧ (inR p x = true → σ.2 26 x = stp p x ∧ σ.1 23 (pl p x) = nI x)) ∧ σ.1 0 23 = nI (oL p) ∧ σ.1 0 24 = nI (cnt (stl p) 241) ∧ ∀ c, c < gn (pg p) → σ.1 24 c = balk p (oL p) c
def MI (h : Hs) (σ : Sg) : Prop := ME h σ ∧ MH h σ ∧ MW h σ ∧ MLt h σ ∧ LK h ∧ (σ.1 0 22 = -1 ∨ ∃ i, i < gn (hg h) ∧ σ.1 0 22 = nI i ∧ MVw (vp h i) σ)
def sp_X8_make (x1 x2 x3 : Int32) (x4 : Int64) (σ : Sg) (K : Int32 → Sg → Prop) : Prop := ∃ (h : Hs) (c : Nat) (s o : Option Nat) (k : Nat), ME h σ ∧ MkOK h c s o k ∧ x1 = nI c ∧ x2 = nO s ∧ x3 = nO o ∧ (s = none → k = 0) ∧ (s ≠ none → σ.1 4 (hN h) = nI k) ∧ (∀ i, i < k → σ.1 5 (hN h * 3 + i) = hwt h c i ∧ σ.1 6 (hN h * 3 + i) = hwa h c i) ∧ ∀ τ, ME (hmk h c s o x4 k) τ → τ.1 0 22 = -1 → K0 [2, 22, 36] σ τ → Fr [0, 1, 2, 3, 4, 7, 8, 13, 14, 16, 17, 18, 28, 29, 31] σ τ → K (nI (hN h)) τ
/-- a world as the model has it after its making -/
def M0 (σ : Sg) : Prop := (∀ j, j < 64 → σ.1 30 j = K64 j) ∧ ∀ j, j < 8 → σ.1 32 j = H8 j
def sp_X8_anew (x1 : Int32) (σ : Sg) (K : Sg → Prop) : Prop := ∃ n : Nat, 2 ≤ n ∧ n ≤ 8 ∧ x1 = nI n ∧ M0 σ ∧ ∀ τ, MI (hst n n) τ → τ.1 0 0 = σ.1 0 0 → K τ
def sp_X8_find (x1 : Int32) (σ : Sg) (K : Sg → Prop) : Prop := ∃ (h : Hs) (i : Nat), x1 = nI i ∧ i < gn (hg h) ∧ MI h σ ∧ ∀ τ, MI h τ → MVw (vp h i) τ → τ.1 0 0 = σ.1 0 0 → K τ
def sp_X8_comesBefore (x1 x2 : Int32) (σ : Sg) (K : Int32 → Sg → Prop) : Prop := ∃ (p : Vp) (x y r : Nat), x1 = nI x ∧ x2 = nI y ∧ x < pN p ∧ y < pN p ∧ pN p ≤ 240 ∧ rcv p x = r ∧ rcv p y = r ∧ σ.2 26 x = stp p x ∧ σ.2 26 y = stp p y ∧ (∀ z w, z < pN p → w < 8 → σ.1 8 (z * 8 + w) = phs p z w) ∧ (∀ w, w < 8 → σ.1 25 w = xr p r w) ∧ K (bI (decide (key p x < key p y))) σ
/-- the order as far as round r with the numbers below m -/
def rq (p : Vp) (r m y : Nat) : Bool := inR p y && (decide (rcv p y < r) || (decide (rcv p y = r) && decide (y < m)))
/-- the model's finding, before a round is received -/
def MQ2 (p : Vp) (r m : Nat) (σ : Sg) : Prop := (∀ x, x < pN p → σ.1 20 x = nI (f3 p x)) ∧ (∀ x, x < pN p → σ.1 21 x = if rq p r m x then nI (rcv p x) else 0) ∧ (∀ x, x < pN p → rq p r m x = true → σ.2 26 x = stp p x) ∧ SQ p (σ.1 23) (rq p r m) (pN p) ∧ σ.1 0 23 = nI (cnt (rq p r m) (pN p))
def sp_X8_receive (x1 x2 : Int32) (σ : Sg) (K : Sg → Prop) : Prop := ∃ (h : Hs) (i r : Nat), x1 = nI i ∧ i < gn (hg h) ∧ x2 = nI r ∧ r < 2 ^ 31 ∧ stl (vp h i) r = true ∧ ME h σ ∧ MH h σ ∧ MQ2 (vp h i) r 0 σ ∧ ∀ τ, MQ2 (vp h i) (r + 1) 0 τ → K0 [23] σ τ → Fr [0, 21, 23, 25, 26, 27] σ τ → K τ
/-! the calls that have loops of their own -/
def sp_X8_sync (x1 x2 : Int32) (x3 : Int64) (σ : Sg) (K : Int32 → Sg → Prop) : Prop := ∃ h, MI h σ ∧ ∀ τ, MI (opSync h x1 x2 x3).2.2 τ → τ.1 0 0 = nI (opSync h x1 x2 x3).1 → K (opSync h x1 x2 x3).2.1 τ
def sp_X8_inject (x1 x2 x3 x4 : Int32) (x5 : Int64) (σ : Sg) (K : Int32 → Sg → Prop) : Prop := ∃ h, MI h σ ∧ ∀ τ, MI (opInject h x1 x2 x3 x4 x5).2.2 τ → τ.1 0 0 = nI (opInject h x1 x2 x3 x4 x5).1 → K (opInject h x1 x2 x3 x4 x5).2.1 τ
def sp_X8_event (x1 x2 : Int32) (σ : Sg) (K : Int32 → Sg → Prop) : Prop := ∃ h, MI h σ ∧ ∀ τ, MI h τ → τ.1 0 0 = nI (opEvent h x1 x2).1 → K (opEvent h x1 x2).2 τ
def sp_X8_count (x1 : Int32) (σ : Sg) (K : Int32 → Sg → Prop) : Prop := ∃ h, MI h σ ∧ ∀ τ, MI h τ → τ.1 0 0 = nI (opCount h x1).1 → K (opCount h x1).2 τ
