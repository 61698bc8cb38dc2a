/-! ===== counting; loops; rows of bits ===== -/
def cnt (p : Nat → Bool) : Nat → Nat
  | 0 => 0
  | n + 1 => cnt p n + if p n then 1 else 0
theorem cnt_le (p : Nat → Bool) : ∀ n, cnt p n ≤ n
  | 0 => Nat.le_refl _
  | n + 1 => by
    have := cnt_le p n
    unfold cnt
    split <;> omega
theorem cnt_congr {p q : Nat → Bool} : ∀ n, (∀ i, i < n → p i = q i) → cnt p n = cnt q n
  | 0, _ => rfl
  | n + 1, h => by
    unfold cnt
    rw [cnt_congr n (fun i hi => h i (by omega)), h n (by omega)]
theorem cnt_0 {p : Nat → Bool} : ∀ n, (∀ i, i < n → p i = false) → cnt p n = 0
  | 0, _ => rfl
  | n + 1, h => by
    unfold cnt
    rw [cnt_0 n (fun i hi => h i (by omega)), h n (by omega)]
    rfl
theorem cnt_add (p : Nat → Bool) (m : Nat) : ∀ n, cnt p (m + n) = cnt p m + cnt (fun i => p (m + i)) n
  | 0 => rfl
  | n + 1 => by
    show cnt p (m + n) + (if p (m + n) then 1 else 0) = cnt p m + (cnt (fun i => p (m + i)) n + (if p (m + n) then 1 else 0))
    rw [cnt_add p m n]
    omega
theorem cnt_mono {p q : Nat → Bool} : ∀ n, (∀ i, i < n → p i = true → q i = true) → cnt p n ≤ cnt q n
  | 0, _ => Nat.le_refl _
  | n + 1, h => by
    have h1 := cnt_mono n (fun i hi => h i (by omega))
    have h2 := h n (by omega)
    unfold cnt
    cases hp : p n
    · simp; omega
    · simp [h2 hp]; omega
theorem cnt_ext {p : Nat → Bool} {n m : Nat} (h : n ≤ m) (h0 : ∀ i, n ≤ i → i < m → p i = false) : cnt p m = cnt p n := by
  obtain ⟨d, rfl⟩ : ∃ d, m = n + d := ⟨m - n, by omega⟩
  rw [cnt_add, cnt_0 d (fun i hi => h0 _ (by omega) (by omega))]
  rfl
theorem down {P : Nat → Prop} (e : Nat) (fin : P e) (step : ∀ i, i < e → P (i + 1) → P i) : ∀ i, i ≤ e → P i := by
  have key : ∀ d i, i + d = e → P i := by
    intro d
    induction d with
    | zero => intro i h; rw [show i = e by omega]; exact fin
    | succ d ih => intro i h; exact step i (by omega) (ih (i + 1) (by omega))
  exact fun i hi => key (e - i) i (by omega)
theorem lup {S : Type} {L : Nat → S → Prop} (Inv : Nat → S → Prop) (e : Nat) (fin : ∀ s, Inv e s → L e s) (step : ∀ i s, i < e → Inv i s → (∀ s', Inv (i + 1) s' → L (i + 1) s') → L i s) : ∀ i, i ≤ e → ∀ s, Inv i s → L i s :=
  down e fin (fun i hi ih s hs => step i s hi hs ih)
theorem nI_lit (n : Nat) : nI n = Int32.ofNat n := rfl
theorem sg_ext {σ τ : Sg} (h1 : ∀ a b, σ.1 a b = τ.1 a b) (h2 : ∀ a b, σ.2 a b = τ.2 a b) : σ = τ := Prod.ext (funext fun a => funext fun b => h1 a b) (funext fun a => funext fun b => h2 a b)
theorem pR_id (σ : Sg) (k : Nat) : pR σ k (σ.1 k) = σ := by
  refine sg_ext (fun a b => ?_) (fun _ _ => rfl)
  by_cases h : a = k
  · subst h; simp [pR]
  · simp [pR, h]
theorem pS_id (σ : Sg) (k : Nat) : pS σ k (σ.2 k) = σ := by
  refine sg_ext (fun _ _ => rfl) (fun a b => ?_)
  by_cases h : a = k
  · subst h; simp [pS]
  · simp [pS, h]
theorem pI_pR (σ : Sg) (k j : Nat) (f : Nat → Int32) (v : Int32) : pI (pR σ k f) k j v = pR σ k (upd f j v) := by
  refine sg_ext (fun a b => ?_) (fun _ _ => rfl)
  by_cases h : a = k
  · subst h; simp [pR, pI, upd]
  · simp [pR, pI, h]
theorem pJ_pS (σ : Sg) (k j : Nat) (f : Nat → Int64) (v : Int64) : pJ (pS σ k f) k j v = pS σ k (vp_updL f j v) := by
  refine sg_ext (fun _ _ => rfl) (fun a b => ?_)
  by_cases h : a = k
  · subst h; simp [pS, pJ, vp_updL]
  · simp [pS, pJ, h]
theorem pI_eq (σ : Sg) (k j : Nat) (v : Int32) : pI σ k j v = pR σ k (upd (σ.1 k) j v) := by rw [← pI_pR, pR_id]
theorem pJ_eq (σ : Sg) (k j : Nat) (v : Int64) : pJ σ k j v = pS σ k (vp_updL (σ.2 k) j v) := by rw [← pJ_pS, pS_id]
/-- a truth as a number -/
def bI (b : Bool) : Int32 := if b then 1 else 0
/-- bit b of row r of the table t (its words are the cell t + 1) -/
def bt (σ : Sg) (t r b : Nat) : Bool := (σ.2 (t + 1) (r * 4 + b / 64)).toBitVec.getLsbD (b % 64)
def pop (x : Int64) : Nat := cnt (fun i => x.toBitVec.getLsbD i) 64
def pop8 (m : Nat) : Nat := cnt (fun i => m.testBit i) 8
/-- small arguments -/
def sp_J7_fill_53178 (k n : Nat) (x1 : Int32) (σ : Sg) (K : Sg → Prop) : Prop := n < 2 ^ 31 ∧ K (pR σ k (fun j => if j < n then x1 else σ.1 k j))
def sp_J7_fill_fda19 (k n : Nat) (x1 x2 x3 : Int32) (σ : Sg) (K : Sg → Prop) : Prop := n < 2 ^ 31 ∧ ∃ a b : Nat, x1 = nI a ∧ x2 = nI b ∧ a ≤ b ∧ b ≤ n ∧ K (pR σ k (fun j => if a ≤ j ∧ j < b then x3 else σ.1 k j))
def sp_J7_fill_bad5a (k n : Nat) (x1 x2 : Int32) (x3 : Int64) (σ : Sg) (K : Sg → Prop) : Prop := n < 2 ^ 31 ∧ ∃ a b : Nat, x1 = nI a ∧ x2 = nI b ∧ a ≤ b ∧ b ≤ n ∧ K (pS σ k (fun j => if a ≤ j ∧ j < b then x3 else σ.2 k j))
def sp_J7_fill_d0a16 (k n : Nat) (x1 : Int64) (σ : Sg) (K : Sg → Prop) : Prop := n < 2 ^ 31 ∧ K (pS σ k (fun j => if j < n then x1 else σ.2 k j))
def sp_J13_bitCount_95d88 (x0 : Int64) (σ : Sg) (K : Int32 → Sg → Prop) : Prop := K (nI (pop x0)) σ
def sp_J6_bitCount_0f7a4 (x0 : Int32) (σ : Sg) (K : Int32 → Sg → Prop) : Prop := ∃ m : Nat, m < 256 ∧ x0 = nI m ∧ K (nI (pop8 m)) σ
def sp_X0_clear (t n : Nat) (σ : Sg) (K : Sg → Prop) : Prop := n ≤ 960 ∧ K (pS σ (t + 1) (fun j => if j < n then 0 else σ.2 (t + 1) j))
def sp_X0_clearRow (t n : Nat) (x1 : Int32) (σ : Sg) (K : Sg → Prop) : Prop := n ≤ 960 ∧ ∃ r : Nat, x1 = nI r ∧ r * 4 + 4 ≤ n ∧ K (pS σ (t + 1) (fun j => if r * 4 ≤ j ∧ j < r * 4 + 4 then 0 else σ.2 (t + 1) j))
def sp_X0_has (t n : Nat) (x1 x2 : Int32) (σ : Sg) (K : Int32 → Sg → Prop) : Prop := n ≤ 960 ∧ ∃ r b : Nat, x1 = nI r ∧ x2 = nI b ∧ r * 4 + 4 ≤ n ∧ b < 256 ∧ K (bI (bt σ t r b)) σ
/-- a bit set -/
def bput (σ : Sg) (t r b : Nat) : Sg := pJ σ (t + 1) (r * 4 + b / 64) (σ.2 (t + 1) (r * 4 + b / 64) ||| lshl 1 (nI (b % 64)))
def sp_X0_put (t n : Nat) (x1 x2 : Int32) (σ : Sg) (K : Sg → Prop) : Prop := n ≤ 960 ∧ ∃ r b : Nat, x1 = nI r ∧ x2 = nI b ∧ r * 4 + 4 ≤ n ∧ b < 256 ∧ K (bput σ t r b)
/-- a row joined with another -/
def bjoin (σ : Sg) (t r t2 r2 : Nat) : Sg := pS σ (t + 1) (fun j => if r * 4 ≤ j ∧ j < r * 4 + 4 then σ.2 (t + 1) j ||| σ.2 (t2 + 1) (r2 * 4 + (j - r * 4)) else σ.2 (t + 1) j)
def sp_X0_join (t n t2 n2 : Nat) (x1 x3 : Int32) (σ : Sg) (K : Sg → Prop) : Prop := n ≤ 960 ∧ n2 ≤ 960 ∧ ∃ r r2 : Nat, x1 = nI r ∧ x3 = nI r2 ∧ r * 4 + 4 ≤ n ∧ r2 * 4 + 4 ≤ n2 ∧ K (bjoin σ t r t2 r2)
def sp_X0_sizeInCommon (t n t2 n2 : Nat) (x1 x3 : Int32) (σ : Sg) (K : Int32 → Sg → Prop) : Prop := n ≤ 960 ∧ n2 ≤ 960 ∧ ∃ r r2 : Nat, x1 = nI r ∧ x3 = nI r2 ∧ r * 4 + 4 ≤ n ∧ r2 * 4 + 4 ≤ n2 ∧ K (nI (cnt (fun b => bt σ t r b && bt σ t2 r2 b) 256)) σ
def sp_X0_size (t n : Nat) (x1 : Int32) (σ : Sg) (K : Int32 → Sg → Prop) : Prop := n ≤ 960 ∧ ∃ r : Nat, x1 = nI r ∧ r * 4 + 4 ≤ n ∧ K (nI (cnt (fun b => bt σ t r b) 256)) σ
def sp_X0_rowsWith (t n : Nat) (x1 : Int32) (σ : Sg) (K : Int32 → Sg → Prop) : Prop := n ≤ 960 ∧ ∃ R b : Nat, σ.1 t 0 = nI R ∧ x1 = nI b ∧ R * 4 ≤ n ∧ b < 256 ∧ K (nI (cnt (fun r => bt σ t r b) R)) σ
