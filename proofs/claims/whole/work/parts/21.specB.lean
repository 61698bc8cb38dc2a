/-! ===== what stays; the hash, in pure words; specs of Sha256, Waiting, Events ===== -/
/-- all cells but those of S are as they were -/
def Fr (S : List Nat) (σ τ : Sg) : Prop := ∀ a, a ∉ S → τ.1 a = σ.1 a ∧ τ.2 a = σ.2 a
theorem Fr.refl (S : List Nat) (σ : Sg) : Fr S σ σ := fun _ _ => ⟨rfl, rfl⟩
theorem Fr.trans {S : List Nat} {σ τ υ : Sg} (h1 : Fr S σ τ) (h2 : Fr S τ υ) : Fr S σ υ := fun a ha => ⟨(h2 a ha).1.trans (h1 a ha).1, (h2 a ha).2.trans (h1 a ha).2⟩
theorem Fr.mono {S T : List Nat} {σ τ : Sg} (h : Fr S σ τ) (hs : ∀ a ∈ S, a ∈ T) : Fr T σ τ := fun a ha => h a (fun h1 => ha (hs a h1))
theorem Fr_pI {S : List Nat} {σ τ : Sg} {k j : Nat} {v : Int32} (h : Fr S σ τ) (hk : k ∈ S) : Fr S σ (pI τ k j v) := fun a ha => ⟨(pI_ne τ j v (fun (e : a = k) => ha (by rw [e]; exact hk))).trans (h a ha).1, (h a ha).2⟩
theorem Fr_pJ {S : List Nat} {σ τ : Sg} {k j : Nat} {v : Int64} (h : Fr S σ τ) (hk : k ∈ S) : Fr S σ (pJ τ k j v) := fun a ha => ⟨(h a ha).1, (pJ_ne τ j v (fun (e : a = k) => ha (by rw [e]; exact hk))).trans (h a ha).2⟩
theorem Fr_pR {S : List Nat} {σ τ : Sg} {k : Nat} {f : Nat → Int32} (h : Fr S σ τ) (hk : k ∈ S) : Fr S σ (pR τ k f) := fun a ha => ⟨(pR_ne τ f (fun (e : a = k) => ha (by rw [e]; exact hk))).trans (h a ha).1, (h a ha).2⟩
theorem Fr_pS {S : List Nat} {σ τ : Sg} {k : Nat} {f : Nat → Int64} (h : Fr S σ τ) (hk : k ∈ S) : Fr S σ (pS τ k f) := fun a ha => ⟨(h a ha).1, (pS_ne τ f (fun (e : a = k) => ha (by rw [e]; exact hk))).trans (h a ha).2⟩
theorem nneg_nI {n : Nat} (h : n < 2 ^ 31) : nneg (nI n) := nI_pos h
theorem cl_nI {n : Nat} (h : n < 2 ^ 31) : (nI n).toNatClampNeg = n := nI_clamp h
/-- a table filled in the order of the numbers -/
def tb {α : Type} (d : α) (F : (Nat → α) → Nat → α) : Nat → Nat → α
  | 0 => fun _ => d
  | k + 1 => fun y => if y = k then F (tb d F k) k else tb d F k y
def fx {α : Type} (d : α) (F : (Nat → α) → Nat → α) (x : Nat) : α := F (tb d F x) x
theorem tb_lt {α : Type} (d : α) (F : (Nat → α) → Nat → α) : ∀ k y, y < k → tb d F k y = fx d F y
  | 0, y, h => absurd h (Nat.not_lt_zero _)
  | k + 1, y, h => by
    unfold tb
    by_cases e : y = k
    · subst e; rw [if_pos rfl]; rfl
    · rw [if_neg e]; exact tb_lt d F k y (by omega)
theorem fx_eq {α : Type} {d : α} {F : (Nat → α) → Nat → α} (x : Nat) (hF : ∀ f g, (∀ y, y < x → f y = g y) → F f x = F g x) : fx d F x = F (fx d F) x := hF _ _ (fun y hy => tb_lt d F x y hy)
def rot (x k : Int32) : Int32 := iush x k ||| ishl x (32 - k)
def sg0 (x : Int32) : Int32 := (rot x 7 ^^^ rot x 18) ^^^ iush x 3
def sg1 (x : Int32) : Int32 := (rot x 17 ^^^ rot x 19) ^^^ iush x 10
def stW (m : Nat → Int32) (f : Nat → Int32) (j : Nat) : Int32 := if j < 16 then m j else ((f (j - 16) + sg0 (f (j - 15))) + f (j - 7)) + sg1 (f (j - 2))
def Wm16 (m : Nat → Int32) : Nat → Int32 := fx 0 (stW m)
def rnd8 (k w : Int32) (s : Nat → Int32) : Nat → Int32 := fun j => match j with
  | 0 => (((((s 7 + ((rot (s 4) 6 ^^^ rot (s 4) 11) ^^^ rot (s 4) 25)) + ((s 4 &&& s 5) ^^^ ((s 4 ^^^ (-1)) &&& s 6))) + k) + w) + ((rot (s 0) 2 ^^^ rot (s 0) 13) ^^^ rot (s 0) 22)) + (((s 0 &&& s 1) ^^^ (s 0 &&& s 2)) ^^^ (s 1 &&& s 2))
  | 1 => s 0
  | 2 => s 1
  | 3 => s 2
  | 4 => s 3 + ((((s 7 + ((rot (s 4) 6 ^^^ rot (s 4) 11) ^^^ rot (s 4) 25)) + ((s 4 &&& s 5) ^^^ ((s 4 ^^^ (-1)) &&& s 6))) + k) + w)
  | 5 => s 4
  | 6 => s 5
  | _ => s 6
def rds (W s : Nat → Int32) : Nat → Nat → Int32
  | 0 => s
  | k + 1 => rnd8 (K64 k) (W k) (rds W s k)
def cmp16 (m s : Nat → Int32) (j : Nat) : Int32 := s j + rds (Wm16 m) s 64 j
def wd (a b c d : Int32) : Int32 := ((ishl a 24 ||| ishl b 16) ||| ishl c 8) ||| d
def wrd (l : List Int32) (i : Nat) : Int32 := wd (l.getD (4 * i) 0) (l.getD (4 * i + 1) 0) (l.getD (4 * i + 2) 0) (l.getD (4 * i + 3) 0)
def msgW (l : List Int32) (i : Nat) : Int32 := if i = 31 then nI (8 * l.length) else wrd (l ++ [128]) i
/-- SHA-256 of a short message of two blocks -/
def shaF (l : List Int32) : Nat → Int32 := cmp16 (fun i => msgW l (16 + i)) (cmp16 (msgW l) H8)
def oct4 (w : Int32) : List Int32 := [iush w 24 &&& 255, iush w 16 &&& 255, iush w 8 &&& 255, iush w 0 &&& 255]
def hl (p : Nat → Int32) : Nat → List Int32
  | 0 => []
  | k + 1 => hl p k ++ oct4 (p k)
def txl (to am : Nat → Int32) : Nat → List Int32
  | 0 => []
  | k + 1 => txl to am k ++ ((to k &&& 255) :: oct4 (am k))
def evL (c : Int32) (p1 p2 : Nat → Int32) (t : Int64) (n : Nat) (to am : Nat → Int32) : List Int32 := ((c &&& 255) :: (hl p1 8 ++ (hl p2 8 ++ (oct4 (lush t 32).toInt32 ++ oct4 t.toInt32)))) ++ ((nI n &&& 255) :: txl to am n)
def Msg (l : List Int32) (σ : Sg) : Prop := σ.1 8 3 = nI l.length ∧ l.length ≤ 128 ∧ ∀ i, i < 32 → σ.1 9 i = wrd l i
def sp_X4_putOctet (x1 : Int32) (σ : Sg) (K : Sg → Prop) : Prop := ∃ l, Msg l σ ∧ l.length < 128 ∧ ∀ τ, Msg (l ++ [x1 &&& 255]) τ → Fr [8, 9] σ τ → K τ
def sp_X4_putInt (x1 : Int32) (σ : Sg) (K : Sg → Prop) : Prop := ∃ l, Msg l σ ∧ l.length + 4 ≤ 128 ∧ ∀ τ, Msg (l ++ oct4 x1) τ → Fr [8, 9] σ τ → K τ
def sp_X4_start (σ : Sg) (K : Sg → Prop) : Prop := ∀ τ, Msg [] τ → Fr [8, 9] σ τ → K τ
def sp_X4_fillSchedule (x1 : Int32) (σ : Sg) (K : Sg → Prop) : Prop := ∃ s : Nat, s ≤ 16 ∧ x1 = nI s ∧ ∀ τ, (∀ j, j < 64 → τ.1 10 j = Wm16 (fun i => σ.1 9 (s + i)) j) → Fr [10] σ τ → K τ
def sp_X4_mixSchedule (σ : Sg) (K : Sg → Prop) : Prop := ∃ W : Nat → Int32, (∀ j, j < 64 → σ.1 10 j = W j) ∧ ∀ τ, (∀ j, j < 8 → τ.1 11 j = σ.1 11 j + rds W (σ.1 11) 64 j) → Fr [11] σ τ → K τ
def sp_X4_finishInto (x2 : Int32) (σ : Sg) (K : Sg → Prop) : Prop := ∃ (l : List Int32) (x : Nat), Msg l σ ∧ l.length < 120 ∧ x2 = nI (x * 8) ∧ x < 240 ∧ ∀ τ, (∀ j, τ.1 19 j = if x * 8 ≤ j ∧ j < x * 8 + 8 then shaF l (j - x * 8) else σ.1 19 j) → Fr [8, 9, 10, 11, 19] σ τ → K τ
/-- a parent's hash, zeros without a parent -/
def ph (hs : Nat → Int32) (p : Option Nat) (w : Nat) : Int32 := match p with
  | none => 0
  | some y => hs (y * 8 + w)
def nO (p : Option Nat) : Int32 := match p with
  | none => -1
  | some y => nI y
def sp_X2_putParentHash (x1 : Int32) (σ : Sg) (K : Sg → Prop) : Prop := ∃ (l : List Int32) (p : Option Nat), Msg l σ ∧ l.length + 32 ≤ 128 ∧ x1 = nO p ∧ (∀ y, p = some y → y < 240) ∧ ∀ τ, Msg (l ++ hl (ph (σ.1 19) p) 8) τ → Fr [8, 9] σ τ → K τ
def sp_X2_close (x1 : Int32) (σ : Sg) (K : Sg → Prop) : Prop := ∃ (x n : Nat) (p1 p2 : Option Nat), x1 = nI x ∧ x < 240 ∧ n ≤ 3 ∧ σ.1 16 x = nI n ∧ σ.1 13 x = nO p1 ∧ σ.1 14 x = nO p2 ∧ (∀ y, p1 = some y → y < 240) ∧ (∀ y, p2 = some y → y < 240) ∧ ∀ τ, (∀ j, τ.1 19 j = if x * 8 ≤ j ∧ j < x * 8 + 8 then shaF (evL (σ.1 12 x) (ph (σ.1 19) p1) (ph (σ.1 19) p2) (σ.2 15 x) n (fun i => σ.1 17 (x * 3 + i)) (fun i => σ.1 18 (x * 3 + i))) (j - x * 8) else σ.1 19 j) → Fr [8, 9, 10, 11, 19] σ τ → K τ
def anyN (p : Nat → Bool) : Nat → Bool
  | 0 => false
  | n + 1 => anyN p n || p n
def sp_X2_hasOneOf (x1 x2 x3 : Int32) (x4 : Int64) (σ : Sg) (K : Int32 → Sg → Prop) : Prop := ∃ N : Nat, N ≤ 240 ∧ σ.1 7 10 = nI N ∧ K (bI (anyN (fun x => decide (σ.1 12 x = x1) && (decide (σ.1 13 x = x2) && (decide (σ.1 14 x = x3) && (decide (σ.2 15 x = x4) && decide (σ.1 16 x = 0))))) N)) σ
def sumN (f : Nat → Int32) : Nat → Int32
  | 0 => 0
  | n + 1 => sumN f n + f n
def sp_X6_lengthOfAll (σ : Sg) (K : Int32 → Sg → Prop) : Prop := K (sumN (σ.1 6) 8) σ
