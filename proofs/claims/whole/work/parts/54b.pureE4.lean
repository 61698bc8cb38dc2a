theorem lexlt {A C B s t : Nat} (hs : s < B) (ht : t < B) : A * B + s < C * B + t ↔ A < C ∨ (A = C ∧ s < t) := by
  constructor
  · intro h
    rcases Nat.lt_trichotomy A C with q | q | q
    · exact Or.inl q
    · subst q; exact Or.inr ⟨rfl, by omega⟩
    · have h2 : (C + 1) * B ≤ A * B := Nat.mul_le_mul_right B q
      rw [Nat.add_mul] at h2
      omega
  · rintro (q | ⟨rfl, q⟩)
    · have h2 : (A + 1) * B ≤ C * B := Nat.mul_le_mul_right B q
      rw [Nat.add_mul] at h2
      omega
    · omega
theorem lexeq {A C B s t : Nat} (hs : s < B) (ht : t < B) : A * B + s = C * B + t ↔ A = C ∧ s = t := by
  constructor
  · intro h
    have n1 : ¬ (A < C ∨ (A = C ∧ s < t)) := fun q => by have := (lexlt hs ht).mpr q; omega
    have n2 : ¬ (C < A ∨ (C = A ∧ t < s)) := fun q => by have := (lexlt ht hs).mpr q; omega
    have e : A = C := by omega
    exact ⟨e, by omega⟩
  · intro h
    rw [h.1, h.2]
theorem key4 {R R2 T T2 S S2 x y B1 B2 B3 : Nat} (hT : T < B1) (hT2 : T2 < B1) (hS : S < B2) (hS2 : S2 < B2) (hx : x < B3) (hy : y < B3) : ((R * B1 + T) * B2 + S) * B3 + x < ((R2 * B1 + T2) * B2 + S2) * B3 + y ↔ R < R2 ∨ (R = R2 ∧ (T < T2 ∨ (T = T2 ∧ (S < S2 ∨ (S = S2 ∧ x < y))))) := by
  rw [lexlt hx hy, lexlt hS hS2, lexlt hT hT2, lexeq hS hS2, lexeq hT hT2]
  omega
theorem ul_lt (a : Int32) : ul a < 2 ^ 32 := a.toBitVec.isLt
theorem ul_inj {a b : Int32} (h : ul a = ul b) : a = b := Int32.toBitVec_inj.mp (BitVec.eq_of_toNat_eq h)
theorem sv_lt (a : Nat → Int32) : ∀ k w, sv a w k < 2 ^ (32 * k)
  | 0, w => Nat.one_pos
  | k + 1, w => by
    have h1 := sv_lt a k (w + 1)
    have h2 := ul_lt (a w)
    show ul (a w) * 2 ^ (32 * k) + sv a (w + 1) k < 2 ^ (32 * (k + 1))
    rw [show 32 * (k + 1) = 32 + 32 * k by omega, Nat.pow_add]
    have h3 : (ul (a w) + 1) * 2 ^ (32 * k) ≤ 2 ^ 32 * 2 ^ (32 * k) := Nat.mul_le_mul_right _ h2
    rw [Nat.add_mul] at h3
    omega
theorem sv_cmp (a b : Nat → Int32) (k w : Nat) : sv a w (k + 1) < sv b w (k + 1) ↔ ul (a w) < ul (b w) ∨ (a w = b w ∧ sv a (w + 1) k < sv b (w + 1) k) := by
  show ul (a w) * 2 ^ (32 * k) + sv a (w + 1) k < ul (b w) * 2 ^ (32 * k) + sv b (w + 1) k ↔ _
  rw [lexlt (sv_lt a k (w + 1)) (sv_lt b k (w + 1))]
  constructor
  · rintro (h | ⟨h1, h2⟩)
    · exact Or.inl h
    · exact Or.inr ⟨ul_inj h1, h2⟩
  · rintro (h | ⟨h1, h2⟩)
    · exact Or.inl h
    · exact Or.inr ⟨by rw [h1], h2⟩
theorem xorM {a : Nat} (h : a < 2 ^ 32) : a ^^^ 2147483648 = if a < 2147483648 then a + 2147483648 else a - 2147483648 := by
  obtain ⟨q, r, hr, ha⟩ : ∃ q r, r < 2 ^ 31 ∧ a = 2 ^ 31 * q + r := ⟨a / 2 ^ 31, a % 2 ^ 31, Nat.mod_lt _ (by decide), (Nat.div_add_mod a (2 ^ 31)).symm⟩
  have e : a ^^^ 2147483648 = 2 ^ 31 * (q ^^^ 1) + r := by
    apply Nat.eq_of_testBit_eq
    intro i
    rw [Nat.testBit_xor, ha, show (2147483648 : Nat) = 2 ^ 31 * 1 + 0 from rfl, Nat.testBit_two_pow_mul_add q hr i, Nat.testBit_two_pow_mul_add 1 (show 0 < 2 ^ 31 by decide) i, Nat.testBit_two_pow_mul_add (q ^^^ 1) hr i]
    by_cases hi : i < 31
    · simp [hi]
    · simp [hi]
  rw [e]
  have hq : q = 0 ∨ q = 1 := by omega
  rcases hq with rfl | rfl
  · rw [if_pos (by omega)]
    show 2 ^ 31 * 1 + r = a + 2147483648
    omega
  · rw [if_neg (by omega)]
    show 2 ^ 31 * 0 + r = a - 2147483648
    omega
theorem ul_toInt (x : Int32) : x.toInt = if 2 * ul x < 2 ^ 32 then (ul x : Int) else (ul x : Int) - 2 ^ 32 := by
  show x.toBitVec.toInt = _
  rw [BitVec.toInt_eq_toNat_cond]
  rfl
theorem ul_xorM (x : Int32) : (x ^^^ (-2147483648)).toInt = (ul x : Int) - 2147483648 := by
  have e : ul (x ^^^ (-2147483648)) = ul x ^^^ 2147483648 := by
    show (x ^^^ (-2147483648)).toBitVec.toNat = _
    rw [Int32.toBitVec_xor, BitVec.toNat_xor]
    rfl
  rw [ul_toInt, e, xorM (ul_lt x)]
  have := ul_lt x
  by_cases h : ul x < 2147483648
  · rw [if_pos h, if_neg (by omega)]
    omega
  · rw [if_neg h, if_pos (by omega)]
    omega
theorem minle (a b : Int32) : (b ^^^ (-2147483648)) ≤ (a ^^^ (-2147483648)) ↔ ul b ≤ ul a := by
  rw [Int32.le_iff_toInt_le, ul_xorM, ul_xorM]
  omega
section VIEW4
variable {p : Vp} {v : Nat} {σ : Sg}
theorem stp_nat (t : Int64) : (t.toInt + 2 ^ 63).toNat < 2 ^ 64 := by
  have h1 := Int64.toInt_lt t
  have h2 := Int64.le_toInt t
  omega
theorem stp_cmp (s t : Int64) : (s.toInt + 2 ^ 63).toNat < (t.toInt + 2 ^ 63).toNat ↔ s < t := by
  have h2 := Int64.le_toInt s
  have h3 := Int64.le_toInt t
  rw [Int64.lt_iff_toInt_lt]
  omega
theorem stp_eq (s t : Int64) : (s.toInt + 2 ^ 63).toNat = (t.toInt + 2 ^ 63).toNat ↔ s = t := by
  have h2 := Int64.le_toInt s
  have h3 := Int64.le_toInt t
  rw [← Int64.toInt_inj]
  omega
theorem key_lt {x y : Nat} (hx : x < 256) (hy : y < 256) : key p x < key p y ↔ rcv p x < rcv p y ∨ (rcv p x = rcv p y ∧ (stp p x < stp p y ∨ (stp p x = stp p y ∧ (sv (wht p x) 0 8 < sv (wht p y) 0 8 ∨ (sv (wht p x) 0 8 = sv (wht p y) 0 8 ∧ x < y))))) := by
  have s8 : ∀ a, sv a 0 8 < 2 ^ 256 := fun a => sv_lt a 8 0
  have k := key4 (R := rcv p x) (R2 := rcv p y) (stp_nat (stp p x)) (stp_nat (stp p y)) (s8 (wht p x)) (s8 (wht p y)) (show x < 2 ^ 8 from hx) (show y < 2 ^ 8 from hy)
  rw [stp_cmp, stp_eq] at k
  exact k
end VIEW4
