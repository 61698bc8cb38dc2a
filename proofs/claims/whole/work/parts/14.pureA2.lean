/-! ===== how many bits of 64 are set ===== -/
theorem and_split {a b c d : Nat} (ha : a < 256) (hc : c < 256) : (a + 256 * b) &&& (c + 256 * d) = (a &&& c) + 256 * (b &&& d) := by
  apply Nat.eq_of_testBit_eq
  intro i
  have hac : a &&& c < 256 := Nat.lt_of_le_of_lt Nat.and_le_left ha
  rw [Nat.testBit_and, show a + 256 * b = 2 ^ 8 * b + a by omega, show c + 256 * d = 2 ^ 8 * d + c by omega, show (a &&& c) + 256 * (b &&& d) = 2 ^ 8 * (b &&& d) + (a &&& c) by omega,
    Nat.testBit_two_pow_mul_add b (show a < 2 ^ 8 by omega) i, Nat.testBit_two_pow_mul_add d (show c < 2 ^ 8 by omega) i, Nat.testBit_two_pow_mul_add (b &&& d) (show a &&& c < 2 ^ 8 by omega) i]
  by_cases h : i < 8
  · simp [h]
  · simp [h]
def mk8 (m : Nat) : Nat → Nat
  | 0 => 0
  | k + 1 => m + 256 * mk8 m k
def w1 (k X : Nat) : Nat := X - ((X / 2) &&& mk8 85 k)
def w2 (k X : Nat) : Nat := (X &&& mk8 51 k) + ((X / 4) &&& mk8 51 k)
def w3 (k X : Nat) : Nat := (X + X / 16) &&& mk8 15 k
theorem w_lo1 : ∀ lo, lo < 256 → ∀ r, r < 2 → ((lo / 2 + 128 * r) &&& 85) = ((lo / 2) &&& 85) ∧ ((lo / 2) &&& 85) ≤ lo := by decide +kernel
theorem w_lo2 : ∀ lo, lo < 256 → ∀ r, r < 4 → ((lo / 4 + 64 * r) &&& 51) = ((lo / 4) &&& 51) ∧ (lo &&& 51) ≤ 51 ∧ ((lo / 4) &&& 51) ≤ 51 := by decide +kernel
theorem w_lo3 : ∀ lo, lo < 103 → ∀ r, r < 7 → ((lo + lo / 16 + 16 * r) &&& 15) = ((lo + lo / 16) &&& 15) := by decide +kernel
theorem w_pop : ∀ lo, lo < 256 → (((((lo - ((lo / 2) &&& 85)) &&& 51) + (((lo - ((lo / 2) &&& 85)) / 4) &&& 51)) + (((lo - ((lo / 2) &&& 85)) &&& 51) + (((lo - ((lo / 2) &&& 85)) / 4) &&& 51)) / 16) &&& 15) = pop8 lo := by decide +kernel
theorem mk3_16 : ∀ k, mk8 51 k % 16 ≤ 3
  | 0 => by decide
  | k + 1 => by unfold mk8; omega
theorem w2_nib (k h : Nat) : w2 k h % 16 ≤ 6 := by
  have h1 : (h &&& mk8 51 k) % 16 ≤ 3 := by
    rw [show 16 = 2 ^ 4 from rfl, Nat.and_mod_two_pow]
    exact Nat.le_trans Nat.and_le_right (mk3_16 k)
  have h2 : ((h / 4) &&& mk8 51 k) % 16 ≤ 3 := by
    rw [show 16 = 2 ^ 4 from rfl, Nat.and_mod_two_pow]
    exact Nat.le_trans Nat.and_le_right (mk3_16 k)
  unfold w2
  omega
theorem w_step (k lo hi : Nat) (hl : lo < 256) : w3 (k + 1) (w2 (k + 1) (w1 (k + 1) (lo + 256 * hi))) = pop8 lo + 256 * w3 k (w2 k (w1 k hi)) := by
  obtain ⟨a1, a2⟩ := w_lo1 lo hl (hi % 2) (by omega)
  have e1 : w1 (k + 1) (lo + 256 * hi) = (lo - ((lo / 2) &&& 85)) + 256 * w1 k hi := by
    have hq : ((hi / 2) &&& mk8 85 k) ≤ hi / 2 := Nat.and_le_left
    unfold w1
    rw [show (lo + 256 * hi) / 2 = (lo / 2 + 128 * (hi % 2)) + 256 * (hi / 2) by omega, show mk8 85 (k + 1) = 85 + 256 * mk8 85 k from rfl, and_split (by omega) (by omega), a1]
    omega
  rw [e1]
  generalize hl1 : lo - ((lo / 2) &&& 85) = lo1
  generalize w1 k hi = hi1
  have hl1' : lo1 < 256 := by omega
  obtain ⟨b1, b2, b3⟩ := w_lo2 lo1 hl1' (hi1 % 4) (by omega)
  have e2 : w2 (k + 1) (lo1 + 256 * hi1) = ((lo1 &&& 51) + ((lo1 / 4) &&& 51)) + 256 * w2 k hi1 := by
    unfold w2
    rw [show (lo1 + 256 * hi1) / 4 = (lo1 / 4 + 64 * (hi1 % 4)) + 256 * (hi1 / 4) by omega, show mk8 51 (k + 1) = 51 + 256 * mk8 51 k from rfl, and_split hl1' (by omega), and_split (by omega) (by omega), b1]
    omega
  rw [e2]
  have hn := w2_nib k hi1
  generalize hl2 : (lo1 &&& 51) + ((lo1 / 4) &&& 51) = lo2
  generalize w2 k hi1 = hi2 at hn ⊢
  have e3 : w3 (k + 1) (lo2 + 256 * hi2) = ((lo2 + lo2 / 16) &&& 15) + 256 * w3 k hi2 := by
    unfold w3
    rw [show lo2 + 256 * hi2 + (lo2 + 256 * hi2) / 16 = (lo2 + lo2 / 16 + 16 * (hi2 % 16)) + 256 * (hi2 + hi2 / 16) by omega, show mk8 15 (k + 1) = 15 + 256 * mk8 15 k from rfl, and_split (by omega) (by omega), w_lo3 lo2 (by omega) (hi2 % 16) (by omega)]
  rw [e3, ← w_pop lo hl, hl1, hl2]
theorem w_all (X : Nat) (hX : X < 2 ^ 64) : w3 8 (w2 8 (w1 8 X)) = pop8 (X % 256) + 256 * (pop8 (X / 256 % 256) + 256 * (pop8 (X / 256 / 256 % 256) + 256 * (pop8 (X / 256 / 256 / 256 % 256) + 256 * (pop8 (X / 256 / 256 / 256 / 256 % 256) + 256 * (pop8 (X / 256 / 256 / 256 / 256 / 256 % 256) + 256 * (pop8 (X / 256 / 256 / 256 / 256 / 256 / 256 % 256) + 256 * pop8 (X / 256 / 256 / 256 / 256 / 256 / 256 / 256 % 256))))))) := by
  have st : ∀ k Y, w3 (k + 1) (w2 (k + 1) (w1 (k + 1) Y)) = pop8 (Y % 256) + 256 * w3 k (w2 k (w1 k (Y / 256))) := by
    intro k Y
    have := w_step k (Y % 256) (Y / 256) (by omega)
    rw [show Y % 256 + 256 * (Y / 256) = Y by omega] at this
    exact this
  rw [st, st, st, st, st, st, st, st]
  have h0 : X / 256 / 256 / 256 / 256 / 256 / 256 / 256 / 256 = 0 := by omega
  rw [h0]
  rfl
theorem cnt_byte (X i : Nat) : cnt (fun j => X.testBit (8 * i + j)) 8 = pop8 (X / 2 ^ (8 * i) % 256) := by
  refine cnt_congr 8 (fun j hj => ?_)
  show X.testBit (8 * i + j) = (X / 2 ^ (8 * i) % 2 ^ 8).testBit j
  rw [Nat.testBit_mod_two_pow, Nat.testBit_div_two_pow]
  simp [hj, Nat.add_comm]
theorem pop_sum (X : Nat) : cnt (fun i => X.testBit i) 64 = pop8 (X % 256) + pop8 (X / 256 % 256) + pop8 (X / 256 / 256 % 256) + pop8 (X / 256 / 256 / 256 % 256) + pop8 (X / 256 / 256 / 256 / 256 % 256) + pop8 (X / 256 / 256 / 256 / 256 / 256 % 256) + pop8 (X / 256 / 256 / 256 / 256 / 256 / 256 % 256) + pop8 (X / 256 / 256 / 256 / 256 / 256 / 256 / 256 % 256) := by
  have e : ∀ i, cnt (fun j => X.testBit j) (8 * (i + 1)) = cnt (fun j => X.testBit j) (8 * i) + pop8 (X / 2 ^ (8 * i) % 256) := by
    intro i
    rw [show 8 * (i + 1) = 8 * i + 8 by omega, cnt_add, cnt_byte]
  rw [show (64 : Nat) = 8 * (7 + 1) from rfl, e 7, show 8 * 7 = 8 * (6 + 1) from rfl, e 6, show 8 * 6 = 8 * (5 + 1) from rfl, e 5, show 8 * 5 = 8 * (4 + 1) from rfl, e 4, show 8 * 4 = 8 * (3 + 1) from rfl, e 3, show 8 * 3 = 8 * (2 + 1) from rfl, e 2, show 8 * 2 = 8 * (1 + 1) from rfl, e 1, show 8 * 1 = 8 * (0 + 1) from rfl, e 0]
  simp only [Nat.div_div_eq_div_mul]
  show 0 + pop8 _ + _ + _ + _ + _ + _ + _ + _ = _
  simp
theorem pop8_le (m : Nat) : pop8 m ≤ 8 := cnt_le _ 8
theorem w_d {q0 q1 q2 c0 c1 c2 c3 : Nat} (h0 : q0 ≤ 8) (h1 : q1 ≤ 8) (h2 : q2 ≤ 8) (e0 : c0 = q0 + 256 * c1) (e1 : c1 = q1 + 256 * c2) (e2 : c2 = q2 + 256 * c3) : c0 / 256 = c1 ∧ (c0 + c1) / 65536 = c2 + c3 := by
  subst e0
  subst e1
  subst e2
  omega
theorem w_e {q0 q1 q2 q3 q4 q5 q6 c0 c1 c2 c3 c4 c5 c6 c7 : Nat} (h0 : q0 ≤ 8) (h1 : q1 ≤ 8) (h2 : q2 ≤ 8) (h3 : q3 ≤ 8) (h4 : q4 ≤ 8) (h5 : q5 ≤ 8) (h6 : q6 ≤ 8) (e0 : c0 = q0 + 256 * c1) (e1 : c1 = q1 + 256 * c2) (e2 : c2 = q2 + 256 * c3) (e3 : c3 = q3 + 256 * c4) (e4 : c4 = q4 + 256 * c5) (e5 : c5 = q5 + 256 * c6) (e6 : c6 = q6 + 256 * c7) : (c0 + c1 + (c2 + c3)) / 4294967296 = c4 + c5 + c6 + c7 := by
  have f0 : c0 = (q0 + 256 * q1 + 65536 * q2 + 16777216 * q3) + 4294967296 * c4 := by subst e0 e1 e2 e3; omega
  have f1 : c1 = (q1 + 256 * q2 + 65536 * q3 + 16777216 * q4) + 4294967296 * c5 := by subst e1 e2 e3 e4; omega
  have f2 : c2 = (q2 + 256 * q3 + 65536 * q4 + 16777216 * q5) + 4294967296 * c6 := by subst e2 e3 e4 e5; omega
  have f3 : c3 = (q3 + 256 * q4 + 65536 * q5 + 16777216 * q6) + 4294967296 * c7 := by subst e3 e4 e5 e6; omega
  clear e0 e1 e2 e3 e4 e5 e6
  rw [show c0 + c1 + (c2 + c3) = ((q0 + 256 * q1 + 65536 * q2 + 16777216 * q3) + (q1 + 256 * q2 + 65536 * q3 + 16777216 * q4) + (q2 + 256 * q3 + 65536 * q4 + 16777216 * q5) + (q3 + 256 * q4 + 65536 * q5 + 16777216 * q6)) + 4294967296 * (c4 + c5 + c6 + c7) by omega, Nat.add_mul_div_left _ _ (by decide), Nat.div_eq_of_lt (by omega), Nat.zero_add]
theorem w_f {q0 q1 q2 q3 q4 q5 q6 q7 c0 c1 c2 c3 c4 c5 c6 c7 : Nat} (h0 : q0 ≤ 8) (h1 : q1 ≤ 8) (h2 : q2 ≤ 8) (h3 : q3 ≤ 8) (h4 : q4 ≤ 8) (h5 : q5 ≤ 8) (h6 : q6 ≤ 8) (h7 : q7 ≤ 8) (e0 : c0 = q0 + 256 * c1) (e1 : c1 = q1 + 256 * c2) (e2 : c2 = q2 + 256 * c3) (e3 : c3 = q3 + 256 * c4) (e4 : c4 = q4 + 256 * c5) (e5 : c5 = q5 + 256 * c6) (e6 : c6 = q6 + 256 * c7) (e7 : c7 = q7) : (c0 + c1 + (c2 + c3) + (c4 + c5 + c6 + c7)) % 128 = q0 + q1 + q2 + q3 + q4 + q5 + q6 + q7 := by
  have f : c0 + c1 + (c2 + c3) + (c4 + c5 + c6 + c7) = (q0 + q1 + q2 + q3 + q4 + q5 + q6 + q7) + 128 * (2 * (c1 + c2 + c3 + c4 + c5 + c6 + c7)) := by omega
  rw [f, Nat.add_mul_mod_self_left]
  exact Nat.mod_eq_of_lt (by omega)
theorem w_bd {q0 q1 q2 q3 q4 q5 q6 q7 c0 c1 c2 c3 c4 c5 c6 c7 : Nat} (h0 : q0 ≤ 8) (h1 : q1 ≤ 8) (h2 : q2 ≤ 8) (h3 : q3 ≤ 8) (h4 : q4 ≤ 8) (h5 : q5 ≤ 8) (h6 : q6 ≤ 8) (h7 : q7 ≤ 8) (e0 : c0 = q0 + 256 * c1) (e1 : c1 = q1 + 256 * c2) (e2 : c2 = q2 + 256 * c3) (e3 : c3 = q3 + 256 * c4) (e4 : c4 = q4 + 256 * c5) (e5 : c5 = q5 + 256 * c6) (e6 : c6 = q6 + 256 * c7) (e7 : c7 = q7) : c0 + c1 + (c2 + c3) + (c4 + c5 + c6 + c7) < 18446744073709551616 := by
  have g6 : c6 ≤ 2056 := by omega
  have g5 : c5 ≤ 526344 := by omega
  have g4 : c4 ≤ 134744072 := by omega
  have g3 : c3 ≤ 34494482440 := by omega
  have g2 : c2 ≤ 8830587504648 := by omega
  have g1 : c1 ≤ 2260630401189896 := by omega
  have g0 : c0 ≤ 578721382704613384 := by omega
  omega
/-- the same in machine words -/
def wE (x : Int64) : Int64 :=
  let a := x - (lush x 1 &&& 6148914691236517205)
  let b := (a &&& 3689348814741910323) + (lush a 2 &&& 3689348814741910323)
  let c := (b + lush b 4) &&& 1085102592571150095
  let d := c + lush c 8
  let e := d + lush d 16
  e + lush e 32
theorem lush_nat (x : Int64) {k : Nat} (hk : k < 64) : (lush x (nI k)).toBitVec.toNat = x.toBitVec.toNat / 2 ^ k := by
  rw [lush_bv x hk, BitVec.toNat_ushiftRight, Nat.shiftRight_eq_div_pow]
theorem wE_nat (x : Int64) : (wE x).toBitVec.toNat % 128 = pop x := by
  have hX : x.toBitVec.toNat < 2 ^ 64 := x.toBitVec.isLt
  have hp : pop x = cnt (fun i => x.toBitVec.toNat.testBit i) 64 := rfl
  rw [hp, pop_sum]
  have hall := w_all x.toBitVec.toNat hX
  have m5 : mk8 85 8 = 6148914691236517205 := by decide
  have m3 : mk8 51 8 = 3689348814741910323 := by decide
  have mf : mk8 15 8 = 1085102592571150095 := by decide
  obtain ⟨a, ha⟩ : ∃ a : Int64, a = x - (lush x 1 &&& 6148914691236517205) := ⟨_, rfl⟩
  obtain ⟨b, hb⟩ : ∃ b : Int64, b = (a &&& 3689348814741910323) + (lush a 2 &&& 3689348814741910323) := ⟨_, rfl⟩
  obtain ⟨c, hc⟩ : ∃ c : Int64, c = (b + lush b 4) &&& 1085102592571150095 := ⟨_, rfl⟩
  have hw : wE x = (c + lush c 8 + lush (c + lush c 8) 16) + lush (c + lush c 8 + lush (c + lush c 8) 16) 32 := by
    subst hc; subst hb; subst ha; rfl
  have na : a.toBitVec.toNat = w1 8 x.toBitVec.toNat := by
    have h1 : ((lush x 1 &&& 6148914691236517205 : Int64)).toBitVec.toNat = (x.toBitVec.toNat / 2) &&& mk8 85 8 := by
      rw [Int64.toBitVec_and, BitVec.toNat_and, show (1 : Int32) = nI 1 from rfl, lush_nat x (by decide), m5]
      rfl
    have h2 : (x.toBitVec.toNat / 2) &&& mk8 85 8 ≤ x.toBitVec.toNat / 2 := Nat.and_le_left
    rw [ha, Int64.toBitVec_sub, BitVec.toNat_sub_of_le (by rw [BitVec.le_def, h1]; omega), h1]
    rfl
  have nb : b.toBitVec.toNat = w2 8 a.toBitVec.toNat := by
    have h1 : (a &&& 3689348814741910323 : Int64).toBitVec.toNat = a.toBitVec.toNat &&& mk8 51 8 := by
      rw [Int64.toBitVec_and, BitVec.toNat_and, m3]
      rfl
    have h2 : (lush a 2 &&& 3689348814741910323 : Int64).toBitVec.toNat = (a.toBitVec.toNat / 4) &&& mk8 51 8 := by
      rw [Int64.toBitVec_and, BitVec.toNat_and, show (2 : Int32) = nI 2 from rfl, lush_nat a (by decide), m3]
      rfl
    have h3 : a.toBitVec.toNat &&& mk8 51 8 ≤ mk8 51 8 := Nat.and_le_right
    have h4 : (a.toBitVec.toNat / 4) &&& mk8 51 8 ≤ mk8 51 8 := Nat.and_le_right
    rw [hb, Int64.toBitVec_add, BitVec.toNat_add, h1, h2, Nat.mod_eq_of_lt (by rw [m3] at *; omega)]
    rfl
  have nc : c.toBitVec.toNat = w3 8 b.toBitVec.toNat := by
    have h3 : b.toBitVec.toNat ≤ 2 * mk8 51 8 := by
      rw [nb]
      have h3 : a.toBitVec.toNat &&& mk8 51 8 ≤ mk8 51 8 := Nat.and_le_right
      have h4 : (a.toBitVec.toNat / 4) &&& mk8 51 8 ≤ mk8 51 8 := Nat.and_le_right
      unfold w2
      omega
    rw [hc, Int64.toBitVec_and, BitVec.toNat_and, Int64.toBitVec_add, BitVec.toNat_add, show (4 : Int32) = nI 4 from rfl, lush_nat b (by decide), Nat.mod_eq_of_lt (by rw [m3] at h3; omega)]
    unfold w3
    rw [mf]
    rfl
  rw [nb, na, hall] at nc
  have p0 := pop8_le (x.toBitVec.toNat % 256)
  have p1 := pop8_le (x.toBitVec.toNat / 256 % 256)
  have p2 := pop8_le (x.toBitVec.toNat / 256 / 256 % 256)
  have p3 := pop8_le (x.toBitVec.toNat / 256 / 256 / 256 % 256)
  have p4 := pop8_le (x.toBitVec.toNat / 256 / 256 / 256 / 256 % 256)
  have p5 := pop8_le (x.toBitVec.toNat / 256 / 256 / 256 / 256 / 256 % 256)
  have p6 := pop8_le (x.toBitVec.toNat / 256 / 256 / 256 / 256 / 256 / 256 % 256)
  have p7 := pop8_le (x.toBitVec.toNat / 256 / 256 / 256 / 256 / 256 / 256 / 256 % 256)
  generalize pop8 (x.toBitVec.toNat % 256) = q0 at *
  generalize pop8 (x.toBitVec.toNat / 256 % 256) = q1 at *
  generalize pop8 (x.toBitVec.toNat / 256 / 256 % 256) = q2 at *
  generalize pop8 (x.toBitVec.toNat / 256 / 256 / 256 % 256) = q3 at *
  generalize pop8 (x.toBitVec.toNat / 256 / 256 / 256 / 256 % 256) = q4 at *
  generalize pop8 (x.toBitVec.toNat / 256 / 256 / 256 / 256 / 256 % 256) = q5 at *
  generalize pop8 (x.toBitVec.toNat / 256 / 256 / 256 / 256 / 256 / 256 % 256) = q6 at *
  generalize pop8 (x.toBitVec.toNat / 256 / 256 / 256 / 256 / 256 / 256 / 256 % 256) = q7 at *
  clear hall hp na nb hX
  obtain ⟨c7, e7⟩ : ∃ z, z = q7 := ⟨_, rfl⟩
  obtain ⟨c6, e6⟩ : ∃ z, z = q6 + 256 * c7 := ⟨_, rfl⟩
  obtain ⟨c5, e5⟩ : ∃ z, z = q5 + 256 * c6 := ⟨_, rfl⟩
  obtain ⟨c4, e4⟩ : ∃ z, z = q4 + 256 * c5 := ⟨_, rfl⟩
  obtain ⟨c3, e3⟩ : ∃ z, z = q3 + 256 * c4 := ⟨_, rfl⟩
  obtain ⟨c2, e2⟩ : ∃ z, z = q2 + 256 * c3 := ⟨_, rfl⟩
  obtain ⟨c1, e1⟩ : ∃ z, z = q1 + 256 * c2 := ⟨_, rfl⟩
  rw [← e7, ← e6, ← e5, ← e4, ← e3, ← e2, ← e1] at nc
  obtain ⟨c0, e0⟩ : ∃ z, z = q0 + 256 * c1 := ⟨_, rfl⟩
  rw [← e0] at nc
  have hbd := w_bd p0 p1 p2 p3 p4 p5 p6 p7 e0 e1 e2 e3 e4 e5 e6 e7
  have hd := w_d p0 p1 p2 e0 e1 e2
  have he := w_e p0 p1 p2 p3 p4 p5 p6 e0 e1 e2 e3 e4 e5 e6
  have hf := w_f p0 p1 p2 p3 p4 p5 p6 p7 e0 e1 e2 e3 e4 e5 e6 e7
  clear e0 e1 e2 e3 e4 e5 e6 e7 p0 p1 p2 p3 p4 p5 p6 p7
  have nd : (c + lush c 8).toBitVec.toNat = c0 + c1 := by
    rw [Int64.toBitVec_add, BitVec.toNat_add, show (8 : Int32) = nI 8 from rfl, lush_nat c (by decide), nc, show (2 : Nat) ^ 8 = 256 from rfl, hd.1, Nat.mod_eq_of_lt (by omega)]
  generalize c + lush c 8 = d at nd hw
  have ne : (d + lush d 16).toBitVec.toNat = c0 + c1 + (c2 + c3) := by
    rw [Int64.toBitVec_add, BitVec.toNat_add, show (16 : Int32) = nI 16 from rfl, lush_nat d (by decide), nd, show (2 : Nat) ^ 16 = 65536 from rfl, hd.2, Nat.mod_eq_of_lt (by omega)]
  generalize d + lush d 16 = e at ne hw
  have nf : (e + lush e 32).toBitVec.toNat = c0 + c1 + (c2 + c3) + (c4 + c5 + c6 + c7) := by
    rw [Int64.toBitVec_add, BitVec.toNat_add, show (32 : Int32) = nI 32 from rfl, lush_nat e (by decide), ne, show (2 : Nat) ^ 32 = 4294967296 from rfl, he, Nat.mod_eq_of_lt (by omega)]
  rw [hw, nf, hf]
theorem v_J13_bitCount_95d88 (x0 : Int64) (σ : Sg) (K : Int32 → Sg → Prop) (h : sp_J13_bitCount_95d88 x0 σ K) : vc_J13_bitCount_95d88 x0 σ K := by
  have e : (wE x0).toInt32 &&& 127 = nI (pop x0) := by
    rw [pk_and _ 7 (by decide), ← wE_nat]
    congr 1
    have : (wE x0).toInt32.toBitVec.toNat = (wE x0).toBitVec.toNat % 2 ^ 32 := by
      rw [Int64.toBitVec_toInt32, BitVec.signExtend_eq_setWidth_of_le _ (by decide), BitVec.toNat_setWidth]
    rw [this]
    omega
  have h : K (nI (pop x0)) σ := h
  rw [← e] at h
  exact h
