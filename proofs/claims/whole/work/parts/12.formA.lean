def f_J7_fill_53178_5 (k : Nat) (n : Nat) (x1 : Int32) (L5 : Int32 → Int32 → Sg → Prop) (Po : Sg → Prop) (x2 : Int32) (x3 : Int32) (σ : Sg) : Prop :=
  (x3 ≤ x2 →
  Po σ) ∧
  (¬ (x3 ≤ x2) →
  vp_in x2 n ∧
  L5 (x2 + 1) x3 (pI σ k x2.toNatClampNeg x1))
def f_J7_fill_53178_e (k : Nat) (n : Nat) (x1 : Int32) (L5 : Int32 → Int32 → Sg → Prop) (Po : Sg → Prop) (σ : Sg) : Prop :=
  L5 0 (nI n) σ
def vc_J7_fill_53178 (k : Nat) (n : Nat) (x1 : Int32) (σ : Sg) (Po : Sg → Prop) : Prop := ∀ L5 : Int32 → Int32 → Sg → Prop, (∀ (x2 : Int32) (x3 : Int32) (σ : Sg), f_J7_fill_53178_5 k n x1 L5 Po x2 x3 σ → L5 x2 x3 σ) → f_J7_fill_53178_e k n x1 L5 Po σ
def CT_J7_fill_53178 (l : Launch) (Ω : Wm) : Prop := ∀ k : Nat, ∀ n : Nat, kD[k]? = some (0, n, []) → ∀ (x1 : Int32) (σ : Sg) (K : Sg → Prop), sp_J7_fill_53178 k n x1 σ K → Ct l yJ7_fill_53178 cJ7_fill_53178 4 none 0 0 Ω [.ref (Ω.2.2.1 k), .int x1] σ (QV Ω K)
def f_J7_rangeCheck_23922_e (x0 : Int32) (x1 : Int32) (x2 : Int32) (Po : Sg → Prop) (σ : Sg) : Prop :=
  (x1 ≤ x2 →
  (0 ≤ x1 →
  (x2 ≤ x0 →
  Po σ) ∧
  (¬ (x2 ≤ x0) →
  False)) ∧
  (¬ (0 ≤ x1) →
  False)) ∧
  (¬ (x1 ≤ x2) →
  False)
def vc_J7_rangeCheck_23922 (x0 : Int32) (x1 : Int32) (x2 : Int32) (σ : Sg) (Po : Sg → Prop) : Prop := f_J7_rangeCheck_23922_e x0 x1 x2 Po σ
def sp_J7_rangeCheck_23922 (x0 : Int32) (x1 : Int32) (x2 : Int32) (σ : Sg) (K : Sg → Prop) : Prop := vc_J7_rangeCheck_23922 x0 x1 x2 σ K
def CT_J7_rangeCheck_23922 (l : Launch) (Ω : Wm) : Prop := ∀ (x0 : Int32) (x1 : Int32) (x2 : Int32) (σ : Sg) (K : Sg → Prop), sp_J7_rangeCheck_23922 x0 x1 x2 σ K → Ct l yJ7_rangeCheck_23922 cJ7_rangeCheck_23922 3 none 0 0 Ω [.int x0, .int x1, .int x2] σ (QV Ω K)
def f_J7_fill_fda19_10 (k : Nat) (n : Nat) (x1 : Int32) (x2 : Int32) (x3 : Int32) (L10 : Int32 → Sg → Prop) (Po : Sg → Prop) (x4 : Int32) (σ : Sg) : Prop :=
  (x2 ≤ x4 →
  Po σ) ∧
  (¬ (x2 ≤ x4) →
  vp_in x4 n ∧
  L10 (x4 + 1) (pI σ k x4.toNatClampNeg x3))
def f_J7_fill_fda19_e (k : Nat) (n : Nat) (x1 : Int32) (x2 : Int32) (x3 : Int32) (L10 : Int32 → Sg → Prop) (Po : Sg → Prop) (σ : Sg) : Prop :=
  sp_J7_rangeCheck_23922 (nI n) x1 x2 σ (fun u2 =>
  L10 x1 u2)
def vc_J7_fill_fda19 (k : Nat) (n : Nat) (x1 : Int32) (x2 : Int32) (x3 : Int32) (σ : Sg) (Po : Sg → Prop) : Prop := ∀ L10 : Int32 → Sg → Prop, (∀ (x4 : Int32) (σ : Sg), f_J7_fill_fda19_10 k n x1 x2 x3 L10 Po x4 σ → L10 x4 σ) → f_J7_fill_fda19_e k n x1 x2 x3 L10 Po σ
def CT_J7_fill_fda19 (l : Launch) (Ω : Wm) : Prop := ∀ k : Nat, ∀ n : Nat, kD[k]? = some (0, n, []) → ∀ (x1 : Int32) (x2 : Int32) (x3 : Int32) (σ : Sg) (K : Sg → Prop), sp_J7_fill_fda19 k n x1 x2 x3 σ K → Ct l yJ7_fill_fda19 cJ7_fill_fda19 5 none 1 22 Ω [.ref (Ω.2.2.1 k), .int x1, .int x2, .int x3] σ (QV Ω K)
def f_J7_fill_bad5a_10 (k : Nat) (n : Nat) (x1 : Int32) (x2 : Int32) (x3 : Int64) (L10 : Int32 → Sg → Prop) (Po : Sg → Prop) (x5 : Int32) (σ : Sg) : Prop :=
  (x2 ≤ x5 →
  Po σ) ∧
  (¬ (x2 ≤ x5) →
  vp_in x5 n ∧
  L10 (x5 + 1) (pJ σ k x5.toNatClampNeg x3))
def f_J7_fill_bad5a_e (k : Nat) (n : Nat) (x1 : Int32) (x2 : Int32) (x3 : Int64) (L10 : Int32 → Sg → Prop) (Po : Sg → Prop) (σ : Sg) : Prop :=
  sp_J7_rangeCheck_23922 (nI n) x1 x2 σ (fun u2 =>
  L10 x1 u2)
def vc_J7_fill_bad5a (k : Nat) (n : Nat) (x1 : Int32) (x2 : Int32) (x3 : Int64) (σ : Sg) (Po : Sg → Prop) : Prop := ∀ L10 : Int32 → Sg → Prop, (∀ (x5 : Int32) (σ : Sg), f_J7_fill_bad5a_10 k n x1 x2 x3 L10 Po x5 σ → L10 x5 σ) → f_J7_fill_bad5a_e k n x1 x2 x3 L10 Po σ
def CT_J7_fill_bad5a (l : Launch) (Ω : Wm) : Prop := ∀ k : Nat, ∀ n : Nat, kD[k]? = some (1, n, []) → ∀ (x1 : Int32) (x2 : Int32) (x3 : Int64) (σ : Sg) (K : Sg → Prop), sp_J7_fill_bad5a k n x1 x2 x3 σ K → Ct l yJ7_fill_bad5a cJ7_fill_bad5a 6 none 1 22 Ω [.ref (Ω.2.2.1 k), .int x1, .int x2, .long x3] σ (QV Ω K)
def f_J7_fill_d0a16_6 (k : Nat) (n : Nat) (x1 : Int64) (L6 : Int32 → Int32 → Sg → Prop) (Po : Sg → Prop) (x3 : Int32) (x4 : Int32) (σ : Sg) : Prop :=
  (x4 ≤ x3 →
  Po σ) ∧
  (¬ (x4 ≤ x3) →
  vp_in x3 n ∧
  L6 (x3 + 1) x4 (pJ σ k x3.toNatClampNeg x1))
def f_J7_fill_d0a16_e (k : Nat) (n : Nat) (x1 : Int64) (L6 : Int32 → Int32 → Sg → Prop) (Po : Sg → Prop) (σ : Sg) : Prop :=
  L6 0 (nI n) σ
def vc_J7_fill_d0a16 (k : Nat) (n : Nat) (x1 : Int64) (σ : Sg) (Po : Sg → Prop) : Prop := ∀ L6 : Int32 → Int32 → Sg → Prop, (∀ (x3 : Int32) (x4 : Int32) (σ : Sg), f_J7_fill_d0a16_6 k n x1 L6 Po x3 x4 σ → L6 x3 x4 σ) → f_J7_fill_d0a16_e k n x1 L6 Po σ
def CT_J7_fill_d0a16 (l : Launch) (Ω : Wm) : Prop := ∀ k : Nat, ∀ n : Nat, kD[k]? = some (1, n, []) → ∀ (x1 : Int64) (σ : Sg) (K : Sg → Prop), sp_J7_fill_d0a16 k n x1 σ K → Ct l yJ7_fill_d0a16 cJ7_fill_d0a16 5 none 0 0 Ω [.ref (Ω.2.2.1 k), .long x1] σ (QV Ω K)
def f_J6_bitCount_0f7a4_e (Po : Int32 → Sg → Prop) (x0 : Int32) (σ : Sg) : Prop :=
  Po ((((((((x0 - ((iush x0 1) &&& 1431655765)) &&& 858993459) + ((iush (x0 - ((iush x0 1) &&& 1431655765)) 2) &&& 858993459)) + (iush (((x0 - ((iush x0 1) &&& 1431655765)) &&& 858993459) + ((iush (x0 - ((iush x0 1) &&& 1431655765)) 2) &&& 858993459)) 4)) &&& 252645135) + (iush (((((x0 - ((iush x0 1) &&& 1431655765)) &&& 858993459) + ((iush (x0 - ((iush x0 1) &&& 1431655765)) 2) &&& 858993459)) + (iush (((x0 - ((iush x0 1) &&& 1431655765)) &&& 858993459) + ((iush (x0 - ((iush x0 1) &&& 1431655765)) 2) &&& 858993459)) 4)) &&& 252645135) 8)) + (iush ((((((x0 - ((iush x0 1) &&& 1431655765)) &&& 858993459) + ((iush (x0 - ((iush x0 1) &&& 1431655765)) 2) &&& 858993459)) + (iush (((x0 - ((iush x0 1) &&& 1431655765)) &&& 858993459) + ((iush (x0 - ((iush x0 1) &&& 1431655765)) 2) &&& 858993459)) 4)) &&& 252645135) + (iush (((((x0 - ((iush x0 1) &&& 1431655765)) &&& 858993459) + ((iush (x0 - ((iush x0 1) &&& 1431655765)) 2) &&& 858993459)) + (iush (((x0 - ((iush x0 1) &&& 1431655765)) &&& 858993459) + ((iush (x0 - ((iush x0 1) &&& 1431655765)) 2) &&& 858993459)) 4)) &&& 252645135) 8)) 16)) &&& 63) σ
def vc_J6_bitCount_0f7a4 (x0 : Int32) (σ : Sg) (Po : Int32 → Sg → Prop) : Prop := f_J6_bitCount_0f7a4_e Po x0 σ
def CT_J6_bitCount_0f7a4 (l : Launch) (Ω : Wm) : Prop := ∀ (x0 : Int32) (σ : Sg) (K : Int32 → Sg → Prop), sp_J6_bitCount_0f7a4 x0 σ K → Ct l yJ6_bitCount_0f7a4 cJ6_bitCount_0f7a4 1 (some .int) 0 0 Ω [.int x0] σ (QI Ω K)
def f_J13_bitCount_95d88_e (Po : Int32 → Sg → Prop) (x0 : Int64) (σ : Sg) : Prop :=
  Po ((((((((((x0 - ((lush x0 1) &&& 6148914691236517205)) &&& 3689348814741910323) + ((lush (x0 - ((lush x0 1) &&& 6148914691236517205)) 2) &&& 3689348814741910323)) + (lush (((x0 - ((lush x0 1) &&& 6148914691236517205)) &&& 3689348814741910323) + ((lush (x0 - ((lush x0 1) &&& 6148914691236517205)) 2) &&& 3689348814741910323)) 4)) &&& 1085102592571150095) + (lush (((((x0 - ((lush x0 1) &&& 6148914691236517205)) &&& 3689348814741910323) + ((lush (x0 - ((lush x0 1) &&& 6148914691236517205)) 2) &&& 3689348814741910323)) + (lush (((x0 - ((lush x0 1) &&& 6148914691236517205)) &&& 3689348814741910323) + ((lush (x0 - ((lush x0 1) &&& 6148914691236517205)) 2) &&& 3689348814741910323)) 4)) &&& 1085102592571150095) 8)) + (lush ((((((x0 - ((lush x0 1) &&& 6148914691236517205)) &&& 3689348814741910323) + ((lush (x0 - ((lush x0 1) &&& 6148914691236517205)) 2) &&& 3689348814741910323)) + (lush (((x0 - ((lush x0 1) &&& 6148914691236517205)) &&& 3689348814741910323) + ((lush (x0 - ((lush x0 1) &&& 6148914691236517205)) 2) &&& 3689348814741910323)) 4)) &&& 1085102592571150095) + (lush (((((x0 - ((lush x0 1) &&& 6148914691236517205)) &&& 3689348814741910323) + ((lush (x0 - ((lush x0 1) &&& 6148914691236517205)) 2) &&& 3689348814741910323)) + (lush (((x0 - ((lush x0 1) &&& 6148914691236517205)) &&& 3689348814741910323) + ((lush (x0 - ((lush x0 1) &&& 6148914691236517205)) 2) &&& 3689348814741910323)) 4)) &&& 1085102592571150095) 8)) 16)) + (lush (((((((x0 - ((lush x0 1) &&& 6148914691236517205)) &&& 3689348814741910323) + ((lush (x0 - ((lush x0 1) &&& 6148914691236517205)) 2) &&& 3689348814741910323)) + (lush (((x0 - ((lush x0 1) &&& 6148914691236517205)) &&& 3689348814741910323) + ((lush (x0 - ((lush x0 1) &&& 6148914691236517205)) 2) &&& 3689348814741910323)) 4)) &&& 1085102592571150095) + (lush (((((x0 - ((lush x0 1) &&& 6148914691236517205)) &&& 3689348814741910323) + ((lush (x0 - ((lush x0 1) &&& 6148914691236517205)) 2) &&& 3689348814741910323)) + (lush (((x0 - ((lush x0 1) &&& 6148914691236517205)) &&& 3689348814741910323) + ((lush (x0 - ((lush x0 1) &&& 6148914691236517205)) 2) &&& 3689348814741910323)) 4)) &&& 1085102592571150095) 8)) + (lush ((((((x0 - ((lush x0 1) &&& 6148914691236517205)) &&& 3689348814741910323) + ((lush (x0 - ((lush x0 1) &&& 6148914691236517205)) 2) &&& 3689348814741910323)) + (lush (((x0 - ((lush x0 1) &&& 6148914691236517205)) &&& 3689348814741910323) + ((lush (x0 - ((lush x0 1) &&& 6148914691236517205)) 2) &&& 3689348814741910323)) 4)) &&& 1085102592571150095) + (lush (((((x0 - ((lush x0 1) &&& 6148914691236517205)) &&& 3689348814741910323) + ((lush (x0 - ((lush x0 1) &&& 6148914691236517205)) 2) &&& 3689348814741910323)) + (lush (((x0 - ((lush x0 1) &&& 6148914691236517205)) &&& 3689348814741910323) + ((lush (x0 - ((lush x0 1) &&& 6148914691236517205)) 2) &&& 3689348814741910323)) 4)) &&& 1085102592571150095) 8)) 16)) 32)).toInt32) &&& 127) σ
def vc_J13_bitCount_95d88 (x0 : Int64) (σ : Sg) (Po : Int32 → Sg → Prop) : Prop := f_J13_bitCount_95d88_e Po x0 σ
def CT_J13_bitCount_95d88 (l : Launch) (Ω : Wm) : Prop := ∀ (x0 : Int64) (σ : Sg) (K : Int32 → Sg → Prop), sp_J13_bitCount_95d88 x0 σ K → Ct l yJ13_bitCount_95d88 cJ13_bitCount_95d88 2 (some .int) 0 0 Ω [.long x0] σ (QI Ω K)
def f_X0_clear_e (t : Nat) (n : Nat) (Po : Sg → Prop) (σ : Sg) : Prop :=
  sp_J7_fill_d0a16 (t + 1) n 0 σ (fun u2 =>
  Po u2)
def vc_X0_clear (t : Nat) (n : Nat) (σ : Sg) (Po : Sg → Prop) : Prop := f_X0_clear_e t n Po σ
def CT_X0_clear (l : Launch) (Ω : Wm) : Prop := ∀ t : Nat, ∀ n : Nat, IsBT t n → ∀ (σ : Sg) (K : Sg → Prop), sp_X0_clear t n σ K → Ct l yX0_clear cX0_clear 1 none 1 24 Ω [.ref (Ω.2.2.1 t)] σ (QV Ω K)
def f_X0_clearRow_e (t : Nat) (n : Nat) (x1 : Int32) (Po : Sg → Prop) (σ : Sg) : Prop :=
  sp_J7_fill_bad5a (t + 1) n (x1 * 4) ((x1 + 1) * 4) 0 σ (fun u2 =>
  Po u2)
def vc_X0_clearRow (t : Nat) (n : Nat) (x1 : Int32) (σ : Sg) (Po : Sg → Prop) : Prop := f_X0_clearRow_e t n x1 Po σ
def CT_X0_clearRow (l : Launch) (Ω : Wm) : Prop := ∀ t : Nat, ∀ n : Nat, IsBT t n → ∀ (x1 : Int32) (σ : Sg) (K : Sg → Prop), sp_X0_clearRow t n x1 σ K → Ct l yX0_clearRow cX0_clearRow 2 none 2 47 Ω [.ref (Ω.2.2.1 t), .int x1] σ (QV Ω K)
def f_X0_has_30 (t : Nat) (n : Nat) (x1 : Int32) (x2 : Int32) (Po : Int32 → Sg → Prop) (s0 : Int32) (σ : Sg) : Prop :=
  isZ s0 ∧
  Po s0 σ
def f_X0_has_e (t : Nat) (n : Nat) (x1 : Int32) (x2 : Int32) (Po : Int32 → Sg → Prop) (σ : Sg) : Prop :=
  vp_in ((x1 * 4) + (ishr x2 6)) n ∧
  ((lg_cmp ((lush (σ.2 (t + 1) ((x1 * 4) + (ishr x2 6)).toNatClampNeg) (x2 &&& 63)) &&& 1) 0) = 0 →
  f_X0_has_30 t n x1 x2 Po 0 σ) ∧
  (¬ ((lg_cmp ((lush (σ.2 (t + 1) ((x1 * 4) + (ishr x2 6)).toNatClampNeg) (x2 &&& 63)) &&& 1) 0) = 0) →
  f_X0_has_30 t n x1 x2 Po 1 σ)
def vc_X0_has (t : Nat) (n : Nat) (x1 : Int32) (x2 : Int32) (σ : Sg) (Po : Int32 → Sg → Prop) : Prop := f_X0_has_e t n x1 x2 Po σ
def CT_X0_has (l : Launch) (Ω : Wm) : Prop := ∀ t : Nat, ∀ n : Nat, IsBT t n → ∀ (x1 : Int32) (x2 : Int32) (σ : Sg) (K : Int32 → Sg → Prop), sp_X0_has t n x1 x2 σ K → Ct l yX0_has cX0_has 3 (some .boolean) 0 0 Ω [.ref (Ω.2.2.1 t), .int x1, .int x2] σ (QI Ω K)
def f_X0_put_e (t : Nat) (n : Nat) (x1 : Int32) (x2 : Int32) (Po : Sg → Prop) (σ : Sg) : Prop :=
  vp_in ((x1 * 4) + (ishr x2 6)) n ∧
  vp_in ((x1 * 4) + (ishr x2 6)) n ∧
  Po (pJ σ (t + 1) ((x1 * 4) + (ishr x2 6)).toNatClampNeg ((σ.2 (t + 1) ((x1 * 4) + (ishr x2 6)).toNatClampNeg) ||| (lshl 1 (x2 &&& 63))))
def vc_X0_put (t : Nat) (n : Nat) (x1 : Int32) (x2 : Int32) (σ : Sg) (Po : Sg → Prop) : Prop := f_X0_put_e t n x1 x2 Po σ
def CT_X0_put (l : Launch) (Ω : Wm) : Prop := ∀ t : Nat, ∀ n : Nat, IsBT t n → ∀ (x1 : Int32) (x2 : Int32) (σ : Sg) (K : Sg → Prop), sp_X0_put t n x1 x2 σ K → Ct l yX0_put cX0_put 3 none 0 0 Ω [.ref (Ω.2.2.1 t), .int x1, .int x2] σ (QV Ω K)
def f_X0_join_3 (t : Nat) (n : Nat) (t2 : Nat) (n2 : Nat) (x1 : Int32) (x3 : Int32) (L3 : Int32 → Sg → Prop) (Po : Sg → Prop) (x4 : Int32) (σ : Sg) : Prop :=
  (4 ≤ x4 →
  Po σ) ∧
  (¬ (4 ≤ x4) →
  vp_in ((x1 * 4) + x4) n ∧
  vp_in ((x3 * 4) + x4) n2 ∧
  vp_in ((x1 * 4) + x4) n ∧
  L3 (x4 + 1) (pJ σ (t + 1) ((x1 * 4) + x4).toNatClampNeg ((σ.2 (t + 1) ((x1 * 4) + x4).toNatClampNeg) ||| (σ.2 (t2 + 1) ((x3 * 4) + x4).toNatClampNeg))))
def f_X0_join_e (t : Nat) (n : Nat) (t2 : Nat) (n2 : Nat) (x1 : Int32) (x3 : Int32) (L3 : Int32 → Sg → Prop) (Po : Sg → Prop) (σ : Sg) : Prop :=
  L3 0 σ
def vc_X0_join (t : Nat) (n : Nat) (t2 : Nat) (n2 : Nat) (x1 : Int32) (x3 : Int32) (σ : Sg) (Po : Sg → Prop) : Prop := ∀ L3 : Int32 → Sg → Prop, (∀ (x4 : Int32) (σ : Sg), f_X0_join_3 t n t2 n2 x1 x3 L3 Po x4 σ → L3 x4 σ) → f_X0_join_e t n t2 n2 x1 x3 L3 Po σ
def CT_X0_join (l : Launch) (Ω : Wm) : Prop := ∀ t : Nat, ∀ n : Nat, ∀ t2 : Nat, ∀ n2 : Nat, IsBT t n → IsBT t2 n2 → ∀ (x1 : Int32) (x3 : Int32) (σ : Sg) (K : Sg → Prop), sp_X0_join t n t2 n2 x1 x3 σ K → Ct l yX0_join cX0_join 5 none 0 0 Ω [.ref (Ω.2.2.1 t), .int x1, .ref (Ω.2.2.1 t2), .int x3] σ (QV Ω K)
def f_X0_sizeInCommon_6 (t : Nat) (n : Nat) (t2 : Nat) (n2 : Nat) (x1 : Int32) (x3 : Int32) (L6 : Int32 → Int32 → Sg → Prop) (Po : Int32 → Sg → Prop) (x4 : Int32) (x5 : Int32) (σ : Sg) : Prop :=
  (4 ≤ x5 →
  Po x4 σ) ∧
  (¬ (4 ≤ x5) →
  vp_in ((x1 * 4) + x5) n ∧
  vp_in ((x3 * 4) + x5) n2 ∧
  sp_J13_bitCount_95d88 ((σ.2 (t + 1) ((x1 * 4) + x5).toNatClampNeg) &&& (σ.2 (t2 + 1) ((x3 * 4) + x5).toNatClampNeg)) σ (fun r3 u4 =>
  L6 (x4 + r3) (x5 + 1) u4))
def f_X0_sizeInCommon_e (t : Nat) (n : Nat) (t2 : Nat) (n2 : Nat) (x1 : Int32) (x3 : Int32) (L6 : Int32 → Int32 → Sg → Prop) (Po : Int32 → Sg → Prop) (σ : Sg) : Prop :=
  L6 0 0 σ
def vc_X0_sizeInCommon (t : Nat) (n : Nat) (t2 : Nat) (n2 : Nat) (x1 : Int32) (x3 : Int32) (σ : Sg) (Po : Int32 → Sg → Prop) : Prop := ∀ L6 : Int32 → Int32 → Sg → Prop, (∀ (x4 : Int32) (x5 : Int32) (σ : Sg), f_X0_sizeInCommon_6 t n t2 n2 x1 x3 L6 Po x4 x5 σ → L6 x4 x5 σ) → f_X0_sizeInCommon_e t n t2 n2 x1 x3 L6 Po σ
def CT_X0_sizeInCommon (l : Launch) (Ω : Wm) : Prop := ∀ t : Nat, ∀ n : Nat, ∀ t2 : Nat, ∀ n2 : Nat, IsBT t n → IsBT t2 n2 → ∀ (x1 : Int32) (x3 : Int32) (σ : Sg) (K : Int32 → Sg → Prop), sp_X0_sizeInCommon t n t2 n2 x1 x3 σ K → Ct l yX0_sizeInCommon cX0_sizeInCommon 6 (some .int) 1 21 Ω [.ref (Ω.2.2.1 t), .int x1, .ref (Ω.2.2.1 t2), .int x3] σ (QI Ω K)
def f_X0_size_e (t : Nat) (n : Nat) (x1 : Int32) (Po : Int32 → Sg → Prop) (σ : Sg) : Prop :=
  sp_X0_sizeInCommon t n t n x1 x1 σ (fun r1 u2 =>
  Po r1 u2)
def vc_X0_size (t : Nat) (n : Nat) (x1 : Int32) (σ : Sg) (Po : Int32 → Sg → Prop) : Prop := f_X0_size_e t n x1 Po σ
def CT_X0_size (l : Launch) (Ω : Wm) : Prop := ∀ t : Nat, ∀ n : Nat, IsBT t n → ∀ (x1 : Int32) (σ : Sg) (K : Int32 → Sg → Prop), sp_X0_size t n x1 σ K → Ct l yX0_size cX0_size 2 (some .int) 2 46 Ω [.ref (Ω.2.2.1 t), .int x1] σ (QI Ω K)
def f_X0_rowsWith_27 (t : Nat) (n : Nat) (x1 : Int32) (L4 : Int32 → Int32 → Sg → Prop) (Po : Int32 → Sg → Prop) (x3 : Int32) (s0 : Int32) (s1 : Int32) (σ : Sg) : Prop :=
  L4 (s1 + s0) (x3 + 1) σ
def f_X0_rowsWith_4 (t : Nat) (n : Nat) (x1 : Int32) (L4 : Int32 → Int32 → Sg → Prop) (Po : Int32 → Sg → Prop) (x2 : Int32) (x3 : Int32) (σ : Sg) : Prop :=
  ((σ.1 t 0) ≤ x3 →
  Po x2 σ) ∧
  (¬ ((σ.1 t 0) ≤ x3) →
  sp_X0_has t n x3 x1 σ (fun r1 u2 =>
  (r1 = 0 →
  f_X0_rowsWith_27 t n x1 L4 Po x3 0 x2 u2) ∧
  (¬ (r1 = 0) →
  f_X0_rowsWith_27 t n x1 L4 Po x3 1 x2 u2)))
def f_X0_rowsWith_e (t : Nat) (n : Nat) (x1 : Int32) (L4 : Int32 → Int32 → Sg → Prop) (Po : Int32 → Sg → Prop) (σ : Sg) : Prop :=
  L4 0 0 σ
def vc_X0_rowsWith (t : Nat) (n : Nat) (x1 : Int32) (σ : Sg) (Po : Int32 → Sg → Prop) : Prop := ∀ L4 : Int32 → Int32 → Sg → Prop, (∀ (x2 : Int32) (x3 : Int32) (σ : Sg), f_X0_rowsWith_4 t n x1 L4 Po x2 x3 σ → L4 x2 x3 σ) → f_X0_rowsWith_e t n x1 L4 Po σ
def CT_X0_rowsWith (l : Launch) (Ω : Wm) : Prop := ∀ t : Nat, ∀ n : Nat, IsBT t n → ∀ (x1 : Int32) (σ : Sg) (K : Int32 → Sg → Prop), sp_X0_rowsWith t n x1 σ K → Ct l yX0_rowsWith cX0_rowsWith 4 (some .int) 1 22 Ω [.ref (Ω.2.2.1 t), .int x1] σ (QI Ω K)
