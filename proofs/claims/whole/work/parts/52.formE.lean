def f_X5_pay_30 (v : Nat) (x1 : Int32) (x2 : Int32) (x3 : Int32) (Po : Sg → Prop) (σ : Sg) : Prop :=
  Po σ
def f_X5_pay_e (v : Nat) (x1 : Int32) (x2 : Int32) (x3 : Int32) (Po : Sg → Prop) (σ : Sg) : Prop :=
  vp_in x1 8 ∧
  ((σ.1 (v + 6) x1.toNatClampNeg) < x3 →
  f_X5_pay_30 v x1 x2 x3 Po σ) ∧
  (¬ ((σ.1 (v + 6) x1.toNatClampNeg) < x3) →
  vp_in x1 8 ∧
  vp_in x1 8 ∧
  vp_in x2 8 ∧
  vp_in x2 8 ∧
  f_X5_pay_30 v x1 x2 x3 Po (pI (pI σ (v + 6) x1.toNatClampNeg ((σ.1 (v + 6) x1.toNatClampNeg) - x3)) (v + 6) x2.toNatClampNeg (((pI σ (v + 6) x1.toNatClampNeg ((σ.1 (v + 6) x1.toNatClampNeg) - x3)).1 (v + 6) x2.toNatClampNeg) + x3)))
def vc_X5_pay (v : Nat) (x1 : Int32) (x2 : Int32) (x3 : Int32) (σ : Sg) (Po : Sg → Prop) : Prop := f_X5_pay_e v x1 x2 x3 Po σ
def sp_X5_pay (v : Nat) (x1 : Int32) (x2 : Int32) (x3 : Int32) (σ : Sg) (K : Sg → Prop) : Prop := vc_X5_pay v x1 x2 x3 σ K
def CT_X5_pay (l : Launch) (Ω : Wm) : Prop := ∀ v : Nat, IsView v → ∀ (x1 : Int32) (x2 : Int32) (x3 : Int32) (σ : Sg) (K : Sg → Prop), sp_X5_pay v x1 x2 x3 σ K → Ct l yX5_pay cX5_pay 4 none 0 0 Ω [.ref (Ω.2.2.1 v), .int x1, .int x2, .int x3] σ (QV Ω K)
def f_X5_findBalances_39 (v : Nat) (x1 : Int32) (L21 : Int32 → Sg → Prop) (L39 : Int32 → Int32 → Int32 → Sg → Prop) (Po : Sg → Prop) (x2 : Int32) (x3 : Int32) (x4 : Int32) (σ : Sg) : Prop :=
  vp_in x3 240 ∧
  ((σ.1 16 x3.toNatClampNeg) ≤ x4 →
  L21 (x2 + 1) σ) ∧
  (¬ ((σ.1 16 x3.toNatClampNeg) ≤ x4) →
  vp_in x3 240 ∧
  vp_in ((x3 * 3) + x4) 720 ∧
  vp_in ((x3 * 3) + x4) 720 ∧
  sp_X5_pay v (σ.1 12 x3.toNatClampNeg) (σ.1 17 ((x3 * 3) + x4).toNatClampNeg) (σ.1 18 ((x3 * 3) + x4).toNatClampNeg) σ (fun u12 =>
  L39 x2 x3 (x4 + 1) u12))
def f_X5_findBalances_21 (v : Nat) (x1 : Int32) (L21 : Int32 → Sg → Prop) (L39 : Int32 → Int32 → Int32 → Sg → Prop) (Po : Sg → Prop) (x2 : Int32) (σ : Sg) : Prop :=
  ((σ.1 v 15) ≤ x2 →
  Po σ) ∧
  (¬ ((σ.1 v 15) ≤ x2) →
  vp_in x2 240 ∧
  L39 x2 (σ.1 (v + 5) x2.toNatClampNeg) 0 σ)
def f_X5_findBalances_e (v : Nat) (x1 : Int32) (L21 : Int32 → Sg → Prop) (L39 : Int32 → Int32 → Int32 → Sg → Prop) (Po : Sg → Prop) (σ : Sg) : Prop :=
  sp_J7_fill_53178 (v + 6) 8 0 σ (fun u2 =>
  sp_J7_fill_fda19 (v + 6) 8 0 x1 1000000 u2 (fun u4 =>
  L21 0 u4))
def vc_X5_findBalances (v : Nat) (x1 : Int32) (σ : Sg) (Po : Sg → Prop) : Prop := ∀ L21 : Int32 → Sg → Prop, ∀ L39 : Int32 → Int32 → Int32 → Sg → Prop, (∀ (x2 : Int32) (σ : Sg), f_X5_findBalances_21 v x1 L21 L39 Po x2 σ → L21 x2 σ) → (∀ (x2 : Int32) (x3 : Int32) (x4 : Int32) (σ : Sg), f_X5_findBalances_39 v x1 L21 L39 Po x2 x3 x4 σ → L39 x2 x3 x4 σ) → f_X5_findBalances_e v x1 L21 L39 Po σ
def CT_X5_findBalances (l : Launch) (Ω : Wm) : Prop := ∀ v : Nat, IsView v → ∀ (x1 : Int32) (σ : Sg) (K : Sg → Prop), sp_X5_findBalances v x1 σ K → Ct l yX5_findBalances cX5_findBalances 6 none 2 46 Ω [.ref (Ω.2.2.1 v), .int x1] σ (QV Ω K)
def f_X5_holds_e (v : Nat) (x1 : Int32) (Po : Int32 → Sg → Prop) (σ : Sg) : Prop :=
  sp_X0_has 20 32 (σ.1 v 0) x1 σ (fun r1 u2 =>
  isZ r1 ∧
  Po r1 u2)
def vc_X5_holds (v : Nat) (x1 : Int32) (σ : Sg) (Po : Int32 → Sg → Prop) : Prop := f_X5_holds_e v x1 Po σ
def sp_X5_holds (v : Nat) (x1 : Int32) (σ : Sg) (K : Int32 → Sg → Prop) : Prop := vc_X5_holds v x1 σ K
def CT_X5_holds (l : Launch) (Ω : Wm) : Prop := ∀ v : Nat, IsView v → ∀ (x1 : Int32) (σ : Sg) (K : Int32 → Sg → Prop), sp_X5_holds v x1 σ K → Ct l yX5_holds cX5_holds 2 (some .boolean) 1 22 Ω [.ref (Ω.2.2.1 v), .int x1] σ (QI Ω K)
def f_X5_deciderOf_90 (v : Nat) (x1 : Int32) (L4 : Int32 → Int32 → Sg → Prop) (Po : Int32 → Sg → Prop) (x2 : Int32) (x3 : Int32) (σ : Sg) : Prop :=
  L4 x2 (x3 + 1) σ
def f_X5_deciderOf_58 (v : Nat) (x1 : Int32) (L4 : Int32 → Int32 → Sg → Prop) (Po : Int32 → Sg → Prop) (x2 : Int32) (x3 : Int32) (x4 : Int32) (s0 : Int32) (σ : Sg) : Prop :=
  (s0 = 0 →
  f_X5_deciderOf_90 v x1 L4 Po x2 x3 σ) ∧
  (¬ (s0 = 0) →
  sp_X1_decides x4 x1 σ (fun r7 u8 =>
  (r7 = 0 →
  f_X5_deciderOf_90 v x1 L4 Po x2 x3 u8) ∧
  (¬ (r7 = 0) →
  sp_X5_holds v x4 u8 (fun r9 u10 =>
  (r9 = 0 →
  f_X5_deciderOf_90 v x1 L4 Po x2 x3 u10) ∧
  (¬ (r9 = 0) →
  f_X5_deciderOf_90 v x1 L4 Po x4 x3 u10)))))
def f_X5_deciderOf_53 (v : Nat) (x1 : Int32) (L4 : Int32 → Int32 → Sg → Prop) (Po : Int32 → Sg → Prop) (x2 : Int32) (x3 : Int32) (x4 : Int32) (σ : Sg) : Prop :=
  f_X5_deciderOf_58 v x1 L4 Po x2 x3 x4 1 σ
def f_X5_deciderOf_4 (v : Nat) (x1 : Int32) (L4 : Int32 → Int32 → Sg → Prop) (Po : Int32 → Sg → Prop) (x2 : Int32) (x3 : Int32) (σ : Sg) : Prop :=
  ((σ.1 37 6) ≤ x3 →
  Po x2 σ) ∧
  (¬ ((σ.1 37 6) ≤ x3) →
  vp_in x3 240 ∧
  (x2 = (-1) →
  f_X5_deciderOf_53 v x1 L4 Po x2 x3 (σ.1 38 x3.toNatClampNeg) σ) ∧
  (¬ (x2 = (-1)) →
  vp_in (σ.1 38 x3.toNatClampNeg) 240 ∧
  vp_in x2 240 ∧
  ((σ.1 32 x2.toNatClampNeg) ≤ (σ.1 32 (σ.1 38 x3.toNatClampNeg).toNatClampNeg) →
  f_X5_deciderOf_58 v x1 L4 Po x2 x3 (σ.1 38 x3.toNatClampNeg) 0 σ) ∧
  (¬ ((σ.1 32 x2.toNatClampNeg) ≤ (σ.1 32 (σ.1 38 x3.toNatClampNeg).toNatClampNeg)) →
  f_X5_deciderOf_53 v x1 L4 Po x2 x3 (σ.1 38 x3.toNatClampNeg) σ)))
def f_X5_deciderOf_e (v : Nat) (x1 : Int32) (L4 : Int32 → Int32 → Sg → Prop) (Po : Int32 → Sg → Prop) (σ : Sg) : Prop :=
  L4 (-1) 0 σ
def vc_X5_deciderOf (v : Nat) (x1 : Int32) (σ : Sg) (Po : Int32 → Sg → Prop) : Prop := ∀ L4 : Int32 → Int32 → Sg → Prop, (∀ (x2 : Int32) (x3 : Int32) (σ : Sg), f_X5_deciderOf_4 v x1 L4 Po x2 x3 σ → L4 x2 x3 σ) → f_X5_deciderOf_e v x1 L4 Po σ
def CT_X5_deciderOf (l : Launch) (Ω : Wm) : Prop := ∀ v : Nat, IsView v → ∀ (x1 : Int32) (σ : Sg) (K : Int32 → Sg → Prop), sp_X5_deciderOf v x1 σ K → Ct l yX5_deciderOf cX5_deciderOf 6 (some .int) 2 44 Ω [.ref (Ω.2.2.1 v), .int x1] σ (QI Ω K)
def f_X5_findFame_77 (v : Nat) (L10 : Int32 → Sg → Prop) (Po : Sg → Prop) (x1 : Int32) (σ : Sg) : Prop :=
  L10 (x1 + 1) σ
def f_X5_findFame_76 (v : Nat) (L10 : Int32 → Sg → Prop) (Po : Sg → Prop) (x1 : Int32) (s0 : Int32) (s1 : Int32) (σ : Sg) : Prop :=
  vp_in s1 240 ∧
  f_X5_findFame_77 v L10 Po x1 (pI σ (v + 1) s1.toNatClampNeg s0)
def f_X5_findFame_48 (v : Nat) (L10 : Int32 → Sg → Prop) (Po : Sg → Prop) (x1 : Int32) (x2 : Int32) (s0 : Int32) (σ : Sg) : Prop :=
  (s0 = (-1) →
  f_X5_findFame_77 v L10 Po x1 σ) ∧
  (¬ (s0 = (-1)) →
  sp_X1_isYes s0 x2 σ (fun r10 u11 =>
  (r10 = 0 →
  f_X5_findFame_76 v L10 Po x1 1 x2 u11) ∧
  (¬ (r10 = 0) →
  f_X5_findFame_76 v L10 Po x1 2 x2 u11)))
def f_X5_findFame_10 (v : Nat) (L10 : Int32 → Sg → Prop) (Po : Sg → Prop) (x1 : Int32) (σ : Sg) : Prop :=
  ((σ.1 37 6) ≤ x1 →
  Po σ) ∧
  (¬ ((σ.1 37 6) ≤ x1) →
  vp_in x1 240 ∧
  sp_X5_holds v (σ.1 38 x1.toNatClampNeg) σ (fun r4 u5 =>
  (r4 = 0 →
  f_X5_findFame_48 v L10 Po x1 (σ.1 38 x1.toNatClampNeg) (-1) u5) ∧
  (¬ (r4 = 0) →
  sp_X5_deciderOf v (σ.1 38 x1.toNatClampNeg) u5 (fun r6 u7 =>
  f_X5_findFame_48 v L10 Po x1 (σ.1 38 x1.toNatClampNeg) r6 u7))))
def f_X5_findFame_e (v : Nat) (L10 : Int32 → Sg → Prop) (Po : Sg → Prop) (σ : Sg) : Prop :=
  sp_J7_fill_53178 (v + 1) 240 0 σ (fun u2 =>
  L10 0 u2)
def vc_X5_findFame (v : Nat) (σ : Sg) (Po : Sg → Prop) : Prop := ∀ L10 : Int32 → Sg → Prop, (∀ (x1 : Int32) (σ : Sg), f_X5_findFame_10 v L10 Po x1 σ → L10 x1 σ) → f_X5_findFame_e v L10 Po σ
def CT_X5_findFame (l : Launch) (Ω : Wm) : Prop := ∀ v : Nat, IsView v → ∀ (σ : Sg) (K : Sg → Prop), sp_X5_findFame v σ K → Ct l yX5_findFame cX5_findFame 4 none 3 69 Ω [.ref (Ω.2.2.1 v)] σ (QV Ω K)
def f_X5_isBefore_170 (v : Nat) (x1 : Int32) (x2 : Int32) (L76 : Int32 → Sg → Prop) (Po : Int32 → Sg → Prop) (s0 : Int32) (σ : Sg) : Prop :=
  isZ s0 ∧
  Po s0 σ
def f_X5_isBefore_153 (v : Nat) (x1 : Int32) (x2 : Int32) (L76 : Int32 → Sg → Prop) (Po : Int32 → Sg → Prop) (s0 : Int32) (σ : Sg) : Prop :=
  isZ s0 ∧
  Po s0 σ
def f_X5_isBefore_73 (v : Nat) (x1 : Int32) (x2 : Int32) (L76 : Int32 → Sg → Prop) (Po : Int32 → Sg → Prop) (s0 : Int32) (σ : Sg) : Prop :=
  isZ s0 ∧
  Po s0 σ
def f_X5_isBefore_35 (v : Nat) (x1 : Int32) (x2 : Int32) (L76 : Int32 → Sg → Prop) (Po : Int32 → Sg → Prop) (s0 : Int32) (σ : Sg) : Prop :=
  isZ s0 ∧
  Po s0 σ
def f_X5_isBefore_76 (v : Nat) (x1 : Int32) (x2 : Int32) (L76 : Int32 → Sg → Prop) (Po : Int32 → Sg → Prop) (x3 : Int32) (σ : Sg) : Prop :=
  (8 ≤ x3 →
  (x2 ≤ x1 →
  f_X5_isBefore_170 v x1 x2 L76 Po 0 σ) ∧
  (¬ (x2 ≤ x1) →
  f_X5_isBefore_170 v x1 x2 L76 Po 1 σ)) ∧
  (¬ (8 ≤ x3) →
  vp_in x1 240 ∧
  vp_in (((σ.1 (v + 2) x1.toNatClampNeg) * 8) + x3) 1928 ∧
  sp_X2_hashWord x1 x3 σ (fun r18 u19 =>
  sp_X2_hashWord x2 x3 u19 (fun r20 u21 =>
  ((r18 ^^^ (σ.1 (v + 9) (((σ.1 (v + 2) x1.toNatClampNeg) * 8) + x3).toNatClampNeg)) = (r20 ^^^ (σ.1 (v + 9) (((σ.1 (v + 2) x1.toNatClampNeg) * 8) + x3).toNatClampNeg)) →
  L76 (x3 + 1) u21) ∧
  (¬ ((r18 ^^^ (σ.1 (v + 9) (((σ.1 (v + 2) x1.toNatClampNeg) * 8) + x3).toNatClampNeg)) = (r20 ^^^ (σ.1 (v + 9) (((σ.1 (v + 2) x1.toNatClampNeg) * 8) + x3).toNatClampNeg))) →
  (((r20 ^^^ (σ.1 (v + 9) (((σ.1 (v + 2) x1.toNatClampNeg) * 8) + x3).toNatClampNeg)) ^^^ (-2147483648)) ≤ ((r18 ^^^ (σ.1 (v + 9) (((σ.1 (v + 2) x1.toNatClampNeg) * 8) + x3).toNatClampNeg)) ^^^ (-2147483648)) →
  f_X5_isBefore_153 v x1 x2 L76 Po 0 u21) ∧
  (¬ (((r20 ^^^ (σ.1 (v + 9) (((σ.1 (v + 2) x1.toNatClampNeg) * 8) + x3).toNatClampNeg)) ^^^ (-2147483648)) ≤ ((r18 ^^^ (σ.1 (v + 9) (((σ.1 (v + 2) x1.toNatClampNeg) * 8) + x3).toNatClampNeg)) ^^^ (-2147483648))) →
  f_X5_isBefore_153 v x1 x2 L76 Po 1 u21)))))
def f_X5_isBefore_e (v : Nat) (x1 : Int32) (x2 : Int32) (L76 : Int32 → Sg → Prop) (Po : Int32 → Sg → Prop) (σ : Sg) : Prop :=
  vp_in x1 240 ∧
  vp_in x2 240 ∧
  ((σ.1 (v + 2) x1.toNatClampNeg) = (σ.1 (v + 2) x2.toNatClampNeg) →
  vp_in x1 240 ∧
  vp_in x2 240 ∧
  ((lg_cmp (σ.2 (v + 3) x1.toNatClampNeg) (σ.2 (v + 3) x2.toNatClampNeg)) = 0 →
  L76 0 σ) ∧
  (¬ ((lg_cmp (σ.2 (v + 3) x1.toNatClampNeg) (σ.2 (v + 3) x2.toNatClampNeg)) = 0) →
  vp_in x1 240 ∧
  vp_in x2 240 ∧
  (0 ≤ (lg_cmp (σ.2 (v + 3) x1.toNatClampNeg) (σ.2 (v + 3) x2.toNatClampNeg)) →
  f_X5_isBefore_73 v x1 x2 L76 Po 0 σ) ∧
  (¬ (0 ≤ (lg_cmp (σ.2 (v + 3) x1.toNatClampNeg) (σ.2 (v + 3) x2.toNatClampNeg))) →
  f_X5_isBefore_73 v x1 x2 L76 Po 1 σ))) ∧
  (¬ ((σ.1 (v + 2) x1.toNatClampNeg) = (σ.1 (v + 2) x2.toNatClampNeg)) →
  vp_in x1 240 ∧
  vp_in x2 240 ∧
  ((σ.1 (v + 2) x2.toNatClampNeg) ≤ (σ.1 (v + 2) x1.toNatClampNeg) →
  f_X5_isBefore_35 v x1 x2 L76 Po 0 σ) ∧
  (¬ ((σ.1 (v + 2) x2.toNatClampNeg) ≤ (σ.1 (v + 2) x1.toNatClampNeg)) →
  f_X5_isBefore_35 v x1 x2 L76 Po 1 σ))
def vc_X5_isBefore (v : Nat) (x1 : Int32) (x2 : Int32) (σ : Sg) (Po : Int32 → Sg → Prop) : Prop := ∀ L76 : Int32 → Sg → Prop, (∀ (x3 : Int32) (σ : Sg), f_X5_isBefore_76 v x1 x2 L76 Po x3 σ → L76 x3 σ) → f_X5_isBefore_e v x1 x2 L76 Po σ
def CT_X5_isBefore (l : Launch) (Ω : Wm) : Prop := ∀ v : Nat, IsView v → ∀ (x1 : Int32) (x2 : Int32) (σ : Sg) (K : Int32 → Sg → Prop), sp_X5_isBefore v x1 x2 σ K → Ct l yX5_isBefore cX5_isBefore 7 (some .boolean) 1 22 Ω [.ref (Ω.2.2.1 v), .int x1, .int x2] σ (QI Ω K)
def f_X5_insert_45 (v : Nat) (x1 : Int32) (L5 : Int32 → Sg → Prop) (Po : Sg → Prop) (x2 : Int32) (σ : Sg) : Prop :=
  vp_in x2 240 ∧
  Po (pI (pI σ (v + 5) x2.toNatClampNeg x1) v 15 ((((pI σ (v + 5) x2.toNatClampNeg x1)).1 v 15) + 1))
def f_X5_insert_5 (v : Nat) (x1 : Int32) (L5 : Int32 → Sg → Prop) (Po : Sg → Prop) (x2 : Int32) (σ : Sg) : Prop :=
  (x2 ≤ 0 →
  f_X5_insert_45 v x1 L5 Po x2 σ) ∧
  (¬ (x2 ≤ 0) →
  vp_in (x2 - 1) 240 ∧
  sp_X5_isBefore v x1 (σ.1 (v + 5) (x2 - 1).toNatClampNeg) σ (fun r2 u3 =>
  (r2 = 0 →
  f_X5_insert_45 v x1 L5 Po x2 u3) ∧
  (¬ (r2 = 0) →
  vp_in (x2 - 1) 240 ∧
  vp_in x2 240 ∧
  L5 (x2 + (-1)) (pI u3 (v + 5) x2.toNatClampNeg (u3.1 (v + 5) (x2 - 1).toNatClampNeg)))))
def f_X5_insert_e (v : Nat) (x1 : Int32) (L5 : Int32 → Sg → Prop) (Po : Sg → Prop) (σ : Sg) : Prop :=
  L5 (σ.1 v 15) σ
def vc_X5_insert (v : Nat) (x1 : Int32) (σ : Sg) (Po : Sg → Prop) : Prop := ∀ L5 : Int32 → Sg → Prop, (∀ (x2 : Int32) (σ : Sg), f_X5_insert_5 v x1 L5 Po x2 σ → L5 x2 σ) → f_X5_insert_e v x1 L5 Po σ
def CT_X5_insert (l : Launch) (Ω : Wm) : Prop := ∀ v : Nat, IsView v → ∀ (x1 : Int32) (σ : Sg) (K : Sg → Prop), sp_X5_insert v x1 σ K → Ct l yX5_insert cX5_insert 3 none 2 48 Ω [.ref (Ω.2.2.1 v), .int x1] σ (QV Ω K)
def f_X5_findOrder_40 (v : Nat) (L15 : Int32 → Sg → Prop) (L48 : Int32 → Sg → Prop) (Po : Sg → Prop) (x1 : Int32) (σ : Sg) : Prop :=
  L15 (x1 + 1) σ
def f_X5_findOrder_48 (v : Nat) (L15 : Int32 → Sg → Prop) (L48 : Int32 → Sg → Prop) (Po : Sg → Prop) (x1 : Int32) (σ : Sg) : Prop :=
  ((σ.1 v 15) ≤ x1 →
  Po σ) ∧
  (¬ ((σ.1 v 15) ≤ x1) →
  vp_in x1 240 ∧
  vp_in (σ.1 (v + 5) x1.toNatClampNeg) 240 ∧
  L48 (x1 + 1) (pI σ (v + 4) (σ.1 (v + 5) x1.toNatClampNeg).toNatClampNeg x1))
def f_X5_findOrder_15 (v : Nat) (L15 : Int32 → Sg → Prop) (L48 : Int32 → Sg → Prop) (Po : Sg → Prop) (x1 : Int32) (σ : Sg) : Prop :=
  ((σ.1 7 10) ≤ x1 →
  L48 0 σ) ∧
  (¬ ((σ.1 7 10) ≤ x1) →
  vp_in x1 240 ∧
  ((σ.1 (v + 2) x1.toNatClampNeg) = 0 →
  f_X5_findOrder_40 v L15 L48 Po x1 σ) ∧
  (¬ ((σ.1 (v + 2) x1.toNatClampNeg) = 0) →
  sp_X5_insert v x1 σ (fun u5 =>
  f_X5_findOrder_40 v L15 L48 Po x1 u5)))
def f_X5_findOrder_e (v : Nat) (L15 : Int32 → Sg → Prop) (L48 : Int32 → Sg → Prop) (Po : Sg → Prop) (σ : Sg) : Prop :=
  sp_J7_fill_53178 (v + 4) 240 (-1) σ (fun u2 =>
  L15 0 (pI u2 v 15 0))
def vc_X5_findOrder (v : Nat) (σ : Sg) (Po : Sg → Prop) : Prop := ∀ L15 : Int32 → Sg → Prop, ∀ L48 : Int32 → Sg → Prop, (∀ (x1 : Int32) (σ : Sg), f_X5_findOrder_15 v L15 L48 Po x1 σ → L15 x1 σ) → (∀ (x1 : Int32) (σ : Sg), f_X5_findOrder_48 v L15 L48 Po x1 σ → L48 x1 σ) → f_X5_findOrder_e v L15 L48 Po σ
def CT_X5_findOrder (l : Launch) (Ω : Wm) : Prop := ∀ v : Nat, IsView v → ∀ (σ : Sg) (K : Sg → Prop), sp_X5_findOrder v σ K → Ct l yX5_findOrder cX5_findOrder 2 none 3 70 Ω [.ref (Ω.2.2.1 v)] σ (QV Ω K)
def f_X5_isBelowAllUniques_2 (v : Nat) (x1 : Int32) (x2 : Int32) (L2 : Int32 → Sg → Prop) (Po : Int32 → Sg → Prop) (x3 : Int32) (σ : Sg) : Prop :=
  vp_in x2 241 ∧
  ((σ.1 (v + 8) x2.toNatClampNeg) ≤ x3 →
  Po 1 σ) ∧
  (¬ ((σ.1 (v + 8) x2.toNatClampNeg) ≤ x3) →
  vp_in ((x2 * 8) + x3) 1928 ∧
  sp_X0_has 23 960 (σ.1 (v + 7) ((x2 * 8) + x3).toNatClampNeg) x1 σ (fun r3 u4 =>
  (¬ r3 = 0 →
  L2 (x3 + 1) u4) ∧
  (r3 = 0 →
  Po 0 u4)))
def f_X5_isBelowAllUniques_e (v : Nat) (x1 : Int32) (x2 : Int32) (L2 : Int32 → Sg → Prop) (Po : Int32 → Sg → Prop) (σ : Sg) : Prop :=
  L2 0 σ
def vc_X5_isBelowAllUniques (v : Nat) (x1 : Int32) (x2 : Int32) (σ : Sg) (Po : Int32 → Sg → Prop) : Prop := ∀ L2 : Int32 → Sg → Prop, (∀ (x3 : Int32) (σ : Sg), f_X5_isBelowAllUniques_2 v x1 x2 L2 Po x3 σ → L2 x3 σ) → f_X5_isBelowAllUniques_e v x1 x2 L2 Po σ
def CT_X5_isBelowAllUniques (l : Launch) (Ω : Wm) : Prop := ∀ v : Nat, IsView v → ∀ (x1 : Int32) (x2 : Int32) (σ : Sg) (K : Int32 → Sg → Prop), sp_X5_isBelowAllUniques v x1 x2 σ K → Ct l yX5_isBelowAllUniques cX5_isBelowAllUniques 4 (some .boolean) 1 22 Ω [.ref (Ω.2.2.1 v), .int x1, .int x2] σ (QI Ω K)
def f_X5_roundReceiving_41 (v : Nat) (x1 : Int32) (L10 : Int32 → Sg → Prop) (Po : Int32 → Sg → Prop) (x2 : Int32) (σ : Sg) : Prop :=
  L10 (x2 + 1) σ
def f_X5_roundReceiving_10 (v : Nat) (x1 : Int32) (L10 : Int32 → Sg → Prop) (Po : Int32 → Sg → Prop) (x2 : Int32) (σ : Sg) : Prop :=
  ((σ.1 22 13) < x2 →
  Po 0 σ) ∧
  (¬ ((σ.1 22 13) < x2) →
  vp_in x2 241 ∧
  ((σ.1 (v + 10) x2.toNatClampNeg) = 0 →
  f_X5_roundReceiving_41 v x1 L10 Po x2 σ) ∧
  (¬ ((σ.1 (v + 10) x2.toNatClampNeg) = 0) →
  sp_X5_isBelowAllUniques v x1 x2 σ (fun r3 u4 =>
  (r3 = 0 →
  f_X5_roundReceiving_41 v x1 L10 Po x2 u4) ∧
  (¬ (r3 = 0) →
  Po x2 u4))))
def f_X5_roundReceiving_e (v : Nat) (x1 : Int32) (L10 : Int32 → Sg → Prop) (Po : Int32 → Sg → Prop) (σ : Sg) : Prop :=
  vp_in x1 240 ∧
  L10 (σ.1 32 x1.toNatClampNeg) σ
def vc_X5_roundReceiving (v : Nat) (x1 : Int32) (σ : Sg) (Po : Int32 → Sg → Prop) : Prop := ∀ L10 : Int32 → Sg → Prop, (∀ (x2 : Int32) (σ : Sg), f_X5_roundReceiving_10 v x1 L10 Po x2 σ → L10 x2 σ) → f_X5_roundReceiving_e v x1 L10 Po σ
def CT_X5_roundReceiving (l : Launch) (Ω : Wm) : Prop := ∀ v : Nat, IsView v → ∀ (x1 : Int32) (σ : Sg) (K : Int32 → Sg → Prop), sp_X5_roundReceiving v x1 σ K → Ct l yX5_roundReceiving cX5_roundReceiving 3 (some .int) 2 45 Ω [.ref (Ω.2.2.1 v), .int x1] σ (QI Ω K)
def f_X5_firstAbove_46 (v : Nat) (x1 : Int32) (x2 : Int32) (L5 : Int32 → Int32 → Sg → Prop) (Po : Int32 → Sg → Prop) (x3 : Int32) (σ : Sg) : Prop :=
  Po x3 σ
def f_X5_firstAbove_5 (v : Nat) (x1 : Int32) (x2 : Int32) (L5 : Int32 → Int32 → Sg → Prop) (Po : Int32 → Sg → Prop) (x3 : Int32) (x4 : Int32) (σ : Sg) : Prop :=
  (240 ≤ x4 →
  Po x3 σ) ∧
  (¬ (240 ≤ x4) →
  vp_in x3 240 ∧
  ((σ.1 13 x3.toNatClampNeg) = (-1) →
  f_X5_firstAbove_46 v x1 x2 L5 Po x3 σ) ∧
  (¬ ((σ.1 13 x3.toNatClampNeg) = (-1)) →
  sp_X0_has 23 960 (σ.1 13 x3.toNatClampNeg) x1 σ (fun r2 u3 =>
  (¬ r2 = 0 →
  L5 (σ.1 13 x3.toNatClampNeg) (x4 + 1) u3) ∧
  (r2 = 0 →
  f_X5_firstAbove_46 v x1 x2 L5 Po x3 u3))))
def f_X5_firstAbove_e (v : Nat) (x1 : Int32) (x2 : Int32) (L5 : Int32 → Int32 → Sg → Prop) (Po : Int32 → Sg → Prop) (σ : Sg) : Prop :=
  L5 x2 0 σ
def vc_X5_firstAbove (v : Nat) (x1 : Int32) (x2 : Int32) (σ : Sg) (Po : Int32 → Sg → Prop) : Prop := ∀ L5 : Int32 → Int32 → Sg → Prop, (∀ (x3 : Int32) (x4 : Int32) (σ : Sg), f_X5_firstAbove_5 v x1 x2 L5 Po x3 x4 σ → L5 x3 x4 σ) → f_X5_firstAbove_e v x1 x2 L5 Po σ
def CT_X5_firstAbove (l : Launch) (Ω : Wm) : Prop := ∀ v : Nat, IsView v → ∀ (x1 : Int32) (x2 : Int32) (σ : Sg) (K : Int32 → Sg → Prop), sp_X5_firstAbove v x1 x2 σ K → Ct l yX5_firstAbove cX5_firstAbove 6 (some .int) 1 22 Ω [.ref (Ω.2.2.1 v), .int x1, .int x2] σ (QI Ω K)
def f_X5_stampIn_83 (v : Nat) (x1 : Int32) (x2 : Int32) (L2 : Int32 → Sg → Prop) (L41 : Int32 → Int64 → Int32 → Sg → Prop) (Po : Int64 → Sg → Prop) (x3 : Int32) (x4 : Int64) (x6 : Int32) (σ : Sg) : Prop :=
  vp_in x6 8 ∧
  L2 (x3 + 1) (pJ σ (v + 11) x6.toNatClampNeg x4)
def f_X5_stampIn_41 (v : Nat) (x1 : Int32) (x2 : Int32) (L2 : Int32 → Sg → Prop) (L41 : Int32 → Int64 → Int32 → Sg → Prop) (Po : Int64 → Sg → Prop) (x3 : Int32) (x4 : Int64) (x6 : Int32) (σ : Sg) : Prop :=
  (x6 ≤ 0 →
  f_X5_stampIn_83 v x1 x2 L2 L41 Po x3 x4 x6 σ) ∧
  (¬ (x6 ≤ 0) →
  vp_in (x6 - 1) 8 ∧
  ((lg_cmp (σ.2 (v + 11) (x6 - 1).toNatClampNeg) x4) ≤ 0 →
  f_X5_stampIn_83 v x1 x2 L2 L41 Po x3 x4 x6 σ) ∧
  (¬ ((lg_cmp (σ.2 (v + 11) (x6 - 1).toNatClampNeg) x4) ≤ 0) →
  vp_in (x6 - 1) 8 ∧
  vp_in x6 8 ∧
  L41 x3 x4 (x6 + (-1)) (pJ σ (v + 11) x6.toNatClampNeg (σ.2 (v + 11) (x6 - 1).toNatClampNeg))))
def f_X5_stampIn_2 (v : Nat) (x1 : Int32) (x2 : Int32) (L2 : Int32 → Sg → Prop) (L41 : Int32 → Int64 → Int32 → Sg → Prop) (Po : Int64 → Sg → Prop) (x3 : Int32) (σ : Sg) : Prop :=
  vp_in x1 241 ∧
  ((σ.1 (v + 8) x1.toNatClampNeg) ≤ x3 →
  vp_in x1 241 ∧
  vp_in ((σ.1 (v + 8) x1.toNatClampNeg) / 2) 8 ∧
  Po (σ.2 (v + 11) ((σ.1 (v + 8) x1.toNatClampNeg) / 2).toNatClampNeg) σ) ∧
  (¬ ((σ.1 (v + 8) x1.toNatClampNeg) ≤ x3) →
  vp_in ((x1 * 8) + x3) 1928 ∧
  sp_X5_firstAbove v x2 (σ.1 (v + 7) ((x1 * 8) + x3).toNatClampNeg) σ (fun r5 u6 =>
  vp_in r5 240 ∧
  L41 x3 (u6.2 15 r5.toNatClampNeg) x3 u6))
def f_X5_stampIn_e (v : Nat) (x1 : Int32) (x2 : Int32) (L2 : Int32 → Sg → Prop) (L41 : Int32 → Int64 → Int32 → Sg → Prop) (Po : Int64 → Sg → Prop) (σ : Sg) : Prop :=
  L2 0 σ
def vc_X5_stampIn (v : Nat) (x1 : Int32) (x2 : Int32) (σ : Sg) (Po : Int64 → Sg → Prop) : Prop := ∀ L2 : Int32 → Sg → Prop, ∀ L41 : Int32 → Int64 → Int32 → Sg → Prop, (∀ (x3 : Int32) (σ : Sg), f_X5_stampIn_2 v x1 x2 L2 L41 Po x3 σ → L2 x3 σ) → (∀ (x3 : Int32) (x4 : Int64) (x6 : Int32) (σ : Sg), f_X5_stampIn_41 v x1 x2 L2 L41 Po x3 x4 x6 σ → L41 x3 x4 x6 σ) → f_X5_stampIn_e v x1 x2 L2 L41 Po σ
def CT_X5_stampIn (l : Launch) (Ω : Wm) : Prop := ∀ v : Nat, IsView v → ∀ (x1 : Int32) (x2 : Int32) (σ : Sg) (K : Int64 → Sg → Prop), sp_X5_stampIn v x1 x2 σ K → Ct l yX5_stampIn cX5_stampIn 7 (some .long) 2 47 Ω [.ref (Ω.2.2.1 v), .int x1, .int x2] σ (QL Ω K)
def f_X5_findReceived_66 (v : Nat) (L10 : Int32 → Sg → Prop) (Po : Sg → Prop) (x1 : Int32) (σ : Sg) : Prop :=
  L10 (x1 + 1) σ
def f_X5_findReceived_40 (v : Nat) (L10 : Int32 → Sg → Prop) (Po : Sg → Prop) (x1 : Int32) (σ : Sg) : Prop :=
  vp_in x1 240 ∧
  ((σ.1 (v + 2) x1.toNatClampNeg) = 0 →
  f_X5_findReceived_66 v L10 Po x1 σ) ∧
  (¬ ((σ.1 (v + 2) x1.toNatClampNeg) = 0) →
  vp_in x1 240 ∧
  sp_X5_stampIn v (σ.1 (v + 2) x1.toNatClampNeg) x1 σ (fun r12 u13 =>
  vp_in x1 240 ∧
  f_X5_findReceived_66 v L10 Po x1 (pJ u13 (v + 3) x1.toNatClampNeg r12)))
def f_X5_findReceived_10 (v : Nat) (L10 : Int32 → Sg → Prop) (Po : Sg → Prop) (x1 : Int32) (σ : Sg) : Prop :=
  ((σ.1 7 10) ≤ x1 →
  Po σ) ∧
  (¬ ((σ.1 7 10) ≤ x1) →
  sp_X5_holds v x1 σ (fun r3 u4 =>
  (r3 = 0 →
  f_X5_findReceived_40 v L10 Po x1 u4) ∧
  (¬ (r3 = 0) →
  sp_X5_roundReceiving v x1 u4 (fun r5 u6 =>
  vp_in x1 240 ∧
  f_X5_findReceived_40 v L10 Po x1 (pI u6 (v + 2) x1.toNatClampNeg r5)))))
def f_X5_findReceived_e (v : Nat) (L10 : Int32 → Sg → Prop) (Po : Sg → Prop) (σ : Sg) : Prop :=
  sp_J7_fill_53178 (v + 2) 240 0 σ (fun u2 =>
  L10 0 u2)
def vc_X5_findReceived (v : Nat) (σ : Sg) (Po : Sg → Prop) : Prop := ∀ L10 : Int32 → Sg → Prop, (∀ (x1 : Int32) (σ : Sg), f_X5_findReceived_10 v L10 Po x1 σ → L10 x1 σ) → f_X5_findReceived_e v L10 Po σ
def CT_X5_findReceived (l : Launch) (Ω : Wm) : Prop := ∀ v : Nat, IsView v → ∀ (σ : Sg) (K : Sg → Prop), sp_X5_findReceived v σ K → Ct l yX5_findReceived cX5_findReceived 2 none 3 73 Ω [.ref (Ω.2.2.1 v)] σ (QV Ω K)
def f_X5_addUnique_29 (v : Nat) (x1 : Int32) (x2 : Int32) (L29 : Int32 → Sg → Prop) (Po : Sg → Prop) (x3 : Int32) (σ : Sg) : Prop :=
  (8 ≤ x3 →
  Po σ) ∧
  (¬ (8 ≤ x3) →
  vp_in ((x2 * 8) + x3) 1928 ∧
  sp_X2_hashWord x1 x3 σ (fun r6 u7 =>
  vp_in ((x2 * 8) + x3) 1928 ∧
  L29 (x3 + 1) (pI u7 (v + 9) ((x2 * 8) + x3).toNatClampNeg ((σ.1 (v + 9) ((x2 * 8) + x3).toNatClampNeg) ^^^ r6))))
def f_X5_addUnique_e (v : Nat) (x1 : Int32) (x2 : Int32) (L29 : Int32 → Sg → Prop) (Po : Sg → Prop) (σ : Sg) : Prop :=
  vp_in x2 241 ∧
  vp_in ((x2 * 8) + (σ.1 (v + 8) x2.toNatClampNeg)) 1928 ∧
  vp_in x2 241 ∧
  vp_in x2 241 ∧
  L29 0 (pI (pI σ (v + 7) ((x2 * 8) + (σ.1 (v + 8) x2.toNatClampNeg)).toNatClampNeg x1) (v + 8) x2.toNatClampNeg (((pI σ (v + 7) ((x2 * 8) + (σ.1 (v + 8) x2.toNatClampNeg)).toNatClampNeg x1).1 (v + 8) x2.toNatClampNeg) + 1))
def vc_X5_addUnique (v : Nat) (x1 : Int32) (x2 : Int32) (σ : Sg) (Po : Sg → Prop) : Prop := ∀ L29 : Int32 → Sg → Prop, (∀ (x3 : Int32) (σ : Sg), f_X5_addUnique_29 v x1 x2 L29 Po x3 σ → L29 x3 σ) → f_X5_addUnique_e v x1 x2 L29 Po σ
def CT_X5_addUnique (l : Launch) (Ω : Wm) : Prop := ∀ v : Nat, IsView v → ∀ (x1 : Int32) (x2 : Int32) (σ : Sg) (K : Sg → Prop), sp_X5_addUnique v x1 x2 σ K → Ct l yX5_addUnique cX5_addUnique 4 none 1 22 Ω [.ref (Ω.2.2.1 v), .int x1, .int x2] σ (QV Ω K)
def f_X5_isOnlyFamousOne_82 (v : Nat) (x1 : Int32) (L2 : Int32 → Sg → Prop) (Po : Int32 → Sg → Prop) (x2 : Int32) (σ : Sg) : Prop :=
  L2 (x2 + 1) σ
def f_X5_isOnlyFamousOne_2 (v : Nat) (x1 : Int32) (L2 : Int32 → Sg → Prop) (Po : Int32 → Sg → Prop) (x2 : Int32) (σ : Sg) : Prop :=
  ((σ.1 37 6) ≤ x2 →
  Po 1 σ) ∧
  (¬ ((σ.1 37 6) ≤ x2) →
  vp_in x2 240 ∧
  ((σ.1 38 x2.toNatClampNeg) = x1 →
  f_X5_isOnlyFamousOne_82 v x1 L2 Po x2 σ) ∧
  (¬ ((σ.1 38 x2.toNatClampNeg) = x1) →
  vp_in (σ.1 38 x2.toNatClampNeg) 240 ∧
  ((σ.1 (v + 1) (σ.1 38 x2.toNatClampNeg).toNatClampNeg) < 2 →
  f_X5_isOnlyFamousOne_82 v x1 L2 Po x2 σ) ∧
  (¬ ((σ.1 (v + 1) (σ.1 38 x2.toNatClampNeg).toNatClampNeg) < 2) →
  vp_in (σ.1 38 x2.toNatClampNeg) 240 ∧
  vp_in x1 240 ∧
  (¬ (σ.1 32 (σ.1 38 x2.toNatClampNeg).toNatClampNeg) = (σ.1 32 x1.toNatClampNeg) →
  f_X5_isOnlyFamousOne_82 v x1 L2 Po x2 σ) ∧
  ((σ.1 32 (σ.1 38 x2.toNatClampNeg).toNatClampNeg) = (σ.1 32 x1.toNatClampNeg) →
  vp_in (σ.1 38 x2.toNatClampNeg) 240 ∧
  vp_in x1 240 ∧
  (¬ (σ.1 12 (σ.1 38 x2.toNatClampNeg).toNatClampNeg) = (σ.1 12 x1.toNatClampNeg) →
  f_X5_isOnlyFamousOne_82 v x1 L2 Po x2 σ) ∧
  ((σ.1 12 (σ.1 38 x2.toNatClampNeg).toNatClampNeg) = (σ.1 12 x1.toNatClampNeg) →
  Po 0 σ)))))
def f_X5_isOnlyFamousOne_e (v : Nat) (x1 : Int32) (L2 : Int32 → Sg → Prop) (Po : Int32 → Sg → Prop) (σ : Sg) : Prop :=
  L2 0 σ
def vc_X5_isOnlyFamousOne (v : Nat) (x1 : Int32) (σ : Sg) (Po : Int32 → Sg → Prop) : Prop := ∀ L2 : Int32 → Sg → Prop, (∀ (x2 : Int32) (σ : Sg), f_X5_isOnlyFamousOne_2 v x1 L2 Po x2 σ → L2 x2 σ) → f_X5_isOnlyFamousOne_e v x1 L2 Po σ
def CT_X5_isOnlyFamousOne (l : Launch) (Ω : Wm) : Prop := ∀ v : Nat, IsView v → ∀ (x1 : Int32) (σ : Sg) (K : Int32 → Sg → Prop), sp_X5_isOnlyFamousOne v x1 σ K → Ct l yX5_isOnlyFamousOne cX5_isOnlyFamousOne 4 (some .boolean) 0 0 Ω [.ref (Ω.2.2.1 v), .int x1] σ (QI Ω K)
def f_X5_findUniques_78 (v : Nat) (L18 : Int32 → Sg → Prop) (Po : Sg → Prop) (x1 : Int32) (σ : Sg) : Prop :=
  L18 (x1 + 1) σ
def f_X5_findUniques_18 (v : Nat) (L18 : Int32 → Sg → Prop) (Po : Sg → Prop) (x1 : Int32) (σ : Sg) : Prop :=
  ((σ.1 37 6) ≤ x1 →
  Po σ) ∧
  (¬ ((σ.1 37 6) ≤ x1) →
  vp_in x1 240 ∧
  vp_in (σ.1 38 x1.toNatClampNeg) 240 ∧
  (¬ (σ.1 (v + 1) (σ.1 38 x1.toNatClampNeg).toNatClampNeg) = 2 →
  f_X5_findUniques_78 v L18 Po x1 σ) ∧
  ((σ.1 (v + 1) (σ.1 38 x1.toNatClampNeg).toNatClampNeg) = 2 →
  sp_X5_isOnlyFamousOne v (σ.1 38 x1.toNatClampNeg) σ (fun r7 u8 =>
  (r7 = 0 →
  f_X5_findUniques_78 v L18 Po x1 u8) ∧
  (¬ (r7 = 0) →
  vp_in (σ.1 38 x1.toNatClampNeg) 240 ∧
  vp_in (σ.1 38 x1.toNatClampNeg) 240 ∧
  sp_X5_addUnique v (σ.1 38 x1.toNatClampNeg) ((pI u8 (v + 1) (σ.1 38 x1.toNatClampNeg).toNatClampNeg 3).1 32 (σ.1 38 x1.toNatClampNeg).toNatClampNeg) (pI u8 (v + 1) (σ.1 38 x1.toNatClampNeg).toNatClampNeg 3) (fun u12 =>
  f_X5_findUniques_78 v L18 Po x1 u12)))))
def f_X5_findUniques_e (v : Nat) (L18 : Int32 → Sg → Prop) (Po : Sg → Prop) (σ : Sg) : Prop :=
  sp_J7_fill_53178 (v + 8) 241 0 σ (fun u2 =>
  sp_J7_fill_53178 (v + 9) 1928 0 u2 (fun u4 =>
  L18 0 u4))
def vc_X5_findUniques (v : Nat) (σ : Sg) (Po : Sg → Prop) : Prop := ∀ L18 : Int32 → Sg → Prop, (∀ (x1 : Int32) (σ : Sg), f_X5_findUniques_18 v L18 Po x1 σ → L18 x1 σ) → f_X5_findUniques_e v L18 Po σ
def CT_X5_findUniques (l : Launch) (Ω : Wm) : Prop := ∀ v : Nat, IsView v → ∀ (σ : Sg) (K : Sg → Prop), sp_X5_findUniques v σ K → Ct l yX5_findUniques cX5_findUniques 3 none 2 45 Ω [.ref (Ω.2.2.1 v)] σ (QV Ω K)
def f_X5_leastOpenRound_58 (v : Nat) (L6 : Int32 → Int32 → Sg → Prop) (Po : Int32 → Sg → Prop) (x1 : Int32) (x2 : Int32) (σ : Sg) : Prop :=
  L6 x1 (x2 + 1) σ
def f_X5_leastOpenRound_6 (v : Nat) (L6 : Int32 → Int32 → Sg → Prop) (Po : Int32 → Sg → Prop) (x1 : Int32) (x2 : Int32) (σ : Sg) : Prop :=
  ((σ.1 37 6) ≤ x2 →
  Po x1 σ) ∧
  (¬ ((σ.1 37 6) ≤ x2) →
  vp_in x2 240 ∧
  sp_X5_holds v (σ.1 38 x2.toNatClampNeg) σ (fun r2 u3 =>
  (r2 = 0 →
  f_X5_leastOpenRound_58 v L6 Po x1 x2 u3) ∧
  (¬ (r2 = 0) →
  vp_in (σ.1 38 x2.toNatClampNeg) 240 ∧
  (¬ (u3.1 (v + 1) (σ.1 38 x2.toNatClampNeg).toNatClampNeg) = 0 →
  f_X5_leastOpenRound_58 v L6 Po x1 x2 u3) ∧
  ((u3.1 (v + 1) (σ.1 38 x2.toNatClampNeg).toNatClampNeg) = 0 →
  vp_in (σ.1 38 x2.toNatClampNeg) 240 ∧
  f_X5_leastOpenRound_58 v L6 Po (imin x1 (u3.1 32 (σ.1 38 x2.toNatClampNeg).toNatClampNeg)) x2 u3))))
def f_X5_leastOpenRound_e (v : Nat) (L6 : Int32 → Int32 → Sg → Prop) (Po : Int32 → Sg → Prop) (σ : Sg) : Prop :=
  L6 241 0 σ
def vc_X5_leastOpenRound (v : Nat) (σ : Sg) (Po : Int32 → Sg → Prop) : Prop := ∀ L6 : Int32 → Int32 → Sg → Prop, (∀ (x1 : Int32) (x2 : Int32) (σ : Sg), f_X5_leastOpenRound_6 v L6 Po x1 x2 σ → L6 x1 x2 σ) → f_X5_leastOpenRound_e v L6 Po σ
def CT_X5_leastOpenRound (l : Launch) (Ω : Wm) : Prop := ∀ v : Nat, IsView v → ∀ (σ : Sg) (K : Int32 → Sg → Prop), sp_X5_leastOpenRound v σ K → Ct l yX5_leastOpenRound cX5_leastOpenRound 4 (some .int) 2 60 Ω [.ref (Ω.2.2.1 v)] σ (QI Ω K)
def f_X5_settleRounds_63 (v : Nat) (L12 : Int32 → Int32 → Sg → Prop) (Po : Sg → Prop) (x1 : Int32) (x2 : Int32) (s0 : Int32) (s1 : Int32) (σ : Sg) : Prop :=
  L12 x1 (x2 + 1) (pI σ v 16 (s1 + s0))
def f_X5_settleRounds_43 (v : Nat) (L12 : Int32 → Int32 → Sg → Prop) (Po : Sg → Prop) (x1 : Int32) (x2 : Int32) (s0 : Int32) (s1 : Int32) (σ : Sg) : Prop :=
  vp_in s1 241 ∧
  isZ s0 ∧
  vp_in x2 241 ∧
  (((pI σ (v + 10) s1.toNatClampNeg s0).1 (v + 10) x2.toNatClampNeg) = 0 →
  f_X5_settleRounds_63 v L12 Po x1 x2 0 (((pI σ (v + 10) s1.toNatClampNeg s0)).1 v 16) (pI σ (v + 10) s1.toNatClampNeg s0)) ∧
  (¬ (((pI σ (v + 10) s1.toNatClampNeg s0).1 (v + 10) x2.toNatClampNeg) = 0) →
  f_X5_settleRounds_63 v L12 Po x1 x2 1 (((pI σ (v + 10) s1.toNatClampNeg s0)).1 v 16) (pI σ (v + 10) s1.toNatClampNeg s0))
def f_X5_settleRounds_42 (v : Nat) (L12 : Int32 → Int32 → Sg → Prop) (Po : Sg → Prop) (x1 : Int32) (x2 : Int32) (s0 : Int32) (σ : Sg) : Prop :=
  f_X5_settleRounds_43 v L12 Po x1 x2 0 s0 σ
def f_X5_settleRounds_12 (v : Nat) (L12 : Int32 → Int32 → Sg → Prop) (Po : Sg → Prop) (x1 : Int32) (x2 : Int32) (σ : Sg) : Prop :=
  (240 < x2 →
  Po σ) ∧
  (¬ (240 < x2) →
  (x1 ≤ x2 →
  f_X5_settleRounds_42 v L12 Po x1 x2 x2 σ) ∧
  (¬ (x1 ≤ x2) →
  vp_in x2 241 ∧
  ((σ.1 (v + 8) x2.toNatClampNeg) ≤ 0 →
  f_X5_settleRounds_42 v L12 Po x1 x2 x2 σ) ∧
  (¬ ((σ.1 (v + 8) x2.toNatClampNeg) ≤ 0) →
  f_X5_settleRounds_43 v L12 Po x1 x2 1 x2 σ)))
def f_X5_settleRounds_e (v : Nat) (L12 : Int32 → Int32 → Sg → Prop) (Po : Sg → Prop) (σ : Sg) : Prop :=
  sp_X5_leastOpenRound v σ (fun r1 u2 =>
  L12 r1 1 (pI u2 v 16 0))
def vc_X5_settleRounds (v : Nat) (σ : Sg) (Po : Sg → Prop) : Prop := ∀ L12 : Int32 → Int32 → Sg → Prop, (∀ (x1 : Int32) (x2 : Int32) (σ : Sg), f_X5_settleRounds_12 v L12 Po x1 x2 σ → L12 x1 x2 σ) → f_X5_settleRounds_e v L12 Po σ
def CT_X5_settleRounds (l : Launch) (Ω : Wm) : Prop := ∀ v : Nat, IsView v → ∀ (σ : Sg) (K : Sg → Prop), sp_X5_settleRounds v σ K → Ct l yX5_settleRounds cX5_settleRounds 3 none 3 83 Ω [.ref (Ω.2.2.1 v)] σ (QV Ω K)
def f_X5_findAll_e (v : Nat) (x1 : Int32) (Po : Sg → Prop) (σ : Sg) : Prop :=
  sp_X5_findFame v σ (fun u2 =>
  sp_X5_findUniques v u2 (fun u4 =>
  sp_X5_settleRounds v u4 (fun u6 =>
  sp_X5_findReceived v u6 (fun u8 =>
  sp_X5_findOrder v u8 (fun u10 =>
  sp_X5_findBalances v x1 u10 (fun u12 =>
  Po (pI u12 v 17 0)))))))
def vc_X5_findAll (v : Nat) (x1 : Int32) (σ : Sg) (Po : Sg → Prop) : Prop := f_X5_findAll_e v x1 Po σ
def CT_X5_findAll (l : Launch) (Ω : Wm) : Prop := ∀ v : Nat, IsView v → ∀ (x1 : Int32) (σ : Sg) (K : Sg → Prop), sp_X5_findAll v x1 σ K → Ct l yX5_findAll cX5_findAll 2 none 4 105 Ω [.ref (Ω.2.2.1 v), .int x1] σ (QV Ω K)
