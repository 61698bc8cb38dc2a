def f_X3_clear_e (x1 : Int32) (Po : Sg → Prop) (σ : Sg) : Prop :=
  sp_J7_fill_53178 34 8 0 (pI (pI (pI σ 22 11 x1) 22 12 0) 22 13 0) (fun u2 =>
  Po u2)
def vc_X3_clear (x1 : Int32) (σ : Sg) (Po : Sg → Prop) : Prop := f_X3_clear_e x1 Po σ
def sp_X3_clear (x1 : Int32) (σ : Sg) (K : Sg → Prop) : Prop := vc_X3_clear x1 σ K
def CT_X3_clear (l : Launch) (Ω : Wm) : Prop := ∀ (x1 : Int32) (σ : Sg) (K : Sg → Prop), sp_X3_clear x1 σ K → Ct l yX3_clear cX3_clear 2 none 1 23 Ω [.ref (Ω.2.2.1 22), .int x1] σ (QV Ω K)
def f_X3_countForks_e (x1 : Int32) (Po : Sg → Prop) (σ : Sg) : Prop :=
  vp_in x1 240 ∧
  vp_in (σ.1 12 x1.toNatClampNeg) 8 ∧
  vp_in x1 240 ∧
  vp_in (σ.1 12 x1.toNatClampNeg) 8 ∧
  vp_in (σ.1 12 x1.toNatClampNeg) 8 ∧
  Po (pI (pI σ 22 12 ((σ.1 22 12) + ((σ.1 34 (σ.1 12 x1.toNatClampNeg).toNatClampNeg) - ((σ.1 31 x1.toNatClampNeg) - 1)))) 34 (σ.1 12 x1.toNatClampNeg).toNatClampNeg (((pI σ 22 12 ((σ.1 22 12) + ((σ.1 34 (σ.1 12 x1.toNatClampNeg).toNatClampNeg) - ((σ.1 31 x1.toNatClampNeg) - 1)))).1 34 (σ.1 12 x1.toNatClampNeg).toNatClampNeg) + 1))
def vc_X3_countForks (x1 : Int32) (σ : Sg) (Po : Sg → Prop) : Prop := f_X3_countForks_e x1 Po σ
def sp_X3_countForks (x1 : Int32) (σ : Sg) (K : Sg → Prop) : Prop := vc_X3_countForks x1 σ K
def CT_X3_countForks (l : Launch) (Ω : Wm) : Prop := ∀ (x1 : Int32) (σ : Sg) (K : Sg → Prop), sp_X3_countForks x1 σ K → Ct l yX3_countForks cX3_countForks 3 none 0 0 Ω [.ref (Ω.2.2.1 22), .int x1] σ (QV Ω K)
def f_X3_findAncestors_95 (x1 : Int32) (Po : Sg → Prop) (s0 : Int32) (s1 : Int32) (σ : Sg) : Prop :=
  vp_in s1 240 ∧
  Po (pI σ 31 s1.toNatClampNeg s0)
def f_X3_findAncestors_73 (x1 : Int32) (Po : Sg → Prop) (x2 : Int32) (σ : Sg) : Prop :=
  (¬ x2 = (-1) →
  vp_in x2 240 ∧
  f_X3_findAncestors_95 x1 Po ((σ.1 31 x2.toNatClampNeg) + 1) x1 σ) ∧
  (x2 = (-1) →
  f_X3_findAncestors_95 x1 Po 1 x1 σ)
def f_X3_findAncestors_55 (x1 : Int32) (Po : Sg → Prop) (x2 : Int32) (x3 : Int32) (σ : Sg) : Prop :=
  (x3 = (-1) →
  f_X3_findAncestors_73 x1 Po x2 σ) ∧
  (¬ (x3 = (-1)) →
  sp_X0_join 23 960 23 960 x1 x3 σ (fun u11 =>
  f_X3_findAncestors_73 x1 Po x2 u11))
def f_X3_findAncestors_e (x1 : Int32) (Po : Sg → Prop) (σ : Sg) : Prop :=
  vp_in x1 240 ∧
  vp_in x1 240 ∧
  sp_X0_clearRow 23 960 x1 σ (fun u4 =>
  sp_X0_put 23 960 x1 x1 u4 (fun u6 =>
  ((σ.1 13 x1.toNatClampNeg) = (-1) →
  f_X3_findAncestors_55 x1 Po (σ.1 13 x1.toNatClampNeg) (σ.1 14 x1.toNatClampNeg) u6) ∧
  (¬ ((σ.1 13 x1.toNatClampNeg) = (-1)) →
  sp_X0_join 23 960 23 960 x1 (σ.1 13 x1.toNatClampNeg) u6 (fun u8 =>
  f_X3_findAncestors_55 x1 Po (σ.1 13 x1.toNatClampNeg) (σ.1 14 x1.toNatClampNeg) u8))))
def vc_X3_findAncestors (x1 : Int32) (σ : Sg) (Po : Sg → Prop) : Prop := f_X3_findAncestors_e x1 Po σ
def CT_X3_findAncestors (l : Launch) (Ω : Wm) : Prop := ∀ (x1 : Int32) (σ : Sg) (K : Sg → Prop), sp_X3_findAncestors x1 σ K → Ct l yX3_findAncestors cX3_findAncestors 4 none 3 68 Ω [.ref (Ω.2.2.1 22), .int x1] σ (QV Ω K)
def f_X7_isMost_14 (x0 : Int32) (x1 : Int32) (Po : Int32 → Sg → Prop) (s0 : Int32) (σ : Sg) : Prop :=
  isZ s0 ∧
  Po s0 σ
def f_X7_isMost_e (x0 : Int32) (x1 : Int32) (Po : Int32 → Sg → Prop) (σ : Sg) : Prop :=
  ((3 * x0) ≤ (2 * x1) →
  f_X7_isMost_14 x0 x1 Po 0 σ) ∧
  (¬ ((3 * x0) ≤ (2 * x1)) →
  f_X7_isMost_14 x0 x1 Po 1 σ)
def vc_X7_isMost (x0 : Int32) (x1 : Int32) (σ : Sg) (Po : Int32 → Sg → Prop) : Prop := f_X7_isMost_e x0 x1 Po σ
def sp_X7_isMost (x0 : Int32) (x1 : Int32) (σ : Sg) (K : Int32 → Sg → Prop) : Prop := vc_X7_isMost x0 x1 σ K
def CT_X7_isMost (l : Launch) (Ω : Wm) : Prop := ∀ (x0 : Int32) (x1 : Int32) (σ : Sg) (K : Int32 → Sg → Prop), sp_X7_isMost x0 x1 σ K → Ct l yX7_isMost cX7_isMost 2 (some .boolean) 0 0 Ω [.int x0, .int x1] σ (QI Ω K)
def f_X3_stronglySeesMostOf_60 (x1 : Int32) (x2 : Int32) (L5 : Int32 → Int32 → Sg → Prop) (Po : Int32 → Sg → Prop) (x3 : Int32) (x4 : Int32) (σ : Sg) : Prop :=
  L5 x3 (x4 + 1) σ
def f_X3_stronglySeesMostOf_5 (x1 : Int32) (x2 : Int32) (L5 : Int32 → Int32 → Sg → Prop) (Po : Int32 → Sg → Prop) (x3 : Int32) (x4 : Int32) (σ : Sg) : Prop :=
  (x1 ≤ x4 →
  sp_J6_bitCount_0f7a4 x3 σ (fun r1 u2 =>
  sp_X7_isMost r1 (u2.1 22 11) u2 (fun r3 u4 =>
  isZ r3 ∧
  Po r3 u4))) ∧
  (¬ (x1 ≤ x4) →
  vp_in x4 240 ∧
  ((σ.1 33 x4.toNatClampNeg) = 0 →
  f_X3_stronglySeesMostOf_60 x1 x2 L5 Po x3 x4 σ) ∧
  (¬ ((σ.1 33 x4.toNatClampNeg) = 0) →
  vp_in x4 240 ∧
  (¬ (σ.1 32 x4.toNatClampNeg) = x2 →
  f_X3_stronglySeesMostOf_60 x1 x2 L5 Po x3 x4 σ) ∧
  ((σ.1 32 x4.toNatClampNeg) = x2 →
  sp_X0_has 27 960 x1 x4 σ (fun r8 u9 =>
  (r8 = 0 →
  f_X3_stronglySeesMostOf_60 x1 x2 L5 Po x3 x4 u9) ∧
  (¬ (r8 = 0) →
  vp_in x4 240 ∧
  f_X3_stronglySeesMostOf_60 x1 x2 L5 Po (x3 ||| (ishl 1 (u9.1 12 x4.toNatClampNeg))) x4 u9)))))
def f_X3_stronglySeesMostOf_e (x1 : Int32) (x2 : Int32) (L5 : Int32 → Int32 → Sg → Prop) (Po : Int32 → Sg → Prop) (σ : Sg) : Prop :=
  L5 0 0 σ
def vc_X3_stronglySeesMostOf (x1 : Int32) (x2 : Int32) (σ : Sg) (Po : Int32 → Sg → Prop) : Prop := ∀ L5 : Int32 → Int32 → Sg → Prop, (∀ (x3 : Int32) (x4 : Int32) (σ : Sg), f_X3_stronglySeesMostOf_5 x1 x2 L5 Po x3 x4 σ → L5 x3 x4 σ) → f_X3_stronglySeesMostOf_e x1 x2 L5 Po σ
def CT_X3_stronglySeesMostOf (l : Launch) (Ω : Wm) : Prop := ∀ (x1 : Int32) (x2 : Int32) (σ : Sg) (K : Int32 → Sg → Prop), sp_X3_stronglySeesMostOf x1 x2 σ K → Ct l yX3_stronglySeesMostOf cX3_stronglySeesMostOf 5 (some .boolean) 1 22 Ω [.ref (Ω.2.2.1 22), .int x1, .int x2] σ (QI Ω K)
def f_X3_findRound_127 (x1 : Int32) (Po : Sg → Prop) (s0 : Int32) (s1 : Int32) (σ : Sg) : Prop :=
  vp_in s1 240 ∧
  isZ s0 ∧
  vp_in x1 240 ∧
  Po (pI (pI σ 33 s1.toNatClampNeg s0) 22 13 (imax (((pI σ 33 s1.toNatClampNeg s0)).1 22 13) ((pI σ 33 s1.toNatClampNeg s0).1 32 x1.toNatClampNeg)))
def f_X3_findRound_122 (x1 : Int32) (Po : Sg → Prop) (s0 : Int32) (σ : Sg) : Prop :=
  f_X3_findRound_127 x1 Po 1 s0 σ
def f_X3_findRound_96 (x1 : Int32) (Po : Sg → Prop) (x2 : Int32) (s0 : Int32) (s1 : Int32) (σ : Sg) : Prop :=
  vp_in s1 240 ∧
  (x2 = (-1) →
  f_X3_findRound_122 x1 Po x1 (pI σ 32 s1.toNatClampNeg s0)) ∧
  (¬ (x2 = (-1)) →
  vp_in x2 240 ∧
  vp_in x1 240 ∧
  (((pI σ 32 s1.toNatClampNeg s0).1 32 x1.toNatClampNeg) ≤ ((pI σ 32 s1.toNatClampNeg s0).1 32 x2.toNatClampNeg) →
  f_X3_findRound_127 x1 Po 0 x1 (pI σ 32 s1.toNatClampNeg s0)) ∧
  (¬ (((pI σ 32 s1.toNatClampNeg s0).1 32 x1.toNatClampNeg) ≤ ((pI σ 32 s1.toNatClampNeg s0).1 32 x2.toNatClampNeg)) →
  f_X3_findRound_122 x1 Po x1 (pI σ 32 s1.toNatClampNeg s0)))
def f_X3_findRound_75 (x1 : Int32) (Po : Sg → Prop) (x2 : Int32) (x4 : Int32) (s0 : Int32) (σ : Sg) : Prop :=
  (s0 = 0 →
  f_X3_findRound_96 x1 Po x2 x4 x1 σ) ∧
  (¬ (s0 = 0) →
  f_X3_findRound_96 x1 Po x2 (x4 + 1) x1 σ)
def f_X3_findRound_70 (x1 : Int32) (Po : Sg → Prop) (x2 : Int32) (x4 : Int32) (σ : Sg) : Prop :=
  f_X3_findRound_75 x1 Po x2 x4 1 σ
def f_X3_findRound_50 (x1 : Int32) (Po : Sg → Prop) (x2 : Int32) (s0 : Int32) (s1 : Int32) (σ : Sg) : Prop :=
  ((imax s1 s0) = 0 →
  f_X3_findRound_70 x1 Po x2 (imax s1 s0) σ) ∧
  (¬ ((imax s1 s0) = 0) →
  sp_X3_stronglySeesMostOf x1 (imax s1 s0) σ (fun r7 u8 =>
  (r7 = 0 →
  f_X3_findRound_75 x1 Po x2 (imax s1 s0) 0 u8) ∧
  (¬ (r7 = 0) →
  f_X3_findRound_70 x1 Po x2 (imax s1 s0) u8)))
def f_X3_findRound_35 (x1 : Int32) (Po : Sg → Prop) (x2 : Int32) (x3 : Int32) (s0 : Int32) (σ : Sg) : Prop :=
  (¬ x3 = (-1) →
  vp_in x3 240 ∧
  f_X3_findRound_50 x1 Po x2 (σ.1 32 x3.toNatClampNeg) s0 σ) ∧
  (x3 = (-1) →
  f_X3_findRound_50 x1 Po x2 0 s0 σ)
def f_X3_findRound_e (x1 : Int32) (Po : Sg → Prop) (σ : Sg) : Prop :=
  vp_in x1 240 ∧
  vp_in x1 240 ∧
  (¬ (σ.1 13 x1.toNatClampNeg) = (-1) →
  vp_in (σ.1 13 x1.toNatClampNeg) 240 ∧
  f_X3_findRound_35 x1 Po (σ.1 13 x1.toNatClampNeg) (σ.1 14 x1.toNatClampNeg) (σ.1 32 (σ.1 13 x1.toNatClampNeg).toNatClampNeg) σ) ∧
  ((σ.1 13 x1.toNatClampNeg) = (-1) →
  f_X3_findRound_35 x1 Po (σ.1 13 x1.toNatClampNeg) (σ.1 14 x1.toNatClampNeg) 0 σ)
def vc_X3_findRound (x1 : Int32) (σ : Sg) (Po : Sg → Prop) : Prop := f_X3_findRound_e x1 Po σ
def CT_X3_findRound (l : Launch) (Ω : Wm) : Prop := ∀ (x1 : Int32) (σ : Sg) (K : Sg → Prop), sp_X3_findRound x1 σ K → Ct l yX3_findRound cX3_findRound 6 none 2 60 Ω [.ref (Ω.2.2.1 22), .int x1] σ (QV Ω K)
def f_X3_countAncestorsByCreator_76 (x1 : Int32) (L18 : Int32 → Sg → Prop) (Po : Sg → Prop) (x2 : Int32) (σ : Sg) : Prop :=
  L18 (x2 + 1) σ
def f_X3_countAncestorsByCreator_18 (x1 : Int32) (L18 : Int32 → Sg → Prop) (Po : Sg → Prop) (x2 : Int32) (σ : Sg) : Prop :=
  (x1 < x2 →
  Po σ) ∧
  (¬ (x1 < x2) →
  sp_X0_has 23 960 x1 x2 σ (fun r5 u6 =>
  (r5 = 0 →
  f_X3_countAncestorsByCreator_76 x1 L18 Po x2 u6) ∧
  (¬ (r5 = 0) →
  vp_in x2 240 ∧
  vp_in (u6.1 12 x2.toNatClampNeg) 8 ∧
  vp_in (u6.1 12 x2.toNatClampNeg) 8 ∧
  vp_in (u6.1 12 x2.toNatClampNeg) 8 ∧
  vp_in x2 240 ∧
  vp_in (u6.1 12 x2.toNatClampNeg) 8 ∧
  f_X3_countAncestorsByCreator_76 x1 L18 Po x2 (pI (pI u6 35 (u6.1 12 x2.toNatClampNeg).toNatClampNeg ((u6.1 35 (u6.1 12 x2.toNatClampNeg).toNatClampNeg) + 1)) 36 (u6.1 12 x2.toNatClampNeg).toNatClampNeg (imax ((pI u6 35 (u6.1 12 x2.toNatClampNeg).toNatClampNeg ((u6.1 35 (u6.1 12 x2.toNatClampNeg).toNatClampNeg) + 1)).1 36 (u6.1 12 x2.toNatClampNeg).toNatClampNeg) ((pI u6 35 (u6.1 12 x2.toNatClampNeg).toNatClampNeg ((u6.1 35 (u6.1 12 x2.toNatClampNeg).toNatClampNeg) + 1)).1 31 x2.toNatClampNeg))))))
def f_X3_countAncestorsByCreator_e (x1 : Int32) (L18 : Int32 → Sg → Prop) (Po : Sg → Prop) (σ : Sg) : Prop :=
  sp_J7_fill_53178 35 8 0 σ (fun u2 =>
  sp_J7_fill_53178 36 8 0 u2 (fun u4 =>
  L18 0 u4))
def vc_X3_countAncestorsByCreator (x1 : Int32) (σ : Sg) (Po : Sg → Prop) : Prop := ∀ L18 : Int32 → Sg → Prop, (∀ (x2 : Int32) (σ : Sg), f_X3_countAncestorsByCreator_18 x1 L18 Po x2 σ → L18 x2 σ) → f_X3_countAncestorsByCreator_e x1 L18 Po σ
def CT_X3_countAncestorsByCreator (l : Launch) (Ω : Wm) : Prop := ∀ (x1 : Int32) (σ : Sg) (K : Sg → Prop), sp_X3_countAncestorsByCreator x1 σ K → Ct l yX3_countAncestorsByCreator cX3_countAncestorsByCreator 4 none 1 60 Ω [.ref (Ω.2.2.1 22), .int x1] σ (QV Ω K)
def f_X3_isForker_20 (x1 : Int32) (Po : Int32 → Sg → Prop) (s0 : Int32) (σ : Sg) : Prop :=
  isZ s0 ∧
  Po s0 σ
def f_X3_isForker_e (x1 : Int32) (Po : Int32 → Sg → Prop) (σ : Sg) : Prop :=
  vp_in x1 8 ∧
  vp_in x1 8 ∧
  ((σ.1 35 x1.toNatClampNeg) ≤ (σ.1 36 x1.toNatClampNeg) →
  f_X3_isForker_20 x1 Po 0 σ) ∧
  (¬ ((σ.1 35 x1.toNatClampNeg) ≤ (σ.1 36 x1.toNatClampNeg)) →
  f_X3_isForker_20 x1 Po 1 σ)
def vc_X3_isForker (x1 : Int32) (σ : Sg) (Po : Int32 → Sg → Prop) : Prop := f_X3_isForker_e x1 Po σ
def sp_X3_isForker (x1 : Int32) (σ : Sg) (K : Int32 → Sg → Prop) : Prop := vc_X3_isForker x1 σ K
def CT_X3_isForker (l : Launch) (Ω : Wm) : Prop := ∀ (x1 : Int32) (σ : Sg) (K : Int32 → Sg → Prop), sp_X3_isForker x1 σ K → Ct l yX3_isForker cX3_isForker 2 (some .boolean) 0 0 Ω [.ref (Ω.2.2.1 22), .int x1] σ (QI Ω K)
def f_X3_findSeen_57 (x1 : Int32) (L15 : Int32 → Sg → Prop) (Po : Sg → Prop) (x2 : Int32) (σ : Sg) : Prop :=
  L15 (x2 + 1) σ
def f_X3_findSeen_15 (x1 : Int32) (L15 : Int32 → Sg → Prop) (Po : Sg → Prop) (x2 : Int32) (σ : Sg) : Prop :=
  (x1 < x2 →
  Po σ) ∧
  (¬ (x1 < x2) →
  sp_X0_has 23 960 x1 x2 σ (fun r5 u6 =>
  (r5 = 0 →
  f_X3_findSeen_57 x1 L15 Po x2 u6) ∧
  (¬ (r5 = 0) →
  vp_in x2 240 ∧
  sp_X3_isForker (u6.1 12 x2.toNatClampNeg) u6 (fun r8 u9 =>
  (¬ r8 = 0 →
  f_X3_findSeen_57 x1 L15 Po x2 u9) ∧
  (r8 = 0 →
  sp_X0_put 25 960 x1 x2 u9 (fun u11 =>
  f_X3_findSeen_57 x1 L15 Po x2 u11))))))
def f_X3_findSeen_e (x1 : Int32) (L15 : Int32 → Sg → Prop) (Po : Sg → Prop) (σ : Sg) : Prop :=
  sp_X3_countAncestorsByCreator x1 σ (fun u2 =>
  sp_X0_clearRow 25 960 x1 u2 (fun u4 =>
  L15 0 u4))
def vc_X3_findSeen (x1 : Int32) (σ : Sg) (Po : Sg → Prop) : Prop := ∀ L15 : Int32 → Sg → Prop, (∀ (x2 : Int32) (σ : Sg), f_X3_findSeen_15 x1 L15 Po x2 σ → L15 x2 σ) → f_X3_findSeen_e x1 L15 Po σ
def CT_X3_findSeen (l : Launch) (Ω : Wm) : Prop := ∀ (x1 : Int32) (σ : Sg) (K : Sg → Prop), sp_X3_findSeen x1 σ K → Ct l yX3_findSeen cX3_findSeen 3 none 3 83 Ω [.ref (Ω.2.2.1 22), .int x1] σ (QV Ω K)
def f_X3_findStronglySeen_95 (x1 : Int32) (L9 : Int32 → Sg → Prop) (L63 : Int32 → Sg → Prop) (Po : Sg → Prop) (x2 : Int32) (σ : Sg) : Prop :=
  L63 (x2 + 1) σ
def f_X3_findStronglySeen_47 (x1 : Int32) (L9 : Int32 → Sg → Prop) (L63 : Int32 → Sg → Prop) (Po : Sg → Prop) (x2 : Int32) (σ : Sg) : Prop :=
  L9 (x2 + 1) σ
def f_X3_findStronglySeen_63 (x1 : Int32) (L9 : Int32 → Sg → Prop) (L63 : Int32 → Sg → Prop) (Po : Sg → Prop) (x2 : Int32) (σ : Sg) : Prop :=
  (x1 < x2 →
  Po σ) ∧
  (¬ (x1 < x2) →
  sp_X0_rowsWith 29 32 x2 σ (fun r12 u13 =>
  sp_X7_isMost r12 (u13.1 22 11) u13 (fun r14 u15 =>
  (r14 = 0 →
  f_X3_findStronglySeen_95 x1 L9 L63 Po x2 u15) ∧
  (¬ (r14 = 0) →
  sp_X0_put 27 960 x1 x2 u15 (fun u17 =>
  f_X3_findStronglySeen_95 x1 L9 L63 Po x2 u17)))))
def f_X3_findStronglySeen_9 (x1 : Int32) (L9 : Int32 → Sg → Prop) (L63 : Int32 → Sg → Prop) (Po : Sg → Prop) (x2 : Int32) (σ : Sg) : Prop :=
  (x1 < x2 →
  sp_X0_clearRow 27 960 x1 σ (fun u4 =>
  L63 0 u4)) ∧
  (¬ (x1 < x2) →
  sp_X0_has 25 960 x1 x2 σ (fun r5 u6 =>
  (r5 = 0 →
  f_X3_findStronglySeen_47 x1 L9 L63 Po x2 u6) ∧
  (¬ (r5 = 0) →
  vp_in x2 240 ∧
  sp_X0_join 29 32 25 960 (u6.1 12 x2.toNatClampNeg) x2 u6 (fun u9 =>
  f_X3_findStronglySeen_47 x1 L9 L63 Po x2 u9))))
def f_X3_findStronglySeen_e (x1 : Int32) (L9 : Int32 → Sg → Prop) (L63 : Int32 → Sg → Prop) (Po : Sg → Prop) (σ : Sg) : Prop :=
  sp_X0_clear 29 32 σ (fun u2 =>
  L9 0 u2)
def vc_X3_findStronglySeen (x1 : Int32) (σ : Sg) (Po : Sg → Prop) : Prop := ∀ L9 : Int32 → Sg → Prop, ∀ L63 : Int32 → Sg → Prop, (∀ (x2 : Int32) (σ : Sg), f_X3_findStronglySeen_9 x1 L9 L63 Po x2 σ → L9 x2 σ) → (∀ (x2 : Int32) (σ : Sg), f_X3_findStronglySeen_63 x1 L9 L63 Po x2 σ → L63 x2 σ) → f_X3_findStronglySeen_e x1 L9 L63 Po σ
def CT_X3_findStronglySeen (l : Launch) (Ω : Wm) : Prop := ∀ (x1 : Int32) (σ : Sg) (K : Sg → Prop), sp_X3_findStronglySeen x1 σ K → Ct l yX3_findStronglySeen cX3_findStronglySeen 3 none 3 68 Ω [.ref (Ω.2.2.1 22), .int x1] σ (QV Ω K)
def f_X3_take_e (x1 : Int32) (Po : Sg → Prop) (σ : Sg) : Prop :=
  sp_X3_findAncestors x1 σ (fun u2 =>
  sp_X3_countForks x1 u2 (fun u4 =>
  sp_X3_findSeen x1 u4 (fun u6 =>
  sp_X3_findStronglySeen x1 u6 (fun u8 =>
  sp_X3_findRound x1 u8 (fun u10 =>
  Po u10)))))
def vc_X3_take (x1 : Int32) (σ : Sg) (Po : Sg → Prop) : Prop := f_X3_take_e x1 Po σ
def CT_X3_take (l : Launch) (Ω : Wm) : Prop := ∀ (x1 : Int32) (σ : Sg) (K : Sg → Prop), sp_X3_take x1 σ K → Ct l yX3_take cX3_take 2 none 4 105 Ω [.ref (Ω.2.2.1 22), .int x1] σ (QV Ω K)
