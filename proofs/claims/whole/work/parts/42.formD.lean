def f_X1_clear_e (x1 : Int32) (Po : Sg → Prop) (σ : Sg) : Prop :=
  Po (pI (pI σ 37 7 x1) 37 6 0)
def vc_X1_clear (x1 : Int32) (σ : Sg) (Po : Sg → Prop) : Prop := f_X1_clear_e x1 Po σ
def sp_X1_clear (x1 : Int32) (σ : Sg) (K : Sg → Prop) : Prop := vc_X1_clear x1 σ K
def CT_X1_clear (l : Launch) (Ω : Wm) : Prop := ∀ (x1 : Int32) (σ : Sg) (K : Sg → Prop), sp_X1_clear x1 σ K → Ct l yX1_clear cX1_clear 2 none 0 0 Ω [.ref (Ω.2.2.1 37), .int x1] σ (QV Ω K)
def f_X1_isYes_e (x1 : Int32) (x2 : Int32) (Po : Int32 → Sg → Prop) (σ : Sg) : Prop :=
  sp_X0_has 41 960 x2 x1 σ (fun r1 u2 =>
  isZ r1 ∧
  Po r1 u2)
def vc_X1_isYes (x1 : Int32) (x2 : Int32) (σ : Sg) (Po : Int32 → Sg → Prop) : Prop := f_X1_isYes_e x1 x2 Po σ
def sp_X1_isYes (x1 : Int32) (x2 : Int32) (σ : Sg) (K : Int32 → Sg → Prop) : Prop := vc_X1_isYes x1 x2 σ K
def CT_X1_isYes (l : Launch) (Ω : Wm) : Prop := ∀ (x1 : Int32) (x2 : Int32) (σ : Sg) (K : Int32 → Sg → Prop), sp_X1_isYes x1 x2 σ K → Ct l yX1_isYes cX1_isYes 3 (some .boolean) 1 22 Ω [.ref (Ω.2.2.1 37), .int x1, .int x2] σ (QI Ω K)
def f_X1_decides_e (x1 : Int32) (x2 : Int32) (Po : Int32 → Sg → Prop) (σ : Sg) : Prop :=
  sp_X0_has 43 960 x2 x1 σ (fun r1 u2 =>
  isZ r1 ∧
  Po r1 u2)
def vc_X1_decides (x1 : Int32) (x2 : Int32) (σ : Sg) (Po : Int32 → Sg → Prop) : Prop := f_X1_decides_e x1 x2 Po σ
def sp_X1_decides (x1 : Int32) (x2 : Int32) (σ : Sg) (K : Int32 → Sg → Prop) : Prop := vc_X1_decides x1 x2 σ K
def CT_X1_decides (l : Launch) (Ω : Wm) : Prop := ∀ (x1 : Int32) (x2 : Int32) (σ : Sg) (K : Int32 → Sg → Prop), sp_X1_decides x1 x2 σ K → Ct l yX1_decides cX1_decides 3 (some .boolean) 1 22 Ω [.ref (Ω.2.2.1 37), .int x1, .int x2] σ (QI Ω K)
def f_X1_write_27 (x1 : Int32) (x2 : Int32) (x3 : Int32) (x4 : Int32) (Po : Sg → Prop) (σ : Sg) : Prop :=
  Po σ
def f_X1_write_13 (x1 : Int32) (x2 : Int32) (x3 : Int32) (x4 : Int32) (Po : Sg → Prop) (σ : Sg) : Prop :=
  (x4 = 0 →
  f_X1_write_27 x1 x2 x3 x4 Po σ) ∧
  (¬ (x4 = 0) →
  sp_X0_put 43 960 x2 x1 σ (fun u5 =>
  f_X1_write_27 x1 x2 x3 x4 Po u5))
def f_X1_write_e (x1 : Int32) (x2 : Int32) (x3 : Int32) (x4 : Int32) (Po : Sg → Prop) (σ : Sg) : Prop :=
  (x3 = 0 →
  f_X1_write_13 x1 x2 x3 x4 Po σ) ∧
  (¬ (x3 = 0) →
  sp_X0_put 41 960 x2 x1 σ (fun u2 =>
  f_X1_write_13 x1 x2 x3 x4 Po u2))
def vc_X1_write (x1 : Int32) (x2 : Int32) (x3 : Int32) (x4 : Int32) (σ : Sg) (Po : Sg → Prop) : Prop := f_X1_write_e x1 x2 x3 x4 Po σ
def sp_X1_write (x1 : Int32) (x2 : Int32) (x3 : Int32) (x4 : Int32) (σ : Sg) (K : Sg → Prop) : Prop := vc_X1_write x1 x2 x3 x4 σ K
def CT_X1_write (l : Launch) (Ω : Wm) : Prop := ∀ (x1 : Int32) (x2 : Int32) (x3 : Int32) (x4 : Int32) (σ : Sg) (K : Sg → Prop), sp_X1_write x1 x2 x3 x4 σ K → Ct l yX1_write cX1_write 5 none 1 22 Ω [.ref (Ω.2.2.1 37), .int x1, .int x2, .int x3, .int x4] σ (QV Ω K)
def f_X1_castVote_156 (x1 : Int32) (x2 : Int32) (Po : Sg → Prop) (σ : Sg) : Prop :=
  Po σ
def f_X1_castVote_152 (x1 : Int32) (x2 : Int32) (Po : Sg → Prop) (s0 : Int32) (s1 : Int32) (s2 : Int32) (σ : Sg) : Prop :=
  sp_X1_write s2 s1 s0 0 σ (fun u23 =>
  f_X1_castVote_156 x1 x2 Po u23)
def f_X1_castVote_85 (x1 : Int32) (x2 : Int32) (Po : Sg → Prop) (x3 : Int32) (x4 : Int32) (x5 : Int32) (s0 : Int32) (σ : Sg) : Prop :=
  sp_X7_isMost (imax x4 x5) (σ.1 37 7) σ (fun r13 u14 =>
  ((irem x3 4) = 0 →
  (r13 = 0 →
  sp_X2_hashWord x1 4 u14 (fun r15 u16 =>
  (0 ≤ r15 →
  f_X1_castVote_152 x1 x2 Po 0 x2 x1 u16) ∧
  (¬ (0 ≤ r15) →
  f_X1_castVote_152 x1 x2 Po 1 x2 x1 u16))) ∧
  (¬ (r13 = 0) →
  f_X1_castVote_152 x1 x2 Po s0 x2 x1 u14)) ∧
  (¬ ((irem x3 4) = 0) →
  sp_X1_write x1 x2 s0 r13 u14 (fun u20 =>
  f_X1_castVote_156 x1 x2 Po u20)))
def f_X1_castVote_e (x1 : Int32) (x2 : Int32) (Po : Sg → Prop) (σ : Sg) : Prop :=
  vp_in x1 240 ∧
  vp_in x2 240 ∧
  (¬ ((σ.1 32 x1.toNatClampNeg) - (σ.1 32 x2.toNatClampNeg)) = 1 →
  sp_X0_sizeInCommon 39 960 41 960 x1 x2 σ (fun r3 u4 =>
  sp_X0_size 39 960 x1 u4 (fun r5 u6 =>
  (r3 < (r5 - r3) →
  f_X1_castVote_85 x1 x2 Po ((σ.1 32 x1.toNatClampNeg) - (σ.1 32 x2.toNatClampNeg)) r3 (r5 - r3) 0 u6) ∧
  (¬ (r3 < (r5 - r3)) →
  f_X1_castVote_85 x1 x2 Po ((σ.1 32 x1.toNatClampNeg) - (σ.1 32 x2.toNatClampNeg)) r3 (r5 - r3) 1 u6)))) ∧
  (((σ.1 32 x1.toNatClampNeg) - (σ.1 32 x2.toNatClampNeg)) = 1 →
  sp_X0_has 25 960 x1 x2 σ (fun r8 u9 =>
  sp_X1_write x1 x2 r8 0 u9 (fun u11 =>
  Po u11)))
def vc_X1_castVote (x1 : Int32) (x2 : Int32) (σ : Sg) (Po : Sg → Prop) : Prop := f_X1_castVote_e x1 x2 Po σ
def CT_X1_castVote (l : Launch) (Ω : Wm) : Prop := ∀ (x1 : Int32) (x2 : Int32) (σ : Sg) (K : Sg → Prop), sp_X1_castVote x1 x2 σ K → Ct l yX1_castVote cX1_castVote 8 none 3 67 Ω [.ref (Ω.2.2.1 37), .int x1, .int x2] σ (QV Ω K)
def f_X1_findElectors_72 (x1 : Int32) (L10 : Int32 → Sg → Prop) (Po : Sg → Prop) (x2 : Int32) (σ : Sg) : Prop :=
  L10 (x2 + 1) σ
def f_X1_findElectors_10 (x1 : Int32) (L10 : Int32 → Sg → Prop) (Po : Sg → Prop) (x2 : Int32) (σ : Sg) : Prop :=
  ((σ.1 37 6) ≤ x2 →
  Po σ) ∧
  (¬ ((σ.1 37 6) ≤ x2) →
  vp_in x2 240 ∧
  vp_in (σ.1 38 x2.toNatClampNeg) 240 ∧
  vp_in x1 240 ∧
  (¬ (σ.1 32 (σ.1 38 x2.toNatClampNeg).toNatClampNeg) = ((σ.1 32 x1.toNatClampNeg) - 1) →
  f_X1_findElectors_72 x1 L10 Po x2 σ) ∧
  ((σ.1 32 (σ.1 38 x2.toNatClampNeg).toNatClampNeg) = ((σ.1 32 x1.toNatClampNeg) - 1) →
  sp_X0_has 27 960 x1 (σ.1 38 x2.toNatClampNeg) σ (fun r6 u7 =>
  (r6 = 0 →
  f_X1_findElectors_72 x1 L10 Po x2 u7) ∧
  (¬ (r6 = 0) →
  sp_X0_put 39 960 x1 (σ.1 38 x2.toNatClampNeg) u7 (fun u9 =>
  f_X1_findElectors_72 x1 L10 Po x2 u9)))))
def f_X1_findElectors_e (x1 : Int32) (L10 : Int32 → Sg → Prop) (Po : Sg → Prop) (σ : Sg) : Prop :=
  sp_X0_clearRow 39 960 x1 σ (fun u2 =>
  L10 0 u2)
def vc_X1_findElectors (x1 : Int32) (σ : Sg) (Po : Sg → Prop) : Prop := ∀ L10 : Int32 → Sg → Prop, (∀ (x2 : Int32) (σ : Sg), f_X1_findElectors_10 x1 L10 Po x2 σ → L10 x2 σ) → f_X1_findElectors_e x1 L10 Po σ
def CT_X1_findElectors (l : Launch) (Ω : Wm) : Prop := ∀ (x1 : Int32) (σ : Sg) (K : Sg → Prop), sp_X1_findElectors x1 σ K → Ct l yX1_findElectors cX1_findElectors 4 none 3 68 Ω [.ref (Ω.2.2.1 37), .int x1] σ (QV Ω K)
def f_X1_take_134 (x1 : Int32) (L36 : Int32 → Sg → Prop) (L89 : Int32 → Sg → Prop) (Po : Sg → Prop) (x2 : Int32) (σ : Sg) : Prop :=
  L89 (x2 + 1) σ
def f_X1_take_81 (x1 : Int32) (L36 : Int32 → Sg → Prop) (L89 : Int32 → Sg → Prop) (Po : Sg → Prop) (x2 : Int32) (σ : Sg) : Prop :=
  L36 (x2 + 1) σ
def f_X1_take_89 (x1 : Int32) (L36 : Int32 → Sg → Prop) (L89 : Int32 → Sg → Prop) (Po : Sg → Prop) (x2 : Int32) (σ : Sg) : Prop :=
  ((σ.1 37 6) ≤ x2 →
  vp_in (σ.1 37 6) 240 ∧
  Po (pI (pI σ 38 (σ.1 37 6).toNatClampNeg x1) 37 6 ((((pI σ 38 (σ.1 37 6).toNatClampNeg x1)).1 37 6) + 1))) ∧
  (¬ ((σ.1 37 6) ≤ x2) →
  vp_in x2 240 ∧
  vp_in (σ.1 38 x2.toNatClampNeg) 240 ∧
  vp_in x1 240 ∧
  ((σ.1 32 (σ.1 38 x2.toNatClampNeg).toNatClampNeg) ≤ (σ.1 32 x1.toNatClampNeg) →
  f_X1_take_134 x1 L36 L89 Po x2 σ) ∧
  (¬ ((σ.1 32 (σ.1 38 x2.toNatClampNeg).toNatClampNeg) ≤ (σ.1 32 x1.toNatClampNeg)) →
  vp_in x2 240 ∧
  sp_X1_castVote (σ.1 38 x2.toNatClampNeg) x1 σ (fun u23 =>
  f_X1_take_134 x1 L36 L89 Po x2 u23)))
def f_X1_take_36 (x1 : Int32) (L36 : Int32 → Sg → Prop) (L89 : Int32 → Sg → Prop) (Po : Sg → Prop) (x2 : Int32) (σ : Sg) : Prop :=
  ((σ.1 37 6) ≤ x2 →
  L89 0 σ) ∧
  (¬ ((σ.1 37 6) ≤ x2) →
  vp_in x2 240 ∧
  vp_in (σ.1 38 x2.toNatClampNeg) 240 ∧
  vp_in x1 240 ∧
  ((σ.1 32 x1.toNatClampNeg) ≤ (σ.1 32 (σ.1 38 x2.toNatClampNeg).toNatClampNeg) →
  f_X1_take_81 x1 L36 L89 Po x2 σ) ∧
  (¬ ((σ.1 32 x1.toNatClampNeg) ≤ (σ.1 32 (σ.1 38 x2.toNatClampNeg).toNatClampNeg)) →
  vp_in x2 240 ∧
  sp_X1_castVote x1 (σ.1 38 x2.toNatClampNeg) σ (fun u14 =>
  f_X1_take_81 x1 L36 L89 Po x2 u14)))
def f_X1_take_e (x1 : Int32) (L36 : Int32 → Sg → Prop) (L89 : Int32 → Sg → Prop) (Po : Sg → Prop) (σ : Sg) : Prop :=
  vp_in x1 240 ∧
  (¬ (σ.1 33 x1.toNatClampNeg) = 0 →
  sp_X1_findElectors x1 σ (fun u3 =>
  sp_X0_clearRow 41 960 x1 u3 (fun u5 =>
  sp_X0_clearRow 43 960 x1 u5 (fun u7 =>
  L36 0 u7)))) ∧
  ((σ.1 33 x1.toNatClampNeg) = 0 →
  Po σ)
def vc_X1_take (x1 : Int32) (σ : Sg) (Po : Sg → Prop) : Prop := ∀ L36 : Int32 → Sg → Prop, ∀ L89 : Int32 → Sg → Prop, (∀ (x2 : Int32) (σ : Sg), f_X1_take_36 x1 L36 L89 Po x2 σ → L36 x2 σ) → (∀ (x2 : Int32) (σ : Sg), f_X1_take_89 x1 L36 L89 Po x2 σ → L89 x2 σ) → f_X1_take_e x1 L36 L89 Po σ
def CT_X1_take (l : Launch) (Ω : Wm) : Prop := ∀ (x1 : Int32) (σ : Sg) (K : Sg → Prop), sp_X1_take x1 σ K → Ct l yX1_take cX1_take 3 none 4 94 Ω [.ref (Ω.2.2.1 37), .int x1] σ (QV Ω K)
