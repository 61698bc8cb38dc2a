def f_X4_start_e (Po : Sg → Prop) (σ : Sg) : Prop :=
  sp_J7_fill_53178 9 32 0 σ (fun u2 =>
  Po (pI u2 8 3 0))
def vc_X4_start (σ : Sg) (Po : Sg → Prop) : Prop := f_X4_start_e Po σ
def CT_X4_start (l : Launch) (Ω : Wm) : Prop := ∀ (σ : Sg) (K : Sg → Prop), sp_X4_start  σ K → Ct l yX4_start cX4_start 1 none 1 23 Ω [.ref (Ω.2.2.1 8)] σ (QV Ω K)
def f_X4_putOctet_e (x1 : Int32) (Po : Sg → Prop) (σ : Sg) : Prop :=
  vp_in (ishr (σ.1 8 3) 2) 32 ∧
  vp_in (ishr (σ.1 8 3) 2) 32 ∧
  Po (pI (pI σ 9 (ishr (σ.1 8 3) 2).toNatClampNeg ((σ.1 9 (ishr (σ.1 8 3) 2).toNatClampNeg) ||| (ishl (x1 &&& 255) (24 - (8 * ((σ.1 8 3) &&& 3)))))) 8 3 ((((pI σ 9 (ishr (σ.1 8 3) 2).toNatClampNeg ((σ.1 9 (ishr (σ.1 8 3) 2).toNatClampNeg) ||| (ishl (x1 &&& 255) (24 - (8 * ((σ.1 8 3) &&& 3))))))).1 8 3) + 1))
def vc_X4_putOctet (x1 : Int32) (σ : Sg) (Po : Sg → Prop) : Prop := f_X4_putOctet_e x1 Po σ
def CT_X4_putOctet (l : Launch) (Ω : Wm) : Prop := ∀ (x1 : Int32) (σ : Sg) (K : Sg → Prop), sp_X4_putOctet x1 σ K → Ct l yX4_putOctet cX4_putOctet 2 none 0 0 Ω [.ref (Ω.2.2.1 8), .int x1] σ (QV Ω K)
def f_X4_putInt_3 (x1 : Int32) (L3 : Int32 → Sg → Prop) (Po : Sg → Prop) (x2 : Int32) (σ : Sg) : Prop :=
  (x2 < 0 →
  Po σ) ∧
  (¬ (x2 < 0) →
  sp_X4_putOctet (iush x1 x2) σ (fun u2 =>
  L3 (x2 + (-8)) u2))
def f_X4_putInt_e (x1 : Int32) (L3 : Int32 → Sg → Prop) (Po : Sg → Prop) (σ : Sg) : Prop :=
  L3 24 σ
def vc_X4_putInt (x1 : Int32) (σ : Sg) (Po : Sg → Prop) : Prop := ∀ L3 : Int32 → Sg → Prop, (∀ (x2 : Int32) (σ : Sg), f_X4_putInt_3 x1 L3 Po x2 σ → L3 x2 σ) → f_X4_putInt_e x1 L3 Po σ
def CT_X4_putInt (l : Launch) (Ω : Wm) : Prop := ∀ (x1 : Int32) (σ : Sg) (K : Sg → Prop), sp_X4_putInt x1 σ K → Ct l yX4_putInt cX4_putInt 3 none 1 21 Ω [.ref (Ω.2.2.1 8), .int x1] σ (QV Ω K)
def f_X4_putLong_e (x1 : Int64) (Po : Sg → Prop) (σ : Sg) : Prop :=
  sp_X4_putInt ((lush x1 32).toInt32) σ (fun u2 =>
  sp_X4_putInt (x1.toInt32) u2 (fun u4 =>
  Po u4))
def vc_X4_putLong (x1 : Int64) (σ : Sg) (Po : Sg → Prop) : Prop := f_X4_putLong_e x1 Po σ
def sp_X4_putLong (x1 : Int64) (σ : Sg) (K : Sg → Prop) : Prop := vc_X4_putLong x1 σ K
def CT_X4_putLong (l : Launch) (Ω : Wm) : Prop := ∀ (x1 : Int64) (σ : Sg) (K : Sg → Prop), sp_X4_putLong x1 σ K → Ct l yX4_putLong cX4_putLong 3 none 2 43 Ω [.ref (Ω.2.2.1 8), .long x1] σ (QV Ω K)
def f_X4_turned_e (x0 : Int32) (x1 : Int32) (Po : Int32 → Sg → Prop) (σ : Sg) : Prop :=
  Po ((iush x0 x1) ||| (ishl x0 (32 - x1))) σ
def vc_X4_turned (x0 : Int32) (x1 : Int32) (σ : Sg) (Po : Int32 → Sg → Prop) : Prop := f_X4_turned_e x0 x1 Po σ
def sp_X4_turned (x0 : Int32) (x1 : Int32) (σ : Sg) (K : Int32 → Sg → Prop) : Prop := vc_X4_turned x0 x1 σ K
def CT_X4_turned (l : Launch) (Ω : Wm) : Prop := ∀ (x0 : Int32) (x1 : Int32) (σ : Sg) (K : Int32 → Sg → Prop), sp_X4_turned x0 x1 σ K → Ct l yX4_turned cX4_turned 2 (some .int) 0 0 Ω [.int x0, .int x1] σ (QI Ω K)
def f_X4_fillSchedule_18 (x1 : Int32) (L18 : Int32 → Sg → Prop) (Po : Sg → Prop) (x2 : Int32) (σ : Sg) : Prop :=
  (64 ≤ x2 →
  Po σ) ∧
  (¬ (64 ≤ x2) →
  vp_in (x2 - 15) 64 ∧
  vp_in (x2 - 2) 64 ∧
  sp_X4_turned (σ.1 10 (x2 - 15).toNatClampNeg) 7 σ (fun r8 u9 =>
  sp_X4_turned (σ.1 10 (x2 - 15).toNatClampNeg) 18 u9 (fun r10 u11 =>
  sp_X4_turned (σ.1 10 (x2 - 2).toNatClampNeg) 17 u11 (fun r12 u13 =>
  sp_X4_turned (σ.1 10 (x2 - 2).toNatClampNeg) 19 u13 (fun r14 u15 =>
  vp_in (x2 - 16) 64 ∧
  vp_in (x2 - 7) 64 ∧
  vp_in x2 64 ∧
  L18 (x2 + 1) (pI u15 10 x2.toNatClampNeg ((((u15.1 10 (x2 - 16).toNatClampNeg) + ((r8 ^^^ r10) ^^^ (iush (σ.1 10 (x2 - 15).toNatClampNeg) 3))) + (u15.1 10 (x2 - 7).toNatClampNeg)) + ((r12 ^^^ r14) ^^^ (iush (σ.1 10 (x2 - 2).toNatClampNeg) 10)))))))))
def f_X4_fillSchedule_e (x1 : Int32) (L18 : Int32 → Sg → Prop) (Po : Sg → Prop) (σ : Sg) : Prop :=
  nneg x1 ∧
  nneg 0 ∧
  nneg 16 ∧
  x1.toNatClampNeg + (16 : Int32).toNatClampNeg ≤ 32 ∧
  (0 : Int32).toNatClampNeg + (16 : Int32).toNatClampNeg ≤ 64 ∧
  L18 16 (pR σ 10 (va_cpy (σ.1 9) (σ.1 10) x1.toNatClampNeg (0 : Int32).toNatClampNeg (16 : Int32).toNatClampNeg))
def vc_X4_fillSchedule (x1 : Int32) (σ : Sg) (Po : Sg → Prop) : Prop := ∀ L18 : Int32 → Sg → Prop, (∀ (x2 : Int32) (σ : Sg), f_X4_fillSchedule_18 x1 L18 Po x2 σ → L18 x2 σ) → f_X4_fillSchedule_e x1 L18 Po σ
def CT_X4_fillSchedule (l : Launch) (Ω : Wm) : Prop := ∀ (x1 : Int32) (σ : Sg) (K : Sg → Prop), sp_X4_fillSchedule x1 σ K → Ct l yX4_fillSchedule cX4_fillSchedule 7 none 1 60 Ω [.ref (Ω.2.2.1 8), .int x1] σ (QV Ω K)
def f_X4_mixSchedule_66 (L66 : Int32 → Int32 → Int32 → Int32 → Int32 → Int32 → Int32 → Int32 → Int32 → Sg → Prop) (Po : Sg → Prop) (x1 : Int32) (x2 : Int32) (x3 : Int32) (x4 : Int32) (x5 : Int32) (x6 : Int32) (x7 : Int32) (x8 : Int32) (x9 : Int32) (σ : Sg) : Prop :=
  (64 ≤ x9 →
  vp_in 0 8 ∧
  vp_in 0 8 ∧
  vp_in 1 8 ∧
  vp_in 1 8 ∧
  vp_in 2 8 ∧
  vp_in 2 8 ∧
  vp_in 3 8 ∧
  vp_in 3 8 ∧
  vp_in 4 8 ∧
  vp_in 4 8 ∧
  vp_in 5 8 ∧
  vp_in 5 8 ∧
  vp_in 6 8 ∧
  vp_in 6 8 ∧
  vp_in 7 8 ∧
  vp_in 7 8 ∧
  Po (pI (pI (pI (pI (pI (pI (pI (pI σ 11 (0 : Int32).toNatClampNeg ((σ.1 11 (0 : Int32).toNatClampNeg) + x1)) 11 (1 : Int32).toNatClampNeg (((pI σ 11 (0 : Int32).toNatClampNeg ((σ.1 11 (0 : Int32).toNatClampNeg) + x1)).1 11 (1 : Int32).toNatClampNeg) + x2)) 11 (2 : Int32).toNatClampNeg (((pI (pI σ 11 (0 : Int32).toNatClampNeg ((σ.1 11 (0 : Int32).toNatClampNeg) + x1)) 11 (1 : Int32).toNatClampNeg (((pI σ 11 (0 : Int32).toNatClampNeg ((σ.1 11 (0 : Int32).toNatClampNeg) + x1)).1 11 (1 : Int32).toNatClampNeg) + x2)).1 11 (2 : Int32).toNatClampNeg) + x3)) 11 (3 : Int32).toNatClampNeg (((pI (pI (pI σ 11 (0 : Int32).toNatClampNeg ((σ.1 11 (0 : Int32).toNatClampNeg) + x1)) 11 (1 : Int32).toNatClampNeg (((pI σ 11 (0 : Int32).toNatClampNeg ((σ.1 11 (0 : Int32).toNatClampNeg) + x1)).1 11 (1 : Int32).toNatClampNeg) + x2)) 11 (2 : Int32).toNatClampNeg (((pI (pI σ 11 (0 : Int32).toNatClampNeg ((σ.1 11 (0 : Int32).toNatClampNeg) + x1)) 11 (1 : Int32).toNatClampNeg (((pI σ 11 (0 : Int32).toNatClampNeg ((σ.1 11 (0 : Int32).toNatClampNeg) + x1)).1 11 (1 : Int32).toNatClampNeg) + x2)).1 11 (2 : Int32).toNatClampNeg) + x3)).1 11 (3 : Int32).toNatClampNeg) + x4)) 11 (4 : Int32).toNatClampNeg (((pI (pI (pI (pI σ 11 (0 : Int32).toNatClampNeg ((σ.1 11 (0 : Int32).toNatClampNeg) + x1)) 11 (1 : Int32).toNatClampNeg (((pI σ 11 (0 : Int32).toNatClampNeg ((σ.1 11 (0 : Int32).toNatClampNeg) + x1)).1 11 (1 : Int32).toNatClampNeg) + x2)) 11 (2 : Int32).toNatClampNeg (((pI (pI σ 11 (0 : Int32).toNatClampNeg ((σ.1 11 (0 : Int32).toNatClampNeg) + x1)) 11 (1 : Int32).toNatClampNeg (((pI σ 11 (0 : Int32).toNatClampNeg ((σ.1 11 (0 : Int32).toNatClampNeg) + x1)).1 11 (1 : Int32).toNatClampNeg) + x2)).1 11 (2 : Int32).toNatClampNeg) + x3)) 11 (3 : Int32).toNatClampNeg (((pI (pI (pI σ 11 (0 : Int32).toNatClampNeg ((σ.1 11 (0 : Int32).toNatClampNeg) + x1)) 11 (1 : Int32).toNatClampNeg (((pI σ 11 (0 : Int32).toNatClampNeg ((σ.1 11 (0 : Int32).toNatClampNeg) + x1)).1 11 (1 : Int32).toNatClampNeg) + x2)) 11 (2 : Int32).toNatClampNeg (((pI (pI σ 11 (0 : Int32).toNatClampNeg ((σ.1 11 (0 : Int32).toNatClampNeg) + x1)) 11 (1 : Int32).toNatClampNeg (((pI σ 11 (0 : Int32).toNatClampNeg ((σ.1 11 (0 : Int32).toNatClampNeg) + x1)).1 11 (1 : Int32).toNatClampNeg) + x2)).1 11 (2 : Int32).toNatClampNeg) + x3)).1 11 (3 : Int32).toNatClampNeg) + x4)).1 11 (4 : Int32).toNatClampNeg) + x5)) 11 (5 : Int32).toNatClampNeg (((pI (pI (pI (pI (pI σ 11 (0 : Int32).toNatClampNeg ((σ.1 11 (0 : Int32).toNatClampNeg) + x1)) 11 (1 : Int32).toNatClampNeg (((pI σ 11 (0 : Int32).toNatClampNeg ((σ.1 11 (0 : Int32).toNatClampNeg) + x1)).1 11 (1 : Int32).toNatClampNeg) + x2)) 11 (2 : Int32).toNatClampNeg (((pI (pI σ 11 (0 : Int32).toNatClampNeg ((σ.1 11 (0 : Int32).toNatClampNeg) + x1)) 11 (1 : Int32).toNatClampNeg (((pI σ 11 (0 : Int32).toNatClampNeg ((σ.1 11 (0 : Int32).toNatClampNeg) + x1)).1 11 (1 : Int32).toNatClampNeg) + x2)).1 11 (2 : Int32).toNatClampNeg) + x3)) 11 (3 : Int32).toNatClampNeg (((pI (pI (pI σ 11 (0 : Int32).toNatClampNeg ((σ.1 11 (0 : Int32).toNatClampNeg) + x1)) 11 (1 : Int32).toNatClampNeg (((pI σ 11 (0 : Int32).toNatClampNeg ((σ.1 11 (0 : Int32).toNatClampNeg) + x1)).1 11 (1 : Int32).toNatClampNeg) + x2)) 11 (2 : Int32).toNatClampNeg (((pI (pI σ 11 (0 : Int32).toNatClampNeg ((σ.1 11 (0 : Int32).toNatClampNeg) + x1)) 11 (1 : Int32).toNatClampNeg (((pI σ 11 (0 : Int32).toNatClampNeg ((σ.1 11 (0 : Int32).toNatClampNeg) + x1)).1 11 (1 : Int32).toNatClampNeg) + x2)).1 11 (2 : Int32).toNatClampNeg) + x3)).1 11 (3 : Int32).toNatClampNeg) + x4)) 11 (4 : Int32).toNatClampNeg (((pI (pI (pI (pI σ 11 (0 : Int32).toNatClampNeg ((σ.1 11 (0 : Int32).toNatClampNeg) + x1)) 11 (1 : Int32).toNatClampNeg (((pI σ 11 (0 : Int32).toNatClampNeg ((σ.1 11 (0 : Int32).toNatClampNeg) + x1)).1 11 (1 : Int32).toNatClampNeg) + x2)) 11 (2 : Int32).toNatClampNeg (((pI (pI σ 11 (0 : Int32).toNatClampNeg ((σ.1 11 (0 : Int32).toNatClampNeg) + x1)) 11 (1 : Int32).toNatClampNeg (((pI σ 11 (0 : Int32).toNatClampNeg ((σ.1 11 (0 : Int32).toNatClampNeg) + x1)).1 11 (1 : Int32).toNatClampNeg) + x2)).1 11 (2 : Int32).toNatClampNeg) + x3)) 11 (3 : Int32).toNatClampNeg (((pI (pI (pI σ 11 (0 : Int32).toNatClampNeg ((σ.1 11 (0 : Int32).toNatClampNeg) + x1)) 11 (1 : Int32).toNatClampNeg (((pI σ 11 (0 : Int32).toNatClampNeg ((σ.1 11 (0 : Int32).toNatClampNeg) + x1)).1 11 (1 : Int32).toNatClampNeg) + x2)) 11 (2 : Int32).toNatClampNeg (((pI (pI σ 11 (0 : Int32).toNatClampNeg ((σ.1 11 (0 : Int32).toNatClampNeg) + x1)) 11 (1 : Int32).toNatClampNeg (((pI σ 11 (0 : Int32).toNatClampNeg ((σ.1 11 (0 : Int32).toNatClampNeg) + x1)).1 11 (1 : Int32).toNatClampNeg) + x2)).1 11 (2 : Int32).toNatClampNeg) + x3)).1 11 (3 : Int32).toNatClampNeg) + x4)).1 11 (4 : Int32).toNatClampNeg) + x5)).1 11 (5 : Int32).toNatClampNeg) + x6)) 11 (6 : Int32).toNatClampNeg (((pI (pI (pI (pI (pI (pI σ 11 (0 : Int32).toNatClampNeg ((σ.1 11 (0 : Int32).toNatClampNeg) + x1)) 11 (1 : Int32).toNatClampNeg (((pI σ 11 (0 : Int32).toNatClampNeg ((σ.1 11 (0 : Int32).toNatClampNeg) + x1)).1 11 (1 : Int32).toNatClampNeg) + x2)) 11 (2 : Int32).toNatClampNeg (((pI (pI σ 11 (0 : Int32).toNatClampNeg ((σ.1 11 (0 : Int32).toNatClampNeg) + x1)) 11 (1 : Int32).toNatClampNeg (((pI σ 11 (0 : Int32).toNatClampNeg ((σ.1 11 (0 : Int32).toNatClampNeg) + x1)).1 11 (1 : Int32).toNatClampNeg) + x2)).1 11 (2 : Int32).toNatClampNeg) + x3)) 11 (3 : Int32).toNatClampNeg (((pI (pI (pI σ 11 (0 : Int32).toNatClampNeg ((σ.1 11 (0 : Int32).toNatClampNeg) + x1)) 11 (1 : Int32).toNatClampNeg (((pI σ 11 (0 : Int32).toNatClampNeg ((σ.1 11 (0 : Int32).toNatClampNeg) + x1)).1 11 (1 : Int32).toNatClampNeg) + x2)) 11 (2 : Int32).toNatClampNeg (((pI (pI σ 11 (0 : Int32).toNatClampNeg ((σ.1 11 (0 : Int32).toNatClampNeg) + x1)) 11 (1 : Int32).toNatClampNeg (((pI σ 11 (0 : Int32).toNatClampNeg ((σ.1 11 (0 : Int32).toNatClampNeg) + x1)).1 11 (1 : Int32).toNatClampNeg) + x2)).1 11 (2 : Int32).toNatClampNeg) + x3)).1 11 (3 : Int32).toNatClampNeg) + x4)) 11 (4 : Int32).toNatClampNeg (((pI (pI (pI (pI σ 11 (0 : Int32).toNatClampNeg ((σ.1 11 (0 : Int32).toNatClampNeg) + x1)) 11 (1 : Int32).toNatClampNeg (((pI σ 11 (0 : Int32).toNatClampNeg ((σ.1 11 (0 : Int32).toNatClampNeg) + x1)).1 11 (1 : Int32).toNatClampNeg) + x2)) 11 (2 : Int32).toNatClampNeg (((pI (pI σ 11 (0 : Int32).toNatClampNeg ((σ.1 11 (0 : Int32).toNatClampNeg) + x1)) 11 (1 : Int32).toNatClampNeg (((pI σ 11 (0 : Int32).toNatClampNeg ((σ.1 11 (0 : Int32).toNatClampNeg) + x1)).1 11 (1 : Int32).toNatClampNeg) + x2)).1 11 (2 : Int32).toNatClampNeg) + x3)) 11 (3 : Int32).toNatClampNeg (((pI (pI (pI σ 11 (0 : Int32).toNatClampNeg ((σ.1 11 (0 : Int32).toNatClampNeg) + x1)) 11 (1 : Int32).toNatClampNeg (((pI σ 11 (0 : Int32).toNatClampNeg ((σ.1 11 (0 : Int32).toNatClampNeg) + x1)).1 11 (1 : Int32).toNatClampNeg) + x2)) 11 (2 : Int32).toNatClampNeg (((pI (pI σ 11 (0 : Int32).toNatClampNeg ((σ.1 11 (0 : Int32).toNatClampNeg) + x1)) 11 (1 : Int32).toNatClampNeg (((pI σ 11 (0 : Int32).toNatClampNeg ((σ.1 11 (0 : Int32).toNatClampNeg) + x1)).1 11 (1 : Int32).toNatClampNeg) + x2)).1 11 (2 : Int32).toNatClampNeg) + x3)).1 11 (3 : Int32).toNatClampNeg) + x4)).1 11 (4 : Int32).toNatClampNeg) + x5)) 11 (5 : Int32).toNatClampNeg (((pI (pI (pI (pI (pI σ 11 (0 : Int32).toNatClampNeg ((σ.1 11 (0 : Int32).toNatClampNeg) + x1)) 11 (1 : Int32).toNatClampNeg (((pI σ 11 (0 : Int32).toNatClampNeg ((σ.1 11 (0 : Int32).toNatClampNeg) + x1)).1 11 (1 : Int32).toNatClampNeg) + x2)) 11 (2 : Int32).toNatClampNeg (((pI (pI σ 11 (0 : Int32).toNatClampNeg ((σ.1 11 (0 : Int32).toNatClampNeg) + x1)) 11 (1 : Int32).toNatClampNeg (((pI σ 11 (0 : Int32).toNatClampNeg ((σ.1 11 (0 : Int32).toNatClampNeg) + x1)).1 11 (1 : Int32).toNatClampNeg) + x2)).1 11 (2 : Int32).toNatClampNeg) + x3)) 11 (3 : Int32).toNatClampNeg (((pI (pI (pI σ 11 (0 : Int32).toNatClampNeg ((σ.1 11 (0 : Int32).toNatClampNeg) + x1)) 11 (1 : Int32).toNatClampNeg (((pI σ 11 (0 : Int32).toNatClampNeg ((σ.1 11 (0 : Int32).toNatClampNeg) + x1)).1 11 (1 : Int32).toNatClampNeg) + x2)) 11 (2 : Int32).toNatClampNeg (((pI (pI σ 11 (0 : Int32).toNatClampNeg ((σ.1 11 (0 : Int32).toNatClampNeg) + x1)) 11 (1 : Int32).toNatClampNeg (((pI σ 11 (0 : Int32).toNatClampNeg ((σ.1 11 (0 : Int32).toNatClampNeg) + x1)).1 11 (1 : Int32).toNatClampNeg) + x2)).1 11 (2 : Int32).toNatClampNeg) + x3)).1 11 (3 : Int32).toNatClampNeg) + x4)) 11 (4 : Int32).toNatClampNeg (((pI (pI (pI (pI σ 11 (0 : Int32).toNatClampNeg ((σ.1 11 (0 : Int32).toNatClampNeg) + x1)) 11 (1 : Int32).toNatClampNeg (((pI σ 11 (0 : Int32).toNatClampNeg ((σ.1 11 (0 : Int32).toNatClampNeg) + x1)).1 11 (1 : Int32).toNatClampNeg) + x2)) 11 (2 : Int32).toNatClampNeg (((pI (pI σ 11 (0 : Int32).toNatClampNeg ((σ.1 11 (0 : Int32).toNatClampNeg) + x1)) 11 (1 : Int32).toNatClampNeg (((pI σ 11 (0 : Int32).toNatClampNeg ((σ.1 11 (0 : Int32).toNatClampNeg) + x1)).1 11 (1 : Int32).toNatClampNeg) + x2)).1 11 (2 : Int32).toNatClampNeg) + x3)) 11 (3 : Int32).toNatClampNeg (((pI (pI (pI σ 11 (0 : Int32).toNatClampNeg ((σ.1 11 (0 : Int32).toNatClampNeg) + x1)) 11 (1 : Int32).toNatClampNeg (((pI σ 11 (0 : Int32).toNatClampNeg ((σ.1 11 (0 : Int32).toNatClampNeg) + x1)).1 11 (1 : Int32).toNatClampNeg) + x2)) 11 (2 : Int32).toNatClampNeg (((pI (pI σ 11 (0 : Int32).toNatClampNeg ((σ.1 11 (0 : Int32).toNatClampNeg) + x1)) 11 (1 : Int32).toNatClampNeg (((pI σ 11 (0 : Int32).toNatClampNeg ((σ.1 11 (0 : Int32).toNatClampNeg) + x1)).1 11 (1 : Int32).toNatClampNeg) + x2)).1 11 (2 : Int32).toNatClampNeg) + x3)).1 11 (3 : Int32).toNatClampNeg) + x4)).1 11 (4 : Int32).toNatClampNeg) + x5)).1 11 (5 : Int32).toNatClampNeg) + x6)).1 11 (6 : Int32).toNatClampNeg) + x7)) 11 (7 : Int32).toNatClampNeg (((pI (pI (pI (pI (pI (pI (pI σ 11 (0 : Int32).toNatClampNeg ((σ.1 11 (0 : Int32).toNatClampNeg) + x1)) 11 (1 : Int32).toNatClampNeg (((pI σ 11 (0 : Int32).toNatClampNeg ((σ.1 11 (0 : Int32).toNatClampNeg) + x1)).1 11 (1 : Int32).toNatClampNeg) + x2)) 11 (2 : Int32).toNatClampNeg (((pI (pI σ 11 (0 : Int32).toNatClampNeg ((σ.1 11 (0 : Int32).toNatClampNeg) + x1)) 11 (1 : Int32).toNatClampNeg (((pI σ 11 (0 : Int32).toNatClampNeg ((σ.1 11 (0 : Int32).toNatClampNeg) + x1)).1 11 (1 : Int32).toNatClampNeg) + x2)).1 11 (2 : Int32).toNatClampNeg) + x3)) 11 (3 : Int32).toNatClampNeg (((pI (pI (pI σ 11 (0 : Int32).toNatClampNeg ((σ.1 11 (0 : Int32).toNatClampNeg) + x1)) 11 (1 : Int32).toNatClampNeg (((pI σ 11 (0 : Int32).toNatClampNeg ((σ.1 11 (0 : Int32).toNatClampNeg) + x1)).1 11 (1 : Int32).toNatClampNeg) + x2)) 11 (2 : Int32).toNatClampNeg (((pI (pI σ 11 (0 : Int32).toNatClampNeg ((σ.1 11 (0 : Int32).toNatClampNeg) + x1)) 11 (1 : Int32).toNatClampNeg (((pI σ 11 (0 : Int32).toNatClampNeg ((σ.1 11 (0 : Int32).toNatClampNeg) + x1)).1 11 (1 : Int32).toNatClampNeg) + x2)).1 11 (2 : Int32).toNatClampNeg) + x3)).1 11 (3 : Int32).toNatClampNeg) + x4)) 11 (4 : Int32).toNatClampNeg (((pI (pI (pI (pI σ 11 (0 : Int32).toNatClampNeg ((σ.1 11 (0 : Int32).toNatClampNeg) + x1)) 11 (1 : Int32).toNatClampNeg (((pI σ 11 (0 : Int32).toNatClampNeg ((σ.1 11 (0 : Int32).toNatClampNeg) + x1)).1 11 (1 : Int32).toNatClampNeg) + x2)) 11 (2 : Int32).toNatClampNeg (((pI (pI σ 11 (0 : Int32).toNatClampNeg ((σ.1 11 (0 : Int32).toNatClampNeg) + x1)) 11 (1 : Int32).toNatClampNeg (((pI σ 11 (0 : Int32).toNatClampNeg ((σ.1 11 (0 : Int32).toNatClampNeg) + x1)).1 11 (1 : Int32).toNatClampNeg) + x2)).1 11 (2 : Int32).toNatClampNeg) + x3)) 11 (3 : Int32).toNatClampNeg (((pI (pI (pI σ 11 (0 : Int32).toNatClampNeg ((σ.1 11 (0 : Int32).toNatClampNeg) + x1)) 11 (1 : Int32).toNatClampNeg (((pI σ 11 (0 : Int32).toNatClampNeg ((σ.1 11 (0 : Int32).toNatClampNeg) + x1)).1 11 (1 : Int32).toNatClampNeg) + x2)) 11 (2 : Int32).toNatClampNeg (((pI (pI σ 11 (0 : Int32).toNatClampNeg ((σ.1 11 (0 : Int32).toNatClampNeg) + x1)) 11 (1 : Int32).toNatClampNeg (((pI σ 11 (0 : Int32).toNatClampNeg ((σ.1 11 (0 : Int32).toNatClampNeg) + x1)).1 11 (1 : Int32).toNatClampNeg) + x2)).1 11 (2 : Int32).toNatClampNeg) + x3)).1 11 (3 : Int32).toNatClampNeg) + x4)).1 11 (4 : Int32).toNatClampNeg) + x5)) 11 (5 : Int32).toNatClampNeg (((pI (pI (pI (pI (pI σ 11 (0 : Int32).toNatClampNeg ((σ.1 11 (0 : Int32).toNatClampNeg) + x1)) 11 (1 : Int32).toNatClampNeg (((pI σ 11 (0 : Int32).toNatClampNeg ((σ.1 11 (0 : Int32).toNatClampNeg) + x1)).1 11 (1 : Int32).toNatClampNeg) + x2)) 11 (2 : Int32).toNatClampNeg (((pI (pI σ 11 (0 : Int32).toNatClampNeg ((σ.1 11 (0 : Int32).toNatClampNeg) + x1)) 11 (1 : Int32).toNatClampNeg (((pI σ 11 (0 : Int32).toNatClampNeg ((σ.1 11 (0 : Int32).toNatClampNeg) + x1)).1 11 (1 : Int32).toNatClampNeg) + x2)).1 11 (2 : Int32).toNatClampNeg) + x3)) 11 (3 : Int32).toNatClampNeg (((pI (pI (pI σ 11 (0 : Int32).toNatClampNeg ((σ.1 11 (0 : Int32).toNatClampNeg) + x1)) 11 (1 : Int32).toNatClampNeg (((pI σ 11 (0 : Int32).toNatClampNeg ((σ.1 11 (0 : Int32).toNatClampNeg) + x1)).1 11 (1 : Int32).toNatClampNeg) + x2)) 11 (2 : Int32).toNatClampNeg (((pI (pI σ 11 (0 : Int32).toNatClampNeg ((σ.1 11 (0 : Int32).toNatClampNeg) + x1)) 11 (1 : Int32).toNatClampNeg (((pI σ 11 (0 : Int32).toNatClampNeg ((σ.1 11 (0 : Int32).toNatClampNeg) + x1)).1 11 (1 : Int32).toNatClampNeg) + x2)).1 11 (2 : Int32).toNatClampNeg) + x3)).1 11 (3 : Int32).toNatClampNeg) + x4)) 11 (4 : Int32).toNatClampNeg (((pI (pI (pI (pI σ 11 (0 : Int32).toNatClampNeg ((σ.1 11 (0 : Int32).toNatClampNeg) + x1)) 11 (1 : Int32).toNatClampNeg (((pI σ 11 (0 : Int32).toNatClampNeg ((σ.1 11 (0 : Int32).toNatClampNeg) + x1)).1 11 (1 : Int32).toNatClampNeg) + x2)) 11 (2 : Int32).toNatClampNeg (((pI (pI σ 11 (0 : Int32).toNatClampNeg ((σ.1 11 (0 : Int32).toNatClampNeg) + x1)) 11 (1 : Int32).toNatClampNeg (((pI σ 11 (0 : Int32).toNatClampNeg ((σ.1 11 (0 : Int32).toNatClampNeg) + x1)).1 11 (1 : Int32).toNatClampNeg) + x2)).1 11 (2 : Int32).toNatClampNeg) + x3)) 11 (3 : Int32).toNatClampNeg (((pI (pI (pI σ 11 (0 : Int32).toNatClampNeg ((σ.1 11 (0 : Int32).toNatClampNeg) + x1)) 11 (1 : Int32).toNatClampNeg (((pI σ 11 (0 : Int32).toNatClampNeg ((σ.1 11 (0 : Int32).toNatClampNeg) + x1)).1 11 (1 : Int32).toNatClampNeg) + x2)) 11 (2 : Int32).toNatClampNeg (((pI (pI σ 11 (0 : Int32).toNatClampNeg ((σ.1 11 (0 : Int32).toNatClampNeg) + x1)) 11 (1 : Int32).toNatClampNeg (((pI σ 11 (0 : Int32).toNatClampNeg ((σ.1 11 (0 : Int32).toNatClampNeg) + x1)).1 11 (1 : Int32).toNatClampNeg) + x2)).1 11 (2 : Int32).toNatClampNeg) + x3)).1 11 (3 : Int32).toNatClampNeg) + x4)).1 11 (4 : Int32).toNatClampNeg) + x5)).1 11 (5 : Int32).toNatClampNeg) + x6)) 11 (6 : Int32).toNatClampNeg (((pI (pI (pI (pI (pI (pI σ 11 (0 : Int32).toNatClampNeg ((σ.1 11 (0 : Int32).toNatClampNeg) + x1)) 11 (1 : Int32).toNatClampNeg (((pI σ 11 (0 : Int32).toNatClampNeg ((σ.1 11 (0 : Int32).toNatClampNeg) + x1)).1 11 (1 : Int32).toNatClampNeg) + x2)) 11 (2 : Int32).toNatClampNeg (((pI (pI σ 11 (0 : Int32).toNatClampNeg ((σ.1 11 (0 : Int32).toNatClampNeg) + x1)) 11 (1 : Int32).toNatClampNeg (((pI σ 11 (0 : Int32).toNatClampNeg ((σ.1 11 (0 : Int32).toNatClampNeg) + x1)).1 11 (1 : Int32).toNatClampNeg) + x2)).1 11 (2 : Int32).toNatClampNeg) + x3)) 11 (3 : Int32).toNatClampNeg (((pI (pI (pI σ 11 (0 : Int32).toNatClampNeg ((σ.1 11 (0 : Int32).toNatClampNeg) + x1)) 11 (1 : Int32).toNatClampNeg (((pI σ 11 (0 : Int32).toNatClampNeg ((σ.1 11 (0 : Int32).toNatClampNeg) + x1)).1 11 (1 : Int32).toNatClampNeg) + x2)) 11 (2 : Int32).toNatClampNeg (((pI (pI σ 11 (0 : Int32).toNatClampNeg ((σ.1 11 (0 : Int32).toNatClampNeg) + x1)) 11 (1 : Int32).toNatClampNeg (((pI σ 11 (0 : Int32).toNatClampNeg ((σ.1 11 (0 : Int32).toNatClampNeg) + x1)).1 11 (1 : Int32).toNatClampNeg) + x2)).1 11 (2 : Int32).toNatClampNeg) + x3)).1 11 (3 : Int32).toNatClampNeg) + x4)) 11 (4 : Int32).toNatClampNeg (((pI (pI (pI (pI σ 11 (0 : Int32).toNatClampNeg ((σ.1 11 (0 : Int32).toNatClampNeg) + x1)) 11 (1 : Int32).toNatClampNeg (((pI σ 11 (0 : Int32).toNatClampNeg ((σ.1 11 (0 : Int32).toNatClampNeg) + x1)).1 11 (1 : Int32).toNatClampNeg) + x2)) 11 (2 : Int32).toNatClampNeg (((pI (pI σ 11 (0 : Int32).toNatClampNeg ((σ.1 11 (0 : Int32).toNatClampNeg) + x1)) 11 (1 : Int32).toNatClampNeg (((pI σ 11 (0 : Int32).toNatClampNeg ((σ.1 11 (0 : Int32).toNatClampNeg) + x1)).1 11 (1 : Int32).toNatClampNeg) + x2)).1 11 (2 : Int32).toNatClampNeg) + x3)) 11 (3 : Int32).toNatClampNeg (((pI (pI (pI σ 11 (0 : Int32).toNatClampNeg ((σ.1 11 (0 : Int32).toNatClampNeg) + x1)) 11 (1 : Int32).toNatClampNeg (((pI σ 11 (0 : Int32).toNatClampNeg ((σ.1 11 (0 : Int32).toNatClampNeg) + x1)).1 11 (1 : Int32).toNatClampNeg) + x2)) 11 (2 : Int32).toNatClampNeg (((pI (pI σ 11 (0 : Int32).toNatClampNeg ((σ.1 11 (0 : Int32).toNatClampNeg) + x1)) 11 (1 : Int32).toNatClampNeg (((pI σ 11 (0 : Int32).toNatClampNeg ((σ.1 11 (0 : Int32).toNatClampNeg) + x1)).1 11 (1 : Int32).toNatClampNeg) + x2)).1 11 (2 : Int32).toNatClampNeg) + x3)).1 11 (3 : Int32).toNatClampNeg) + x4)).1 11 (4 : Int32).toNatClampNeg) + x5)) 11 (5 : Int32).toNatClampNeg (((pI (pI (pI (pI (pI σ 11 (0 : Int32).toNatClampNeg ((σ.1 11 (0 : Int32).toNatClampNeg) + x1)) 11 (1 : Int32).toNatClampNeg (((pI σ 11 (0 : Int32).toNatClampNeg ((σ.1 11 (0 : Int32).toNatClampNeg) + x1)).1 11 (1 : Int32).toNatClampNeg) + x2)) 11 (2 : Int32).toNatClampNeg (((pI (pI σ 11 (0 : Int32).toNatClampNeg ((σ.1 11 (0 : Int32).toNatClampNeg) + x1)) 11 (1 : Int32).toNatClampNeg (((pI σ 11 (0 : Int32).toNatClampNeg ((σ.1 11 (0 : Int32).toNatClampNeg) + x1)).1 11 (1 : Int32).toNatClampNeg) + x2)).1 11 (2 : Int32).toNatClampNeg) + x3)) 11 (3 : Int32).toNatClampNeg (((pI (pI (pI σ 11 (0 : Int32).toNatClampNeg ((σ.1 11 (0 : Int32).toNatClampNeg) + x1)) 11 (1 : Int32).toNatClampNeg (((pI σ 11 (0 : Int32).toNatClampNeg ((σ.1 11 (0 : Int32).toNatClampNeg) + x1)).1 11 (1 : Int32).toNatClampNeg) + x2)) 11 (2 : Int32).toNatClampNeg (((pI (pI σ 11 (0 : Int32).toNatClampNeg ((σ.1 11 (0 : Int32).toNatClampNeg) + x1)) 11 (1 : Int32).toNatClampNeg (((pI σ 11 (0 : Int32).toNatClampNeg ((σ.1 11 (0 : Int32).toNatClampNeg) + x1)).1 11 (1 : Int32).toNatClampNeg) + x2)).1 11 (2 : Int32).toNatClampNeg) + x3)).1 11 (3 : Int32).toNatClampNeg) + x4)) 11 (4 : Int32).toNatClampNeg (((pI (pI (pI (pI σ 11 (0 : Int32).toNatClampNeg ((σ.1 11 (0 : Int32).toNatClampNeg) + x1)) 11 (1 : Int32).toNatClampNeg (((pI σ 11 (0 : Int32).toNatClampNeg ((σ.1 11 (0 : Int32).toNatClampNeg) + x1)).1 11 (1 : Int32).toNatClampNeg) + x2)) 11 (2 : Int32).toNatClampNeg (((pI (pI σ 11 (0 : Int32).toNatClampNeg ((σ.1 11 (0 : Int32).toNatClampNeg) + x1)) 11 (1 : Int32).toNatClampNeg (((pI σ 11 (0 : Int32).toNatClampNeg ((σ.1 11 (0 : Int32).toNatClampNeg) + x1)).1 11 (1 : Int32).toNatClampNeg) + x2)).1 11 (2 : Int32).toNatClampNeg) + x3)) 11 (3 : Int32).toNatClampNeg (((pI (pI (pI σ 11 (0 : Int32).toNatClampNeg ((σ.1 11 (0 : Int32).toNatClampNeg) + x1)) 11 (1 : Int32).toNatClampNeg (((pI σ 11 (0 : Int32).toNatClampNeg ((σ.1 11 (0 : Int32).toNatClampNeg) + x1)).1 11 (1 : Int32).toNatClampNeg) + x2)) 11 (2 : Int32).toNatClampNeg (((pI (pI σ 11 (0 : Int32).toNatClampNeg ((σ.1 11 (0 : Int32).toNatClampNeg) + x1)) 11 (1 : Int32).toNatClampNeg (((pI σ 11 (0 : Int32).toNatClampNeg ((σ.1 11 (0 : Int32).toNatClampNeg) + x1)).1 11 (1 : Int32).toNatClampNeg) + x2)).1 11 (2 : Int32).toNatClampNeg) + x3)).1 11 (3 : Int32).toNatClampNeg) + x4)).1 11 (4 : Int32).toNatClampNeg) + x5)).1 11 (5 : Int32).toNatClampNeg) + x6)).1 11 (6 : Int32).toNatClampNeg) + x7)).1 11 (7 : Int32).toNatClampNeg) + x8))) ∧
  (¬ (64 ≤ x9) →
  sp_X4_turned x5 6 σ (fun r25 u26 =>
  sp_X4_turned x5 11 u26 (fun r27 u28 =>
  sp_X4_turned x5 25 u28 (fun r29 u30 =>
  vp_in x9 64 ∧
  vp_in x9 64 ∧
  sp_X4_turned x1 2 u30 (fun r34 u35 =>
  sp_X4_turned x1 13 u35 (fun r36 u37 =>
  sp_X4_turned x1 22 u37 (fun r38 u39 =>
  L66 ((((((x8 + ((r25 ^^^ r27) ^^^ r29)) + ((x5 &&& x6) ^^^ ((x5 ^^^ (-1)) &&& x7))) + (K64 x9.toNatClampNeg)) + (u30.1 10 x9.toNatClampNeg)) + ((r34 ^^^ r36) ^^^ r38)) + (((x1 &&& x2) ^^^ (x1 &&& x3)) ^^^ (x2 &&& x3))) x1 x2 x3 (x4 + ((((x8 + ((r25 ^^^ r27) ^^^ r29)) + ((x5 &&& x6) ^^^ ((x5 ^^^ (-1)) &&& x7))) + (K64 x9.toNatClampNeg)) + (u30.1 10 x9.toNatClampNeg))) x5 x6 x7 (x9 + 1) u39)))))))
def f_X4_mixSchedule_e (L66 : Int32 → Int32 → Int32 → Int32 → Int32 → Int32 → Int32 → Int32 → Int32 → Sg → Prop) (Po : Sg → Prop) (σ : Sg) : Prop :=
  vp_in 0 8 ∧
  vp_in 1 8 ∧
  vp_in 2 8 ∧
  vp_in 3 8 ∧
  vp_in 4 8 ∧
  vp_in 5 8 ∧
  vp_in 6 8 ∧
  vp_in 7 8 ∧
  L66 (σ.1 11 (0 : Int32).toNatClampNeg) (σ.1 11 (1 : Int32).toNatClampNeg) (σ.1 11 (2 : Int32).toNatClampNeg) (σ.1 11 (3 : Int32).toNatClampNeg) (σ.1 11 (4 : Int32).toNatClampNeg) (σ.1 11 (5 : Int32).toNatClampNeg) (σ.1 11 (6 : Int32).toNatClampNeg) (σ.1 11 (7 : Int32).toNatClampNeg) 0 σ
def vc_X4_mixSchedule (σ : Sg) (Po : Sg → Prop) : Prop := ∀ L66 : Int32 → Int32 → Int32 → Int32 → Int32 → Int32 → Int32 → Int32 → Int32 → Sg → Prop, (∀ (x1 : Int32) (x2 : Int32) (x3 : Int32) (x4 : Int32) (x5 : Int32) (x6 : Int32) (x7 : Int32) (x8 : Int32) (x9 : Int32) (σ : Sg), f_X4_mixSchedule_66 L66 Po x1 x2 x3 x4 x5 x6 x7 x8 x9 σ → L66 x1 x2 x3 x4 x5 x6 x7 x8 x9 σ) → f_X4_mixSchedule_e L66 Po σ
def CT_X4_mixSchedule (l : Launch) (Ω : Wm) : Prop := ∀ (σ : Sg) (K : Sg → Prop), sp_X4_mixSchedule  σ K → Ct l yX4_mixSchedule cX4_mixSchedule 15 none 1 21 Ω [.ref (Ω.2.2.1 8)] σ (QV Ω K)
def f_X4_finishInto_e (x2 : Int32) (Po : Sg → Prop) (σ : Sg) : Prop :=
  sp_X4_putOctet 128 σ (fun u2 =>
  vp_in 31 32 ∧
  nneg 0 ∧
  nneg 0 ∧
  nneg 8 ∧
  (0 : Int32).toNatClampNeg + (8 : Int32).toNatClampNeg ≤ 8 ∧
  (0 : Int32).toNatClampNeg + (8 : Int32).toNatClampNeg ≤ 8 ∧
  sp_X4_fillSchedule 0 (pR (pI u2 9 (31 : Int32).toNatClampNeg (8 * (σ.1 8 3))) 11 (va_cpy H8 ((pI u2 9 (31 : Int32).toNatClampNeg (8 * (σ.1 8 3))).1 11) (0 : Int32).toNatClampNeg (0 : Int32).toNatClampNeg (8 : Int32).toNatClampNeg)) (fun u11 =>
  sp_X4_mixSchedule u11 (fun u13 =>
  sp_X4_fillSchedule 16 u13 (fun u15 =>
  sp_X4_mixSchedule u15 (fun u17 =>
  nneg 0 ∧
  nneg x2 ∧
  nneg 8 ∧
  (0 : Int32).toNatClampNeg + (8 : Int32).toNatClampNeg ≤ 8 ∧
  x2.toNatClampNeg + (8 : Int32).toNatClampNeg ≤ 1920 ∧
  Po (pR u17 19 (va_cpy (u17.1 11) (u17.1 19) (0 : Int32).toNatClampNeg x2.toNatClampNeg (8 : Int32).toNatClampNeg)))))))
def vc_X4_finishInto (x2 : Int32) (σ : Sg) (Po : Sg → Prop) : Prop := f_X4_finishInto_e x2 Po σ
def CT_X4_finishInto (l : Launch) (Ω : Wm) : Prop := ∀ (x2 : Int32) (σ : Sg) (K : Sg → Prop), sp_X4_finishInto x2 σ K → Ct l yX4_finishInto cX4_finishInto 4 none 2 86 Ω [.ref (Ω.2.2.1 8), .ref (Ω.2.2.1 19), .int x2] σ (QV Ω K)
def f_X6_clear_e (Po : Sg → Prop) (σ : Sg) : Prop :=
  sp_J7_fill_53178 6 8 0 σ (fun u2 =>
  Po u2)
def vc_X6_clear (σ : Sg) (Po : Sg → Prop) : Prop := f_X6_clear_e Po σ
def sp_X6_clear (σ : Sg) (K : Sg → Prop) : Prop := vc_X6_clear  σ K
def CT_X6_clear (l : Launch) (Ω : Wm) : Prop := ∀ (σ : Sg) (K : Sg → Prop), sp_X6_clear  σ K → Ct l yX6_clear cX6_clear 1 none 1 23 Ω [.ref (Ω.2.2.1 3)] σ (QV Ω K)
def f_X6_isFull_16 (x1 : Int32) (Po : Int32 → Sg → Prop) (s0 : Int32) (σ : Sg) : Prop :=
  isZ s0 ∧
  Po s0 σ
def f_X6_isFull_e (x1 : Int32) (Po : Int32 → Sg → Prop) (σ : Sg) : Prop :=
  vp_in x1 8 ∧
  (¬ (σ.1 6 x1.toNatClampNeg) = 8 →
  f_X6_isFull_16 x1 Po 0 σ) ∧
  ((σ.1 6 x1.toNatClampNeg) = 8 →
  f_X6_isFull_16 x1 Po 1 σ)
def vc_X6_isFull (x1 : Int32) (σ : Sg) (Po : Int32 → Sg → Prop) : Prop := f_X6_isFull_e x1 Po σ
def sp_X6_isFull (x1 : Int32) (σ : Sg) (K : Int32 → Sg → Prop) : Prop := vc_X6_isFull x1 σ K
def CT_X6_isFull (l : Launch) (Ω : Wm) : Prop := ∀ (x1 : Int32) (σ : Sg) (K : Int32 → Sg → Prop), sp_X6_isFull x1 σ K → Ct l yX6_isFull cX6_isFull 2 (some .boolean) 0 0 Ω [.ref (Ω.2.2.1 3), .int x1] σ (QI Ω K)
def f_X6_join_e (x1 : Int32) (x2 : Int32) (x3 : Int32) (Po : Sg → Prop) (σ : Sg) : Prop :=
  vp_in x1 8 ∧
  vp_in ((x1 * 8) + (σ.1 6 x1.toNatClampNeg)) 64 ∧
  vp_in ((x1 * 8) + (σ.1 6 x1.toNatClampNeg)) 64 ∧
  vp_in x1 8 ∧
  vp_in x1 8 ∧
  Po (pI (pI (pI σ 4 ((x1 * 8) + (σ.1 6 x1.toNatClampNeg)).toNatClampNeg x2) 5 ((x1 * 8) + (σ.1 6 x1.toNatClampNeg)).toNatClampNeg x3) 6 x1.toNatClampNeg (((pI (pI σ 4 ((x1 * 8) + (σ.1 6 x1.toNatClampNeg)).toNatClampNeg x2) 5 ((x1 * 8) + (σ.1 6 x1.toNatClampNeg)).toNatClampNeg x3).1 6 x1.toNatClampNeg) + 1))
def vc_X6_join (x1 : Int32) (x2 : Int32) (x3 : Int32) (σ : Sg) (Po : Sg → Prop) : Prop := f_X6_join_e x1 x2 x3 Po σ
def sp_X6_join (x1 : Int32) (x2 : Int32) (x3 : Int32) (σ : Sg) (K : Sg → Prop) : Prop := vc_X6_join x1 x2 x3 σ K
def CT_X6_join (l : Launch) (Ω : Wm) : Prop := ∀ (x1 : Int32) (x2 : Int32) (x3 : Int32) (σ : Sg) (K : Sg → Prop), sp_X6_join x1 x2 x3 σ K → Ct l yX6_join cX6_join 5 none 0 0 Ω [.ref (Ω.2.2.1 3), .int x1, .int x2, .int x3] σ (QV Ω K)
def f_X6_firstTo_e (x1 : Int32) (Po : Int32 → Sg → Prop) (σ : Sg) : Prop :=
  vp_in (x1 * 8) 64 ∧
  Po (σ.1 4 (x1 * 8).toNatClampNeg) σ
def vc_X6_firstTo (x1 : Int32) (σ : Sg) (Po : Int32 → Sg → Prop) : Prop := f_X6_firstTo_e x1 Po σ
def sp_X6_firstTo (x1 : Int32) (σ : Sg) (K : Int32 → Sg → Prop) : Prop := vc_X6_firstTo x1 σ K
def CT_X6_firstTo (l : Launch) (Ω : Wm) : Prop := ∀ (x1 : Int32) (σ : Sg) (K : Int32 → Sg → Prop), sp_X6_firstTo x1 σ K → Ct l yX6_firstTo cX6_firstTo 2 (some .int) 0 0 Ω [.ref (Ω.2.2.1 3), .int x1] σ (QI Ω K)
def f_X6_firstAmount_e (x1 : Int32) (Po : Int32 → Sg → Prop) (σ : Sg) : Prop :=
  vp_in (x1 * 8) 64 ∧
  Po (σ.1 5 (x1 * 8).toNatClampNeg) σ
def vc_X6_firstAmount (x1 : Int32) (σ : Sg) (Po : Int32 → Sg → Prop) : Prop := f_X6_firstAmount_e x1 Po σ
def sp_X6_firstAmount (x1 : Int32) (σ : Sg) (K : Int32 → Sg → Prop) : Prop := vc_X6_firstAmount x1 σ K
def CT_X6_firstAmount (l : Launch) (Ω : Wm) : Prop := ∀ (x1 : Int32) (σ : Sg) (K : Int32 → Sg → Prop), sp_X6_firstAmount x1 σ K → Ct l yX6_firstAmount cX6_firstAmount 2 (some .int) 0 0 Ω [.ref (Ω.2.2.1 3), .int x1] σ (QI Ω K)
def f_X6_dropFirst_e (x1 : Int32) (Po : Sg → Prop) (σ : Sg) : Prop :=
  vp_in x1 8 ∧
  vp_in x1 8 ∧
  vp_in x1 8 ∧
  nneg ((x1 * 8) + 1) ∧
  nneg (x1 * 8) ∧
  nneg ((pI σ 6 x1.toNatClampNeg ((σ.1 6 x1.toNatClampNeg) - 1)).1 6 x1.toNatClampNeg) ∧
  ((x1 * 8) + 1).toNatClampNeg + ((pI σ 6 x1.toNatClampNeg ((σ.1 6 x1.toNatClampNeg) - 1)).1 6 x1.toNatClampNeg).toNatClampNeg ≤ 64 ∧
  (x1 * 8).toNatClampNeg + ((pI σ 6 x1.toNatClampNeg ((σ.1 6 x1.toNatClampNeg) - 1)).1 6 x1.toNatClampNeg).toNatClampNeg ≤ 64 ∧
  vp_in x1 8 ∧
  nneg ((x1 * 8) + 1) ∧
  nneg (x1 * 8) ∧
  nneg ((pR (pI σ 6 x1.toNatClampNeg ((σ.1 6 x1.toNatClampNeg) - 1)) 4 (va_cpy ((pI σ 6 x1.toNatClampNeg ((σ.1 6 x1.toNatClampNeg) - 1)).1 4) ((pI σ 6 x1.toNatClampNeg ((σ.1 6 x1.toNatClampNeg) - 1)).1 4) ((x1 * 8) + 1).toNatClampNeg (x1 * 8).toNatClampNeg ((pI σ 6 x1.toNatClampNeg ((σ.1 6 x1.toNatClampNeg) - 1)).1 6 x1.toNatClampNeg).toNatClampNeg)).1 6 x1.toNatClampNeg) ∧
  ((x1 * 8) + 1).toNatClampNeg + ((pR (pI σ 6 x1.toNatClampNeg ((σ.1 6 x1.toNatClampNeg) - 1)) 4 (va_cpy ((pI σ 6 x1.toNatClampNeg ((σ.1 6 x1.toNatClampNeg) - 1)).1 4) ((pI σ 6 x1.toNatClampNeg ((σ.1 6 x1.toNatClampNeg) - 1)).1 4) ((x1 * 8) + 1).toNatClampNeg (x1 * 8).toNatClampNeg ((pI σ 6 x1.toNatClampNeg ((σ.1 6 x1.toNatClampNeg) - 1)).1 6 x1.toNatClampNeg).toNatClampNeg)).1 6 x1.toNatClampNeg).toNatClampNeg ≤ 64 ∧
  (x1 * 8).toNatClampNeg + ((pR (pI σ 6 x1.toNatClampNeg ((σ.1 6 x1.toNatClampNeg) - 1)) 4 (va_cpy ((pI σ 6 x1.toNatClampNeg ((σ.1 6 x1.toNatClampNeg) - 1)).1 4) ((pI σ 6 x1.toNatClampNeg ((σ.1 6 x1.toNatClampNeg) - 1)).1 4) ((x1 * 8) + 1).toNatClampNeg (x1 * 8).toNatClampNeg ((pI σ 6 x1.toNatClampNeg ((σ.1 6 x1.toNatClampNeg) - 1)).1 6 x1.toNatClampNeg).toNatClampNeg)).1 6 x1.toNatClampNeg).toNatClampNeg ≤ 64 ∧
  Po (pR (pR (pI σ 6 x1.toNatClampNeg ((σ.1 6 x1.toNatClampNeg) - 1)) 4 (va_cpy ((pI σ 6 x1.toNatClampNeg ((σ.1 6 x1.toNatClampNeg) - 1)).1 4) ((pI σ 6 x1.toNatClampNeg ((σ.1 6 x1.toNatClampNeg) - 1)).1 4) ((x1 * 8) + 1).toNatClampNeg (x1 * 8).toNatClampNeg ((pI σ 6 x1.toNatClampNeg ((σ.1 6 x1.toNatClampNeg) - 1)).1 6 x1.toNatClampNeg).toNatClampNeg)) 5 (va_cpy ((pR (pI σ 6 x1.toNatClampNeg ((σ.1 6 x1.toNatClampNeg) - 1)) 4 (va_cpy ((pI σ 6 x1.toNatClampNeg ((σ.1 6 x1.toNatClampNeg) - 1)).1 4) ((pI σ 6 x1.toNatClampNeg ((σ.1 6 x1.toNatClampNeg) - 1)).1 4) ((x1 * 8) + 1).toNatClampNeg (x1 * 8).toNatClampNeg ((pI σ 6 x1.toNatClampNeg ((σ.1 6 x1.toNatClampNeg) - 1)).1 6 x1.toNatClampNeg).toNatClampNeg)).1 5) ((pR (pI σ 6 x1.toNatClampNeg ((σ.1 6 x1.toNatClampNeg) - 1)) 4 (va_cpy ((pI σ 6 x1.toNatClampNeg ((σ.1 6 x1.toNatClampNeg) - 1)).1 4) ((pI σ 6 x1.toNatClampNeg ((σ.1 6 x1.toNatClampNeg) - 1)).1 4) ((x1 * 8) + 1).toNatClampNeg (x1 * 8).toNatClampNeg ((pI σ 6 x1.toNatClampNeg ((σ.1 6 x1.toNatClampNeg) - 1)).1 6 x1.toNatClampNeg).toNatClampNeg)).1 5) ((x1 * 8) + 1).toNatClampNeg (x1 * 8).toNatClampNeg ((pR (pI σ 6 x1.toNatClampNeg ((σ.1 6 x1.toNatClampNeg) - 1)) 4 (va_cpy ((pI σ 6 x1.toNatClampNeg ((σ.1 6 x1.toNatClampNeg) - 1)).1 4) ((pI σ 6 x1.toNatClampNeg ((σ.1 6 x1.toNatClampNeg) - 1)).1 4) ((x1 * 8) + 1).toNatClampNeg (x1 * 8).toNatClampNeg ((pI σ 6 x1.toNatClampNeg ((σ.1 6 x1.toNatClampNeg) - 1)).1 6 x1.toNatClampNeg).toNatClampNeg)).1 6 x1.toNatClampNeg).toNatClampNeg))
def vc_X6_dropFirst (x1 : Int32) (σ : Sg) (Po : Sg → Prop) : Prop := f_X6_dropFirst_e x1 Po σ
def sp_X6_dropFirst (x1 : Int32) (σ : Sg) (K : Sg → Prop) : Prop := vc_X6_dropFirst x1 σ K
def CT_X6_dropFirst (l : Launch) (Ω : Wm) : Prop := ∀ (x1 : Int32) (σ : Sg) (K : Sg → Prop), sp_X6_dropFirst x1 σ K → Ct l yX6_dropFirst cX6_dropFirst 3 none 1 60 Ω [.ref (Ω.2.2.1 3), .int x1] σ (QV Ω K)
def f_X6_lengthOfAll_4 (L4 : Int32 → Int32 → Sg → Prop) (Po : Int32 → Sg → Prop) (x1 : Int32) (x2 : Int32) (σ : Sg) : Prop :=
  (8 ≤ x2 →
  Po x1 σ) ∧
  (¬ (8 ≤ x2) →
  vp_in x2 8 ∧
  L4 (x1 + (σ.1 6 x2.toNatClampNeg)) (x2 + 1) σ)
def f_X6_lengthOfAll_e (L4 : Int32 → Int32 → Sg → Prop) (Po : Int32 → Sg → Prop) (σ : Sg) : Prop :=
  L4 0 0 σ
def vc_X6_lengthOfAll (σ : Sg) (Po : Int32 → Sg → Prop) : Prop := ∀ L4 : Int32 → Int32 → Sg → Prop, (∀ (x1 : Int32) (x2 : Int32) (σ : Sg), f_X6_lengthOfAll_4 L4 Po x1 x2 σ → L4 x1 x2 σ) → f_X6_lengthOfAll_e L4 Po σ
def CT_X6_lengthOfAll (l : Launch) (Ω : Wm) : Prop := ∀ (σ : Sg) (K : Int32 → Sg → Prop), sp_X6_lengthOfAll  σ K → Ct l yX6_lengthOfAll cX6_lengthOfAll 3 (some .int) 0 0 Ω [.ref (Ω.2.2.1 3)] σ (QI Ω K)
def f_X2_clear_e (Po : Sg → Prop) (σ : Sg) : Prop :=
  sp_X0_clear 20 32 (pI σ 7 10 0) (fun u2 =>
  Po u2)
def vc_X2_clear (σ : Sg) (Po : Sg → Prop) : Prop := f_X2_clear_e Po σ
def sp_X2_clear (σ : Sg) (K : Sg → Prop) : Prop := vc_X2_clear  σ K
def CT_X2_clear (l : Launch) (Ω : Wm) : Prop := ∀ (σ : Sg) (K : Sg → Prop), sp_X2_clear  σ K → Ct l yX2_clear cX2_clear 1 none 2 44 Ω [.ref (Ω.2.2.1 7)] σ (QV Ω K)
def f_X2_isFull_15 (Po : Int32 → Sg → Prop) (s0 : Int32) (σ : Sg) : Prop :=
  isZ s0 ∧
  Po s0 σ
def f_X2_isFull_e (Po : Int32 → Sg → Prop) (σ : Sg) : Prop :=
  (¬ (σ.1 7 10) = 240 →
  f_X2_isFull_15 Po 0 σ) ∧
  ((σ.1 7 10) = 240 →
  f_X2_isFull_15 Po 1 σ)
def vc_X2_isFull (σ : Sg) (Po : Int32 → Sg → Prop) : Prop := f_X2_isFull_e Po σ
def sp_X2_isFull (σ : Sg) (K : Int32 → Sg → Prop) : Prop := vc_X2_isFull  σ K
def CT_X2_isFull (l : Launch) (Ω : Wm) : Prop := ∀ (σ : Sg) (K : Int32 → Sg → Prop), sp_X2_isFull  σ K → Ct l yX2_isFull cX2_isFull 1 (some .boolean) 0 0 Ω [.ref (Ω.2.2.1 7)] σ (QI Ω K)
def f_X2_open_e (x1 : Int32) (x2 : Int32) (x3 : Int32) (x4 : Int64) (Po : Int32 → Sg → Prop) (σ : Sg) : Prop :=
  vp_in (σ.1 7 10) 240 ∧
  vp_in (σ.1 7 10) 240 ∧
  vp_in (σ.1 7 10) 240 ∧
  vp_in (σ.1 7 10) 240 ∧
  vp_in (σ.1 7 10) 240 ∧
  Po (σ.1 7 10) (pI (pJ (pI (pI (pI (pI σ 7 10 ((σ.1 7 10) + 1)) 12 (σ.1 7 10).toNatClampNeg x1) 13 (σ.1 7 10).toNatClampNeg x2) 14 (σ.1 7 10).toNatClampNeg x3) 15 (σ.1 7 10).toNatClampNeg x4) 16 (σ.1 7 10).toNatClampNeg 0)
def vc_X2_open (x1 : Int32) (x2 : Int32) (x3 : Int32) (x4 : Int64) (σ : Sg) (Po : Int32 → Sg → Prop) : Prop := f_X2_open_e x1 x2 x3 x4 Po σ
def sp_X2_open (x1 : Int32) (x2 : Int32) (x3 : Int32) (x4 : Int64) (σ : Sg) (K : Int32 → Sg → Prop) : Prop := vc_X2_open x1 x2 x3 x4 σ K
def CT_X2_open (l : Launch) (Ω : Wm) : Prop := ∀ (x1 : Int32) (x2 : Int32) (x3 : Int32) (x4 : Int64) (σ : Sg) (K : Int32 → Sg → Prop), sp_X2_open x1 x2 x3 x4 σ K → Ct l yX2_open cX2_open 7 (some .int) 0 0 Ω [.ref (Ω.2.2.1 7), .int x1, .int x2, .int x3, .long x4] σ (QI Ω K)
def f_X2_addTransaction_e (x1 : Int32) (x2 : Int32) (x3 : Int32) (Po : Sg → Prop) (σ : Sg) : Prop :=
  vp_in x1 240 ∧
  vp_in ((x1 * 3) + (σ.1 16 x1.toNatClampNeg)) 720 ∧
  vp_in ((x1 * 3) + (σ.1 16 x1.toNatClampNeg)) 720 ∧
  vp_in x1 240 ∧
  vp_in x1 240 ∧
  Po (pI (pI (pI σ 17 ((x1 * 3) + (σ.1 16 x1.toNatClampNeg)).toNatClampNeg x2) 18 ((x1 * 3) + (σ.1 16 x1.toNatClampNeg)).toNatClampNeg x3) 16 x1.toNatClampNeg (((pI (pI σ 17 ((x1 * 3) + (σ.1 16 x1.toNatClampNeg)).toNatClampNeg x2) 18 ((x1 * 3) + (σ.1 16 x1.toNatClampNeg)).toNatClampNeg x3).1 16 x1.toNatClampNeg) + 1))
def vc_X2_addTransaction (x1 : Int32) (x2 : Int32) (x3 : Int32) (σ : Sg) (Po : Sg → Prop) : Prop := f_X2_addTransaction_e x1 x2 x3 Po σ
def sp_X2_addTransaction (x1 : Int32) (x2 : Int32) (x3 : Int32) (σ : Sg) (K : Sg → Prop) : Prop := vc_X2_addTransaction x1 x2 x3 σ K
def CT_X2_addTransaction (l : Launch) (Ω : Wm) : Prop := ∀ (x1 : Int32) (x2 : Int32) (x3 : Int32) (σ : Sg) (K : Sg → Prop), sp_X2_addTransaction x1 x2 x3 σ K → Ct l yX2_addTransaction cX2_addTransaction 5 none 0 0 Ω [.ref (Ω.2.2.1 7), .int x1, .int x2, .int x3] σ (QV Ω K)
def f_X2_hashWord_e (x1 : Int32) (x2 : Int32) (Po : Int32 → Sg → Prop) (σ : Sg) : Prop :=
  vp_in ((x1 * 8) + x2) 1920 ∧
  Po (σ.1 19 ((x1 * 8) + x2).toNatClampNeg) σ
def vc_X2_hashWord (x1 : Int32) (x2 : Int32) (σ : Sg) (Po : Int32 → Sg → Prop) : Prop := f_X2_hashWord_e x1 x2 Po σ
def sp_X2_hashWord (x1 : Int32) (x2 : Int32) (σ : Sg) (K : Int32 → Sg → Prop) : Prop := vc_X2_hashWord x1 x2 σ K
def CT_X2_hashWord (l : Launch) (Ω : Wm) : Prop := ∀ (x1 : Int32) (x2 : Int32) (σ : Sg) (K : Int32 → Sg → Prop), sp_X2_hashWord x1 x2 σ K → Ct l yX2_hashWord cX2_hashWord 3 (some .int) 0 0 Ω [.ref (Ω.2.2.1 7), .int x1, .int x2] σ (QI Ω K)
def f_X2_putParentHash_27 (x1 : Int32) (L2 : Int32 → Sg → Prop) (Po : Sg → Prop) (x2 : Int32) (s0 : Int32) (σ : Sg) : Prop :=
  sp_X4_putInt s0 σ (fun u6 =>
  L2 (x2 + 1) u6)
def f_X2_putParentHash_2 (x1 : Int32) (L2 : Int32 → Sg → Prop) (Po : Sg → Prop) (x2 : Int32) (σ : Sg) : Prop :=
  (8 ≤ x2 →
  Po σ) ∧
  (¬ (8 ≤ x2) →
  (¬ x1 = (-1) →
  sp_X2_hashWord x1 x2 σ (fun r1 u2 =>
  f_X2_putParentHash_27 x1 L2 Po x2 r1 u2)) ∧
  (x1 = (-1) →
  f_X2_putParentHash_27 x1 L2 Po x2 0 σ))
def f_X2_putParentHash_e (x1 : Int32) (L2 : Int32 → Sg → Prop) (Po : Sg → Prop) (σ : Sg) : Prop :=
  L2 0 σ
def vc_X2_putParentHash (x1 : Int32) (σ : Sg) (Po : Sg → Prop) : Prop := ∀ L2 : Int32 → Sg → Prop, (∀ (x2 : Int32) (σ : Sg), f_X2_putParentHash_2 x1 L2 Po x2 σ → L2 x2 σ) → f_X2_putParentHash_e x1 L2 Po σ
def CT_X2_putParentHash (l : Launch) (Ω : Wm) : Prop := ∀ (x1 : Int32) (σ : Sg) (K : Sg → Prop), sp_X2_putParentHash x1 σ K → Ct l yX2_putParentHash cX2_putParentHash 3 none 2 43 Ω [.ref (Ω.2.2.1 7), .int x1] σ (QV Ω K)
def f_X2_close_68 (x1 : Int32) (L68 : Int32 → Sg → Prop) (Po : Sg → Prop) (x2 : Int32) (σ : Sg) : Prop :=
  vp_in x1 240 ∧
  ((σ.1 16 x1.toNatClampNeg) ≤ x2 →
  sp_X4_finishInto (x1 * 8) σ (fun u20 =>
  Po u20)) ∧
  (¬ ((σ.1 16 x1.toNatClampNeg) ≤ x2) →
  vp_in ((x1 * 3) + x2) 720 ∧
  sp_X4_putOctet (σ.1 17 ((x1 * 3) + x2).toNatClampNeg) σ (fun u23 =>
  vp_in ((x1 * 3) + x2) 720 ∧
  sp_X4_putInt (u23.1 18 ((x1 * 3) + x2).toNatClampNeg) u23 (fun u26 =>
  L68 (x2 + 1) u26)))
def f_X2_close_e (x1 : Int32) (L68 : Int32 → Sg → Prop) (Po : Sg → Prop) (σ : Sg) : Prop :=
  sp_X4_start σ (fun u2 =>
  vp_in x1 240 ∧
  sp_X4_putOctet (u2.1 12 x1.toNatClampNeg) u2 (fun u5 =>
  vp_in x1 240 ∧
  sp_X2_putParentHash (u5.1 13 x1.toNatClampNeg) u5 (fun u8 =>
  vp_in x1 240 ∧
  sp_X2_putParentHash (u8.1 14 x1.toNatClampNeg) u8 (fun u11 =>
  vp_in x1 240 ∧
  sp_X4_putLong (u11.2 15 x1.toNatClampNeg) u11 (fun u14 =>
  vp_in x1 240 ∧
  sp_X4_putOctet (u14.1 16 x1.toNatClampNeg) u14 (fun u17 =>
  L68 0 u17))))))
def vc_X2_close (x1 : Int32) (σ : Sg) (Po : Sg → Prop) : Prop := ∀ L68 : Int32 → Sg → Prop, (∀ (x2 : Int32) (σ : Sg), f_X2_close_68 x1 L68 Po x2 σ → L68 x2 σ) → f_X2_close_e x1 L68 Po σ
def CT_X2_close (l : Launch) (Ω : Wm) : Prop := ∀ (x1 : Int32) (σ : Sg) (K : Sg → Prop), sp_X2_close x1 σ K → Ct l yX2_close cX2_close 3 none 3 109 Ω [.ref (Ω.2.2.1 7), .int x1] σ (QV Ω K)
def f_X2_hasOneOf_70 (x1 : Int32) (x2 : Int32) (x3 : Int32) (x4 : Int64) (L3 : Int32 → Sg → Prop) (Po : Int32 → Sg → Prop) (x6 : Int32) (σ : Sg) : Prop :=
  L3 (x6 + 1) σ
def f_X2_hasOneOf_3 (x1 : Int32) (x2 : Int32) (x3 : Int32) (x4 : Int64) (L3 : Int32 → Sg → Prop) (Po : Int32 → Sg → Prop) (x6 : Int32) (σ : Sg) : Prop :=
  ((σ.1 7 10) ≤ x6 →
  Po 0 σ) ∧
  (¬ ((σ.1 7 10) ≤ x6) →
  vp_in x6 240 ∧
  (¬ (σ.1 12 x6.toNatClampNeg) = x1 →
  f_X2_hasOneOf_70 x1 x2 x3 x4 L3 Po x6 σ) ∧
  ((σ.1 12 x6.toNatClampNeg) = x1 →
  vp_in x6 240 ∧
  (¬ (σ.1 13 x6.toNatClampNeg) = x2 →
  f_X2_hasOneOf_70 x1 x2 x3 x4 L3 Po x6 σ) ∧
  ((σ.1 13 x6.toNatClampNeg) = x2 →
  vp_in x6 240 ∧
  (¬ (σ.1 14 x6.toNatClampNeg) = x3 →
  f_X2_hasOneOf_70 x1 x2 x3 x4 L3 Po x6 σ) ∧
  ((σ.1 14 x6.toNatClampNeg) = x3 →
  vp_in x6 240 ∧
  (¬ (lg_cmp (σ.2 15 x6.toNatClampNeg) x4) = 0 →
  f_X2_hasOneOf_70 x1 x2 x3 x4 L3 Po x6 σ) ∧
  ((lg_cmp (σ.2 15 x6.toNatClampNeg) x4) = 0 →
  vp_in x6 240 ∧
  (¬ (σ.1 16 x6.toNatClampNeg) = 0 →
  f_X2_hasOneOf_70 x1 x2 x3 x4 L3 Po x6 σ) ∧
  ((σ.1 16 x6.toNatClampNeg) = 0 →
  Po 1 σ))))))
def f_X2_hasOneOf_e (x1 : Int32) (x2 : Int32) (x3 : Int32) (x4 : Int64) (L3 : Int32 → Sg → Prop) (Po : Int32 → Sg → Prop) (σ : Sg) : Prop :=
  L3 0 σ
def vc_X2_hasOneOf (x1 : Int32) (x2 : Int32) (x3 : Int32) (x4 : Int64) (σ : Sg) (Po : Int32 → Sg → Prop) : Prop := ∀ L3 : Int32 → Sg → Prop, (∀ (x6 : Int32) (σ : Sg), f_X2_hasOneOf_3 x1 x2 x3 x4 L3 Po x6 σ → L3 x6 σ) → f_X2_hasOneOf_e x1 x2 x3 x4 L3 Po σ
def CT_X2_hasOneOf (l : Launch) (Ω : Wm) : Prop := ∀ (x1 : Int32) (x2 : Int32) (x3 : Int32) (x4 : Int64) (σ : Sg) (K : Int32 → Sg → Prop), sp_X2_hasOneOf x1 x2 x3 x4 σ K → Ct l yX2_hasOneOf cX2_hasOneOf 7 (some .boolean) 0 0 Ω [.ref (Ω.2.2.1 7), .int x1, .int x2, .int x3, .long x4] σ (QI Ω K)
