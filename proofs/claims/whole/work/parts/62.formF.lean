def f_X7_give_e (x1 : Int32) (x2 : Int32) (Po : Sg → Prop) (σ : Sg) : Prop :=
  sp_X0_put 20 32 x2 x1 σ (fun u2 =>
  vp_in x2 8 ∧
  IsView (45 + 12 * x2.toNatClampNeg) ∧
  Po (pI u2 (45 + 12 * x2.toNatClampNeg) 17 1))
def vc_X7_give (x1 : Int32) (x2 : Int32) (σ : Sg) (Po : Sg → Prop) : Prop := f_X7_give_e x1 x2 Po σ
def sp_X7_give (x1 : Int32) (x2 : Int32) (σ : Sg) (K : Sg → Prop) : Prop := vc_X7_give x1 x2 σ K
def CT_X7_give (l : Launch) (Ω : Wm) : Prop := ∀ (x1 : Int32) (x2 : Int32) (σ : Sg) (K : Sg → Prop), sp_X7_give x1 x2 σ K → Ct l yX7_give cX7_give 3 none 1 22 Ω [.ref (Ω.2.2.1 0), .int x1, .int x2] σ (QV Ω K)
def f_X7_makeEvent_17 (x1 : Int32) (x2 : Int32) (x3 : Int32) (x4 : Int64) (x6 : Int32) (L17 : Int32 → Int32 → Sg → Prop) (Po : Int32 → Sg → Prop) (x7 : Int32) (x8 : Int32) (σ : Sg) : Prop :=
  (x6 ≤ x8 →
  sp_X2_close x7 σ (fun u4 =>
  sp_X3_take x7 u4 (fun u6 =>
  sp_X1_take x7 u6 (fun u8 =>
  Po x7 u8)))) ∧
  (¬ (x6 ≤ x8) →
  sp_X6_firstTo x1 σ (fun r9 u10 =>
  sp_X6_firstAmount x1 u10 (fun r11 u12 =>
  sp_X2_addTransaction x7 r9 r11 u12 (fun u14 =>
  sp_X6_dropFirst x1 u14 (fun u16 =>
  L17 x7 (x8 + 1) u16)))))
def f_X7_makeEvent_e (x1 : Int32) (x2 : Int32) (x3 : Int32) (x4 : Int64) (x6 : Int32) (L17 : Int32 → Int32 → Sg → Prop) (Po : Int32 → Sg → Prop) (σ : Sg) : Prop :=
  sp_X2_open x1 x2 x3 x4 σ (fun r1 u2 =>
  L17 r1 0 u2)
def vc_X7_makeEvent (x1 : Int32) (x2 : Int32) (x3 : Int32) (x4 : Int64) (x6 : Int32) (σ : Sg) (Po : Int32 → Sg → Prop) : Prop := ∀ L17 : Int32 → Int32 → Sg → Prop, (∀ (x7 : Int32) (x8 : Int32) (σ : Sg), f_X7_makeEvent_17 x1 x2 x3 x4 x6 L17 Po x7 x8 σ → L17 x7 x8 σ) → f_X7_makeEvent_e x1 x2 x3 x4 x6 L17 Po σ
def CT_X7_makeEvent (l : Launch) (Ω : Wm) : Prop := ∀ (x1 : Int32) (x2 : Int32) (x3 : Int32) (x4 : Int64) (x6 : Int32) (σ : Sg) (K : Int32 → Sg → Prop), sp_X7_makeEvent x1 x2 x3 x4 x6 σ K → Ct l yX7_makeEvent cX7_makeEvent 9 (some .int) 5 131 Ω [.ref (Ω.2.2.1 0), .int x1, .int x2, .int x3, .long x4, .int x6] σ (QI Ω K)
def f_X7_startAnew_37 (x1 : Int32) (L37 : Int32 → Sg → Prop) (Po : Sg → Prop) (x2 : Int32) (σ : Sg) : Prop :=
  (x1 ≤ x2 →
  Po σ) ∧
  (¬ (x1 ≤ x2) →
  sp_X7_makeEvent x2 (-1) (-1) 0 0 σ (fun r9 u10 =>
  vp_in x2 8 ∧
  vp_in x2 8 ∧
  sp_X7_give ((pI u10 2 x2.toNatClampNeg r9).1 2 x2.toNatClampNeg) x2 (pI u10 2 x2.toNatClampNeg r9) (fun u14 =>
  L37 (x2 + 1) u14)))
def f_X7_startAnew_e (x1 : Int32) (L37 : Int32 → Sg → Prop) (Po : Sg → Prop) (σ : Sg) : Prop :=
  sp_X6_clear (pI σ 0 6 x1) (fun u2 =>
  sp_X2_clear u2 (fun u4 =>
  sp_X3_clear x1 u4 (fun u6 =>
  sp_X1_clear x1 u6 (fun u8 =>
  L37 0 u8))))
def vc_X7_startAnew (x1 : Int32) (σ : Sg) (Po : Sg → Prop) : Prop := ∀ L37 : Int32 → Sg → Prop, (∀ (x2 : Int32) (σ : Sg), f_X7_startAnew_37 x1 L37 Po x2 σ → L37 x2 σ) → f_X7_startAnew_e x1 L37 Po σ
def CT_X7_startAnew (l : Launch) (Ω : Wm) : Prop := ∀ (x1 : Int32) (σ : Sg) (K : Sg → Prop), sp_X7_startAnew x1 σ K → Ct l yX7_startAnew cX7_startAnew 3 none 6 159 Ω [.ref (Ω.2.2.1 0), .int x1] σ (QV Ω K)
def f_X7_freshView_22 (x1 : Int32) (Po : Nat → Sg → Prop) (q2 : Nat) (σ : Sg) : Prop :=
  Po q2 σ
def f_X7_freshView_e (x1 : Int32) (Po : Nat → Sg → Prop) (σ : Sg) : Prop :=
  vp_in x1 8 ∧
  IsView (45 + 12 * x1.toNatClampNeg) ∧
  ((σ.1 (45 + 12 * x1.toNatClampNeg) 17) = 0 →
  f_X7_freshView_22 x1 Po (45 + 12 * x1.toNatClampNeg) σ) ∧
  (¬ ((σ.1 (45 + 12 * x1.toNatClampNeg) 17) = 0) →
  sp_X5_findAll (45 + 12 * x1.toNatClampNeg) (σ.1 0 6) σ (fun u4 =>
  f_X7_freshView_22 x1 Po (45 + 12 * x1.toNatClampNeg) u4))
def vc_X7_freshView (x1 : Int32) (σ : Sg) (Po : Nat → Sg → Prop) : Prop := f_X7_freshView_e x1 Po σ
def sp_X7_freshView (x1 : Int32) (σ : Sg) (K : Nat → Sg → Prop) : Prop := vc_X7_freshView x1 σ K
def CT_X7_freshView (l : Launch) (Ω : Wm) : Prop := ∀ (x1 : Int32) (σ : Sg) (K : Nat → Sg → Prop), sp_X7_freshView x1 σ K → Ct l yX7_freshView cX7_freshView 3 (some (.object "HashgraphDesk$View")) 5 126 Ω [.ref (Ω.2.2.1 0), .int x1] σ (QR Ω K)
def f_X7_isNode_17 (x1 : Int32) (Po : Int32 → Sg → Prop) (s0 : Int32) (σ : Sg) : Prop :=
  isZ s0 ∧
  Po s0 σ
def f_X7_isNode_16 (x1 : Int32) (Po : Int32 → Sg → Prop) (σ : Sg) : Prop :=
  f_X7_isNode_17 x1 Po 0 σ
def f_X7_isNode_e (x1 : Int32) (Po : Int32 → Sg → Prop) (σ : Sg) : Prop :=
  (x1 < 0 →
  f_X7_isNode_16 x1 Po σ) ∧
  (¬ (x1 < 0) →
  ((σ.1 0 6) ≤ x1 →
  f_X7_isNode_16 x1 Po σ) ∧
  (¬ ((σ.1 0 6) ≤ x1) →
  f_X7_isNode_17 x1 Po 1 σ))
def vc_X7_isNode (x1 : Int32) (σ : Sg) (Po : Int32 → Sg → Prop) : Prop := f_X7_isNode_e x1 Po σ
def sp_X7_isNode (x1 : Int32) (σ : Sg) (K : Int32 → Sg → Prop) : Prop := vc_X7_isNode x1 σ K
def CT_X7_isNode (l : Launch) (Ω : Wm) : Prop := ∀ (x1 : Int32) (σ : Sg) (K : Int32 → Sg → Prop), sp_X7_isNode x1 σ K → Ct l yX7_isNode cX7_isNode 2 (some .boolean) 0 0 Ω [.ref (Ω.2.2.1 0), .int x1] σ (QI Ω K)
def f_X7_isEvent_20 (x1 : Int32) (Po : Int32 → Sg → Prop) (s0 : Int32) (σ : Sg) : Prop :=
  isZ s0 ∧
  Po s0 σ
def f_X7_isEvent_19 (x1 : Int32) (Po : Int32 → Sg → Prop) (σ : Sg) : Prop :=
  f_X7_isEvent_20 x1 Po 0 σ
def f_X7_isEvent_e (x1 : Int32) (Po : Int32 → Sg → Prop) (σ : Sg) : Prop :=
  (x1 < 0 →
  f_X7_isEvent_19 x1 Po σ) ∧
  (¬ (x1 < 0) →
  ((σ.1 7 10) ≤ x1 →
  f_X7_isEvent_19 x1 Po σ) ∧
  (¬ ((σ.1 7 10) ≤ x1) →
  f_X7_isEvent_20 x1 Po 1 σ))
def vc_X7_isEvent (x1 : Int32) (σ : Sg) (Po : Int32 → Sg → Prop) : Prop := f_X7_isEvent_e x1 Po σ
def sp_X7_isEvent (x1 : Int32) (σ : Sg) (K : Int32 → Sg → Prop) : Prop := vc_X7_isEvent x1 σ K
def CT_X7_isEvent (l : Launch) (Ω : Wm) : Prop := ∀ (x1 : Int32) (σ : Sg) (K : Int32 → Sg → Prop), sp_X7_isEvent x1 σ K → Ct l yX7_isEvent cX7_isEvent 2 (some .boolean) 0 0 Ω [.ref (Ω.2.2.1 0), .int x1] σ (QI Ω K)
def f_X7_isHeld_28 (x1 : Int32) (x2 : Int32) (Po : Int32 → Sg → Prop) (s0 : Int32) (σ : Sg) : Prop :=
  isZ s0 ∧
  Po s0 σ
def f_X7_isHeld_27 (x1 : Int32) (x2 : Int32) (Po : Int32 → Sg → Prop) (σ : Sg) : Prop :=
  f_X7_isHeld_28 x1 x2 Po 0 σ
def f_X7_isHeld_e (x1 : Int32) (x2 : Int32) (Po : Int32 → Sg → Prop) (σ : Sg) : Prop :=
  sp_X7_isEvent x2 σ (fun r1 u2 =>
  (r1 = 0 →
  f_X7_isHeld_27 x1 x2 Po u2) ∧
  (¬ (r1 = 0) →
  sp_X0_has 20 32 x1 x2 u2 (fun r3 u4 =>
  (r3 = 0 →
  f_X7_isHeld_27 x1 x2 Po u4) ∧
  (¬ (r3 = 0) →
  f_X7_isHeld_28 x1 x2 Po 1 u4))))
def vc_X7_isHeld (x1 : Int32) (x2 : Int32) (σ : Sg) (Po : Int32 → Sg → Prop) : Prop := f_X7_isHeld_e x1 x2 Po σ
def sp_X7_isHeld (x1 : Int32) (x2 : Int32) (σ : Sg) (K : Int32 → Sg → Prop) : Prop := vc_X7_isHeld x1 x2 σ K
def CT_X7_isHeld (l : Launch) (Ω : Wm) : Prop := ∀ (x1 : Int32) (x2 : Int32) (σ : Sg) (K : Int32 → Sg → Prop), sp_X7_isHeld x1 x2 σ K → Ct l yX7_isHeld cX7_isHeld 3 (some .boolean) 1 22 Ω [.ref (Ω.2.2.1 0), .int x1, .int x2] σ (QI Ω K)
