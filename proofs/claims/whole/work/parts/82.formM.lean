def f_X8_thrown_e (Po : Int32 → Sg → Prop) (σ : Sg) : Prop :=
  Po (σ.1 0 0) σ
def vc_X8_thrown (σ : Sg) (Po : Int32 → Sg → Prop) : Prop := f_X8_thrown_e Po σ
def sp_X8_thrown (σ : Sg) (K : Int32 → Sg → Prop) : Prop := vc_X8_thrown  σ K
def CT_X8_thrown (l : Launch) (Ω : Wm) : Prop := ∀ (σ : Sg) (K : Int32 → Sg → Prop), sp_X8_thrown  σ K → Ct l yX8_thrown cX8_thrown 1 (some .int) 0 0 Ω [.ref (Ω.2.2.1 0)] σ (QI Ω K)
def f_X8_in_15 (x0 : Int32) (x1 : Int32) (x2 : Int32) (Po : Int32 → Sg → Prop) (s0 : Int32) (σ : Sg) : Prop :=
  isZ s0 ∧
  Po s0 σ
def f_X8_in_14 (x0 : Int32) (x1 : Int32) (x2 : Int32) (Po : Int32 → Sg → Prop) (σ : Sg) : Prop :=
  f_X8_in_15 x0 x1 x2 Po 0 σ
def f_X8_in_e (x0 : Int32) (x1 : Int32) (x2 : Int32) (Po : Int32 → Sg → Prop) (σ : Sg) : Prop :=
  (x0 < x1 →
  f_X8_in_14 x0 x1 x2 Po σ) ∧
  (¬ (x0 < x1) →
  (x2 < x0 →
  f_X8_in_14 x0 x1 x2 Po σ) ∧
  (¬ (x2 < x0) →
  f_X8_in_15 x0 x1 x2 Po 1 σ))
def vc_X8_in (x0 : Int32) (x1 : Int32) (x2 : Int32) (σ : Sg) (Po : Int32 → Sg → Prop) : Prop := f_X8_in_e x0 x1 x2 Po σ
def sp_X8_in (x0 : Int32) (x1 : Int32) (x2 : Int32) (σ : Sg) (K : Int32 → Sg → Prop) : Prop := vc_X8_in x0 x1 x2 σ K
def CT_X8_in (l : Launch) (Ω : Wm) : Prop := ∀ (x0 : Int32) (x1 : Int32) (x2 : Int32) (σ : Sg) (K : Int32 → Sg → Prop), sp_X8_in x0 x1 x2 σ K → Ct l yX8_in cX8_in 3 (some .boolean) 0 0 Ω [.int x0, .int x1, .int x2] σ (QI Ω K)
def f_X8_fails_28 (x1 : Int32) (x2 : Int32) (Po : Int32 → Sg → Prop) (s0 : Int32) (σ : Sg) : Prop :=
  isZ s0 ∧
  Po s0 σ
def f_X8_fails_16 (x1 : Int32) (x2 : Int32) (Po : Int32 → Sg → Prop) (σ : Sg) : Prop :=
  ((σ.1 0 0) = 0 →
  f_X8_fails_28 x1 x2 Po 0 σ) ∧
  (¬ ((σ.1 0 0) = 0) →
  f_X8_fails_28 x1 x2 Po 1 σ)
def f_X8_fails_e (x1 : Int32) (x2 : Int32) (Po : Int32 → Sg → Prop) (σ : Sg) : Prop :=
  (x1 = 0 →
  f_X8_fails_16 x1 x2 Po σ) ∧
  (¬ (x1 = 0) →
  (¬ (σ.1 0 0) = 0 →
  f_X8_fails_16 x1 x2 Po σ) ∧
  ((σ.1 0 0) = 0 →
  f_X8_fails_16 x1 x2 Po (pI σ 0 0 x2)))
def vc_X8_fails (x1 : Int32) (x2 : Int32) (σ : Sg) (Po : Int32 → Sg → Prop) : Prop := f_X8_fails_e x1 x2 Po σ
def sp_X8_fails (x1 : Int32) (x2 : Int32) (σ : Sg) (K : Int32 → Sg → Prop) : Prop := vc_X8_fails x1 x2 σ K
def CT_X8_fails (l : Launch) (Ω : Wm) : Prop := ∀ (x1 : Int32) (x2 : Int32) (σ : Sg) (K : Int32 → Sg → Prop), sp_X8_fails x1 x2 σ K → Ct l yX8_fails cX8_fails 3 (some .boolean) 0 0 Ω [.ref (Ω.2.2.1 0), .int x1, .int x2] σ (QI Ω K)
def f_X8_isNode_e (x1 : Int32) (Po : Int32 → Sg → Prop) (σ : Sg) : Prop :=
  sp_X8_in x1 0 ((σ.1 0 1) - 1) σ (fun r1 u2 =>
  isZ r1 ∧
  Po r1 u2)
def vc_X8_isNode (x1 : Int32) (σ : Sg) (Po : Int32 → Sg → Prop) : Prop := f_X8_isNode_e x1 Po σ
def sp_X8_isNode (x1 : Int32) (σ : Sg) (K : Int32 → Sg → Prop) : Prop := vc_X8_isNode x1 σ K
def CT_X8_isNode (l : Launch) (Ω : Wm) : Prop := ∀ (x1 : Int32) (σ : Sg) (K : Int32 → Sg → Prop), sp_X8_isNode x1 σ K → Ct l yX8_isNode cX8_isNode 2 (some .boolean) 1 22 Ω [.ref (Ω.2.2.1 0), .int x1] σ (QI Ω K)
def f_X8_isEvent_e (x1 : Int32) (Po : Int32 → Sg → Prop) (σ : Sg) : Prop :=
  sp_X8_in x1 0 ((σ.1 0 2) - 1) σ (fun r1 u2 =>
  isZ r1 ∧
  Po r1 u2)
def vc_X8_isEvent (x1 : Int32) (σ : Sg) (Po : Int32 → Sg → Prop) : Prop := f_X8_isEvent_e x1 Po σ
def sp_X8_isEvent (x1 : Int32) (σ : Sg) (K : Int32 → Sg → Prop) : Prop := vc_X8_isEvent x1 σ K
def CT_X8_isEvent (l : Launch) (Ω : Wm) : Prop := ∀ (x1 : Int32) (σ : Sg) (K : Int32 → Sg → Prop), sp_X8_isEvent x1 σ K → Ct l yX8_isEvent cX8_isEvent 2 (some .boolean) 1 22 Ω [.ref (Ω.2.2.1 0), .int x1] σ (QI Ω K)
def f_X8_turn_e (x0 : Int32) (x1 : Int32) (Po : Int32 → Sg → Prop) (σ : Sg) : Prop :=
  Po ((iush x0 x1) ||| (ishl x0 (32 - x1))) σ
def vc_X8_turn (x0 : Int32) (x1 : Int32) (σ : Sg) (Po : Int32 → Sg → Prop) : Prop := f_X8_turn_e x0 x1 Po σ
def sp_X8_turn (x0 : Int32) (x1 : Int32) (σ : Sg) (K : Int32 → Sg → Prop) : Prop := vc_X8_turn x0 x1 σ K
def CT_X8_turn (l : Launch) (Ω : Wm) : Prop := ∀ (x0 : Int32) (x1 : Int32) (σ : Sg) (K : Int32 → Sg → Prop), sp_X8_turn x0 x1 σ K → Ct l yX8_turn cX8_turn 2 (some .int) 0 0 Ω [.int x0, .int x1] σ (QI Ω K)
def f_X8_compress_245 (x1 : Int32) (L2 : Int32 → Sg → Prop) (L81 : Int32 → Sg → Prop) (L245 : Int32 → Int32 → Int32 → Int32 → Int32 → Int32 → Int32 → Int32 → Int32 → Sg → Prop) (Po : Sg → Prop) (x2 : Int32) (x3 : Int32) (x4 : Int32) (x5 : Int32) (x6 : Int32) (x7 : Int32) (x8 : Int32) (x9 : Int32) (x10 : Int32) (σ : Sg) : Prop :=
  (64 ≤ x10 →
  vp_in 0 8 ∧
  vp_in 0 8 ∧
  vp_in 1 8 ∧
  vp_in 1 8 ∧
  vp_in 2 8 ∧
  vp_in 2 8 ∧
  vp_in 3 8 ∧
  vp_in 3 8 ∧
  vp_in 4 8 ∧
  vp_in 4 8 ∧
  vp_in 5 8 ∧
  vp_in 5 8 ∧
  vp_in 6 8 ∧
  vp_in 6 8 ∧
  vp_in 7 8 ∧
  vp_in 7 8 ∧
  Po (pI (pI (pI (pI (pI (pI (pI (pI σ 31 (0 : Int32).toNatClampNeg ((σ.1 31 (0 : Int32).toNatClampNeg) + x2)) 31 (1 : Int32).toNatClampNeg (((pI σ 31 (0 : Int32).toNatClampNeg ((σ.1 31 (0 : Int32).toNatClampNeg) + x2)).1 31 (1 : Int32).toNatClampNeg) + x3)) 31 (2 : Int32).toNatClampNeg (((pI (pI σ 31 (0 : Int32).toNatClampNeg ((σ.1 31 (0 : Int32).toNatClampNeg) + x2)) 31 (1 : Int32).toNatClampNeg (((pI σ 31 (0 : Int32).toNatClampNeg ((σ.1 31 (0 : Int32).toNatClampNeg) + x2)).1 31 (1 : Int32).toNatClampNeg) + x3)).1 31 (2 : Int32).toNatClampNeg) + x4)) 31 (3 : Int32).toNatClampNeg (((pI (pI (pI σ 31 (0 : Int32).toNatClampNeg ((σ.1 31 (0 : Int32).toNatClampNeg) + x2)) 31 (1 : Int32).toNatClampNeg (((pI σ 31 (0 : Int32).toNatClampNeg ((σ.1 31 (0 : Int32).toNatClampNeg) + x2)).1 31 (1 : Int32).toNatClampNeg) + x3)) 31 (2 : Int32).toNatClampNeg (((pI (pI σ 31 (0 : Int32).toNatClampNeg ((σ.1 31 (0 : Int32).toNatClampNeg) + x2)) 31 (1 : Int32).toNatClampNeg (((pI σ 31 (0 : Int32).toNatClampNeg ((σ.1 31 (0 : Int32).toNatClampNeg) + x2)).1 31 (1 : Int32).toNatClampNeg) + x3)).1 31 (2 : Int32).toNatClampNeg) + x4)).1 31 (3 : Int32).toNatClampNeg) + x5)) 31 (4 : Int32).toNatClampNeg (((pI (pI (pI (pI σ 31 (0 : Int32).toNatClampNeg ((σ.1 31 (0 : Int32).toNatClampNeg) + x2)) 31 (1 : Int32).toNatClampNeg (((pI σ 31 (0 : Int32).toNatClampNeg ((σ.1 31 (0 : Int32).toNatClampNeg) + x2)).1 31 (1 : Int32).toNatClampNeg) + x3)) 31 (2 : Int32).toNatClampNeg (((pI (pI σ 31 (0 : Int32).toNatClampNeg ((σ.1 31 (0 : Int32).toNatClampNeg) + x2)) 31 (1 : Int32).toNatClampNeg (((pI σ 31 (0 : Int32).toNatClampNeg ((σ.1 31 (0 : Int32).toNatClampNeg) + x2)).1 31 (1 : Int32).toNatClampNeg) + x3)).1 31 (2 : Int32).toNatClampNeg) + x4)) 31 (3 : Int32).toNatClampNeg (((pI (pI (pI σ 31 (0 : Int32).toNatClampNeg ((σ.1 31 (0 : Int32).toNatClampNeg) + x2)) 31 (1 : Int32).toNatClampNeg (((pI σ 31 (0 : Int32).toNatClampNeg ((σ.1 31 (0 : Int32).toNatClampNeg) + x2)).1 31 (1 : Int32).toNatClampNeg) + x3)) 31 (2 : Int32).toNatClampNeg (((pI (pI σ 31 (0 : Int32).toNatClampNeg ((σ.1 31 (0 : Int32).toNatClampNeg) + x2)) 31 (1 : Int32).toNatClampNeg (((pI σ 31 (0 : Int32).toNatClampNeg ((σ.1 31 (0 : Int32).toNatClampNeg) + x2)).1 31 (1 : Int32).toNatClampNeg) + x3)).1 31 (2 : Int32).toNatClampNeg) + x4)).1 31 (3 : Int32).toNatClampNeg) + x5)).1 31 (4 : Int32).toNatClampNeg) + x6)) 31 (5 : Int32).toNatClampNeg (((pI (pI (pI (pI (pI σ 31 (0 : Int32).toNatClampNeg ((σ.1 31 (0 : Int32).toNatClampNeg) + x2)) 31 (1 : Int32).toNatClampNeg (((pI σ 31 (0 : Int32).toNatClampNeg ((σ.1 31 (0 : Int32).toNatClampNeg) + x2)).1 31 (1 : Int32).toNatClampNeg) + x3)) 31 (2 : Int32).toNatClampNeg (((pI (pI σ 31 (0 : Int32).toNatClampNeg ((σ.1 31 (0 : Int32).toNatClampNeg) + x2)) 31 (1 : Int32).toNatClampNeg (((pI σ 31 (0 : Int32).toNatClampNeg ((σ.1 31 (0 : Int32).toNatClampNeg) + x2)).1 31 (1 : Int32).toNatClampNeg) + x3)).1 31 (2 : Int32).toNatClampNeg) + x4)) 31 (3 : Int32).toNatClampNeg (((pI (pI (pI σ 31 (0 : Int32).toNatClampNeg ((σ.1 31 (0 : Int32).toNatClampNeg) + x2)) 31 (1 : Int32).toNatClampNeg (((pI σ 31 (0 : Int32).toNatClampNeg ((σ.1 31 (0 : Int32).toNatClampNeg) + x2)).1 31 (1 : Int32).toNatClampNeg) + x3)) 31 (2 : Int32).toNatClampNeg (((pI (pI σ 31 (0 : Int32).toNatClampNeg ((σ.1 31 (0 : Int32).toNatClampNeg) + x2)) 31 (1 : Int32).toNatClampNeg (((pI σ 31 (0 : Int32).toNatClampNeg ((σ.1 31 (0 : Int32).toNatClampNeg) + x2)).1 31 (1 : Int32).toNatClampNeg) + x3)).1 31 (2 : Int32).toNatClampNeg) + x4)).1 31 (3 : Int32).toNatClampNeg) + x5)) 31 (4 : Int32).toNatClampNeg (((pI (pI (pI (pI σ 31 (0 : Int32).toNatClampNeg ((σ.1 31 (0 : Int32).toNatClampNeg) + x2)) 31 (1 : Int32).toNatClampNeg (((pI σ 31 (0 : Int32).toNatClampNeg ((σ.1 31 (0 : Int32).toNatClampNeg) + x2)).1 31 (1 : Int32).toNatClampNeg) + x3)) 31 (2 : Int32).toNatClampNeg (((pI (pI σ 31 (0 : Int32).toNatClampNeg ((σ.1 31 (0 : Int32).toNatClampNeg) + x2)) 31 (1 : Int32).toNatClampNeg (((pI σ 31 (0 : Int32).toNatClampNeg ((σ.1 31 (0 : Int32).toNatClampNeg) + x2)).1 31 (1 : Int32).toNatClampNeg) + x3)).1 31 (2 : Int32).toNatClampNeg) + x4)) 31 (3 : Int32).toNatClampNeg (((pI (pI (pI σ 31 (0 : Int32).toNatClampNeg ((σ.1 31 (0 : Int32).toNatClampNeg) + x2)) 31 (1 : Int32).toNatClampNeg (((pI σ 31 (0 : Int32).toNatClampNeg ((σ.1 31 (0 : Int32).toNatClampNeg) + x2)).1 31 (1 : Int32).toNatClampNeg) + x3)) 31 (2 : Int32).toNatClampNeg (((pI (pI σ 31 (0 : Int32).toNatClampNeg ((σ.1 31 (0 : Int32).toNatClampNeg) + x2)) 31 (1 : Int32).toNatClampNeg (((pI σ 31 (0 : Int32).toNatClampNeg ((σ.1 31 (0 : Int32).toNatClampNeg) + x2)).1 31 (1 : Int32).toNatClampNeg) + x3)).1 31 (2 : Int32).toNatClampNeg) + x4)).1 31 (3 : Int32).toNatClampNeg) + x5)).1 31 (4 : Int32).toNatClampNeg) + x6)).1 31 (5 : Int32).toNatClampNeg) + x7)) 31 (6 : Int32).toNatClampNeg (((pI (pI (pI (pI (pI (pI σ 31 (0 : Int32).toNatClampNeg ((σ.1 31 (0 : Int32).toNatClampNeg) + x2)) 31 (1 : Int32).toNatClampNeg (((pI σ 31 (0 : Int32).toNatClampNeg ((σ.1 31 (0 : Int32).toNatClampNeg) + x2)).1 31 (1 : Int32).toNatClampNeg) + x3)) 31 (2 : Int32).toNatClampNeg (((pI (pI σ 31 (0 : Int32).toNatClampNeg ((σ.1 31 (0 : Int32).toNatClampNeg) + x2)) 31 (1 : Int32).toNatClampNeg (((pI σ 31 (0 : Int32).toNatClampNeg ((σ.1 31 (0 : Int32).toNatClampNeg) + x2)).1 31 (1 : Int32).toNatClampNeg) + x3)).1 31 (2 : Int32).toNatClampNeg) + x4)) 31 (3 : Int32).toNatClampNeg (((pI (pI (pI σ 31 (0 : Int32).toNatClampNeg ((σ.1 31 (0 : Int32).toNatClampNeg) + x2)) 31 (1 : Int32).toNatClampNeg (((pI σ 31 (0 : Int32).toNatClampNeg ((σ.1 31 (0 : Int32).toNatClampNeg) + x2)).1 31 (1 : Int32).toNatClampNeg) + x3)) 31 (2 : Int32).toNatClampNeg (((pI (pI σ 31 (0 : Int32).toNatClampNeg ((σ.1 31 (0 : Int32).toNatClampNeg) + x2)) 31 (1 : Int32).toNatClampNeg (((pI σ 31 (0 : Int32).toNatClampNeg ((σ.1 31 (0 : Int32).toNatClampNeg) + x2)).1 31 (1 : Int32).toNatClampNeg) + x3)).1 31 (2 : Int32).toNatClampNeg) + x4)).1 31 (3 : Int32).toNatClampNeg) + x5)) 31 (4 : Int32).toNatClampNeg (((pI (pI (pI (pI σ 31 (0 : Int32).toNatClampNeg ((σ.1 31 (0 : Int32).toNatClampNeg) + x2)) 31 (1 : Int32).toNatClampNeg (((pI σ 31 (0 : Int32).toNatClampNeg ((σ.1 31 (0 : Int32).toNatClampNeg) + x2)).1 31 (1 : Int32).toNatClampNeg) + x3)) 31 (2 : Int32).toNatClampNeg (((pI (pI σ 31 (0 : Int32).toNatClampNeg ((σ.1 31 (0 : Int32).toNatClampNeg) + x2)) 31 (1 : Int32).toNatClampNeg (((pI σ 31 (0 : Int32).toNatClampNeg ((σ.1 31 (0 : Int32).toNatClampNeg) + x2)).1 31 (1 : Int32).toNatClampNeg) + x3)).1 31 (2 : Int32).toNatClampNeg) + x4)) 31 (3 : Int32).toNatClampNeg (((pI (pI (pI σ 31 (0 : Int32).toNatClampNeg ((σ.1 31 (0 : Int32).toNatClampNeg) + x2)) 31 (1 : Int32).toNatClampNeg (((pI σ 31 (0 : Int32).toNatClampNeg ((σ.1 31 (0 : Int32).toNatClampNeg) + x2)).1 31 (1 : Int32).toNatClampNeg) + x3)) 31 (2 : Int32).toNatClampNeg (((pI (pI σ 31 (0 : Int32).toNatClampNeg ((σ.1 31 (0 : Int32).toNatClampNeg) + x2)) 31 (1 : Int32).toNatClampNeg (((pI σ 31 (0 : Int32).toNatClampNeg ((σ.1 31 (0 : Int32).toNatClampNeg) + x2)).1 31 (1 : Int32).toNatClampNeg) + x3)).1 31 (2 : Int32).toNatClampNeg) + x4)).1 31 (3 : Int32).toNatClampNeg) + x5)).1 31 (4 : Int32).toNatClampNeg) + x6)) 31 (5 : Int32).toNatClampNeg (((pI (pI (pI (pI (pI σ 31 (0 : Int32).toNatClampNeg ((σ.1 31 (0 : Int32).toNatClampNeg) + x2)) 31 (1 : Int32).toNatClampNeg (((pI σ 31 (0 : Int32).toNatClampNeg ((σ.1 31 (0 : Int32).toNatClampNeg) + x2)).1 31 (1 : Int32).toNatClampNeg) + x3)) 31 (2 : Int32).toNatClampNeg (((pI (pI σ 31 (0 : Int32).toNatClampNeg ((σ.1 31 (0 : Int32).toNatClampNeg) + x2)) 31 (1 : Int32).toNatClampNeg (((pI σ 31 (0 : Int32).toNatClampNeg ((σ.1 31 (0 : Int32).toNatClampNeg) + x2)).1 31 (1 : Int32).toNatClampNeg) + x3)).1 31 (2 : Int32).toNatClampNeg) + x4)) 31 (3 : Int32).toNatClampNeg (((pI (pI (pI σ 31 (0 : Int32).toNatClampNeg ((σ.1 31 (0 : Int32).toNatClampNeg) + x2)) 31 (1 : Int32).toNatClampNeg (((pI σ 31 (0 : Int32).toNatClampNeg ((σ.1 31 (0 : Int32).toNatClampNeg) + x2)).1 31 (1 : Int32).toNatClampNeg) + x3)) 31 (2 : Int32).toNatClampNeg (((pI (pI σ 31 (0 : Int32).toNatClampNeg ((σ.1 31 (0 : Int32).toNatClampNeg) + x2)) 31 (1 : Int32).toNatClampNeg (((pI σ 31 (0 : Int32).toNatClampNeg ((σ.1 31 (0 : Int32).toNatClampNeg) + x2)).1 31 (1 : Int32).toNatClampNeg) + x3)).1 31 (2 : Int32).toNatClampNeg) + x4)).1 31 (3 : Int32).toNatClampNeg) + x5)) 31 (4 : Int32).toNatClampNeg (((pI (pI (pI (pI σ 31 (0 : Int32).toNatClampNeg ((σ.1 31 (0 : Int32).toNatClampNeg) + x2)) 31 (1 : Int32).toNatClampNeg (((pI σ 31 (0 : Int32).toNatClampNeg ((σ.1 31 (0 : Int32).toNatClampNeg) + x2)).1 31 (1 : Int32).toNatClampNeg) + x3)) 31 (2 : Int32).toNatClampNeg (((pI (pI σ 31 (0 : Int32).toNatClampNeg ((σ.1 31 (0 : Int32).toNatClampNeg) + x2)) 31 (1 : Int32).toNatClampNeg (((pI σ 31 (0 : Int32).toNatClampNeg ((σ.1 31 (0 : Int32).toNatClampNeg) + x2)).1 31 (1 : Int32).toNatClampNeg) + x3)).1 31 (2 : Int32).toNatClampNeg) + x4)) 31 (3 : Int32).toNatClampNeg (((pI (pI (pI σ 31 (0 : Int32).toNatClampNeg ((σ.1 31 (0 : Int32).toNatClampNeg) + x2)) 31 (1 : Int32).toNatClampNeg (((pI σ 31 (0 : Int32).toNatClampNeg ((σ.1 31 (0 : Int32).toNatClampNeg) + x2)).1 31 (1 : Int32).toNatClampNeg) + x3)) 31 (2 : Int32).toNatClampNeg (((pI (pI σ 31 (0 : Int32).toNatClampNeg ((σ.1 31 (0 : Int32).toNatClampNeg) + x2)) 31 (1 : Int32).toNatClampNeg (((pI σ 31 (0 : Int32).toNatClampNeg ((σ.1 31 (0 : Int32).toNatClampNeg) + x2)).1 31 (1 : Int32).toNatClampNeg) + x3)).1 31 (2 : Int32).toNatClampNeg) + x4)).1 31 (3 : Int32).toNatClampNeg) + x5)).1 31 (4 : Int32).toNatClampNeg) + x6)).1 31 (5 : Int32).toNatClampNeg) + x7)).1 31 (6 : Int32).toNatClampNeg) + x8)) 31 (7 : Int32).toNatClampNeg (((pI (pI (pI (pI (pI (pI (pI σ 31 (0 : Int32).toNatClampNeg ((σ.1 31 (0 : Int32).toNatClampNeg) + x2)) 31 (1 : Int32).toNatClampNeg (((pI σ 31 (0 : Int32).toNatClampNeg ((σ.1 31 (0 : Int32).toNatClampNeg) + x2)).1 31 (1 : Int32).toNatClampNeg) + x3)) 31 (2 : Int32).toNatClampNeg (((pI (pI σ 31 (0 : Int32).toNatClampNeg ((σ.1 31 (0 : Int32).toNatClampNeg) + x2)) 31 (1 : Int32).toNatClampNeg (((pI σ 31 (0 : Int32).toNatClampNeg ((σ.1 31 (0 : Int32).toNatClampNeg) + x2)).1 31 (1 : Int32).toNatClampNeg) + x3)).1 31 (2 : Int32).toNatClampNeg) + x4)) 31 (3 : Int32).toNatClampNeg (((pI (pI (pI σ 31 (0 : Int32).toNatClampNeg ((σ.1 31 (0 : Int32).toNatClampNeg) + x2)) 31 (1 : Int32).toNatClampNeg (((pI σ 31 (0 : Int32).toNatClampNeg ((σ.1 31 (0 : Int32).toNatClampNeg) + x2)).1 31 (1 : Int32).toNatClampNeg) + x3)) 31 (2 : Int32).toNatClampNeg (((pI (pI σ 31 (0 : Int32).toNatClampNeg ((σ.1 31 (0 : Int32).toNatClampNeg) + x2)) 31 (1 : Int32).toNatClampNeg (((pI σ 31 (0 : Int32).toNatClampNeg ((σ.1 31 (0 : Int32).toNatClampNeg) + x2)).1 31 (1 : Int32).toNatClampNeg) + x3)).1 31 (2 : Int32).toNatClampNeg) + x4)).1 31 (3 : Int32).toNatClampNeg) + x5)) 31 (4 : Int32).toNatClampNeg (((pI (pI (pI (pI σ 31 (0 : Int32).toNatClampNeg ((σ.1 31 (0 : Int32).toNatClampNeg) + x2)) 31 (1 : Int32).toNatClampNeg (((pI σ 31 (0 : Int32).toNatClampNeg ((σ.1 31 (0 : Int32).toNatClampNeg) + x2)).1 31 (1 : Int32).toNatClampNeg) + x3)) 31 (2 : Int32).toNatClampNeg (((pI (pI σ 31 (0 : Int32).toNatClampNeg ((σ.1 31 (0 : Int32).toNatClampNeg) + x2)) 31 (1 : Int32).toNatClampNeg (((pI σ 31 (0 : Int32).toNatClampNeg ((σ.1 31 (0 : Int32).toNatClampNeg) + x2)).1 31 (1 : Int32).toNatClampNeg) + x3)).1 31 (2 : Int32).toNatClampNeg) + x4)) 31 (3 : Int32).toNatClampNeg (((pI (pI (pI σ 31 (0 : Int32).toNatClampNeg ((σ.1 31 (0 : Int32).toNatClampNeg) + x2)) 31 (1 : Int32).toNatClampNeg (((pI σ 31 (0 : Int32).toNatClampNeg ((σ.1 31 (0 : Int32).toNatClampNeg) + x2)).1 31 (1 : Int32).toNatClampNeg) + x3)) 31 (2 : Int32).toNatClampNeg (((pI (pI σ 31 (0 : Int32).toNatClampNeg ((σ.1 31 (0 : Int32).toNatClampNeg) + x2)) 31 (1 : Int32).toNatClampNeg (((pI σ 31 (0 : Int32).toNatClampNeg ((σ.1 31 (0 : Int32).toNatClampNeg) + x2)).1 31 (1 : Int32).toNatClampNeg) + x3)).1 31 (2 : Int32).toNatClampNeg) + x4)).1 31 (3 : Int32).toNatClampNeg) + x5)).1 31 (4 : Int32).toNatClampNeg) + x6)) 31 (5 : Int32).toNatClampNeg (((pI (pI (pI (pI (pI σ 31 (0 : Int32).toNatClampNeg ((σ.1 31 (0 : Int32).toNatClampNeg) + x2)) 31 (1 : Int32).toNatClampNeg (((pI σ 31 (0 : Int32).toNatClampNeg ((σ.1 31 (0 : Int32).toNatClampNeg) + x2)).1 31 (1 : Int32).toNatClampNeg) + x3)) 31 (2 : Int32).toNatClampNeg (((pI (pI σ 31 (0 : Int32).toNatClampNeg ((σ.1 31 (0 : Int32).toNatClampNeg) + x2)) 31 (1 : Int32).toNatClampNeg (((pI σ 31 (0 : Int32).toNatClampNeg ((σ.1 31 (0 : Int32).toNatClampNeg) + x2)).1 31 (1 : Int32).toNatClampNeg) + x3)).1 31 (2 : Int32).toNatClampNeg) + x4)) 31 (3 : Int32).toNatClampNeg (((pI (pI (pI σ 31 (0 : Int32).toNatClampNeg ((σ.1 31 (0 : Int32).toNatClampNeg) + x2)) 31 (1 : Int32).toNatClampNeg (((pI σ 31 (0 : Int32).toNatClampNeg ((σ.1 31 (0 : Int32).toNatClampNeg) + x2)).1 31 (1 : Int32).toNatClampNeg) + x3)) 31 (2 : Int32).toNatClampNeg (((pI (pI σ 31 (0 : Int32).toNatClampNeg ((σ.1 31 (0 : Int32).toNatClampNeg) + x2)) 31 (1 : Int32).toNatClampNeg (((pI σ 31 (0 : Int32).toNatClampNeg ((σ.1 31 (0 : Int32).toNatClampNeg) + x2)).1 31 (1 : Int32).toNatClampNeg) + x3)).1 31 (2 : Int32).toNatClampNeg) + x4)).1 31 (3 : Int32).toNatClampNeg) + x5)) 31 (4 : Int32).toNatClampNeg (((pI (pI (pI (pI σ 31 (0 : Int32).toNatClampNeg ((σ.1 31 (0 : Int32).toNatClampNeg) + x2)) 31 (1 : Int32).toNatClampNeg (((pI σ 31 (0 : Int32).toNatClampNeg ((σ.1 31 (0 : Int32).toNatClampNeg) + x2)).1 31 (1 : Int32).toNatClampNeg) + x3)) 31 (2 : Int32).toNatClampNeg (((pI (pI σ 31 (0 : Int32).toNatClampNeg ((σ.1 31 (0 : Int32).toNatClampNeg) + x2)) 31 (1 : Int32).toNatClampNeg (((pI σ 31 (0 : Int32).toNatClampNeg ((σ.1 31 (0 : Int32).toNatClampNeg) + x2)).1 31 (1 : Int32).toNatClampNeg) + x3)).1 31 (2 : Int32).toNatClampNeg) + x4)) 31 (3 : Int32).toNatClampNeg (((pI (pI (pI σ 31 (0 : Int32).toNatClampNeg ((σ.1 31 (0 : Int32).toNatClampNeg) + x2)) 31 (1 : Int32).toNatClampNeg (((pI σ 31 (0 : Int32).toNatClampNeg ((σ.1 31 (0 : Int32).toNatClampNeg) + x2)).1 31 (1 : Int32).toNatClampNeg) + x3)) 31 (2 : Int32).toNatClampNeg (((pI (pI σ 31 (0 : Int32).toNatClampNeg ((σ.1 31 (0 : Int32).toNatClampNeg) + x2)) 31 (1 : Int32).toNatClampNeg (((pI σ 31 (0 : Int32).toNatClampNeg ((σ.1 31 (0 : Int32).toNatClampNeg) + x2)).1 31 (1 : Int32).toNatClampNeg) + x3)).1 31 (2 : Int32).toNatClampNeg) + x4)).1 31 (3 : Int32).toNatClampNeg) + x5)).1 31 (4 : Int32).toNatClampNeg) + x6)).1 31 (5 : Int32).toNatClampNeg) + x7)) 31 (6 : Int32).toNatClampNeg (((pI (pI (pI (pI (pI (pI σ 31 (0 : Int32).toNatClampNeg ((σ.1 31 (0 : Int32).toNatClampNeg) + x2)) 31 (1 : Int32).toNatClampNeg (((pI σ 31 (0 : Int32).toNatClampNeg ((σ.1 31 (0 : Int32).toNatClampNeg) + x2)).1 31 (1 : Int32).toNatClampNeg) + x3)) 31 (2 : Int32).toNatClampNeg (((pI (pI σ 31 (0 : Int32).toNatClampNeg ((σ.1 31 (0 : Int32).toNatClampNeg) + x2)) 31 (1 : Int32).toNatClampNeg (((pI σ 31 (0 : Int32).toNatClampNeg ((σ.1 31 (0 : Int32).toNatClampNeg) + x2)).1 31 (1 : Int32).toNatClampNeg) + x3)).1 31 (2 : Int32).toNatClampNeg) + x4)) 31 (3 : Int32).toNatClampNeg (((pI (pI (pI σ 31 (0 : Int32).toNatClampNeg ((σ.1 31 (0 : Int32).toNatClampNeg) + x2)) 31 (1 : Int32).toNatClampNeg (((pI σ 31 (0 : Int32).toNatClampNeg ((σ.1 31 (0 : Int32).toNatClampNeg) + x2)).1 31 (1 : Int32).toNatClampNeg) + x3)) 31 (2 : Int32).toNatClampNeg (((pI (pI σ 31 (0 : Int32).toNatClampNeg ((σ.1 31 (0 : Int32).toNatClampNeg) + x2)) 31 (1 : Int32).toNatClampNeg (((pI σ 31 (0 : Int32).toNatClampNeg ((σ.1 31 (0 : Int32).toNatClampNeg) + x2)).1 31 (1 : Int32).toNatClampNeg) + x3)).1 31 (2 : Int32).toNatClampNeg) + x4)).1 31 (3 : Int32).toNatClampNeg) + x5)) 31 (4 : Int32).toNatClampNeg (((pI (pI (pI (pI σ 31 (0 : Int32).toNatClampNeg ((σ.1 31 (0 : Int32).toNatClampNeg) + x2)) 31 (1 : Int32).toNatClampNeg (((pI σ 31 (0 : Int32).toNatClampNeg ((σ.1 31 (0 : Int32).toNatClampNeg) + x2)).1 31 (1 : Int32).toNatClampNeg) + x3)) 31 (2 : Int32).toNatClampNeg (((pI (pI σ 31 (0 : Int32).toNatClampNeg ((σ.1 31 (0 : Int32).toNatClampNeg) + x2)) 31 (1 : Int32).toNatClampNeg (((pI σ 31 (0 : Int32).toNatClampNeg ((σ.1 31 (0 : Int32).toNatClampNeg) + x2)).1 31 (1 : Int32).toNatClampNeg) + x3)).1 31 (2 : Int32).toNatClampNeg) + x4)) 31 (3 : Int32).toNatClampNeg (((pI (pI (pI σ 31 (0 : Int32).toNatClampNeg ((σ.1 31 (0 : Int32).toNatClampNeg) + x2)) 31 (1 : Int32).toNatClampNeg (((pI σ 31 (0 : Int32).toNatClampNeg ((σ.1 31 (0 : Int32).toNatClampNeg) + x2)).1 31 (1 : Int32).toNatClampNeg) + x3)) 31 (2 : Int32).toNatClampNeg (((pI (pI σ 31 (0 : Int32).toNatClampNeg ((σ.1 31 (0 : Int32).toNatClampNeg) + x2)) 31 (1 : Int32).toNatClampNeg (((pI σ 31 (0 : Int32).toNatClampNeg ((σ.1 31 (0 : Int32).toNatClampNeg) + x2)).1 31 (1 : Int32).toNatClampNeg) + x3)).1 31 (2 : Int32).toNatClampNeg) + x4)).1 31 (3 : Int32).toNatClampNeg) + x5)).1 31 (4 : Int32).toNatClampNeg) + x6)) 31 (5 : Int32).toNatClampNeg (((pI (pI (pI (pI (pI σ 31 (0 : Int32).toNatClampNeg ((σ.1 31 (0 : Int32).toNatClampNeg) + x2)) 31 (1 : Int32).toNatClampNeg (((pI σ 31 (0 : Int32).toNatClampNeg ((σ.1 31 (0 : Int32).toNatClampNeg) + x2)).1 31 (1 : Int32).toNatClampNeg) + x3)) 31 (2 : Int32).toNatClampNeg (((pI (pI σ 31 (0 : Int32).toNatClampNeg ((σ.1 31 (0 : Int32).toNatClampNeg) + x2)) 31 (1 : Int32).toNatClampNeg (((pI σ 31 (0 : Int32).toNatClampNeg ((σ.1 31 (0 : Int32).toNatClampNeg) + x2)).1 31 (1 : Int32).toNatClampNeg) + x3)).1 31 (2 : Int32).toNatClampNeg) + x4)) 31 (3 : Int32).toNatClampNeg (((pI (pI (pI σ 31 (0 : Int32).toNatClampNeg ((σ.1 31 (0 : Int32).toNatClampNeg) + x2)) 31 (1 : Int32).toNatClampNeg (((pI σ 31 (0 : Int32).toNatClampNeg ((σ.1 31 (0 : Int32).toNatClampNeg) + x2)).1 31 (1 : Int32).toNatClampNeg) + x3)) 31 (2 : Int32).toNatClampNeg (((pI (pI σ 31 (0 : Int32).toNatClampNeg ((σ.1 31 (0 : Int32).toNatClampNeg) + x2)) 31 (1 : Int32).toNatClampNeg (((pI σ 31 (0 : Int32).toNatClampNeg ((σ.1 31 (0 : Int32).toNatClampNeg) + x2)).1 31 (1 : Int32).toNatClampNeg) + x3)).1 31 (2 : Int32).toNatClampNeg) + x4)).1 31 (3 : Int32).toNatClampNeg) + x5)) 31 (4 : Int32).toNatClampNeg (((pI (pI (pI (pI σ 31 (0 : Int32).toNatClampNeg ((σ.1 31 (0 : Int32).toNatClampNeg) + x2)) 31 (1 : Int32).toNatClampNeg (((pI σ 31 (0 : Int32).toNatClampNeg ((σ.1 31 (0 : Int32).toNatClampNeg) + x2)).1 31 (1 : Int32).toNatClampNeg) + x3)) 31 (2 : Int32).toNatClampNeg (((pI (pI σ 31 (0 : Int32).toNatClampNeg ((σ.1 31 (0 : Int32).toNatClampNeg) + x2)) 31 (1 : Int32).toNatClampNeg (((pI σ 31 (0 : Int32).toNatClampNeg ((σ.1 31 (0 : Int32).toNatClampNeg) + x2)).1 31 (1 : Int32).toNatClampNeg) + x3)).1 31 (2 : Int32).toNatClampNeg) + x4)) 31 (3 : Int32).toNatClampNeg (((pI (pI (pI σ 31 (0 : Int32).toNatClampNeg ((σ.1 31 (0 : Int32).toNatClampNeg) + x2)) 31 (1 : Int32).toNatClampNeg (((pI σ 31 (0 : Int32).toNatClampNeg ((σ.1 31 (0 : Int32).toNatClampNeg) + x2)).1 31 (1 : Int32).toNatClampNeg) + x3)) 31 (2 : Int32).toNatClampNeg (((pI (pI σ 31 (0 : Int32).toNatClampNeg ((σ.1 31 (0 : Int32).toNatClampNeg) + x2)) 31 (1 : Int32).toNatClampNeg (((pI σ 31 (0 : Int32).toNatClampNeg ((σ.1 31 (0 : Int32).toNatClampNeg) + x2)).1 31 (1 : Int32).toNatClampNeg) + x3)).1 31 (2 : Int32).toNatClampNeg) + x4)).1 31 (3 : Int32).toNatClampNeg) + x5)).1 31 (4 : Int32).toNatClampNeg) + x6)).1 31 (5 : Int32).toNatClampNeg) + x7)).1 31 (6 : Int32).toNatClampNeg) + x8)).1 31 (7 : Int32).toNatClampNeg) + x9))) ∧
  (¬ (64 ≤ x10) →
  sp_X8_turn x6 6 σ (fun r45 u46 =>
  sp_X8_turn x6 11 u46 (fun r47 u48 =>
  sp_X8_turn x6 25 u48 (fun r49 u50 =>
  vp_in x10 64 ∧
  vp_in x10 64 ∧
  sp_X8_turn x2 2 u50 (fun r53 u54 =>
  sp_X8_turn x2 13 u54 (fun r55 u56 =>
  sp_X8_turn x2 22 u56 (fun r57 u58 =>
  L245 (((((x9 + ((r45 ^^^ r47) ^^^ r49)) + ((x6 &&& x7) ^^^ ((x6 ^^^ (-1)) &&& x8))) + (u50.1 30 x10.toNatClampNeg)) + (u50.1 29 x10.toNatClampNeg)) + (((r53 ^^^ r55) ^^^ r57) + (((x2 &&& x3) ^^^ (x2 &&& x4)) ^^^ (x3 &&& x4)))) x2 x3 x4 (x5 + ((((x9 + ((r45 ^^^ r47) ^^^ r49)) + ((x6 &&& x7) ^^^ ((x6 ^^^ (-1)) &&& x8))) + (u50.1 30 x10.toNatClampNeg)) + (u50.1 29 x10.toNatClampNeg))) x6 x7 x8 (x10 + 1) u58)))))))
def f_X8_compress_81 (x1 : Int32) (L2 : Int32 → Sg → Prop) (L81 : Int32 → Sg → Prop) (L245 : Int32 → Int32 → Int32 → Int32 → Int32 → Int32 → Int32 → Int32 → Int32 → Sg → Prop) (Po : Sg → Prop) (x2 : Int32) (σ : Sg) : Prop :=
  (64 ≤ x2 →
  vp_in 0 8 ∧
  vp_in 1 8 ∧
  vp_in 2 8 ∧
  vp_in 3 8 ∧
  vp_in 4 8 ∧
  vp_in 5 8 ∧
  vp_in 6 8 ∧
  vp_in 7 8 ∧
  L245 (σ.1 31 (0 : Int32).toNatClampNeg) (σ.1 31 (1 : Int32).toNatClampNeg) (σ.1 31 (2 : Int32).toNatClampNeg) (σ.1 31 (3 : Int32).toNatClampNeg) (σ.1 31 (4 : Int32).toNatClampNeg) (σ.1 31 (5 : Int32).toNatClampNeg) (σ.1 31 (6 : Int32).toNatClampNeg) (σ.1 31 (7 : Int32).toNatClampNeg) 0 σ) ∧
  (¬ (64 ≤ x2) →
  vp_in (x2 - 15) 64 ∧
  vp_in (x2 - 2) 64 ∧
  vp_in (x2 - 16) 64 ∧
  sp_X8_turn (σ.1 29 (x2 - 15).toNatClampNeg) 7 σ (fun r18 u19 =>
  sp_X8_turn (σ.1 29 (x2 - 15).toNatClampNeg) 18 u19 (fun r20 u21 =>
  vp_in (x2 - 7) 64 ∧
  sp_X8_turn (σ.1 29 (x2 - 2).toNatClampNeg) 17 u21 (fun r23 u24 =>
  sp_X8_turn (σ.1 29 (x2 - 2).toNatClampNeg) 19 u24 (fun r25 u26 =>
  vp_in x2 64 ∧
  L81 (x2 + 1) (pI u26 29 x2.toNatClampNeg ((((σ.1 29 (x2 - 16).toNatClampNeg) + ((r18 ^^^ r20) ^^^ (iush (σ.1 29 (x2 - 15).toNatClampNeg) 3))) + (u21.1 29 (x2 - 7).toNatClampNeg)) + ((r23 ^^^ r25) ^^^ (iush (σ.1 29 (x2 - 2).toNatClampNeg) 10)))))))))
def f_X8_compress_2 (x1 : Int32) (L2 : Int32 → Sg → Prop) (L81 : Int32 → Sg → Prop) (L245 : Int32 → Int32 → Int32 → Int32 → Int32 → Int32 → Int32 → Int32 → Int32 → Sg → Prop) (Po : Sg → Prop) (x2 : Int32) (σ : Sg) : Prop :=
  (16 ≤ x2 →
  L81 16 σ) ∧
  (¬ (16 ≤ x2) →
  vp_in (x1 + (4 * x2)) 128 ∧
  vp_in ((x1 + (4 * x2)) + 1) 128 ∧
  vp_in ((x1 + (4 * x2)) + 2) 128 ∧
  vp_in ((x1 + (4 * x2)) + 3) 128 ∧
  vp_in x2 64 ∧
  L2 (x2 + 1) (pI σ 29 x2.toNatClampNeg ((((ishl (σ.1 28 (x1 + (4 * x2)).toNatClampNeg) 24) ||| (ishl (σ.1 28 ((x1 + (4 * x2)) + 1).toNatClampNeg) 16)) ||| (ishl (σ.1 28 ((x1 + (4 * x2)) + 2).toNatClampNeg) 8)) ||| (σ.1 28 ((x1 + (4 * x2)) + 3).toNatClampNeg))))
def f_X8_compress_e (x1 : Int32) (L2 : Int32 → Sg → Prop) (L81 : Int32 → Sg → Prop) (L245 : Int32 → Int32 → Int32 → Int32 → Int32 → Int32 → Int32 → Int32 → Int32 → Sg → Prop) (Po : Sg → Prop) (σ : Sg) : Prop :=
  L2 0 σ
def vc_X8_compress (x1 : Int32) (σ : Sg) (Po : Sg → Prop) : Prop := ∀ L2 : Int32 → Sg → Prop, ∀ L81 : Int32 → Sg → Prop, ∀ L245 : Int32 → Int32 → Int32 → Int32 → Int32 → Int32 → Int32 → Int32 → Int32 → Sg → Prop, (∀ (x2 : Int32) (σ : Sg), f_X8_compress_2 x1 L2 L81 L245 Po x2 σ → L2 x2 σ) → (∀ (x2 : Int32) (σ : Sg), f_X8_compress_81 x1 L2 L81 L245 Po x2 σ → L81 x2 σ) → (∀ (x2 : Int32) (x3 : Int32) (x4 : Int32) (x5 : Int32) (x6 : Int32) (x7 : Int32) (x8 : Int32) (x9 : Int32) (x10 : Int32) (σ : Sg), f_X8_compress_245 x1 L2 L81 L245 Po x2 x3 x4 x5 x6 x7 x8 x9 x10 σ → L245 x2 x3 x4 x5 x6 x7 x8 x9 x10 σ) → f_X8_compress_e x1 L2 L81 L245 Po σ
def CT_X8_compress (l : Launch) (Ω : Wm) : Prop := ∀ (x1 : Int32) (σ : Sg) (K : Sg → Prop), sp_X8_compress x1 σ K → Ct l yX8_compress cX8_compress 13 none 1 21 Ω [.ref (Ω.2.2.1 0), .int x1] σ (QV Ω K)
def f_X8_octet_e (x1 : Int32) (Po : Sg → Prop) (σ : Sg) : Prop :=
  vp_in (σ.1 0 36) 128 ∧
  Po (pI (pI σ 0 36 ((σ.1 0 36) + 1)) 28 (σ.1 0 36).toNatClampNeg (x1 &&& 255))
def vc_X8_octet (x1 : Int32) (σ : Sg) (Po : Sg → Prop) : Prop := f_X8_octet_e x1 Po σ
def sp_X8_octet (x1 : Int32) (σ : Sg) (K : Sg → Prop) : Prop := vc_X8_octet x1 σ K
def CT_X8_octet (l : Launch) (Ω : Wm) : Prop := ∀ (x1 : Int32) (σ : Sg) (K : Sg → Prop), sp_X8_octet x1 σ K → Ct l yX8_octet cX8_octet 2 none 0 0 Ω [.ref (Ω.2.2.1 0), .int x1] σ (QV Ω K)
def f_X8_four_3 (x1 : Int32) (L3 : Int32 → Sg → Prop) (Po : Sg → Prop) (x2 : Int32) (σ : Sg) : Prop :=
  (x2 < 0 →
  Po σ) ∧
  (¬ (x2 < 0) →
  sp_X8_octet (ishr x1 x2) σ (fun u2 =>
  L3 (x2 + (-8)) u2))
def f_X8_four_e (x1 : Int32) (L3 : Int32 → Sg → Prop) (Po : Sg → Prop) (σ : Sg) : Prop :=
  L3 24 σ
def vc_X8_four (x1 : Int32) (σ : Sg) (Po : Sg → Prop) : Prop := ∀ L3 : Int32 → Sg → Prop, (∀ (x2 : Int32) (σ : Sg), f_X8_four_3 x1 L3 Po x2 σ → L3 x2 σ) → f_X8_four_e x1 L3 Po σ
def CT_X8_four (l : Launch) (Ω : Wm) : Prop := ∀ (x1 : Int32) (σ : Sg) (K : Sg → Prop), sp_X8_four x1 σ K → Ct l yX8_four cX8_four 3 none 1 21 Ω [.ref (Ω.2.2.1 0), .int x1] σ (QV Ω K)
def f_X8_hash_100 (x1 : Int32) (L17 : Int32 → Sg → Prop) (L64 : Int32 → Sg → Prop) (L146 : Int32 → Sg → Prop) (L205 : Int32 → Sg → Prop) (L229 : Int32 → Sg → Prop) (L255 : Int32 → Sg → Prop) (L275 : Int32 → Sg → Prop) (Po : Sg → Prop) (x2 : Int32) (s0 : Int32) (σ : Sg) : Prop :=
  sp_X8_four s0 σ (fun u26 =>
  L64 (x2 + 1) u26)
def f_X8_hash_53 (x1 : Int32) (L17 : Int32 → Sg → Prop) (L64 : Int32 → Sg → Prop) (L146 : Int32 → Sg → Prop) (L205 : Int32 → Sg → Prop) (L229 : Int32 → Sg → Prop) (L255 : Int32 → Sg → Prop) (L275 : Int32 → Sg → Prop) (Po : Sg → Prop) (x2 : Int32) (s0 : Int32) (σ : Sg) : Prop :=
  sp_X8_four s0 σ (fun u10 =>
  L17 (x2 + 1) u10)
def f_X8_hash_275 (x1 : Int32) (L17 : Int32 → Sg → Prop) (L64 : Int32 → Sg → Prop) (L146 : Int32 → Sg → Prop) (L205 : Int32 → Sg → Prop) (L229 : Int32 → Sg → Prop) (L255 : Int32 → Sg → Prop) (L275 : Int32 → Sg → Prop) (Po : Sg → Prop) (x3 : Int32) (σ : Sg) : Prop :=
  (8 ≤ x3 →
  Po σ) ∧
  (¬ (8 ≤ x3) →
  vp_in x3 8 ∧
  vp_in ((8 * x1) + x3) 1920 ∧
  L275 (x3 + 1) (pI σ 8 ((8 * x1) + x3).toNatClampNeg (σ.1 31 x3.toNatClampNeg)))
def f_X8_hash_255 (x1 : Int32) (L17 : Int32 → Sg → Prop) (L64 : Int32 → Sg → Prop) (L146 : Int32 → Sg → Prop) (L205 : Int32 → Sg → Prop) (L229 : Int32 → Sg → Prop) (L255 : Int32 → Sg → Prop) (L275 : Int32 → Sg → Prop) (Po : Sg → Prop) (x3 : Int32) (σ : Sg) : Prop :=
  (128 ≤ x3 →
  L275 0 σ) ∧
  (¬ (128 ≤ x3) →
  sp_X8_compress x3 σ (fun u46 =>
  L255 (x3 + 64) u46))
def f_X8_hash_229 (x1 : Int32) (L17 : Int32 → Sg → Prop) (L64 : Int32 → Sg → Prop) (L146 : Int32 → Sg → Prop) (L205 : Int32 → Sg → Prop) (L229 : Int32 → Sg → Prop) (L255 : Int32 → Sg → Prop) (L275 : Int32 → Sg → Prop) (Po : Sg → Prop) (x3 : Int32) (σ : Sg) : Prop :=
  (8 ≤ x3 →
  L255 0 σ) ∧
  (¬ (8 ≤ x3) →
  vp_in x3 8 ∧
  vp_in x3 8 ∧
  L229 (x3 + 1) (pI σ 31 x3.toNatClampNeg (σ.1 32 x3.toNatClampNeg)))
def f_X8_hash_205 (x1 : Int32) (L17 : Int32 → Sg → Prop) (L64 : Int32 → Sg → Prop) (L146 : Int32 → Sg → Prop) (L205 : Int32 → Sg → Prop) (L229 : Int32 → Sg → Prop) (L255 : Int32 → Sg → Prop) (L275 : Int32 → Sg → Prop) (Po : Sg → Prop) (x2 : Int32) (σ : Sg) : Prop :=
  (124 ≤ (σ.1 0 36) →
  sp_X8_four x2 σ (fun u38 =>
  L229 0 u38)) ∧
  (¬ (124 ≤ (σ.1 0 36)) →
  sp_X8_octet 0 σ (fun u40 =>
  L205 x2 u40))
def f_X8_hash_146 (x1 : Int32) (L17 : Int32 → Sg → Prop) (L64 : Int32 → Sg → Prop) (L146 : Int32 → Sg → Prop) (L205 : Int32 → Sg → Prop) (L229 : Int32 → Sg → Prop) (L255 : Int32 → Sg → Prop) (L275 : Int32 → Sg → Prop) (Po : Sg → Prop) (x2 : Int32) (σ : Sg) : Prop :=
  vp_in x1 240 ∧
  ((σ.1 4 x1.toNatClampNeg) ≤ x2 →
  sp_X8_octet 128 σ (fun u29 =>
  L205 (8 * (σ.1 0 36)) u29)) ∧
  (¬ ((σ.1 4 x1.toNatClampNeg) ≤ x2) →
  vp_in ((3 * x1) + x2) 720 ∧
  sp_X8_octet (σ.1 5 ((3 * x1) + x2).toNatClampNeg) σ (fun u32 =>
  vp_in ((3 * x1) + x2) 720 ∧
  sp_X8_four (u32.1 6 ((3 * x1) + x2).toNatClampNeg) u32 (fun u35 =>
  L146 (x2 + 1) u35)))
def f_X8_hash_64 (x1 : Int32) (L17 : Int32 → Sg → Prop) (L64 : Int32 → Sg → Prop) (L146 : Int32 → Sg → Prop) (L205 : Int32 → Sg → Prop) (L229 : Int32 → Sg → Prop) (L255 : Int32 → Sg → Prop) (L275 : Int32 → Sg → Prop) (Po : Sg → Prop) (x2 : Int32) (σ : Sg) : Prop :=
  (8 ≤ x2 →
  vp_in x1 240 ∧
  sp_X8_four ((lshr (σ.2 13 x1.toNatClampNeg) 32).toInt32) σ (fun u13 =>
  vp_in x1 240 ∧
  sp_X8_four ((u13.2 13 x1.toNatClampNeg).toInt32) u13 (fun u16 =>
  vp_in x1 240 ∧
  sp_X8_octet (u16.1 4 x1.toNatClampNeg) u16 (fun u19 =>
  L146 0 u19)))) ∧
  (¬ (8 ≤ x2) →
  vp_in x1 240 ∧
  (0 ≤ (σ.1 3 x1.toNatClampNeg) →
  vp_in x1 240 ∧
  vp_in ((8 * (σ.1 3 x1.toNatClampNeg)) + x2) 1920 ∧
  f_X8_hash_100 x1 L17 L64 L146 L205 L229 L255 L275 Po x2 (σ.1 8 ((8 * (σ.1 3 x1.toNatClampNeg)) + x2).toNatClampNeg) σ) ∧
  (¬ (0 ≤ (σ.1 3 x1.toNatClampNeg)) →
  f_X8_hash_100 x1 L17 L64 L146 L205 L229 L255 L275 Po x2 0 σ))
def f_X8_hash_17 (x1 : Int32) (L17 : Int32 → Sg → Prop) (L64 : Int32 → Sg → Prop) (L146 : Int32 → Sg → Prop) (L205 : Int32 → Sg → Prop) (L229 : Int32 → Sg → Prop) (L255 : Int32 → Sg → Prop) (L275 : Int32 → Sg → Prop) (Po : Sg → Prop) (x2 : Int32) (σ : Sg) : Prop :=
  (8 ≤ x2 →
  L64 0 σ) ∧
  (¬ (8 ≤ x2) →
  vp_in x1 240 ∧
  (0 ≤ (σ.1 2 x1.toNatClampNeg) →
  vp_in x1 240 ∧
  vp_in ((8 * (σ.1 2 x1.toNatClampNeg)) + x2) 1920 ∧
  f_X8_hash_53 x1 L17 L64 L146 L205 L229 L255 L275 Po x2 (σ.1 8 ((8 * (σ.1 2 x1.toNatClampNeg)) + x2).toNatClampNeg) σ) ∧
  (¬ (0 ≤ (σ.1 2 x1.toNatClampNeg)) →
  f_X8_hash_53 x1 L17 L64 L146 L205 L229 L255 L275 Po x2 0 σ))
def f_X8_hash_e (x1 : Int32) (L17 : Int32 → Sg → Prop) (L64 : Int32 → Sg → Prop) (L146 : Int32 → Sg → Prop) (L205 : Int32 → Sg → Prop) (L229 : Int32 → Sg → Prop) (L255 : Int32 → Sg → Prop) (L275 : Int32 → Sg → Prop) (Po : Sg → Prop) (σ : Sg) : Prop :=
  vp_in x1 240 ∧
  sp_X8_octet ((pI σ 0 36 0).1 1 x1.toNatClampNeg) (pI σ 0 36 0) (fun u3 =>
  L17 0 u3)
def vc_X8_hash (x1 : Int32) (σ : Sg) (Po : Sg → Prop) : Prop := ∀ L17 : Int32 → Sg → Prop, ∀ L64 : Int32 → Sg → Prop, ∀ L146 : Int32 → Sg → Prop, ∀ L205 : Int32 → Sg → Prop, ∀ L229 : Int32 → Sg → Prop, ∀ L255 : Int32 → Sg → Prop, ∀ L275 : Int32 → Sg → Prop, (∀ (x2 : Int32) (σ : Sg), f_X8_hash_17 x1 L17 L64 L146 L205 L229 L255 L275 Po x2 σ → L17 x2 σ) → (∀ (x2 : Int32) (σ : Sg), f_X8_hash_64 x1 L17 L64 L146 L205 L229 L255 L275 Po x2 σ → L64 x2 σ) → (∀ (x2 : Int32) (σ : Sg), f_X8_hash_146 x1 L17 L64 L146 L205 L229 L255 L275 Po x2 σ → L146 x2 σ) → (∀ (x2 : Int32) (σ : Sg), f_X8_hash_205 x1 L17 L64 L146 L205 L229 L255 L275 Po x2 σ → L205 x2 σ) → (∀ (x3 : Int32) (σ : Sg), f_X8_hash_229 x1 L17 L64 L146 L205 L229 L255 L275 Po x3 σ → L229 x3 σ) → (∀ (x3 : Int32) (σ : Sg), f_X8_hash_255 x1 L17 L64 L146 L205 L229 L255 L275 Po x3 σ → L255 x3 σ) → (∀ (x3 : Int32) (σ : Sg), f_X8_hash_275 x1 L17 L64 L146 L205 L229 L255 L275 Po x3 σ → L275 x3 σ) → f_X8_hash_e x1 L17 L64 L146 L205 L229 L255 L275 Po σ
def CT_X8_hash (l : Launch) (Ω : Wm) : Prop := ∀ (x1 : Int32) (σ : Sg) (K : Sg → Prop), sp_X8_hash x1 σ K → Ct l yX8_hash cX8_hash 4 none 2 53 Ω [.ref (Ω.2.2.1 0), .int x1] σ (QV Ω K)
def f_X8_isSelf_2 (x1 : Int32) (x2 : Int32) (L2 : Int32 → Sg → Prop) (Po : Int32 → Sg → Prop) (x3 : Int32) (σ : Sg) : Prop :=
  (x3 < 0 →
  Po 0 σ) ∧
  (¬ (x3 < 0) →
  (¬ x3 = x2 →
  vp_in x3 240 ∧
  L2 (σ.1 2 x3.toNatClampNeg) σ) ∧
  (x3 = x2 →
  Po 1 σ))
def f_X8_isSelf_e (x1 : Int32) (x2 : Int32) (L2 : Int32 → Sg → Prop) (Po : Int32 → Sg → Prop) (σ : Sg) : Prop :=
  L2 x1 σ
def vc_X8_isSelf (x1 : Int32) (x2 : Int32) (σ : Sg) (Po : Int32 → Sg → Prop) : Prop := ∀ L2 : Int32 → Sg → Prop, (∀ (x3 : Int32) (σ : Sg), f_X8_isSelf_2 x1 x2 L2 Po x3 σ → L2 x3 σ) → f_X8_isSelf_e x1 x2 L2 Po σ
def CT_X8_isSelf (l : Launch) (Ω : Wm) : Prop := ∀ (x1 : Int32) (x2 : Int32) (σ : Sg) (K : Int32 → Sg → Prop), sp_X8_isSelf x1 x2 σ K → Ct l yX8_isSelf cX8_isSelf 4 (some .boolean) 0 0 Ω [.ref (Ω.2.2.1 0), .int x1, .int x2] σ (QI Ω K)
def f_X8_isFork_43 (x1 : Int32) (x2 : Int32) (Po : Int32 → Sg → Prop) (s0 : Int32) (σ : Sg) : Prop :=
  isZ s0 ∧
  Po s0 σ
def f_X8_isFork_42 (x1 : Int32) (x2 : Int32) (Po : Int32 → Sg → Prop) (σ : Sg) : Prop :=
  f_X8_isFork_43 x1 x2 Po 0 σ
def f_X8_isFork_e (x1 : Int32) (x2 : Int32) (Po : Int32 → Sg → Prop) (σ : Sg) : Prop :=
  (x1 = x2 →
  f_X8_isFork_42 x1 x2 Po σ) ∧
  (¬ (x1 = x2) →
  vp_in x1 240 ∧
  vp_in x2 240 ∧
  (¬ (σ.1 1 x1.toNatClampNeg) = (σ.1 1 x2.toNatClampNeg) →
  f_X8_isFork_42 x1 x2 Po σ) ∧
  ((σ.1 1 x1.toNatClampNeg) = (σ.1 1 x2.toNatClampNeg) →
  sp_X8_isSelf x1 x2 σ (fun r3 u4 =>
  (¬ r3 = 0 →
  f_X8_isFork_42 x1 x2 Po u4) ∧
  (r3 = 0 →
  sp_X8_isSelf x2 x1 u4 (fun r5 u6 =>
  (¬ r5 = 0 →
  f_X8_isFork_42 x1 x2 Po u6) ∧
  (r5 = 0 →
  f_X8_isFork_43 x1 x2 Po 1 u6))))))
def vc_X8_isFork (x1 : Int32) (x2 : Int32) (σ : Sg) (Po : Int32 → Sg → Prop) : Prop := f_X8_isFork_e x1 x2 Po σ
def CT_X8_isFork (l : Launch) (Ω : Wm) : Prop := ∀ (x1 : Int32) (x2 : Int32) (σ : Sg) (K : Int32 → Sg → Prop), sp_X8_isFork x1 x2 σ K → Ct l yX8_isFork cX8_isFork 3 (some .boolean) 1 23 Ω [.ref (Ω.2.2.1 0), .int x1, .int x2] σ (QI Ω K)
def f_X8_isForked_89 (x1 : Int32) (x2 : Int32) (L2 : Int32 → Sg → Prop) (L38 : Int32 → Int32 → Sg → Prop) (Po : Int32 → Sg → Prop) (x3 : Int32) (σ : Sg) : Prop :=
  L2 (x3 + 1) σ
def f_X8_isForked_83 (x1 : Int32) (x2 : Int32) (L2 : Int32 → Sg → Prop) (L38 : Int32 → Int32 → Sg → Prop) (Po : Int32 → Sg → Prop) (x3 : Int32) (x4 : Int32) (σ : Sg) : Prop :=
  L38 x3 (x4 + 1) σ
def f_X8_isForked_38 (x1 : Int32) (x2 : Int32) (L2 : Int32 → Sg → Prop) (L38 : Int32 → Int32 → Sg → Prop) (Po : Int32 → Sg → Prop) (x3 : Int32) (x4 : Int32) (σ : Sg) : Prop :=
  (x3 ≤ x4 →
  f_X8_isForked_89 x1 x2 L2 L38 Po x3 σ) ∧
  (¬ (x3 ≤ x4) →
  vp_in x4 240 ∧
  (¬ (σ.1 1 x4.toNatClampNeg) = x2 →
  f_X8_isForked_83 x1 x2 L2 L38 Po x3 x4 σ) ∧
  ((σ.1 1 x4.toNatClampNeg) = x2 →
  vp_in ((240 * x1) + x4) 57600 ∧
  ((σ.1 14 ((240 * x1) + x4).toNatClampNeg) = 0 →
  f_X8_isForked_83 x1 x2 L2 L38 Po x3 x4 σ) ∧
  (¬ ((σ.1 14 ((240 * x1) + x4).toNatClampNeg) = 0) →
  sp_X8_isFork x3 x4 σ (fun r8 u9 =>
  (r8 = 0 →
  f_X8_isForked_83 x1 x2 L2 L38 Po x3 x4 u9) ∧
  (¬ (r8 = 0) →
  Po 1 u9)))))
def f_X8_isForked_2 (x1 : Int32) (x2 : Int32) (L2 : Int32 → Sg → Prop) (L38 : Int32 → Int32 → Sg → Prop) (Po : Int32 → Sg → Prop) (x3 : Int32) (σ : Sg) : Prop :=
  (x1 < x3 →
  Po 0 σ) ∧
  (¬ (x1 < x3) →
  vp_in x3 240 ∧
  (¬ (σ.1 1 x3.toNatClampNeg) = x2 →
  f_X8_isForked_89 x1 x2 L2 L38 Po x3 σ) ∧
  ((σ.1 1 x3.toNatClampNeg) = x2 →
  vp_in ((240 * x1) + x3) 57600 ∧
  (¬ (σ.1 14 ((240 * x1) + x3).toNatClampNeg) = 0 →
  L38 x3 0 σ) ∧
  ((σ.1 14 ((240 * x1) + x3).toNatClampNeg) = 0 →
  f_X8_isForked_89 x1 x2 L2 L38 Po x3 σ)))
def f_X8_isForked_e (x1 : Int32) (x2 : Int32) (L2 : Int32 → Sg → Prop) (L38 : Int32 → Int32 → Sg → Prop) (Po : Int32 → Sg → Prop) (σ : Sg) : Prop :=
  L2 0 σ
def vc_X8_isForked (x1 : Int32) (x2 : Int32) (σ : Sg) (Po : Int32 → Sg → Prop) : Prop := ∀ L2 : Int32 → Sg → Prop, ∀ L38 : Int32 → Int32 → Sg → Prop, (∀ (x3 : Int32) (σ : Sg), f_X8_isForked_2 x1 x2 L2 L38 Po x3 σ → L2 x3 σ) → (∀ (x3 : Int32) (x4 : Int32) (σ : Sg), f_X8_isForked_38 x1 x2 L2 L38 Po x3 x4 σ → L38 x3 x4 σ) → f_X8_isForked_e x1 x2 L2 L38 Po σ
def CT_X8_isForked (l : Launch) (Ω : Wm) : Prop := ∀ (x1 : Int32) (x2 : Int32) (σ : Sg) (K : Int32 → Sg → Prop), sp_X8_isForked x1 x2 σ K → Ct l yX8_isForked cX8_isForked 5 (some .boolean) 2 45 Ω [.ref (Ω.2.2.1 0), .int x1, .int x2] σ (QI Ω K)
def f_X8_isMost_17 (x1 : Int32) (Po : Int32 → Sg → Prop) (s0 : Int32) (σ : Sg) : Prop :=
  isZ s0 ∧
  Po s0 σ
def f_X8_isMost_e (x1 : Int32) (Po : Int32 → Sg → Prop) (σ : Sg) : Prop :=
  ((3 * x1) ≤ (2 * (σ.1 0 1)) →
  f_X8_isMost_17 x1 Po 0 σ) ∧
  (¬ ((3 * x1) ≤ (2 * (σ.1 0 1))) →
  f_X8_isMost_17 x1 Po 1 σ)
def vc_X8_isMost (x1 : Int32) (σ : Sg) (Po : Int32 → Sg → Prop) : Prop := f_X8_isMost_e x1 Po σ
def sp_X8_isMost (x1 : Int32) (σ : Sg) (K : Int32 → Sg → Prop) : Prop := vc_X8_isMost x1 σ K
def CT_X8_isMost (l : Launch) (Ω : Wm) : Prop := ∀ (x1 : Int32) (σ : Sg) (K : Int32 → Sg → Prop), sp_X8_isMost x1 σ K → Ct l yX8_isMost cX8_isMost 2 (some .boolean) 0 0 Ω [.ref (Ω.2.2.1 0), .int x1] σ (QI Ω K)
def f_X8_sees_39 (x1 : Int32) (x2 : Int32) (Po : Int32 → Sg → Prop) (s0 : Int32) (σ : Sg) : Prop :=
  isZ s0 ∧
  Po s0 σ
def f_X8_sees_38 (x1 : Int32) (x2 : Int32) (Po : Int32 → Sg → Prop) (σ : Sg) : Prop :=
  f_X8_sees_39 x1 x2 Po 0 σ
def f_X8_sees_e (x1 : Int32) (x2 : Int32) (Po : Int32 → Sg → Prop) (σ : Sg) : Prop :=
  vp_in ((240 * x1) + x2) 57600 ∧
  ((σ.1 14 ((240 * x1) + x2).toNatClampNeg) = 0 →
  f_X8_sees_38 x1 x2 Po σ) ∧
  (¬ ((σ.1 14 ((240 * x1) + x2).toNatClampNeg) = 0) →
  vp_in x2 240 ∧
  vp_in ((8 * x1) + (σ.1 1 x2.toNatClampNeg)) 1920 ∧
  (¬ (σ.1 16 ((8 * x1) + (σ.1 1 x2.toNatClampNeg)).toNatClampNeg) = 0 →
  f_X8_sees_38 x1 x2 Po σ) ∧
  ((σ.1 16 ((8 * x1) + (σ.1 1 x2.toNatClampNeg)).toNatClampNeg) = 0 →
  f_X8_sees_39 x1 x2 Po 1 σ))
def vc_X8_sees (x1 : Int32) (x2 : Int32) (σ : Sg) (Po : Int32 → Sg → Prop) : Prop := f_X8_sees_e x1 x2 Po σ
def CT_X8_sees (l : Launch) (Ω : Wm) : Prop := ∀ (x1 : Int32) (x2 : Int32) (σ : Sg) (K : Int32 → Sg → Prop), sp_X8_sees x1 x2 σ K → Ct l yX8_sees cX8_sees 3 (some .boolean) 0 0 Ω [.ref (Ω.2.2.1 0), .int x1, .int x2] σ (QI Ω K)
def f_X8_strongly_114 (x1 : Int32) (x2 : Int32) (L23 : Int32 → Int32 → Int32 → Sg → Prop) (Po : Int32 → Sg → Prop) (s0 : Int32) (σ : Sg) : Prop :=
  isZ s0 ∧
  Po s0 σ
def f_X8_strongly_99 (x1 : Int32) (x2 : Int32) (L23 : Int32 → Int32 → Int32 → Sg → Prop) (Po : Int32 → Sg → Prop) (x3 : Int32) (σ : Sg) : Prop :=
  vp_in x3 57600 ∧
  (¬ (σ.1 18 x3.toNatClampNeg) = 2 →
  f_X8_strongly_114 x1 x2 L23 Po 0 σ) ∧
  ((σ.1 18 x3.toNatClampNeg) = 2 →
  f_X8_strongly_114 x1 x2 L23 Po 1 σ)
def f_X8_strongly_97 (x1 : Int32) (x2 : Int32) (L23 : Int32 → Int32 → Int32 → Sg → Prop) (Po : Int32 → Sg → Prop) (x3 : Int32) (s0 : Int32) (s1 : Int32) (σ : Sg) : Prop :=
  vp_in s1 57600 ∧
  f_X8_strongly_99 x1 x2 L23 Po x3 (pI σ 18 s1.toNatClampNeg (vp_nar .byte (i2b s0)))
def f_X8_strongly_69 (x1 : Int32) (x2 : Int32) (L23 : Int32 → Int32 → Int32 → Sg → Prop) (Po : Int32 → Sg → Prop) (x3 : Int32) (x4 : Int32) (x5 : Int32) (σ : Sg) : Prop :=
  L23 x3 x4 (x5 + 1) σ
def f_X8_strongly_23 (x1 : Int32) (x2 : Int32) (L23 : Int32 → Int32 → Int32 → Sg → Prop) (Po : Int32 → Sg → Prop) (x3 : Int32) (x4 : Int32) (x5 : Int32) (σ : Sg) : Prop :=
  (x1 < x5 →
  sp_J6_bitCount_0f7a4 x4 σ (fun r3 u4 =>
  sp_X8_isMost r3 u4 (fun r5 u6 =>
  (r5 = 0 →
  f_X8_strongly_97 x1 x2 L23 Po x3 1 x3 u6) ∧
  (¬ (r5 = 0) →
  f_X8_strongly_97 x1 x2 L23 Po x3 2 x3 u6)))) ∧
  (¬ (x1 < x5) →
  sp_X8_sees x1 x5 σ (fun r8 u9 =>
  (r8 = 0 →
  f_X8_strongly_69 x1 x2 L23 Po x3 x4 x5 u9) ∧
  (¬ (r8 = 0) →
  (x5 < x2 →
  f_X8_strongly_69 x1 x2 L23 Po x3 x4 x5 u9) ∧
  (¬ (x5 < x2) →
  sp_X8_sees x5 x2 u9 (fun r10 u11 =>
  (r10 = 0 →
  f_X8_strongly_69 x1 x2 L23 Po x3 x4 x5 u11) ∧
  (¬ (r10 = 0) →
  vp_in x5 240 ∧
  f_X8_strongly_69 x1 x2 L23 Po x3 (x4 ||| (ishl 1 (u11.1 1 x5.toNatClampNeg))) x5 u11))))))
def f_X8_strongly_e (x1 : Int32) (x2 : Int32) (L23 : Int32 → Int32 → Int32 → Sg → Prop) (Po : Int32 → Sg → Prop) (σ : Sg) : Prop :=
  vp_in ((240 * x1) + x2) 57600 ∧
  (¬ (σ.1 18 ((240 * x1) + x2).toNatClampNeg) = 0 →
  f_X8_strongly_99 x1 x2 L23 Po ((240 * x1) + x2) σ) ∧
  ((σ.1 18 ((240 * x1) + x2).toNatClampNeg) = 0 →
  L23 ((240 * x1) + x2) 0 0 σ)
def vc_X8_strongly (x1 : Int32) (x2 : Int32) (σ : Sg) (Po : Int32 → Sg → Prop) : Prop := ∀ L23 : Int32 → Int32 → Int32 → Sg → Prop, (∀ (x3 : Int32) (x4 : Int32) (x5 : Int32) (σ : Sg), f_X8_strongly_23 x1 x2 L23 Po x3 x4 x5 σ → L23 x3 x4 x5 σ) → f_X8_strongly_e x1 x2 L23 Po σ
def CT_X8_strongly (l : Launch) (Ω : Wm) : Prop := ∀ (x1 : Int32) (x2 : Int32) (σ : Sg) (K : Int32 → Sg → Prop), sp_X8_strongly x1 x2 σ K → Ct l yX8_strongly cX8_strongly 6 (some .boolean) 1 22 Ω [.ref (Ω.2.2.1 0), .int x1, .int x2] σ (QI Ω K)
def f_X8_make_352 (x1 : Int32) (x2 : Int32) (x3 : Int32) (x4 : Int64) (L67 : Int32 → Int32 → Sg → Prop) (L157 : Int32 → Int32 → Sg → Prop) (L242 : Int32 → Int32 → Int32 → Int32 → Sg → Prop) (Po : Int32 → Sg → Prop) (x6 : Int32) (s0 : Int32) (s1 : Int32) (σ : Sg) : Prop :=
  vp_in s1 240 ∧
  isZ s0 ∧
  Po x6 (pI (pI σ 17 s1.toNatClampNeg s0) 0 22 (-1))
def f_X8_make_347 (x1 : Int32) (x2 : Int32) (x3 : Int32) (x4 : Int64) (L67 : Int32 → Int32 → Sg → Prop) (L157 : Int32 → Int32 → Sg → Prop) (L242 : Int32 → Int32 → Int32 → Int32 → Sg → Prop) (Po : Int32 → Sg → Prop) (x6 : Int32) (s0 : Int32) (σ : Sg) : Prop :=
  f_X8_make_352 x1 x2 x3 x4 L67 L157 L242 Po x6 1 s0 σ
def f_X8_make_317 (x1 : Int32) (x2 : Int32) (x3 : Int32) (x4 : Int64) (L67 : Int32 → Int32 → Sg → Prop) (L157 : Int32 → Int32 → Sg → Prop) (L242 : Int32 → Int32 → Int32 → Int32 → Sg → Prop) (Po : Int32 → Sg → Prop) (x6 : Int32) (x7 : Int32) (σ : Sg) : Prop :=
  vp_in x6 240 ∧
  (x2 < 0 →
  f_X8_make_347 x1 x2 x3 x4 L67 L157 L242 Po x6 x6 (pI σ 7 x6.toNatClampNeg x7)) ∧
  (¬ (x2 < 0) →
  vp_in x2 240 ∧
  (x7 ≤ ((pI σ 7 x6.toNatClampNeg x7).1 7 x2.toNatClampNeg) →
  f_X8_make_352 x1 x2 x3 x4 L67 L157 L242 Po x6 0 x6 (pI σ 7 x6.toNatClampNeg x7)) ∧
  (¬ (x7 ≤ ((pI σ 7 x6.toNatClampNeg x7).1 7 x2.toNatClampNeg)) →
  f_X8_make_347 x1 x2 x3 x4 L67 L157 L242 Po x6 x6 (pI σ 7 x6.toNatClampNeg x7)))
def f_X8_make_296 (x1 : Int32) (x2 : Int32) (x3 : Int32) (x4 : Int64) (L67 : Int32 → Int32 → Sg → Prop) (L157 : Int32 → Int32 → Sg → Prop) (L242 : Int32 → Int32 → Int32 → Int32 → Sg → Prop) (Po : Int32 → Sg → Prop) (x6 : Int32) (x7 : Int32) (x8 : Int32) (x9 : Int32) (σ : Sg) : Prop :=
  L242 x6 x7 x8 (x9 + 1) σ
def f_X8_make_234 (x1 : Int32) (x2 : Int32) (x3 : Int32) (x4 : Int64) (L67 : Int32 → Int32 → Sg → Prop) (L157 : Int32 → Int32 → Sg → Prop) (L242 : Int32 → Int32 → Int32 → Int32 → Sg → Prop) (Po : Int32 → Sg → Prop) (x6 : Int32) (s0 : Int32) (σ : Sg) : Prop :=
  L242 x6 s0 0 0 σ
def f_X8_make_228 (x1 : Int32) (x2 : Int32) (x3 : Int32) (x4 : Int64) (L67 : Int32 → Int32 → Sg → Prop) (L157 : Int32 → Int32 → Sg → Prop) (L242 : Int32 → Int32 → Int32 → Int32 → Sg → Prop) (Po : Int32 → Sg → Prop) (x6 : Int32) (σ : Sg) : Prop :=
  vp_in x2 240 ∧
  f_X8_make_234 x1 x2 x3 x4 L67 L157 L242 Po x6 (σ.1 7 x2.toNatClampNeg) σ
def f_X8_make_132 (x1 : Int32) (x2 : Int32) (x3 : Int32) (x4 : Int64) (L67 : Int32 → Int32 → Sg → Prop) (L157 : Int32 → Int32 → Sg → Prop) (L242 : Int32 → Int32 → Int32 → Int32 → Sg → Prop) (Po : Int32 → Sg → Prop) (x6 : Int32) (x7 : Int32) (s0 : Int32) (s1 : Int32) (σ : Sg) : Prop :=
  vp_in s1 57600 ∧
  isZ s0 ∧
  L67 x6 (x7 + 1) (pI σ 14 s1.toNatClampNeg s0)
def f_X8_make_131 (x1 : Int32) (x2 : Int32) (x3 : Int32) (x4 : Int64) (L67 : Int32 → Int32 → Sg → Prop) (L157 : Int32 → Int32 → Sg → Prop) (L242 : Int32 → Int32 → Int32 → Int32 → Sg → Prop) (Po : Int32 → Sg → Prop) (x6 : Int32) (x7 : Int32) (s0 : Int32) (σ : Sg) : Prop :=
  f_X8_make_132 x1 x2 x3 x4 L67 L157 L242 Po x6 x7 0 s0 σ
def f_X8_make_127 (x1 : Int32) (x2 : Int32) (x3 : Int32) (x4 : Int64) (L67 : Int32 → Int32 → Sg → Prop) (L157 : Int32 → Int32 → Sg → Prop) (L242 : Int32 → Int32 → Int32 → Int32 → Sg → Prop) (Po : Int32 → Sg → Prop) (x6 : Int32) (x7 : Int32) (s0 : Int32) (σ : Sg) : Prop :=
  f_X8_make_132 x1 x2 x3 x4 L67 L157 L242 Po x6 x7 1 s0 σ
def f_X8_make_107 (x1 : Int32) (x2 : Int32) (x3 : Int32) (x4 : Int64) (L67 : Int32 → Int32 → Sg → Prop) (L157 : Int32 → Int32 → Sg → Prop) (L242 : Int32 → Int32 → Int32 → Int32 → Sg → Prop) (Po : Int32 → Sg → Prop) (x6 : Int32) (x7 : Int32) (s0 : Int32) (σ : Sg) : Prop :=
  (x3 < 0 →
  f_X8_make_131 x1 x2 x3 x4 L67 L157 L242 Po x6 x7 s0 σ) ∧
  (¬ (x3 < 0) →
  vp_in ((240 * x3) + x7) 57600 ∧
  ((σ.1 14 ((240 * x3) + x7).toNatClampNeg) = 0 →
  f_X8_make_131 x1 x2 x3 x4 L67 L157 L242 Po x6 x7 s0 σ) ∧
  (¬ ((σ.1 14 ((240 * x3) + x7).toNatClampNeg) = 0) →
  f_X8_make_127 x1 x2 x3 x4 L67 L157 L242 Po x6 x7 s0 σ))
def f_X8_make_58 (x1 : Int32) (x2 : Int32) (x3 : Int32) (x4 : Int64) (L67 : Int32 → Int32 → Sg → Prop) (L157 : Int32 → Int32 → Sg → Prop) (L242 : Int32 → Int32 → Int32 → Int32 → Sg → Prop) (Po : Int32 → Sg → Prop) (x6 : Int32) (σ : Sg) : Prop :=
  sp_X8_hash x6 σ (fun u8 =>
  L67 x6 0 u8)
def f_X8_make_242 (x1 : Int32) (x2 : Int32) (x3 : Int32) (x4 : Int64) (L67 : Int32 → Int32 → Sg → Prop) (L157 : Int32 → Int32 → Sg → Prop) (L242 : Int32 → Int32 → Int32 → Int32 → Sg → Prop) (Po : Int32 → Sg → Prop) (x6 : Int32) (x7 : Int32) (x8 : Int32) (x9 : Int32) (σ : Sg) : Prop :=
  (x6 ≤ x9 →
  sp_J6_bitCount_0f7a4 x8 σ (fun r31 u32 =>
  sp_X8_isMost r31 u32 (fun r33 u34 =>
  (r33 = 0 →
  f_X8_make_317 x1 x2 x3 x4 L67 L157 L242 Po x6 x7 u34) ∧
  (¬ (r33 = 0) →
  f_X8_make_317 x1 x2 x3 x4 L67 L157 L242 Po x6 (x7 + 1) u34)))) ∧
  (¬ (x6 ≤ x9) →
  vp_in x9 240 ∧
  ((σ.1 17 x9.toNatClampNeg) = 0 →
  f_X8_make_296 x1 x2 x3 x4 L67 L157 L242 Po x6 x7 x8 x9 σ) ∧
  (¬ ((σ.1 17 x9.toNatClampNeg) = 0) →
  vp_in x9 240 ∧
  (¬ (σ.1 7 x9.toNatClampNeg) = x7 →
  f_X8_make_296 x1 x2 x3 x4 L67 L157 L242 Po x6 x7 x8 x9 σ) ∧
  ((σ.1 7 x9.toNatClampNeg) = x7 →
  sp_X8_strongly x6 x9 σ (fun r38 u39 =>
  (r38 = 0 →
  f_X8_make_296 x1 x2 x3 x4 L67 L157 L242 Po x6 x7 x8 x9 u39) ∧
  (¬ (r38 = 0) →
  vp_in x9 240 ∧
  f_X8_make_296 x1 x2 x3 x4 L67 L157 L242 Po x6 x7 (x8 ||| (ishl 1 (u39.1 1 x9.toNatClampNeg))) x9 u39)))))
def f_X8_make_157 (x1 : Int32) (x2 : Int32) (x3 : Int32) (x4 : Int64) (L67 : Int32 → Int32 → Sg → Prop) (L157 : Int32 → Int32 → Sg → Prop) (L242 : Int32 → Int32 → Int32 → Int32 → Sg → Prop) (Po : Int32 → Sg → Prop) (x6 : Int32) (x7 : Int32) (σ : Sg) : Prop :=
  ((σ.1 0 1) ≤ x7 →
  (x2 < 0 →
  f_X8_make_317 x1 x2 x3 x4 L67 L157 L242 Po x6 1 σ) ∧
  (¬ (x2 < 0) →
  (x3 < 0 →
  f_X8_make_228 x1 x2 x3 x4 L67 L157 L242 Po x6 σ) ∧
  (¬ (x3 < 0) →
  vp_in x3 240 ∧
  vp_in x2 240 ∧
  ((σ.1 7 x3.toNatClampNeg) ≤ (σ.1 7 x2.toNatClampNeg) →
  f_X8_make_228 x1 x2 x3 x4 L67 L157 L242 Po x6 σ) ∧
  (¬ ((σ.1 7 x3.toNatClampNeg) ≤ (σ.1 7 x2.toNatClampNeg)) →
  vp_in x3 240 ∧
  f_X8_make_234 x1 x2 x3 x4 L67 L157 L242 Po x6 (σ.1 7 x3.toNatClampNeg) σ)))) ∧
  (¬ ((σ.1 0 1) ≤ x7) →
  sp_X8_isForked x6 x7 σ (fun r25 u26 =>
  vp_in ((8 * x6) + x7) 1920 ∧
  isZ r25 ∧
  L157 x6 (x7 + 1) (pI u26 16 ((8 * x6) + x7).toNatClampNeg r25)))
def f_X8_make_67 (x1 : Int32) (x2 : Int32) (x3 : Int32) (x4 : Int64) (L67 : Int32 → Int32 → Sg → Prop) (L157 : Int32 → Int32 → Sg → Prop) (L242 : Int32 → Int32 → Int32 → Int32 → Sg → Prop) (Po : Int32 → Sg → Prop) (x6 : Int32) (x7 : Int32) (σ : Sg) : Prop :=
  (x6 ≤ x7 →
  vp_in ((240 * x6) + x6) 57600 ∧
  L157 x6 0 (pI σ 14 ((240 * x6) + x6).toNatClampNeg 1)) ∧
  (¬ (x6 ≤ x7) →
  (x2 < 0 →
  f_X8_make_107 x1 x2 x3 x4 L67 L157 L242 Po x6 x7 ((240 * x6) + x7) σ) ∧
  (¬ (x2 < 0) →
  vp_in ((240 * x2) + x7) 57600 ∧
  (¬ (σ.1 14 ((240 * x2) + x7).toNatClampNeg) = 0 →
  f_X8_make_127 x1 x2 x3 x4 L67 L157 L242 Po x6 x7 ((240 * x6) + x7) σ) ∧
  ((σ.1 14 ((240 * x2) + x7).toNatClampNeg) = 0 →
  f_X8_make_107 x1 x2 x3 x4 L67 L157 L242 Po x6 x7 ((240 * x6) + x7) σ)))
def f_X8_make_e (x1 : Int32) (x2 : Int32) (x3 : Int32) (x4 : Int64) (L67 : Int32 → Int32 → Sg → Prop) (L157 : Int32 → Int32 → Sg → Prop) (L242 : Int32 → Int32 → Int32 → Int32 → Sg → Prop) (Po : Int32 → Sg → Prop) (σ : Sg) : Prop :=
  vp_in (σ.1 0 2) 240 ∧
  vp_in (σ.1 0 2) 240 ∧
  vp_in (σ.1 0 2) 240 ∧
  vp_in (σ.1 0 2) 240 ∧
  (0 ≤ x2 →
  f_X8_make_58 x1 x2 x3 x4 L67 L157 L242 Po (σ.1 0 2) (pJ (pI (pI (pI (pI σ 0 2 ((σ.1 0 2) + 1)) 1 (σ.1 0 2).toNatClampNeg x1) 2 (σ.1 0 2).toNatClampNeg x2) 3 (σ.1 0 2).toNatClampNeg x3) 13 (σ.1 0 2).toNatClampNeg x4)) ∧
  (¬ (0 ≤ x2) →
  vp_in (σ.1 0 2) 240 ∧
  f_X8_make_58 x1 x2 x3 x4 L67 L157 L242 Po (σ.1 0 2) (pI (pJ (pI (pI (pI (pI σ 0 2 ((σ.1 0 2) + 1)) 1 (σ.1 0 2).toNatClampNeg x1) 2 (σ.1 0 2).toNatClampNeg x2) 3 (σ.1 0 2).toNatClampNeg x3) 13 (σ.1 0 2).toNatClampNeg x4) 4 (σ.1 0 2).toNatClampNeg 0))
def vc_X8_make (x1 : Int32) (x2 : Int32) (x3 : Int32) (x4 : Int64) (σ : Sg) (Po : Int32 → Sg → Prop) : Prop := ∀ L67 : Int32 → Int32 → Sg → Prop, ∀ L157 : Int32 → Int32 → Sg → Prop, ∀ L242 : Int32 → Int32 → Int32 → Int32 → Sg → Prop, (∀ (x6 : Int32) (x7 : Int32) (σ : Sg), f_X8_make_67 x1 x2 x3 x4 L67 L157 L242 Po x6 x7 σ → L67 x6 x7 σ) → (∀ (x6 : Int32) (x7 : Int32) (σ : Sg), f_X8_make_157 x1 x2 x3 x4 L67 L157 L242 Po x6 x7 σ → L157 x6 x7 σ) → (∀ (x6 : Int32) (x7 : Int32) (x8 : Int32) (x9 : Int32) (σ : Sg), f_X8_make_242 x1 x2 x3 x4 L67 L157 L242 Po x6 x7 x8 x9 σ → L242 x6 x7 x8 x9 σ) → f_X8_make_e x1 x2 x3 x4 L67 L157 L242 Po σ
def CT_X8_make (l : Launch) (Ω : Wm) : Prop := ∀ (x1 : Int32) (x2 : Int32) (x3 : Int32) (x4 : Int64) (σ : Sg) (K : Int32 → Sg → Prop), sp_X8_make x1 x2 x3 x4 σ K → Ct l yX8_make cX8_make 10 (some .int) 3 76 Ω [.ref (Ω.2.2.1 0), .int x1, .int x2, .int x3, .long x4] σ (QI Ω K)
def f_X8_anew_74 (x1 : Int32) (L17 : Int32 → Sg → Prop) (L39 : Int32 → Sg → Prop) (L74 : Int32 → Sg → Prop) (Po : Sg → Prop) (x2 : Int32) (σ : Sg) : Prop :=
  ((σ.1 0 1) ≤ x2 →
  Po σ) ∧
  (¬ ((σ.1 0 1) ≤ x2) →
  vp_in x2 8 ∧
  sp_X8_make x2 (-1) (-1) 0 (pI σ 10 x2.toNatClampNeg 0) (fun r8 u9 =>
  vp_in x2 8 ∧
  vp_in x2 8 ∧
  vp_in ((240 * x2) + ((pI u9 9 x2.toNatClampNeg r8).1 9 x2.toNatClampNeg)) 1920 ∧
  L74 (x2 + 1) (pI (pI u9 9 x2.toNatClampNeg r8) 15 ((240 * x2) + ((pI u9 9 x2.toNatClampNeg r8).1 9 x2.toNatClampNeg)).toNatClampNeg 1)))
def f_X8_anew_39 (x1 : Int32) (L17 : Int32 → Sg → Prop) (L39 : Int32 → Sg → Prop) (L74 : Int32 → Sg → Prop) (Po : Sg → Prop) (x2 : Int32) (σ : Sg) : Prop :=
  (57600 ≤ x2 →
  L74 0 σ) ∧
  (¬ (57600 ≤ x2) →
  vp_in x2 57600 ∧
  vp_in x2 57600 ∧
  vp_in x2 57600 ∧
  L39 (x2 + 1) (pI (pI (pI σ 14 x2.toNatClampNeg 0) 18 x2.toNatClampNeg (vp_nar .byte 0)) 19 x2.toNatClampNeg (vp_nar .byte 0)))
def f_X8_anew_17 (x1 : Int32) (L17 : Int32 → Sg → Prop) (L39 : Int32 → Sg → Prop) (L74 : Int32 → Sg → Prop) (Po : Sg → Prop) (x2 : Int32) (σ : Sg) : Prop :=
  (1920 ≤ x2 →
  L39 0 σ) ∧
  (¬ (1920 ≤ x2) →
  vp_in x2 1920 ∧
  L17 (x2 + 1) (pI σ 15 x2.toNatClampNeg 0))
def f_X8_anew_e (x1 : Int32) (L17 : Int32 → Sg → Prop) (L39 : Int32 → Sg → Prop) (L74 : Int32 → Sg → Prop) (Po : Sg → Prop) (σ : Sg) : Prop :=
  L17 0 (pI (pI (pI σ 0 1 x1) 0 2 0) 0 22 (-1))
def vc_X8_anew (x1 : Int32) (σ : Sg) (Po : Sg → Prop) : Prop := ∀ L17 : Int32 → Sg → Prop, ∀ L39 : Int32 → Sg → Prop, ∀ L74 : Int32 → Sg → Prop, (∀ (x2 : Int32) (σ : Sg), f_X8_anew_17 x1 L17 L39 L74 Po x2 σ → L17 x2 σ) → (∀ (x2 : Int32) (σ : Sg), f_X8_anew_39 x1 L17 L39 L74 Po x2 σ → L39 x2 σ) → (∀ (x2 : Int32) (σ : Sg), f_X8_anew_74 x1 L17 L39 L74 Po x2 σ → L74 x2 σ) → f_X8_anew_e x1 L17 L39 L74 Po σ
def CT_X8_anew (l : Launch) (Ω : Wm) : Prop := ∀ (x1 : Int32) (σ : Sg) (K : Sg → Prop), sp_X8_anew x1 σ K → Ct l yX8_anew cX8_anew 3 none 4 105 Ω [.ref (Ω.2.2.1 0), .int x1] σ (QV Ω K)
def f_X8_begin_33 (x1 : Int32) (Po : Sg → Prop) (σ : Sg) : Prop :=
  Po σ
def f_X8_begin_21 (x1 : Int32) (Po : Sg → Prop) (s0 : Int32) (σ : Sg) : Prop :=
  sp_X8_fails s0 1 σ (fun r4 u5 =>
  (¬ r4 = 0 →
  f_X8_begin_33 x1 Po u5) ∧
  (r4 = 0 →
  sp_X8_anew x1 u5 (fun u7 =>
  f_X8_begin_33 x1 Po u7)))
def f_X8_begin_e (x1 : Int32) (Po : Sg → Prop) (σ : Sg) : Prop :=
  sp_X8_in x1 2 8 (pI σ 0 0 0) (fun r1 u2 =>
  (¬ r1 = 0 →
  f_X8_begin_21 x1 Po 0 u2) ∧
  (r1 = 0 →
  f_X8_begin_21 x1 Po 1 u2))
def vc_X8_begin (x1 : Int32) (σ : Sg) (Po : Sg → Prop) : Prop := f_X8_begin_e x1 Po σ
def sp_X8_begin (x1 : Int32) (σ : Sg) (K : Sg → Prop) : Prop := vc_X8_begin x1 σ K
def CT_X8_begin (l : Launch) (Ω : Wm) : Prop := ∀ (x1 : Int32) (σ : Sg) (K : Sg → Prop), sp_X8_begin x1 σ K → Ct l yX8_begin cX8_begin 2 none 5 127 Ω [.ref (Ω.2.2.1 0), .int x1] σ (QV Ω K)
def f_X8_voteOf_234 (x1 : Int32) (x2 : Int32) (L75 : Int32 → Int32 → Int32 → Int32 → Int32 → Sg → Prop) (Po : Int32 → Sg → Prop) (x3 : Int32) (x5 : Int32) (σ : Sg) : Prop :=
  vp_in x3 57600 ∧
  Po x5 (pI σ 19 x3.toNatClampNeg (vp_nar .byte (i2b (x5 + 1))))
def f_X8_voteOf_232 (x1 : Int32) (x2 : Int32) (L75 : Int32 → Int32 → Int32 → Int32 → Int32 → Sg → Prop) (Po : Int32 → Sg → Prop) (x3 : Int32) (s0 : Int32) (σ : Sg) : Prop :=
  f_X8_voteOf_234 x1 x2 L75 Po x3 s0 σ
def f_X8_voteOf_202 (x1 : Int32) (x2 : Int32) (L75 : Int32 → Int32 → Int32 → Int32 → Int32 → Sg → Prop) (Po : Int32 → Sg → Prop) (x3 : Int32) (s0 : Int32) (s1 : Int32) (σ : Sg) : Prop :=
  f_X8_voteOf_234 x1 x2 L75 Po x3 (s1 + s0) σ
def f_X8_voteOf_178 (x1 : Int32) (x2 : Int32) (L75 : Int32 → Int32 → Int32 → Int32 → Int32 → Sg → Prop) (Po : Int32 → Sg → Prop) (x3 : Int32) (x4 : Int32) (x5 : Int32) (s0 : Int32) (σ : Sg) : Prop :=
  sp_X8_isMost s0 σ (fun r24 u25 =>
  ((irem x4 4) = 0 →
  (¬ r24 = 0 →
  f_X8_voteOf_234 x1 x2 L75 Po x3 x5 u25) ∧
  (r24 = 0 →
  vp_in ((8 * x1) + 4) 1920 ∧
  (0 ≤ (u25.1 8 ((8 * x1) + 4).toNatClampNeg) →
  f_X8_voteOf_232 x1 x2 L75 Po x3 0 u25) ∧
  (¬ (0 ≤ (u25.1 8 ((8 * x1) + 4).toNatClampNeg)) →
  f_X8_voteOf_232 x1 x2 L75 Po x3 1 u25))) ∧
  (¬ ((irem x4 4) = 0) →
  (r24 = 0 →
  f_X8_voteOf_202 x1 x2 L75 Po x3 0 x5 u25) ∧
  (¬ (r24 = 0) →
  f_X8_voteOf_202 x1 x2 L75 Po x3 2 x5 u25)))
def f_X8_voteOf_162 (x1 : Int32) (x2 : Int32) (L75 : Int32 → Int32 → Int32 → Int32 → Int32 → Sg → Prop) (Po : Int32 → Sg → Prop) (x3 : Int32) (x4 : Int32) (x6 : Int32) (x7 : Int32) (s0 : Int32) (σ : Sg) : Prop :=
  (¬ s0 = 1 →
  f_X8_voteOf_178 x1 x2 L75 Po x3 x4 s0 x7 σ) ∧
  (s0 = 1 →
  f_X8_voteOf_178 x1 x2 L75 Po x3 x4 s0 x6 σ)
def f_X8_voteOf_144 (x1 : Int32) (x2 : Int32) (L75 : Int32 → Int32 → Int32 → Int32 → Int32 → Sg → Prop) (Po : Int32 → Sg → Prop) (x3 : Int32) (x4 : Int32) (x6 : Int32) (x7 : Int32) (x8 : Int32) (σ : Sg) : Prop :=
  L75 x3 x4 x6 x7 (x8 + 1) σ
def f_X8_voteOf_61 (x1 : Int32) (x2 : Int32) (L75 : Int32 → Int32 → Int32 → Int32 → Int32 → Sg → Prop) (Po : Int32 → Sg → Prop) (x3 : Int32) (s0 : Int32) (σ : Sg) : Prop :=
  f_X8_voteOf_234 x1 x2 L75 Po x3 s0 σ
def f_X8_voteOf_75 (x1 : Int32) (x2 : Int32) (L75 : Int32 → Int32 → Int32 → Int32 → Int32 → Sg → Prop) (Po : Int32 → Sg → Prop) (x3 : Int32) (x4 : Int32) (x6 : Int32) (x7 : Int32) (x8 : Int32) (σ : Sg) : Prop :=
  (x1 ≤ x8 →
  (x6 < x7 →
  f_X8_voteOf_162 x1 x2 L75 Po x3 x4 x6 x7 0 σ) ∧
  (¬ (x6 < x7) →
  f_X8_voteOf_162 x1 x2 L75 Po x3 x4 x6 x7 1 σ)) ∧
  (¬ (x1 ≤ x8) →
  vp_in x8 240 ∧
  ((σ.1 17 x8.toNatClampNeg) = 0 →
  f_X8_voteOf_144 x1 x2 L75 Po x3 x4 x6 x7 x8 σ) ∧
  (¬ ((σ.1 17 x8.toNatClampNeg) = 0) →
  vp_in x8 240 ∧
  vp_in x1 240 ∧
  (¬ (σ.1 7 x8.toNatClampNeg) = ((σ.1 7 x1.toNatClampNeg) - 1) →
  f_X8_voteOf_144 x1 x2 L75 Po x3 x4 x6 x7 x8 σ) ∧
  ((σ.1 7 x8.toNatClampNeg) = ((σ.1 7 x1.toNatClampNeg) - 1) →
  sp_X8_strongly x1 x8 σ (fun r14 u15 =>
  (¬ r14 = 0 →
  sp_X8_voteOf x8 x2 u15 (fun r16 u17 =>
  (¬ (r16 &&& 1) = 1 →
  f_X8_voteOf_144 x1 x2 L75 Po x3 x4 x6 (x7 + 1) x8 u17) ∧
  ((r16 &&& 1) = 1 →
  f_X8_voteOf_144 x1 x2 L75 Po x3 x4 (x6 + 1) x7 x8 u17))) ∧
  (r14 = 0 →
  f_X8_voteOf_144 x1 x2 L75 Po x3 x4 x6 x7 x8 u15)))))
def f_X8_voteOf_e (x1 : Int32) (x2 : Int32) (L75 : Int32 → Int32 → Int32 → Int32 → Int32 → Sg → Prop) (Po : Int32 → Sg → Prop) (σ : Sg) : Prop :=
  vp_in ((240 * x1) + x2) 57600 ∧
  ((σ.1 19 ((240 * x1) + x2).toNatClampNeg) = 0 →
  vp_in x1 240 ∧
  vp_in x2 240 ∧
  (¬ ((σ.1 7 x1.toNatClampNeg) - (σ.1 7 x2.toNatClampNeg)) = 1 →
  L75 ((240 * x1) + x2) ((σ.1 7 x1.toNatClampNeg) - (σ.1 7 x2.toNatClampNeg)) 0 0 0 σ) ∧
  (((σ.1 7 x1.toNatClampNeg) - (σ.1 7 x2.toNatClampNeg)) = 1 →
  sp_X8_sees x1 x2 σ (fun r4 u5 =>
  (r4 = 0 →
  f_X8_voteOf_61 x1 x2 L75 Po ((240 * x1) + x2) 0 u5) ∧
  (¬ (r4 = 0) →
  f_X8_voteOf_61 x1 x2 L75 Po ((240 * x1) + x2) 1 u5)))) ∧
  (¬ ((σ.1 19 ((240 * x1) + x2).toNatClampNeg) = 0) →
  vp_in ((240 * x1) + x2) 57600 ∧
  Po ((σ.1 19 ((240 * x1) + x2).toNatClampNeg) - 1) σ)
def vc_X8_voteOf (x1 : Int32) (x2 : Int32) (σ : Sg) (Po : Int32 → Sg → Prop) : Prop := ∀ L75 : Int32 → Int32 → Int32 → Int32 → Int32 → Sg → Prop, (∀ (x3 : Int32) (x4 : Int32) (x6 : Int32) (x7 : Int32) (x8 : Int32) (σ : Sg), f_X8_voteOf_75 x1 x2 L75 Po x3 x4 x6 x7 x8 σ → L75 x3 x4 x6 x7 x8 σ) → f_X8_voteOf_e x1 x2 L75 Po σ
def CT_X8_voteOf (l : Launch) (Ω : Wm) : Prop := ∀ (x1 : Int32) (x2 : Int32) (σ : Sg) (K : Int32 → Sg → Prop), sp_X8_voteOf x1 x2 σ K → Ct l yX8_voteOf cX8_voteOf 9 (some .int) 300 20000 Ω [.ref (Ω.2.2.1 0), .int x1, .int x2] σ (QI Ω K)
def f_X8_submit_69 (x1 : Int32) (x2 : Int32) (x3 : Int32) (Po : Int32 → Sg → Prop) (σ : Sg) : Prop :=
  Po 0 σ
def f_X8_submit_62 (x1 : Int32) (x2 : Int32) (x3 : Int32) (Po : Int32 → Sg → Prop) (s0 : Int32) (σ : Sg) : Prop :=
  sp_X8_fails s0 2 σ (fun r15 u16 =>
  (r15 = 0 →
  vp_in x1 8 ∧
  vp_in ((8 * x1) + (u16.1 10 x1.toNatClampNeg)) 64 ∧
  vp_in x1 8 ∧
  vp_in ((8 * x1) + ((pI u16 11 ((8 * x1) + (u16.1 10 x1.toNatClampNeg)).toNatClampNeg x2).1 10 x1.toNatClampNeg)) 64 ∧
  vp_in x1 8 ∧
  vp_in x1 8 ∧
  Po (((pI (pI u16 11 ((8 * x1) + (u16.1 10 x1.toNatClampNeg)).toNatClampNeg x2) 12 ((8 * x1) + ((pI u16 11 ((8 * x1) + (u16.1 10 x1.toNatClampNeg)).toNatClampNeg x2).1 10 x1.toNatClampNeg)).toNatClampNeg x3).1 10 x1.toNatClampNeg) + 1) (pI (pI (pI u16 11 ((8 * x1) + (u16.1 10 x1.toNatClampNeg)).toNatClampNeg x2) 12 ((8 * x1) + ((pI u16 11 ((8 * x1) + (u16.1 10 x1.toNatClampNeg)).toNatClampNeg x2).1 10 x1.toNatClampNeg)).toNatClampNeg x3) 10 x1.toNatClampNeg (((pI (pI u16 11 ((8 * x1) + (u16.1 10 x1.toNatClampNeg)).toNatClampNeg x2) 12 ((8 * x1) + ((pI u16 11 ((8 * x1) + (u16.1 10 x1.toNatClampNeg)).toNatClampNeg x2).1 10 x1.toNatClampNeg)).toNatClampNeg x3).1 10 x1.toNatClampNeg) + 1))) ∧
  (¬ (r15 = 0) →
  f_X8_submit_69 x1 x2 x3 Po u16))
def f_X8_submit_38 (x1 : Int32) (x2 : Int32) (x3 : Int32) (Po : Int32 → Sg → Prop) (s0 : Int32) (σ : Sg) : Prop :=
  sp_X8_fails s0 1 σ (fun r10 u11 =>
  (¬ r10 = 0 →
  f_X8_submit_69 x1 x2 x3 Po u11) ∧
  (r10 = 0 →
  vp_in x1 8 ∧
  (¬ (u11.1 10 x1.toNatClampNeg) = 8 →
  f_X8_submit_62 x1 x2 x3 Po 0 u11) ∧
  ((u11.1 10 x1.toNatClampNeg) = 8 →
  f_X8_submit_62 x1 x2 x3 Po 1 u11)))
def f_X8_submit_33 (x1 : Int32) (x2 : Int32) (x3 : Int32) (Po : Int32 → Sg → Prop) (σ : Sg) : Prop :=
  f_X8_submit_38 x1 x2 x3 Po 1 σ
def f_X8_submit_e (x1 : Int32) (x2 : Int32) (x3 : Int32) (Po : Int32 → Sg → Prop) (σ : Sg) : Prop :=
  sp_X8_isNode x1 (pI σ 0 0 0) (fun r1 u2 =>
  (r1 = 0 →
  f_X8_submit_33 x1 x2 x3 Po u2) ∧
  (¬ (r1 = 0) →
  sp_X8_isNode x2 u2 (fun r3 u4 =>
  (r3 = 0 →
  f_X8_submit_33 x1 x2 x3 Po u4) ∧
  (¬ (r3 = 0) →
  sp_X8_in x3 0 1000000 u4 (fun r5 u6 =>
  (¬ r5 = 0 →
  f_X8_submit_38 x1 x2 x3 Po 0 u6) ∧
  (r5 = 0 →
  f_X8_submit_33 x1 x2 x3 Po u6))))))
def vc_X8_submit (x1 : Int32) (x2 : Int32) (x3 : Int32) (σ : Sg) (Po : Int32 → Sg → Prop) : Prop := f_X8_submit_e x1 x2 x3 Po σ
def sp_X8_submit (x1 : Int32) (x2 : Int32) (x3 : Int32) (σ : Sg) (K : Int32 → Sg → Prop) : Prop := vc_X8_submit x1 x2 x3 σ K
def CT_X8_submit (l : Launch) (Ω : Wm) : Prop := ∀ (x1 : Int32) (x2 : Int32) (x3 : Int32) (σ : Sg) (K : Int32 → Sg → Prop), sp_X8_submit x1 x2 x3 σ K → Ct l yX8_submit cX8_submit 4 (some .int) 2 43 Ω [.ref (Ω.2.2.1 0), .int x1, .int x2, .int x3] σ (QI Ω K)
def f_X8_sync_132 (x1 : Int32) (x2 : Int32) (x3 : Int64) (L67 : Int32 → Sg → Prop) (L148 : Int32 → Int32 → Sg → Prop) (L217 : Int32 → Int32 → Sg → Prop) (Po : Int32 → Sg → Prop) (s0 : Int32) (σ : Sg) : Prop :=
  vp_in (σ.1 0 2) 240 ∧
  L148 s0 0 (pI σ 4 (σ.1 0 2).toNatClampNeg s0)
def f_X8_sync_106 (x1 : Int32) (x2 : Int32) (x3 : Int64) (L67 : Int32 → Sg → Prop) (L148 : Int32 → Int32 → Sg → Prop) (L217 : Int32 → Int32 → Sg → Prop) (Po : Int32 → Sg → Prop) (x5 : Int32) (σ : Sg) : Prop :=
  L67 (x5 + 1) σ
def f_X8_sync_62 (x1 : Int32) (x2 : Int32) (x3 : Int64) (L67 : Int32 → Sg → Prop) (L148 : Int32 → Int32 → Sg → Prop) (L217 : Int32 → Int32 → Sg → Prop) (Po : Int32 → Sg → Prop) (σ : Sg) : Prop :=
  Po 0 σ
def f_X8_sync_55 (x1 : Int32) (x2 : Int32) (x3 : Int64) (L67 : Int32 → Sg → Prop) (L148 : Int32 → Int32 → Sg → Prop) (L217 : Int32 → Int32 → Sg → Prop) (Po : Int32 → Sg → Prop) (s0 : Int32) (σ : Sg) : Prop :=
  sp_X8_fails s0 2 σ (fun r12 u13 =>
  (r12 = 0 →
  L67 0 u13) ∧
  (¬ (r12 = 0) →
  f_X8_sync_62 x1 x2 x3 L67 L148 L217 Po u13))
def f_X8_sync_32 (x1 : Int32) (x2 : Int32) (x3 : Int64) (L67 : Int32 → Sg → Prop) (L148 : Int32 → Int32 → Sg → Prop) (L217 : Int32 → Int32 → Sg → Prop) (Po : Int32 → Sg → Prop) (s0 : Int32) (σ : Sg) : Prop :=
  sp_X8_fails s0 1 σ (fun r8 u9 =>
  (¬ r8 = 0 →
  f_X8_sync_62 x1 x2 x3 L67 L148 L217 Po u9) ∧
  (r8 = 0 →
  (¬ (u9.1 0 2) = 240 →
  f_X8_sync_55 x1 x2 x3 L67 L148 L217 Po 0 u9) ∧
  ((u9.1 0 2) = 240 →
  f_X8_sync_55 x1 x2 x3 L67 L148 L217 Po 1 u9)))
def f_X8_sync_27 (x1 : Int32) (x2 : Int32) (x3 : Int64) (L67 : Int32 → Sg → Prop) (L148 : Int32 → Int32 → Sg → Prop) (L217 : Int32 → Int32 → Sg → Prop) (Po : Int32 → Sg → Prop) (σ : Sg) : Prop :=
  f_X8_sync_32 x1 x2 x3 L67 L148 L217 Po 1 σ
def f_X8_sync_217 (x1 : Int32) (x2 : Int32) (x3 : Int64) (L67 : Int32 → Sg → Prop) (L148 : Int32 → Int32 → Sg → Prop) (L217 : Int32 → Int32 → Sg → Prop) (Po : Int32 → Sg → Prop) (x5 : Int32) (x6 : Int32) (σ : Sg) : Prop :=
  vp_in x2 8 ∧
  ((σ.1 10 x2.toNatClampNeg) ≤ x6 →
  vp_in x2 8 ∧
  vp_in x2 8 ∧
  vp_in x2 8 ∧
  vp_in x1 8 ∧
  sp_X8_make x2 ((pI σ 10 x2.toNatClampNeg ((σ.1 10 x2.toNatClampNeg) - x5)).1 9 x2.toNatClampNeg) ((pI σ 10 x2.toNatClampNeg ((σ.1 10 x2.toNatClampNeg) - x5)).1 9 x1.toNatClampNeg) x3 (pI σ 10 x2.toNatClampNeg ((σ.1 10 x2.toNatClampNeg) - x5)) (fun r33 u34 =>
  vp_in x2 8 ∧
  vp_in ((240 * x2) + r33) 1920 ∧
  Po r33 (pI (pI u34 9 x2.toNatClampNeg r33) 15 ((240 * x2) + r33).toNatClampNeg 1))) ∧
  (¬ ((σ.1 10 x2.toNatClampNeg) ≤ x6) →
  vp_in ((8 * x2) + x6) 64 ∧
  vp_in (((8 * x2) + x6) - x5) 64 ∧
  vp_in ((8 * x2) + x6) 64 ∧
  vp_in (((8 * x2) + x6) - x5) 64 ∧
  L217 x5 (x6 + 1) (pI (pI σ 11 (((8 * x2) + x6) - x5).toNatClampNeg (σ.1 11 ((8 * x2) + x6).toNatClampNeg)) 12 (((8 * x2) + x6) - x5).toNatClampNeg ((pI σ 11 (((8 * x2) + x6) - x5).toNatClampNeg (σ.1 11 ((8 * x2) + x6).toNatClampNeg)).1 12 ((8 * x2) + x6).toNatClampNeg)))
def f_X8_sync_148 (x1 : Int32) (x2 : Int32) (x3 : Int64) (L67 : Int32 → Sg → Prop) (L148 : Int32 → Int32 → Sg → Prop) (L217 : Int32 → Int32 → Sg → Prop) (Po : Int32 → Sg → Prop) (x5 : Int32) (x6 : Int32) (σ : Sg) : Prop :=
  (x5 ≤ x6 →
  L217 x5 x5 σ) ∧
  (¬ (x5 ≤ x6) →
  vp_in ((8 * x2) + x6) 64 ∧
  vp_in ((3 * (σ.1 0 2)) + x6) 720 ∧
  vp_in ((8 * x2) + x6) 64 ∧
  vp_in ((3 * (((pI σ 5 ((3 * (σ.1 0 2)) + x6).toNatClampNeg (σ.1 11 ((8 * x2) + x6).toNatClampNeg))).1 0 2)) + x6) 720 ∧
  L148 x5 (x6 + 1) (pI (pI σ 5 ((3 * (σ.1 0 2)) + x6).toNatClampNeg (σ.1 11 ((8 * x2) + x6).toNatClampNeg)) 6 ((3 * (((pI σ 5 ((3 * (σ.1 0 2)) + x6).toNatClampNeg (σ.1 11 ((8 * x2) + x6).toNatClampNeg))).1 0 2)) + x6).toNatClampNeg ((pI σ 5 ((3 * (σ.1 0 2)) + x6).toNatClampNeg (σ.1 11 ((8 * x2) + x6).toNatClampNeg)).1 12 ((8 * x2) + x6).toNatClampNeg)))
def f_X8_sync_67 (x1 : Int32) (x2 : Int32) (x3 : Int64) (L67 : Int32 → Sg → Prop) (L148 : Int32 → Int32 → Sg → Prop) (L217 : Int32 → Int32 → Sg → Prop) (Po : Int32 → Sg → Prop) (x5 : Int32) (σ : Sg) : Prop :=
  ((σ.1 0 2) ≤ x5 →
  vp_in x2 8 ∧
  (3 ≤ (σ.1 10 x2.toNatClampNeg) →
  f_X8_sync_132 x1 x2 x3 L67 L148 L217 Po 3 σ) ∧
  (¬ (3 ≤ (σ.1 10 x2.toNatClampNeg)) →
  vp_in x2 8 ∧
  f_X8_sync_132 x1 x2 x3 L67 L148 L217 Po (σ.1 10 x2.toNatClampNeg) σ)) ∧
  (¬ ((σ.1 0 2) ≤ x5) →
  vp_in ((240 * x1) + x5) 1920 ∧
  ((σ.1 15 ((240 * x1) + x5).toNatClampNeg) = 0 →
  f_X8_sync_106 x1 x2 x3 L67 L148 L217 Po x5 σ) ∧
  (¬ ((σ.1 15 ((240 * x1) + x5).toNatClampNeg) = 0) →
  vp_in ((240 * x2) + x5) 1920 ∧
  f_X8_sync_106 x1 x2 x3 L67 L148 L217 Po x5 (pI σ 15 ((240 * x2) + x5).toNatClampNeg 1)))
def f_X8_sync_e (x1 : Int32) (x2 : Int32) (x3 : Int64) (L67 : Int32 → Sg → Prop) (L148 : Int32 → Int32 → Sg → Prop) (L217 : Int32 → Int32 → Sg → Prop) (Po : Int32 → Sg → Prop) (σ : Sg) : Prop :=
  sp_X8_isNode x1 (pI σ 0 0 0) (fun r1 u2 =>
  (r1 = 0 →
  f_X8_sync_27 x1 x2 x3 L67 L148 L217 Po u2) ∧
  (¬ (r1 = 0) →
  sp_X8_isNode x2 u2 (fun r3 u4 =>
  (r3 = 0 →
  f_X8_sync_27 x1 x2 x3 L67 L148 L217 Po u4) ∧
  (¬ (r3 = 0) →
  (¬ x1 = x2 →
  f_X8_sync_32 x1 x2 x3 L67 L148 L217 Po 0 u4) ∧
  (x1 = x2 →
  f_X8_sync_27 x1 x2 x3 L67 L148 L217 Po u4)))))
def vc_X8_sync (x1 : Int32) (x2 : Int32) (x3 : Int64) (σ : Sg) (Po : Int32 → Sg → Prop) : Prop := ∀ L67 : Int32 → Sg → Prop, ∀ L148 : Int32 → Int32 → Sg → Prop, ∀ L217 : Int32 → Int32 → Sg → Prop, (∀ (x5 : Int32) (σ : Sg), f_X8_sync_67 x1 x2 x3 L67 L148 L217 Po x5 σ → L67 x5 σ) → (∀ (x5 : Int32) (x6 : Int32) (σ : Sg), f_X8_sync_148 x1 x2 x3 L67 L148 L217 Po x5 x6 σ → L148 x5 x6 σ) → (∀ (x5 : Int32) (x6 : Int32) (σ : Sg), f_X8_sync_217 x1 x2 x3 L67 L148 L217 Po x5 x6 σ → L217 x5 x6 σ) → f_X8_sync_e x1 x2 x3 L67 L148 L217 Po σ
def CT_X8_sync (l : Launch) (Ω : Wm) : Prop := ∀ (x1 : Int32) (x2 : Int32) (x3 : Int64) (σ : Sg) (K : Int32 → Sg → Prop), sp_X8_sync x1 x2 x3 σ K → Ct l yX8_sync cX8_sync 7 (some .int) 4 105 Ω [.ref (Ω.2.2.1 0), .int x1, .int x2, .long x3] σ (QI Ω K)
def f_X8_holds_28 (x1 : Int32) (x2 : Int32) (Po : Int32 → Sg → Prop) (s0 : Int32) (σ : Sg) : Prop :=
  isZ s0 ∧
  Po s0 σ
def f_X8_holds_27 (x1 : Int32) (x2 : Int32) (Po : Int32 → Sg → Prop) (σ : Sg) : Prop :=
  f_X8_holds_28 x1 x2 Po 0 σ
def f_X8_holds_e (x1 : Int32) (x2 : Int32) (Po : Int32 → Sg → Prop) (σ : Sg) : Prop :=
  sp_X8_isEvent x2 σ (fun r1 u2 =>
  (r1 = 0 →
  f_X8_holds_27 x1 x2 Po u2) ∧
  (¬ (r1 = 0) →
  vp_in ((240 * x1) + x2) 1920 ∧
  ((u2.1 15 ((240 * x1) + x2).toNatClampNeg) = 0 →
  f_X8_holds_27 x1 x2 Po u2) ∧
  (¬ ((u2.1 15 ((240 * x1) + x2).toNatClampNeg) = 0) →
  f_X8_holds_28 x1 x2 Po 1 u2)))
def vc_X8_holds (x1 : Int32) (x2 : Int32) (σ : Sg) (Po : Int32 → Sg → Prop) : Prop := f_X8_holds_e x1 x2 Po σ
def sp_X8_holds (x1 : Int32) (x2 : Int32) (σ : Sg) (K : Int32 → Sg → Prop) : Prop := vc_X8_holds x1 x2 σ K
def CT_X8_holds (l : Launch) (Ω : Wm) : Prop := ∀ (x1 : Int32) (x2 : Int32) (σ : Sg) (K : Int32 → Sg → Prop), sp_X8_holds x1 x2 σ K → Ct l yX8_holds cX8_holds 3 (some .boolean) 2 43 Ω [.ref (Ω.2.2.1 0), .int x1, .int x2] σ (QI Ω K)
def f_X8_inject_193 (x1 : Int32) (x2 : Int32) (x3 : Int32) (x4 : Int32) (x5 : Int64) (L90 : Int32 → Sg → Prop) (Po : Int32 → Sg → Prop) (s0 : Int32) (σ : Sg) : Prop :=
  sp_X8_fails s0 3 σ (fun r37 u38 =>
  (r37 = 0 →
  vp_in (u38.1 0 2) 240 ∧
  sp_X8_make x2 x3 x4 x5 (pI u38 4 (u38.1 0 2).toNatClampNeg 0) (fun r40 u41 =>
  vp_in ((240 * x1) + r40) 1920 ∧
  Po r40 (pI u41 15 ((240 * x1) + r40).toNatClampNeg 1))) ∧
  (¬ (r37 = 0) →
  Po 0 u38))
def f_X8_inject_162 (x1 : Int32) (x2 : Int32) (x3 : Int32) (x4 : Int32) (x5 : Int64) (L90 : Int32 → Sg → Prop) (Po : Int32 → Sg → Prop) (x7 : Int32) (s0 : Int32) (σ : Sg) : Prop :=
  sp_X8_fails s0 2 σ (fun r34 u35 =>
  (r34 = 0 →
  L90 (x7 + 1) u35) ∧
  (¬ (r34 = 0) →
  Po 0 u35))
def f_X8_inject_161 (x1 : Int32) (x2 : Int32) (x3 : Int32) (x4 : Int32) (x5 : Int64) (L90 : Int32 → Sg → Prop) (Po : Int32 → Sg → Prop) (x7 : Int32) (σ : Sg) : Prop :=
  f_X8_inject_162 x1 x2 x3 x4 x5 L90 Po x7 0 σ
def f_X8_inject_78 (x1 : Int32) (x2 : Int32) (x3 : Int32) (x4 : Int32) (x5 : Int64) (L90 : Int32 → Sg → Prop) (Po : Int32 → Sg → Prop) (s0 : Int32) (σ : Sg) : Prop :=
  sp_X8_fails s0 1 σ (fun r19 u20 =>
  (r19 = 0 →
  L90 0 u20) ∧
  (¬ (r19 = 0) →
  Po 0 u20))
def f_X8_inject_77 (x1 : Int32) (x2 : Int32) (x3 : Int32) (x4 : Int32) (x5 : Int64) (L90 : Int32 → Sg → Prop) (Po : Int32 → Sg → Prop) (σ : Sg) : Prop :=
  f_X8_inject_78 x1 x2 x3 x4 x5 L90 Po 0 σ
def f_X8_inject_73 (x1 : Int32) (x2 : Int32) (x3 : Int32) (x4 : Int32) (x5 : Int64) (L90 : Int32 → Sg → Prop) (Po : Int32 → Sg → Prop) (σ : Sg) : Prop :=
  f_X8_inject_78 x1 x2 x3 x4 x5 L90 Po 1 σ
def f_X8_inject_90 (x1 : Int32) (x2 : Int32) (x3 : Int32) (x4 : Int32) (x5 : Int64) (L90 : Int32 → Sg → Prop) (Po : Int32 → Sg → Prop) (x7 : Int32) (σ : Sg) : Prop :=
  ((σ.1 0 2) ≤ x7 →
  (¬ (σ.1 0 2) = 240 →
  f_X8_inject_193 x1 x2 x3 x4 x5 L90 Po 0 σ) ∧
  ((σ.1 0 2) = 240 →
  f_X8_inject_193 x1 x2 x3 x4 x5 L90 Po 1 σ)) ∧
  (¬ ((σ.1 0 2) ≤ x7) →
  vp_in x7 240 ∧
  (¬ (σ.1 1 x7.toNatClampNeg) = x2 →
  f_X8_inject_161 x1 x2 x3 x4 x5 L90 Po x7 σ) ∧
  ((σ.1 1 x7.toNatClampNeg) = x2 →
  vp_in x7 240 ∧
  (¬ (σ.1 2 x7.toNatClampNeg) = x3 →
  f_X8_inject_161 x1 x2 x3 x4 x5 L90 Po x7 σ) ∧
  ((σ.1 2 x7.toNatClampNeg) = x3 →
  vp_in x7 240 ∧
  (¬ (σ.1 3 x7.toNatClampNeg) = x4 →
  f_X8_inject_161 x1 x2 x3 x4 x5 L90 Po x7 σ) ∧
  ((σ.1 3 x7.toNatClampNeg) = x4 →
  vp_in x7 240 ∧
  (¬ (lg_cmp (σ.2 13 x7.toNatClampNeg) x5) = 0 →
  f_X8_inject_161 x1 x2 x3 x4 x5 L90 Po x7 σ) ∧
  ((lg_cmp (σ.2 13 x7.toNatClampNeg) x5) = 0 →
  vp_in x7 240 ∧
  (¬ (σ.1 4 x7.toNatClampNeg) = 0 →
  f_X8_inject_161 x1 x2 x3 x4 x5 L90 Po x7 σ) ∧
  ((σ.1 4 x7.toNatClampNeg) = 0 →
  f_X8_inject_162 x1 x2 x3 x4 x5 L90 Po x7 1 σ))))))
def f_X8_inject_e (x1 : Int32) (x2 : Int32) (x3 : Int32) (x4 : Int32) (x5 : Int64) (L90 : Int32 → Sg → Prop) (Po : Int32 → Sg → Prop) (σ : Sg) : Prop :=
  sp_X8_isNode x1 (pI σ 0 0 0) (fun r1 u2 =>
  (r1 = 0 →
  f_X8_inject_73 x1 x2 x3 x4 x5 L90 Po u2) ∧
  (¬ (r1 = 0) →
  sp_X8_isNode x2 u2 (fun r3 u4 =>
  (r3 = 0 →
  f_X8_inject_73 x1 x2 x3 x4 x5 L90 Po u4) ∧
  (¬ (r3 = 0) →
  (x1 = x2 →
  f_X8_inject_73 x1 x2 x3 x4 x5 L90 Po u4) ∧
  (¬ (x1 = x2) →
  sp_X8_holds x1 x3 u4 (fun r5 u6 =>
  (r5 = 0 →
  f_X8_inject_73 x1 x2 x3 x4 x5 L90 Po u6) ∧
  (¬ (r5 = 0) →
  vp_in x3 240 ∧
  (¬ (u6.1 1 x3.toNatClampNeg) = x2 →
  f_X8_inject_73 x1 x2 x3 x4 x5 L90 Po u6) ∧
  ((u6.1 1 x3.toNatClampNeg) = x2 →
  (x4 = (-1) →
  f_X8_inject_77 x1 x2 x3 x4 x5 L90 Po u6) ∧
  (¬ (x4 = (-1)) →
  sp_X8_holds x1 x4 u6 (fun r8 u9 =>
  (r8 = 0 →
  f_X8_inject_73 x1 x2 x3 x4 x5 L90 Po u9) ∧
  (¬ (r8 = 0) →
  vp_in x4 240 ∧
  (¬ (u9.1 1 x4.toNatClampNeg) = x2 →
  f_X8_inject_77 x1 x2 x3 x4 x5 L90 Po u9) ∧
  ((u9.1 1 x4.toNatClampNeg) = x2 →
  f_X8_inject_73 x1 x2 x3 x4 x5 L90 Po u9))))))))))))
def vc_X8_inject (x1 : Int32) (x2 : Int32) (x3 : Int32) (x4 : Int32) (x5 : Int64) (σ : Sg) (Po : Int32 → Sg → Prop) : Prop := ∀ L90 : Int32 → Sg → Prop, (∀ (x7 : Int32) (σ : Sg), f_X8_inject_90 x1 x2 x3 x4 x5 L90 Po x7 σ → L90 x7 σ) → f_X8_inject_e x1 x2 x3 x4 x5 L90 Po σ
def CT_X8_inject (l : Launch) (Ω : Wm) : Prop := ∀ (x1 : Int32) (x2 : Int32) (x3 : Int32) (x4 : Int32) (x5 : Int64) (σ : Sg) (K : Int32 → Sg → Prop), sp_X8_inject x1 x2 x3 x4 x5 σ K → Ct l yX8_inject cX8_inject 8 (some .int) 4 105 Ω [.ref (Ω.2.2.1 0), .int x1, .int x2, .int x3, .int x4, .long x5] σ (QI Ω K)
def f_X8_event_213 (x1 : Int32) (x2 : Int32) (L149 : Int32 → Int32 → Sg → Prop) (L188 : Int32 → Int32 → Sg → Prop) (Po : Int32 → Sg → Prop) (x3 : Int32) (x4 : Int32) (σ : Sg) : Prop :=
  L188 x3 (x4 + 1) σ
def f_X8_event_177 (x1 : Int32) (x2 : Int32) (L149 : Int32 → Int32 → Sg → Prop) (L188 : Int32 → Int32 → Sg → Prop) (Po : Int32 → Sg → Prop) (x3 : Int32) (x4 : Int32) (σ : Sg) : Prop :=
  L149 x3 (x4 + 1) σ
def f_X8_event_138 (x1 : Int32) (x2 : Int32) (L149 : Int32 → Int32 → Sg → Prop) (L188 : Int32 → Int32 → Sg → Prop) (Po : Int32 → Sg → Prop) (s0 : Int32) (σ : Sg) : Prop :=
  Po s0 σ
def f_X8_event_49 (x1 : Int32) (x2 : Int32) (L149 : Int32 → Int32 → Sg → Prop) (L188 : Int32 → Int32 → Sg → Prop) (Po : Int32 → Sg → Prop) (σ : Sg) : Prop :=
  Po 0 σ
def f_X8_event_42 (x1 : Int32) (x2 : Int32) (L149 : Int32 → Int32 → Sg → Prop) (L188 : Int32 → Int32 → Sg → Prop) (Po : Int32 → Sg → Prop) (s0 : Int32) (σ : Sg) : Prop :=
  sp_X8_fails s0 2 σ (fun r10 u11 =>
  (r10 = 0 →
  (x2.toInt < 0 ∨ 6 < x2.toInt →
  L188 0 0 u11) ∧
  (x2.toInt = 0 →
  vp_in x1 240 ∧
  Po (u11.1 1 x1.toNatClampNeg) u11) ∧
  (x2.toInt = 1 →
  vp_in x1 240 ∧
  Po (u11.1 2 x1.toNatClampNeg) u11) ∧
  (x2.toInt = 2 →
  vp_in x1 240 ∧
  Po (u11.1 3 x1.toNatClampNeg) u11) ∧
  (x2.toInt = 3 →
  vp_in x1 240 ∧
  Po (u11.1 7 x1.toNatClampNeg) u11) ∧
  (x2.toInt = 4 →
  vp_in x1 240 ∧
  ((u11.1 17 x1.toNatClampNeg) = 0 →
  f_X8_event_138 x1 x2 L149 L188 Po 0 u11) ∧
  (¬ ((u11.1 17 x1.toNatClampNeg) = 0) →
  f_X8_event_138 x1 x2 L149 L188 Po 1 u11)) ∧
  (x2.toInt = 5 →
  vp_in x1 240 ∧
  Po (u11.1 4 x1.toNatClampNeg) u11) ∧
  (x2.toInt = 6 →
  L149 0 0 u11)) ∧
  (¬ (r10 = 0) →
  f_X8_event_49 x1 x2 L149 L188 Po u11))
def f_X8_event_21 (x1 : Int32) (x2 : Int32) (L149 : Int32 → Int32 → Sg → Prop) (L188 : Int32 → Int32 → Sg → Prop) (Po : Int32 → Sg → Prop) (s0 : Int32) (σ : Sg) : Prop :=
  sp_X8_fails s0 1 σ (fun r4 u5 =>
  (¬ r4 = 0 →
  f_X8_event_49 x1 x2 L149 L188 Po u5) ∧
  (r4 = 0 →
  sp_X8_isEvent x1 u5 (fun r6 u7 =>
  (¬ r6 = 0 →
  f_X8_event_42 x1 x2 L149 L188 Po 0 u7) ∧
  (r6 = 0 →
  f_X8_event_42 x1 x2 L149 L188 Po 1 u7))))
def f_X8_event_188 (x1 : Int32) (x2 : Int32) (L149 : Int32 → Int32 → Sg → Prop) (L188 : Int32 → Int32 → Sg → Prop) (Po : Int32 → Sg → Prop) (x3 : Int32) (x4 : Int32) (σ : Sg) : Prop :=
  (x1 < x4 →
  Po x3 σ) ∧
  (¬ (x1 < x4) →
  vp_in ((240 * x1) + x4) 57600 ∧
  ((σ.1 14 ((240 * x1) + x4).toNatClampNeg) = 0 →
  f_X8_event_213 x1 x2 L149 L188 Po x3 x4 σ) ∧
  (¬ ((σ.1 14 ((240 * x1) + x4).toNatClampNeg) = 0) →
  f_X8_event_213 x1 x2 L149 L188 Po (x3 + 1) x4 σ))
def f_X8_event_149 (x1 : Int32) (x2 : Int32) (L149 : Int32 → Int32 → Sg → Prop) (L188 : Int32 → Int32 → Sg → Prop) (Po : Int32 → Sg → Prop) (x3 : Int32) (x4 : Int32) (σ : Sg) : Prop :=
  ((σ.1 0 1) ≤ x4 →
  Po x3 σ) ∧
  (¬ ((σ.1 0 1) ≤ x4) →
  vp_in ((240 * x4) + x1) 1920 ∧
  ((σ.1 15 ((240 * x4) + x1).toNatClampNeg) = 0 →
  f_X8_event_177 x1 x2 L149 L188 Po x3 x4 σ) ∧
  (¬ ((σ.1 15 ((240 * x4) + x1).toNatClampNeg) = 0) →
  f_X8_event_177 x1 x2 L149 L188 Po (x3 + 1) x4 σ))
def f_X8_event_e (x1 : Int32) (x2 : Int32) (L149 : Int32 → Int32 → Sg → Prop) (L188 : Int32 → Int32 → Sg → Prop) (Po : Int32 → Sg → Prop) (σ : Sg) : Prop :=
  sp_X8_in x2 0 7 (pI σ 0 0 0) (fun r1 u2 =>
  (¬ r1 = 0 →
  f_X8_event_21 x1 x2 L149 L188 Po 0 u2) ∧
  (r1 = 0 →
  f_X8_event_21 x1 x2 L149 L188 Po 1 u2))
def vc_X8_event (x1 : Int32) (x2 : Int32) (σ : Sg) (Po : Int32 → Sg → Prop) : Prop := ∀ L149 : Int32 → Int32 → Sg → Prop, ∀ L188 : Int32 → Int32 → Sg → Prop, (∀ (x3 : Int32) (x4 : Int32) (σ : Sg), f_X8_event_149 x1 x2 L149 L188 Po x3 x4 σ → L149 x3 x4 σ) → (∀ (x3 : Int32) (x4 : Int32) (σ : Sg), f_X8_event_188 x1 x2 L149 L188 Po x3 x4 σ → L188 x3 x4 σ) → f_X8_event_e x1 x2 L149 L188 Po σ
def CT_X8_event (l : Launch) (Ω : Wm) : Prop := ∀ (x1 : Int32) (x2 : Int32) (σ : Sg) (K : Int32 → Sg → Prop), sp_X8_event x1 x2 σ K → Ct l yX8_event cX8_event 5 (some .int) 2 43 Ω [.ref (Ω.2.2.1 0), .int x1, .int x2] σ (QI Ω K)
def f_X8_hash__51 (x1 : Int32) (x2 : Int32) (Po : Int32 → Sg → Prop) (s0 : Int32) (σ : Sg) : Prop :=
  Po s0 σ
def f_X8_hash__29 (x1 : Int32) (x2 : Int32) (Po : Int32 → Sg → Prop) (s0 : Int32) (σ : Sg) : Prop :=
  sp_X8_fails s0 1 σ (fun r7 u8 =>
  (r7 = 0 →
  vp_in ((8 * x1) + x2) 1920 ∧
  f_X8_hash__51 x1 x2 Po (u8.1 8 ((8 * x1) + x2).toNatClampNeg) u8) ∧
  (¬ (r7 = 0) →
  f_X8_hash__51 x1 x2 Po 0 u8))
def f_X8_hash__24 (x1 : Int32) (x2 : Int32) (Po : Int32 → Sg → Prop) (σ : Sg) : Prop :=
  f_X8_hash__29 x1 x2 Po 1 σ
def f_X8_hash__e (x1 : Int32) (x2 : Int32) (Po : Int32 → Sg → Prop) (σ : Sg) : Prop :=
  sp_X8_isEvent x1 (pI σ 0 0 0) (fun r1 u2 =>
  (r1 = 0 →
  f_X8_hash__24 x1 x2 Po u2) ∧
  (¬ (r1 = 0) →
  sp_X8_in x2 0 7 u2 (fun r3 u4 =>
  (¬ r3 = 0 →
  f_X8_hash__29 x1 x2 Po 0 u4) ∧
  (r3 = 0 →
  f_X8_hash__24 x1 x2 Po u4))))
def vc_X8_hash_ (x1 : Int32) (x2 : Int32) (σ : Sg) (Po : Int32 → Sg → Prop) : Prop := f_X8_hash__e x1 x2 Po σ
def sp_X8_hash_ (x1 : Int32) (x2 : Int32) (σ : Sg) (K : Int32 → Sg → Prop) : Prop := vc_X8_hash_ x1 x2 σ K
def CT_X8_hash_ (l : Launch) (Ω : Wm) : Prop := ∀ (x1 : Int32) (x2 : Int32) (σ : Sg) (K : Int32 → Sg → Prop), sp_X8_hash_ x1 x2 σ K → Ct l yX8_hash_ cX8_hash_ 3 (some .int) 2 43 Ω [.ref (Ω.2.2.1 0), .int x1, .int x2] σ (QI Ω K)
def f_X8_sees__55 (x1 : Int32) (x2 : Int32) (x3 : Int32) (Po : Int32 → Sg → Prop) (s0 : Int32) (σ : Sg) : Prop :=
  isZ s0 ∧
  Po s0 σ
def f_X8_sees__27 (x1 : Int32) (x2 : Int32) (x3 : Int32) (Po : Int32 → Sg → Prop) (s0 : Int32) (σ : Sg) : Prop :=
  sp_X8_fails s0 1 σ (fun r7 u8 =>
  (r7 = 0 →
  (x3 = 0 →
  sp_X8_sees x1 x2 u8 (fun r9 u10 =>
  f_X8_sees__55 x1 x2 x3 Po r9 u10)) ∧
  (¬ (x3 = 0) →
  sp_X8_strongly x1 x2 u8 (fun r11 u12 =>
  f_X8_sees__55 x1 x2 x3 Po r11 u12))) ∧
  (¬ (r7 = 0) →
  Po 0 u8))
def f_X8_sees__22 (x1 : Int32) (x2 : Int32) (x3 : Int32) (Po : Int32 → Sg → Prop) (σ : Sg) : Prop :=
  f_X8_sees__27 x1 x2 x3 Po 1 σ
def f_X8_sees__e (x1 : Int32) (x2 : Int32) (x3 : Int32) (Po : Int32 → Sg → Prop) (σ : Sg) : Prop :=
  sp_X8_isEvent x1 (pI σ 0 0 0) (fun r1 u2 =>
  (r1 = 0 →
  f_X8_sees__22 x1 x2 x3 Po u2) ∧
  (¬ (r1 = 0) →
  sp_X8_isEvent x2 u2 (fun r3 u4 =>
  (¬ r3 = 0 →
  f_X8_sees__27 x1 x2 x3 Po 0 u4) ∧
  (r3 = 0 →
  f_X8_sees__22 x1 x2 x3 Po u4))))
def vc_X8_sees_ (x1 : Int32) (x2 : Int32) (x3 : Int32) (σ : Sg) (Po : Int32 → Sg → Prop) : Prop := f_X8_sees__e x1 x2 x3 Po σ
def sp_X8_sees_ (x1 : Int32) (x2 : Int32) (x3 : Int32) (σ : Sg) (K : Int32 → Sg → Prop) : Prop := vc_X8_sees_ x1 x2 x3 σ K
def CT_X8_sees_ (l : Launch) (Ω : Wm) : Prop := ∀ (x1 : Int32) (x2 : Int32) (x3 : Int32) (σ : Sg) (K : Int32 → Sg → Prop), sp_X8_sees_ x1 x2 x3 σ K → Ct l yX8_sees_ cX8_sees_ 4 (some .boolean) 2 47 Ω [.ref (Ω.2.2.1 0), .int x1, .int x2, .int x3] σ (QI Ω K)
def f_X8_vote_80 (x1 : Int32) (x2 : Int32) (Po : Int32 → Sg → Prop) (σ : Sg) : Prop :=
  Po 0 σ
def f_X8_vote_73 (x1 : Int32) (x2 : Int32) (Po : Int32 → Sg → Prop) (s0 : Int32) (σ : Sg) : Prop :=
  sp_X8_fails s0 2 σ (fun r17 u18 =>
  (r17 = 0 →
  sp_X8_voteOf x1 x2 u18 (fun r19 u20 =>
  Po r19 u20)) ∧
  (¬ (r17 = 0) →
  f_X8_vote_80 x1 x2 Po u18))
def f_X8_vote_68 (x1 : Int32) (x2 : Int32) (Po : Int32 → Sg → Prop) (σ : Sg) : Prop :=
  f_X8_vote_73 x1 x2 Po 1 σ
def f_X8_vote_27 (x1 : Int32) (x2 : Int32) (Po : Int32 → Sg → Prop) (s0 : Int32) (σ : Sg) : Prop :=
  sp_X8_fails s0 1 σ (fun r7 u8 =>
  (¬ r7 = 0 →
  f_X8_vote_80 x1 x2 Po u8) ∧
  (r7 = 0 →
  vp_in x2 240 ∧
  ((u8.1 17 x2.toNatClampNeg) = 0 →
  f_X8_vote_68 x1 x2 Po u8) ∧
  (¬ ((u8.1 17 x2.toNatClampNeg) = 0) →
  vp_in x1 240 ∧
  ((u8.1 17 x1.toNatClampNeg) = 0 →
  f_X8_vote_68 x1 x2 Po u8) ∧
  (¬ ((u8.1 17 x1.toNatClampNeg) = 0) →
  vp_in x1 240 ∧
  vp_in x2 240 ∧
  ((u8.1 7 x2.toNatClampNeg) < (u8.1 7 x1.toNatClampNeg) →
  f_X8_vote_73 x1 x2 Po 0 u8) ∧
  (¬ ((u8.1 7 x2.toNatClampNeg) < (u8.1 7 x1.toNatClampNeg)) →
  f_X8_vote_68 x1 x2 Po u8)))))
def f_X8_vote_22 (x1 : Int32) (x2 : Int32) (Po : Int32 → Sg → Prop) (σ : Sg) : Prop :=
  f_X8_vote_27 x1 x2 Po 1 σ
def f_X8_vote_e (x1 : Int32) (x2 : Int32) (Po : Int32 → Sg → Prop) (σ : Sg) : Prop :=
  sp_X8_isEvent x2 (pI σ 0 0 0) (fun r1 u2 =>
  (r1 = 0 →
  f_X8_vote_22 x1 x2 Po u2) ∧
  (¬ (r1 = 0) →
  sp_X8_isEvent x1 u2 (fun r3 u4 =>
  (¬ r3 = 0 →
  f_X8_vote_27 x1 x2 Po 0 u4) ∧
  (r3 = 0 →
  f_X8_vote_22 x1 x2 Po u4))))
def vc_X8_vote (x1 : Int32) (x2 : Int32) (σ : Sg) (Po : Int32 → Sg → Prop) : Prop := f_X8_vote_e x1 x2 Po σ
def sp_X8_vote (x1 : Int32) (x2 : Int32) (σ : Sg) (K : Int32 → Sg → Prop) : Prop := vc_X8_vote x1 x2 σ K
def CT_X8_vote (l : Launch) (Ω : Wm) : Prop := ∀ (x1 : Int32) (x2 : Int32) (σ : Sg) (K : Int32 → Sg → Prop), sp_X8_vote x1 x2 σ K → Ct l yX8_vote cX8_vote 3 (some .int) 301 20028 Ω [.ref (Ω.2.2.1 0), .int x1, .int x2] σ (QI Ω K)
def f_X8_comesBefore_134 (x1 : Int32) (x2 : Int32) (L40 : Int32 → Sg → Prop) (Po : Int32 → Sg → Prop) (s0 : Int32) (σ : Sg) : Prop :=
  isZ s0 ∧
  Po s0 σ
def f_X8_comesBefore_117 (x1 : Int32) (x2 : Int32) (L40 : Int32 → Sg → Prop) (Po : Int32 → Sg → Prop) (s0 : Int32) (σ : Sg) : Prop :=
  isZ s0 ∧
  Po s0 σ
def f_X8_comesBefore_37 (x1 : Int32) (x2 : Int32) (L40 : Int32 → Sg → Prop) (Po : Int32 → Sg → Prop) (s0 : Int32) (σ : Sg) : Prop :=
  isZ s0 ∧
  Po s0 σ
def f_X8_comesBefore_40 (x1 : Int32) (x2 : Int32) (L40 : Int32 → Sg → Prop) (Po : Int32 → Sg → Prop) (x3 : Int32) (σ : Sg) : Prop :=
  (8 ≤ x3 →
  (x2 ≤ x1 →
  f_X8_comesBefore_134 x1 x2 L40 Po 0 σ) ∧
  (¬ (x2 ≤ x1) →
  f_X8_comesBefore_134 x1 x2 L40 Po 1 σ)) ∧
  (¬ (8 ≤ x3) →
  vp_in ((8 * x1) + x3) 1920 ∧
  vp_in x3 8 ∧
  vp_in ((8 * x2) + x3) 1920 ∧
  vp_in x3 8 ∧
  ((lg_cmp ((((σ.1 8 ((8 * x1) + x3).toNatClampNeg) ^^^ (σ.1 25 x3.toNatClampNeg)).toInt64) &&& 4294967295) ((((σ.1 8 ((8 * x2) + x3).toNatClampNeg) ^^^ (σ.1 25 x3.toNatClampNeg)).toInt64) &&& 4294967295)) = 0 →
  L40 (x3 + 1) σ) ∧
  (¬ ((lg_cmp ((((σ.1 8 ((8 * x1) + x3).toNatClampNeg) ^^^ (σ.1 25 x3.toNatClampNeg)).toInt64) &&& 4294967295) ((((σ.1 8 ((8 * x2) + x3).toNatClampNeg) ^^^ (σ.1 25 x3.toNatClampNeg)).toInt64) &&& 4294967295)) = 0) →
  (0 ≤ (lg_cmp ((((σ.1 8 ((8 * x1) + x3).toNatClampNeg) ^^^ (σ.1 25 x3.toNatClampNeg)).toInt64) &&& 4294967295) ((((σ.1 8 ((8 * x2) + x3).toNatClampNeg) ^^^ (σ.1 25 x3.toNatClampNeg)).toInt64) &&& 4294967295)) →
  f_X8_comesBefore_117 x1 x2 L40 Po 0 σ) ∧
  (¬ (0 ≤ (lg_cmp ((((σ.1 8 ((8 * x1) + x3).toNatClampNeg) ^^^ (σ.1 25 x3.toNatClampNeg)).toInt64) &&& 4294967295) ((((σ.1 8 ((8 * x2) + x3).toNatClampNeg) ^^^ (σ.1 25 x3.toNatClampNeg)).toInt64) &&& 4294967295))) →
  f_X8_comesBefore_117 x1 x2 L40 Po 1 σ)))
def f_X8_comesBefore_e (x1 : Int32) (x2 : Int32) (L40 : Int32 → Sg → Prop) (Po : Int32 → Sg → Prop) (σ : Sg) : Prop :=
  vp_in x1 240 ∧
  vp_in x2 240 ∧
  ((lg_cmp (σ.2 26 x1.toNatClampNeg) (σ.2 26 x2.toNatClampNeg)) = 0 →
  L40 0 σ) ∧
  (¬ ((lg_cmp (σ.2 26 x1.toNatClampNeg) (σ.2 26 x2.toNatClampNeg)) = 0) →
  vp_in x1 240 ∧
  vp_in x2 240 ∧
  (0 ≤ (lg_cmp (σ.2 26 x1.toNatClampNeg) (σ.2 26 x2.toNatClampNeg)) →
  f_X8_comesBefore_37 x1 x2 L40 Po 0 σ) ∧
  (¬ (0 ≤ (lg_cmp (σ.2 26 x1.toNatClampNeg) (σ.2 26 x2.toNatClampNeg))) →
  f_X8_comesBefore_37 x1 x2 L40 Po 1 σ))
def vc_X8_comesBefore (x1 : Int32) (x2 : Int32) (σ : Sg) (Po : Int32 → Sg → Prop) : Prop := ∀ L40 : Int32 → Sg → Prop, (∀ (x3 : Int32) (σ : Sg), f_X8_comesBefore_40 x1 x2 L40 Po x3 σ → L40 x3 σ) → f_X8_comesBefore_e x1 x2 L40 Po σ
def CT_X8_comesBefore (l : Launch) (Ω : Wm) : Prop := ∀ (x1 : Int32) (x2 : Int32) (σ : Sg) (K : Int32 → Sg → Prop), sp_X8_comesBefore x1 x2 σ K → Ct l yX8_comesBefore cX8_comesBefore 8 (some .boolean) 0 0 Ω [.ref (Ω.2.2.1 0), .int x1, .int x2] σ (QI Ω K)
def f_X8_isUnique_25 (x1 : Int32) (x2 : Int32) (Po : Int32 → Sg → Prop) (s0 : Int32) (σ : Sg) : Prop :=
  isZ s0 ∧
  Po s0 σ
def f_X8_isUnique_24 (x1 : Int32) (x2 : Int32) (Po : Int32 → Sg → Prop) (σ : Sg) : Prop :=
  f_X8_isUnique_25 x1 x2 Po 0 σ
def f_X8_isUnique_e (x1 : Int32) (x2 : Int32) (Po : Int32 → Sg → Prop) (σ : Sg) : Prop :=
  vp_in x1 240 ∧
  (¬ (σ.1 20 x1.toNatClampNeg) = 3 →
  f_X8_isUnique_24 x1 x2 Po σ) ∧
  ((σ.1 20 x1.toNatClampNeg) = 3 →
  vp_in x1 240 ∧
  (¬ (σ.1 7 x1.toNatClampNeg) = x2 →
  f_X8_isUnique_24 x1 x2 Po σ) ∧
  ((σ.1 7 x1.toNatClampNeg) = x2 →
  f_X8_isUnique_25 x1 x2 Po 1 σ))
def vc_X8_isUnique (x1 : Int32) (x2 : Int32) (σ : Sg) (Po : Int32 → Sg → Prop) : Prop := f_X8_isUnique_e x1 x2 Po σ
def sp_X8_isUnique (x1 : Int32) (x2 : Int32) (σ : Sg) (K : Int32 → Sg → Prop) : Prop := vc_X8_isUnique x1 x2 σ K
def CT_X8_isUnique (l : Launch) (Ω : Wm) : Prop := ∀ (x1 : Int32) (x2 : Int32) (σ : Sg) (K : Int32 → Sg → Prop), sp_X8_isUnique x1 x2 σ K → Ct l yX8_isUnique cX8_isUnique 3 (some .boolean) 0 0 Ω [.ref (Ω.2.2.1 0), .int x1, .int x2] σ (QI Ω K)
def f_X8_receive_413 (x1 : Int32) (x2 : Int32) (L8 : Int32 → Int32 → Sg → Prop) (L32 : Int32 → Int32 → Sg → Prop) (L54 : Int32 → Int32 → Int32 → Sg → Prop) (L99 : Int32 → Int32 → Sg → Prop) (L146 : Int32 → Int32 → Int32 → Int32 → Int32 → Sg → Prop) (L195 : Int32 → Int32 → Int32 → Int32 → Int32 → Int32 → Sg → Prop) (L246 : Int32 → Int32 → Int32 → Int32 → Int32 → Int32 → Int32 → Sg → Prop) (L358 : Int32 → Int32 → Int32 → Sg → Prop) (Po : Sg → Prop) (x3 : Int32) (x4 : Int32) (σ : Sg) : Prop :=
  L99 x3 (x4 + 1) σ
def f_X8_receive_404 (x1 : Int32) (x2 : Int32) (L8 : Int32 → Int32 → Sg → Prop) (L32 : Int32 → Int32 → Sg → Prop) (L54 : Int32 → Int32 → Int32 → Sg → Prop) (L99 : Int32 → Int32 → Sg → Prop) (L146 : Int32 → Int32 → Int32 → Int32 → Int32 → Sg → Prop) (L195 : Int32 → Int32 → Int32 → Int32 → Int32 → Int32 → Sg → Prop) (L246 : Int32 → Int32 → Int32 → Int32 → Int32 → Int32 → Int32 → Sg → Prop) (L358 : Int32 → Int32 → Int32 → Sg → Prop) (Po : Sg → Prop) (x3 : Int32) (x4 : Int32) (x7 : Int32) (σ : Sg) : Prop :=
  vp_in x7 240 ∧
  f_X8_receive_413 x1 x2 L8 L32 L54 L99 L146 L195 L246 L358 Po x3 x4 (pI σ 23 x7.toNatClampNeg x4)
def f_X8_receive_307 (x1 : Int32) (x2 : Int32) (L8 : Int32 → Int32 → Sg → Prop) (L32 : Int32 → Int32 → Sg → Prop) (L54 : Int32 → Int32 → Int32 → Sg → Prop) (L99 : Int32 → Int32 → Sg → Prop) (L146 : Int32 → Int32 → Int32 → Int32 → Int32 → Sg → Prop) (L195 : Int32 → Int32 → Int32 → Int32 → Int32 → Int32 → Sg → Prop) (L246 : Int32 → Int32 → Int32 → Int32 → Int32 → Int32 → Int32 → Sg → Prop) (L358 : Int32 → Int32 → Int32 → Sg → Prop) (Po : Sg → Prop) (x3 : Int32) (x4 : Int32) (x5 : Int32) (x6 : Int32) (x7 : Int32) (σ : Sg) : Prop :=
  L146 x3 x4 x5 x6 (x7 + 1) σ
def f_X8_receive_293 (x1 : Int32) (x2 : Int32) (L8 : Int32 → Int32 → Sg → Prop) (L32 : Int32 → Int32 → Sg → Prop) (L54 : Int32 → Int32 → Int32 → Sg → Prop) (L99 : Int32 → Int32 → Sg → Prop) (L146 : Int32 → Int32 → Int32 → Int32 → Int32 → Sg → Prop) (L195 : Int32 → Int32 → Int32 → Int32 → Int32 → Int32 → Sg → Prop) (L246 : Int32 → Int32 → Int32 → Int32 → Int32 → Int32 → Int32 → Sg → Prop) (L358 : Int32 → Int32 → Int32 → Sg → Prop) (Po : Sg → Prop) (x3 : Int32) (x4 : Int32) (x5 : Int32) (x6 : Int32) (x7 : Int32) (x8 : Int32) (x9 : Int32) (σ : Sg) : Prop :=
  vp_in x8 240 ∧
  vp_in x9 240 ∧
  f_X8_receive_307 x1 x2 L8 L32 L54 L99 L146 L195 L246 L358 Po x3 x4 x5 x6 x7 (pJ σ 27 x9.toNatClampNeg (σ.2 13 x8.toNatClampNeg))
def f_X8_receive_239 (x1 : Int32) (x2 : Int32) (L8 : Int32 → Int32 → Sg → Prop) (L32 : Int32 → Int32 → Sg → Prop) (L54 : Int32 → Int32 → Int32 → Sg → Prop) (L99 : Int32 → Int32 → Sg → Prop) (L146 : Int32 → Int32 → Int32 → Int32 → Int32 → Sg → Prop) (L195 : Int32 → Int32 → Int32 → Int32 → Int32 → Int32 → Sg → Prop) (L246 : Int32 → Int32 → Int32 → Int32 → Int32 → Int32 → Int32 → Sg → Prop) (L358 : Int32 → Int32 → Int32 → Sg → Prop) (Po : Sg → Prop) (x3 : Int32) (x4 : Int32) (x5 : Int32) (x6 : Int32) (x7 : Int32) (x8 : Int32) (σ : Sg) : Prop :=
  L246 x3 x4 (x5 + 1) x6 x7 x8 x5 σ
def f_X8_receive_90 (x1 : Int32) (x2 : Int32) (L8 : Int32 → Int32 → Sg → Prop) (L32 : Int32 → Int32 → Sg → Prop) (L54 : Int32 → Int32 → Int32 → Sg → Prop) (L99 : Int32 → Int32 → Sg → Prop) (L146 : Int32 → Int32 → Int32 → Int32 → Int32 → Sg → Prop) (L195 : Int32 → Int32 → Int32 → Int32 → Int32 → Int32 → Sg → Prop) (L246 : Int32 → Int32 → Int32 → Int32 → Int32 → Int32 → Int32 → Sg → Prop) (L358 : Int32 → Int32 → Int32 → Sg → Prop) (Po : Sg → Prop) (x3 : Int32) (x4 : Int32) (σ : Sg) : Prop :=
  L32 x3 (x4 + 1) σ
def f_X8_receive_358 (x1 : Int32) (x2 : Int32) (L8 : Int32 → Int32 → Sg → Prop) (L32 : Int32 → Int32 → Sg → Prop) (L54 : Int32 → Int32 → Int32 → Sg → Prop) (L99 : Int32 → Int32 → Sg → Prop) (L146 : Int32 → Int32 → Int32 → Int32 → Int32 → Sg → Prop) (L195 : Int32 → Int32 → Int32 → Int32 → Int32 → Int32 → Sg → Prop) (L246 : Int32 → Int32 → Int32 → Int32 → Int32 → Int32 → Int32 → Sg → Prop) (L358 : Int32 → Int32 → Int32 → Sg → Prop) (Po : Sg → Prop) (x3 : Int32) (x4 : Int32) (x7 : Int32) (σ : Sg) : Prop :=
  (x7 ≤ x3 →
  f_X8_receive_404 x1 x2 L8 L32 L54 L99 L146 L195 L246 L358 Po x3 x4 x7 σ) ∧
  (¬ (x7 ≤ x3) →
  vp_in (x7 - 1) 240 ∧
  sp_X8_comesBefore x4 (σ.1 23 (x7 - 1).toNatClampNeg) σ (fun r41 u42 =>
  (r41 = 0 →
  f_X8_receive_404 x1 x2 L8 L32 L54 L99 L146 L195 L246 L358 Po x3 x4 x7 u42) ∧
  (¬ (r41 = 0) →
  vp_in (x7 - 1) 240 ∧
  vp_in x7 240 ∧
  L358 x3 x4 (x7 + (-1)) (pI u42 23 x7.toNatClampNeg (u42.1 23 (x7 - 1).toNatClampNeg)))))
def f_X8_receive_246 (x1 : Int32) (x2 : Int32) (L8 : Int32 → Int32 → Sg → Prop) (L32 : Int32 → Int32 → Sg → Prop) (L54 : Int32 → Int32 → Int32 → Sg → Prop) (L99 : Int32 → Int32 → Sg → Prop) (L146 : Int32 → Int32 → Int32 → Int32 → Int32 → Sg → Prop) (L195 : Int32 → Int32 → Int32 → Int32 → Int32 → Int32 → Sg → Prop) (L246 : Int32 → Int32 → Int32 → Int32 → Int32 → Int32 → Int32 → Sg → Prop) (L358 : Int32 → Int32 → Int32 → Sg → Prop) (Po : Sg → Prop) (x3 : Int32) (x4 : Int32) (x5 : Int32) (x6 : Int32) (x7 : Int32) (x8 : Int32) (x9 : Int32) (σ : Sg) : Prop :=
  (x9 ≤ 0 →
  f_X8_receive_293 x1 x2 L8 L32 L54 L99 L146 L195 L246 L358 Po x3 x4 x5 x6 x7 x8 x9 σ) ∧
  (¬ (x9 ≤ 0) →
  vp_in (x9 - 1) 240 ∧
  vp_in x8 240 ∧
  ((lg_cmp (σ.2 27 (x9 - 1).toNatClampNeg) (σ.2 13 x8.toNatClampNeg)) ≤ 0 →
  f_X8_receive_293 x1 x2 L8 L32 L54 L99 L146 L195 L246 L358 Po x3 x4 x5 x6 x7 x8 x9 σ) ∧
  (¬ ((lg_cmp (σ.2 27 (x9 - 1).toNatClampNeg) (σ.2 13 x8.toNatClampNeg)) ≤ 0) →
  vp_in (x9 - 1) 240 ∧
  vp_in x9 240 ∧
  L246 x3 x4 x5 x6 x7 x8 (x9 + (-1)) (pJ σ 27 x9.toNatClampNeg (σ.2 27 (x9 - 1).toNatClampNeg))))
def f_X8_receive_195 (x1 : Int32) (x2 : Int32) (L8 : Int32 → Int32 → Sg → Prop) (L32 : Int32 → Int32 → Sg → Prop) (L54 : Int32 → Int32 → Int32 → Sg → Prop) (L99 : Int32 → Int32 → Sg → Prop) (L146 : Int32 → Int32 → Int32 → Int32 → Int32 → Sg → Prop) (L195 : Int32 → Int32 → Int32 → Int32 → Int32 → Int32 → Sg → Prop) (L246 : Int32 → Int32 → Int32 → Int32 → Int32 → Int32 → Int32 → Sg → Prop) (L358 : Int32 → Int32 → Int32 → Sg → Prop) (Po : Sg → Prop) (x3 : Int32) (x4 : Int32) (x5 : Int32) (x6 : Int32) (x7 : Int32) (x8 : Int32) (σ : Sg) : Prop :=
  vp_in x8 240 ∧
  ((σ.1 2 x8.toNatClampNeg) < 0 →
  f_X8_receive_239 x1 x2 L8 L32 L54 L99 L146 L195 L246 L358 Po x3 x4 x5 x6 x7 x8 σ) ∧
  (¬ ((σ.1 2 x8.toNatClampNeg) < 0) →
  vp_in x8 240 ∧
  vp_in ((240 * (σ.1 2 x8.toNatClampNeg)) + x4) 57600 ∧
  ((σ.1 14 ((240 * (σ.1 2 x8.toNatClampNeg)) + x4).toNatClampNeg) = 0 →
  f_X8_receive_239 x1 x2 L8 L32 L54 L99 L146 L195 L246 L358 Po x3 x4 x5 x6 x7 x8 σ) ∧
  (¬ ((σ.1 14 ((240 * (σ.1 2 x8.toNatClampNeg)) + x4).toNatClampNeg) = 0) →
  vp_in x8 240 ∧
  L195 x3 x4 x5 x6 x7 (σ.1 2 x8.toNatClampNeg) σ))
def f_X8_receive_146 (x1 : Int32) (x2 : Int32) (L8 : Int32 → Int32 → Sg → Prop) (L32 : Int32 → Int32 → Sg → Prop) (L54 : Int32 → Int32 → Int32 → Sg → Prop) (L99 : Int32 → Int32 → Sg → Prop) (L146 : Int32 → Int32 → Int32 → Int32 → Int32 → Sg → Prop) (L195 : Int32 → Int32 → Int32 → Int32 → Int32 → Int32 → Sg → Prop) (L246 : Int32 → Int32 → Int32 → Int32 → Int32 → Int32 → Int32 → Sg → Prop) (L358 : Int32 → Int32 → Int32 → Sg → Prop) (Po : Sg → Prop) (x3 : Int32) (x4 : Int32) (x5 : Int32) (x6 : Int32) (x7 : Int32) (σ : Sg) : Prop :=
  ((σ.1 0 2) ≤ x7 →
  (¬ x6 = 0 →
  vp_in x4 240 ∧
  vp_in (x5 / 2) 240 ∧
  vp_in x4 240 ∧
  L358 x3 x4 (((pJ (pI σ 21 x4.toNatClampNeg x2) 26 x4.toNatClampNeg ((pI σ 21 x4.toNatClampNeg x2).2 27 (x5 / 2).toNatClampNeg))).1 0 23) (pI (pJ (pI σ 21 x4.toNatClampNeg x2) 26 x4.toNatClampNeg ((pI σ 21 x4.toNatClampNeg x2).2 27 (x5 / 2).toNatClampNeg)) 0 23 ((((pJ (pI σ 21 x4.toNatClampNeg x2) 26 x4.toNatClampNeg ((pI σ 21 x4.toNatClampNeg x2).2 27 (x5 / 2).toNatClampNeg))).1 0 23) + 1))) ∧
  (x6 = 0 →
  f_X8_receive_413 x1 x2 L8 L32 L54 L99 L146 L195 L246 L358 Po x3 x4 σ)) ∧
  (¬ ((σ.1 0 2) ≤ x7) →
  sp_X8_isUnique x7 x2 σ (fun r20 u21 =>
  (¬ r20 = 0 →
  vp_in ((240 * x7) + x4) 57600 ∧
  (¬ (u21.1 14 ((240 * x7) + x4).toNatClampNeg) = 0 →
  L195 x3 x4 x5 x6 x7 x7 u21) ∧
  ((u21.1 14 ((240 * x7) + x4).toNatClampNeg) = 0 →
  f_X8_receive_307 x1 x2 L8 L32 L54 L99 L146 L195 L246 L358 Po x3 x4 x5 0 x7 u21)) ∧
  (r20 = 0 →
  f_X8_receive_307 x1 x2 L8 L32 L54 L99 L146 L195 L246 L358 Po x3 x4 x5 x6 x7 u21)))
def f_X8_receive_99 (x1 : Int32) (x2 : Int32) (L8 : Int32 → Int32 → Sg → Prop) (L32 : Int32 → Int32 → Sg → Prop) (L54 : Int32 → Int32 → Int32 → Sg → Prop) (L99 : Int32 → Int32 → Sg → Prop) (L146 : Int32 → Int32 → Int32 → Int32 → Int32 → Sg → Prop) (L195 : Int32 → Int32 → Int32 → Int32 → Int32 → Int32 → Sg → Prop) (L246 : Int32 → Int32 → Int32 → Int32 → Int32 → Int32 → Int32 → Sg → Prop) (L358 : Int32 → Int32 → Int32 → Sg → Prop) (Po : Sg → Prop) (x3 : Int32) (x4 : Int32) (σ : Sg) : Prop :=
  ((σ.1 0 2) ≤ x4 →
  Po σ) ∧
  (¬ ((σ.1 0 2) ≤ x4) →
  vp_in ((240 * x1) + x4) 1920 ∧
  ((σ.1 15 ((240 * x1) + x4).toNatClampNeg) = 0 →
  f_X8_receive_413 x1 x2 L8 L32 L54 L99 L146 L195 L246 L358 Po x3 x4 σ) ∧
  (¬ ((σ.1 15 ((240 * x1) + x4).toNatClampNeg) = 0) →
  vp_in x4 240 ∧
  ((σ.1 21 x4.toNatClampNeg) = 0 →
  L146 x3 x4 0 1 0 σ) ∧
  (¬ ((σ.1 21 x4.toNatClampNeg) = 0) →
  f_X8_receive_413 x1 x2 L8 L32 L54 L99 L146 L195 L246 L358 Po x3 x4 σ)))
def f_X8_receive_54 (x1 : Int32) (x2 : Int32) (L8 : Int32 → Int32 → Sg → Prop) (L32 : Int32 → Int32 → Sg → Prop) (L54 : Int32 → Int32 → Int32 → Sg → Prop) (L99 : Int32 → Int32 → Sg → Prop) (L146 : Int32 → Int32 → Int32 → Int32 → Int32 → Sg → Prop) (L195 : Int32 → Int32 → Int32 → Int32 → Int32 → Int32 → Sg → Prop) (L246 : Int32 → Int32 → Int32 → Int32 → Int32 → Int32 → Int32 → Sg → Prop) (L358 : Int32 → Int32 → Int32 → Sg → Prop) (Po : Sg → Prop) (x3 : Int32) (x4 : Int32) (x5 : Int32) (σ : Sg) : Prop :=
  (8 ≤ x5 →
  f_X8_receive_90 x1 x2 L8 L32 L54 L99 L146 L195 L246 L358 Po x3 x4 σ) ∧
  (¬ (8 ≤ x5) →
  vp_in x5 8 ∧
  vp_in ((8 * x4) + x5) 1920 ∧
  vp_in x5 8 ∧
  L54 x3 x4 (x5 + 1) (pI σ 25 x5.toNatClampNeg ((σ.1 25 x5.toNatClampNeg) ^^^ (σ.1 8 ((8 * x4) + x5).toNatClampNeg))))
def f_X8_receive_32 (x1 : Int32) (x2 : Int32) (L8 : Int32 → Int32 → Sg → Prop) (L32 : Int32 → Int32 → Sg → Prop) (L54 : Int32 → Int32 → Int32 → Sg → Prop) (L99 : Int32 → Int32 → Sg → Prop) (L146 : Int32 → Int32 → Int32 → Int32 → Int32 → Sg → Prop) (L195 : Int32 → Int32 → Int32 → Int32 → Int32 → Int32 → Sg → Prop) (L246 : Int32 → Int32 → Int32 → Int32 → Int32 → Int32 → Int32 → Sg → Prop) (L358 : Int32 → Int32 → Int32 → Sg → Prop) (Po : Sg → Prop) (x3 : Int32) (x4 : Int32) (σ : Sg) : Prop :=
  ((σ.1 0 2) ≤ x4 →
  L99 x3 0 σ) ∧
  (¬ ((σ.1 0 2) ≤ x4) →
  sp_X8_isUnique x4 x2 σ (fun r3 u4 =>
  (r3 = 0 →
  f_X8_receive_90 x1 x2 L8 L32 L54 L99 L146 L195 L246 L358 Po x3 x4 u4) ∧
  (¬ (r3 = 0) →
  L54 x3 x4 0 u4)))
def f_X8_receive_8 (x1 : Int32) (x2 : Int32) (L8 : Int32 → Int32 → Sg → Prop) (L32 : Int32 → Int32 → Sg → Prop) (L54 : Int32 → Int32 → Int32 → Sg → Prop) (L99 : Int32 → Int32 → Sg → Prop) (L146 : Int32 → Int32 → Int32 → Int32 → Int32 → Sg → Prop) (L195 : Int32 → Int32 → Int32 → Int32 → Int32 → Int32 → Sg → Prop) (L246 : Int32 → Int32 → Int32 → Int32 → Int32 → Int32 → Int32 → Sg → Prop) (L358 : Int32 → Int32 → Int32 → Sg → Prop) (Po : Sg → Prop) (x3 : Int32) (x4 : Int32) (σ : Sg) : Prop :=
  (8 ≤ x4 →
  L32 x3 0 σ) ∧
  (¬ (8 ≤ x4) →
  vp_in x4 8 ∧
  L8 x3 (x4 + 1) (pI σ 25 x4.toNatClampNeg 0))
def f_X8_receive_e (x1 : Int32) (x2 : Int32) (L8 : Int32 → Int32 → Sg → Prop) (L32 : Int32 → Int32 → Sg → Prop) (L54 : Int32 → Int32 → Int32 → Sg → Prop) (L99 : Int32 → Int32 → Sg → Prop) (L146 : Int32 → Int32 → Int32 → Int32 → Int32 → Sg → Prop) (L195 : Int32 → Int32 → Int32 → Int32 → Int32 → Int32 → Sg → Prop) (L246 : Int32 → Int32 → Int32 → Int32 → Int32 → Int32 → Int32 → Sg → Prop) (L358 : Int32 → Int32 → Int32 → Sg → Prop) (Po : Sg → Prop) (σ : Sg) : Prop :=
  L8 (σ.1 0 23) 0 σ
def vc_X8_receive (x1 : Int32) (x2 : Int32) (σ : Sg) (Po : Sg → Prop) : Prop := ∀ L8 : Int32 → Int32 → Sg → Prop, ∀ L32 : Int32 → Int32 → Sg → Prop, ∀ L54 : Int32 → Int32 → Int32 → Sg → Prop, ∀ L99 : Int32 → Int32 → Sg → Prop, ∀ L146 : Int32 → Int32 → Int32 → Int32 → Int32 → Sg → Prop, ∀ L195 : Int32 → Int32 → Int32 → Int32 → Int32 → Int32 → Sg → Prop, ∀ L246 : Int32 → Int32 → Int32 → Int32 → Int32 → Int32 → Int32 → Sg → Prop, ∀ L358 : Int32 → Int32 → Int32 → Sg → Prop, (∀ (x3 : Int32) (x4 : Int32) (σ : Sg), f_X8_receive_8 x1 x2 L8 L32 L54 L99 L146 L195 L246 L358 Po x3 x4 σ → L8 x3 x4 σ) → (∀ (x3 : Int32) (x4 : Int32) (σ : Sg), f_X8_receive_32 x1 x2 L8 L32 L54 L99 L146 L195 L246 L358 Po x3 x4 σ → L32 x3 x4 σ) → (∀ (x3 : Int32) (x4 : Int32) (x5 : Int32) (σ : Sg), f_X8_receive_54 x1 x2 L8 L32 L54 L99 L146 L195 L246 L358 Po x3 x4 x5 σ → L54 x3 x4 x5 σ) → (∀ (x3 : Int32) (x4 : Int32) (σ : Sg), f_X8_receive_99 x1 x2 L8 L32 L54 L99 L146 L195 L246 L358 Po x3 x4 σ → L99 x3 x4 σ) → (∀ (x3 : Int32) (x4 : Int32) (x5 : Int32) (x6 : Int32) (x7 : Int32) (σ : Sg), f_X8_receive_146 x1 x2 L8 L32 L54 L99 L146 L195 L246 L358 Po x3 x4 x5 x6 x7 σ → L146 x3 x4 x5 x6 x7 σ) → (∀ (x3 : Int32) (x4 : Int32) (x5 : Int32) (x6 : Int32) (x7 : Int32) (x8 : Int32) (σ : Sg), f_X8_receive_195 x1 x2 L8 L32 L54 L99 L146 L195 L246 L358 Po x3 x4 x5 x6 x7 x8 σ → L195 x3 x4 x5 x6 x7 x8 σ) → (∀ (x3 : Int32) (x4 : Int32) (x5 : Int32) (x6 : Int32) (x7 : Int32) (x8 : Int32) (x9 : Int32) (σ : Sg), f_X8_receive_246 x1 x2 L8 L32 L54 L99 L146 L195 L246 L358 Po x3 x4 x5 x6 x7 x8 x9 σ → L246 x3 x4 x5 x6 x7 x8 x9 σ) → (∀ (x3 : Int32) (x4 : Int32) (x7 : Int32) (σ : Sg), f_X8_receive_358 x1 x2 L8 L32 L54 L99 L146 L195 L246 L358 Po x3 x4 x7 σ → L358 x3 x4 x7 σ) → f_X8_receive_e x1 x2 L8 L32 L54 L99 L146 L195 L246 L358 Po σ
def CT_X8_receive (l : Launch) (Ω : Wm) : Prop := ∀ (x1 : Int32) (x2 : Int32) (σ : Sg) (K : Sg → Prop), sp_X8_receive x1 x2 σ K → Ct l yX8_receive cX8_receive 10 none 1 27 Ω [.ref (Ω.2.2.1 0), .int x1, .int x2] σ (QV Ω K)
def f_X8_find_659 (x1 : Int32) (L25 : Int32 → Int32 → Int32 → Sg → Prop) (L108 : Int32 → Int32 → Int32 → Int32 → Int32 → Sg → Prop) (L238 : Int32 → Int32 → Int32 → Sg → Prop) (L267 : Int32 → Int32 → Int32 → Int32 → Int32 → Sg → Prop) (L372 : Int32 → Int32 → Int32 → Int32 → Sg → Prop) (L384 : Int32 → Int32 → Int32 → Int32 → Int32 → Int32 → Sg → Prop) (L516 : Int32 → Sg → Prop) (L544 : Int32 → Sg → Prop) (L574 : Int32 → Int32 → Int32 → Sg → Prop) (Po : Sg → Prop) (x5 : Int32) (x6 : Int32) (x7 : Int32) (σ : Sg) : Prop :=
  L574 x5 x6 (x7 + 1) σ
def f_X8_find_507 (x1 : Int32) (L25 : Int32 → Int32 → Int32 → Sg → Prop) (L108 : Int32 → Int32 → Int32 → Int32 → Int32 → Sg → Prop) (L238 : Int32 → Int32 → Int32 → Sg → Prop) (L267 : Int32 → Int32 → Int32 → Int32 → Int32 → Sg → Prop) (L372 : Int32 → Int32 → Int32 → Int32 → Sg → Prop) (L384 : Int32 → Int32 → Int32 → Int32 → Int32 → Int32 → Sg → Prop) (L516 : Int32 → Sg → Prop) (L544 : Int32 → Sg → Prop) (L574 : Int32 → Int32 → Int32 → Sg → Prop) (Po : Sg → Prop) (x2 : Int32) (x3 : Int32) (x4 : Int32) (x5 : Int32) (σ : Sg) : Prop :=
  L372 x2 x3 x4 (x5 + 1) σ
def f_X8_find_471 (x1 : Int32) (L25 : Int32 → Int32 → Int32 → Sg → Prop) (L108 : Int32 → Int32 → Int32 → Int32 → Int32 → Sg → Prop) (L238 : Int32 → Int32 → Int32 → Sg → Prop) (L267 : Int32 → Int32 → Int32 → Int32 → Int32 → Sg → Prop) (L372 : Int32 → Int32 → Int32 → Int32 → Sg → Prop) (L384 : Int32 → Int32 → Int32 → Int32 → Int32 → Int32 → Sg → Prop) (L516 : Int32 → Sg → Prop) (L544 : Int32 → Sg → Prop) (L574 : Int32 → Int32 → Int32 → Sg → Prop) (Po : Sg → Prop) (x2 : Int32) (x3 : Int32) (x4 : Int32) (x5 : Int32) (x6 : Int32) (x7 : Int32) (σ : Sg) : Prop :=
  L384 x2 x3 x4 x5 x6 (x7 + 1) σ
def f_X8_find_468 (x1 : Int32) (L25 : Int32 → Int32 → Int32 → Sg → Prop) (L108 : Int32 → Int32 → Int32 → Int32 → Int32 → Sg → Prop) (L238 : Int32 → Int32 → Int32 → Sg → Prop) (L267 : Int32 → Int32 → Int32 → Int32 → Int32 → Sg → Prop) (L372 : Int32 → Int32 → Int32 → Int32 → Sg → Prop) (L384 : Int32 → Int32 → Int32 → Int32 → Int32 → Int32 → Sg → Prop) (L516 : Int32 → Sg → Prop) (L544 : Int32 → Sg → Prop) (L574 : Int32 → Int32 → Int32 → Sg → Prop) (Po : Sg → Prop) (x2 : Int32) (x3 : Int32) (x4 : Int32) (x5 : Int32) (x7 : Int32) (s0 : Int32) (s1 : Int32) (σ : Sg) : Prop :=
  f_X8_find_471 x1 L25 L108 L238 L267 L372 L384 L516 L544 L574 Po x2 x3 x4 x5 (s1 ||| s0) x7 σ
def f_X8_find_447 (x1 : Int32) (L25 : Int32 → Int32 → Int32 → Sg → Prop) (L108 : Int32 → Int32 → Int32 → Int32 → Int32 → Sg → Prop) (L238 : Int32 → Int32 → Int32 → Sg → Prop) (L267 : Int32 → Int32 → Int32 → Int32 → Int32 → Sg → Prop) (L372 : Int32 → Int32 → Int32 → Int32 → Sg → Prop) (L384 : Int32 → Int32 → Int32 → Int32 → Int32 → Int32 → Sg → Prop) (L516 : Int32 → Sg → Prop) (L544 : Int32 → Sg → Prop) (L574 : Int32 → Int32 → Int32 → Sg → Prop) (Po : Sg → Prop) (x2 : Int32) (x3 : Int32) (x5 : Int32) (x6 : Int32) (x7 : Int32) (s0 : Int32) (s1 : Int32) (σ : Sg) : Prop :=
  vp_in x7 240 ∧
  (¬ (σ.1 20 x7.toNatClampNeg) = 3 →
  f_X8_find_468 x1 L25 L108 L238 L267 L372 L384 L516 L544 L574 Po x2 x3 (s1 &&& s0) x5 x7 0 x6 σ) ∧
  ((σ.1 20 x7.toNatClampNeg) = 3 →
  f_X8_find_468 x1 L25 L108 L238 L267 L372 L384 L516 L544 L574 Po x2 x3 (s1 &&& s0) x5 x7 1 x6 σ)
def f_X8_find_350 (x1 : Int32) (L25 : Int32 → Int32 → Int32 → Sg → Prop) (L108 : Int32 → Int32 → Int32 → Int32 → Int32 → Sg → Prop) (L238 : Int32 → Int32 → Int32 → Sg → Prop) (L267 : Int32 → Int32 → Int32 → Int32 → Int32 → Sg → Prop) (L372 : Int32 → Int32 → Int32 → Int32 → Sg → Prop) (L384 : Int32 → Int32 → Int32 → Int32 → Int32 → Int32 → Sg → Prop) (L516 : Int32 → Sg → Prop) (L544 : Int32 → Sg → Prop) (L574 : Int32 → Int32 → Int32 → Sg → Prop) (Po : Sg → Prop) (x2 : Int32) (x3 : Int32) (x4 : Int32) (σ : Sg) : Prop :=
  L238 x2 x3 (x4 + 1) σ
def f_X8_find_331 (x1 : Int32) (L25 : Int32 → Int32 → Int32 → Sg → Prop) (L108 : Int32 → Int32 → Int32 → Int32 → Int32 → Sg → Prop) (L238 : Int32 → Int32 → Int32 → Sg → Prop) (L267 : Int32 → Int32 → Int32 → Int32 → Int32 → Sg → Prop) (L372 : Int32 → Int32 → Int32 → Int32 → Sg → Prop) (L384 : Int32 → Int32 → Int32 → Int32 → Int32 → Int32 → Sg → Prop) (L516 : Int32 → Sg → Prop) (L544 : Int32 → Sg → Prop) (L574 : Int32 → Int32 → Int32 → Sg → Prop) (Po : Sg → Prop) (x2 : Int32) (x3 : Int32) (x4 : Int32) (x5 : Int32) (x6 : Int32) (σ : Sg) : Prop :=
  L267 x2 x3 x4 x5 (x6 + 1) σ
def f_X8_find_229 (x1 : Int32) (L25 : Int32 → Int32 → Int32 → Sg → Prop) (L108 : Int32 → Int32 → Int32 → Int32 → Int32 → Sg → Prop) (L238 : Int32 → Int32 → Int32 → Sg → Prop) (L267 : Int32 → Int32 → Int32 → Int32 → Int32 → Sg → Prop) (L372 : Int32 → Int32 → Int32 → Int32 → Sg → Prop) (L384 : Int32 → Int32 → Int32 → Int32 → Int32 → Int32 → Sg → Prop) (L516 : Int32 → Sg → Prop) (L544 : Int32 → Sg → Prop) (L574 : Int32 → Int32 → Int32 → Sg → Prop) (Po : Sg → Prop) (x2 : Int32) (x3 : Int32) (x4 : Int32) (σ : Sg) : Prop :=
  L25 x2 x3 (x4 + 1) σ
def f_X8_find_228 (x1 : Int32) (L25 : Int32 → Int32 → Int32 → Sg → Prop) (L108 : Int32 → Int32 → Int32 → Int32 → Int32 → Sg → Prop) (L238 : Int32 → Int32 → Int32 → Sg → Prop) (L267 : Int32 → Int32 → Int32 → Int32 → Int32 → Sg → Prop) (L372 : Int32 → Int32 → Int32 → Int32 → Sg → Prop) (L384 : Int32 → Int32 → Int32 → Int32 → Int32 → Int32 → Sg → Prop) (L516 : Int32 → Sg → Prop) (L544 : Int32 → Sg → Prop) (L574 : Int32 → Int32 → Int32 → Sg → Prop) (Po : Sg → Prop) (x2 : Int32) (x3 : Int32) (x4 : Int32) (s0 : Int32) (s1 : Int32) (σ : Sg) : Prop :=
  vp_in s1 240 ∧
  f_X8_find_229 x1 L25 L108 L238 L267 L372 L384 L516 L544 L574 Po x2 x3 x4 (pI σ 20 s1.toNatClampNeg s0)
def f_X8_find_194 (x1 : Int32) (L25 : Int32 → Int32 → Int32 → Sg → Prop) (L108 : Int32 → Int32 → Int32 → Int32 → Int32 → Sg → Prop) (L238 : Int32 → Int32 → Int32 → Sg → Prop) (L267 : Int32 → Int32 → Int32 → Int32 → Int32 → Sg → Prop) (L372 : Int32 → Int32 → Int32 → Int32 → Sg → Prop) (L384 : Int32 → Int32 → Int32 → Int32 → Int32 → Int32 → Sg → Prop) (L516 : Int32 → Sg → Prop) (L544 : Int32 → Sg → Prop) (L574 : Int32 → Int32 → Int32 → Sg → Prop) (Po : Sg → Prop) (x2 : Int32) (x3 : Int32) (x4 : Int32) (x5 : Int32) (x6 : Int32) (σ : Sg) : Prop :=
  L108 x2 x3 x4 x5 (x6 + 1) σ
def f_X8_find_190 (x1 : Int32) (L25 : Int32 → Int32 → Int32 → Sg → Prop) (L108 : Int32 → Int32 → Int32 → Int32 → Int32 → Sg → Prop) (L238 : Int32 → Int32 → Int32 → Sg → Prop) (L267 : Int32 → Int32 → Int32 → Int32 → Int32 → Sg → Prop) (L372 : Int32 → Int32 → Int32 → Int32 → Sg → Prop) (L384 : Int32 → Int32 → Int32 → Int32 → Int32 → Int32 → Sg → Prop) (L516 : Int32 → Sg → Prop) (L544 : Int32 → Sg → Prop) (L574 : Int32 → Int32 → Int32 → Sg → Prop) (Po : Sg → Prop) (x2 : Int32) (x3 : Int32) (x4 : Int32) (x6 : Int32) (σ : Sg) : Prop :=
  f_X8_find_194 x1 L25 L108 L238 L267 L372 L384 L516 L544 L574 Po x2 x3 x4 x6 x6 σ
def f_X8_find_102 (x1 : Int32) (L25 : Int32 → Int32 → Int32 → Sg → Prop) (L108 : Int32 → Int32 → Int32 → Int32 → Int32 → Sg → Prop) (L238 : Int32 → Int32 → Int32 → Sg → Prop) (L267 : Int32 → Int32 → Int32 → Int32 → Int32 → Sg → Prop) (L372 : Int32 → Int32 → Int32 → Int32 → Sg → Prop) (L384 : Int32 → Int32 → Int32 → Int32 → Int32 → Int32 → Sg → Prop) (L516 : Int32 → Sg → Prop) (L544 : Int32 → Sg → Prop) (L574 : Int32 → Int32 → Int32 → Sg → Prop) (Po : Sg → Prop) (x2 : Int32) (x3 : Int32) (x4 : Int32) (σ : Sg) : Prop :=
  L108 x2 x3 x4 (-1) 0 σ
def f_X8_find_574 (x1 : Int32) (L25 : Int32 → Int32 → Int32 → Sg → Prop) (L108 : Int32 → Int32 → Int32 → Int32 → Int32 → Sg → Prop) (L238 : Int32 → Int32 → Int32 → Sg → Prop) (L267 : Int32 → Int32 → Int32 → Int32 → Int32 → Sg → Prop) (L372 : Int32 → Int32 → Int32 → Int32 → Sg → Prop) (L384 : Int32 → Int32 → Int32 → Int32 → Int32 → Int32 → Sg → Prop) (L516 : Int32 → Sg → Prop) (L544 : Int32 → Sg → Prop) (L574 : Int32 → Int32 → Int32 → Sg → Prop) (Po : Sg → Prop) (x5 : Int32) (x6 : Int32) (x7 : Int32) (σ : Sg) : Prop :=
  vp_in x6 240 ∧
  ((σ.1 4 x6.toNatClampNeg) ≤ x7 →
  L544 (x5 + 1) σ) ∧
  (¬ ((σ.1 4 x6.toNatClampNeg) ≤ x7) →
  vp_in ((3 * x6) + x7) 720 ∧
  vp_in x6 240 ∧
  vp_in (σ.1 1 x6.toNatClampNeg) 8 ∧
  ((σ.1 6 ((3 * x6) + x7).toNatClampNeg) ≤ (σ.1 24 (σ.1 1 x6.toNatClampNeg).toNatClampNeg) →
  vp_in x6 240 ∧
  vp_in (σ.1 1 x6.toNatClampNeg) 8 ∧
  vp_in (σ.1 1 x6.toNatClampNeg) 8 ∧
  vp_in ((3 * x6) + x7) 720 ∧
  vp_in ((pI σ 24 (σ.1 1 x6.toNatClampNeg).toNatClampNeg ((σ.1 24 (σ.1 1 x6.toNatClampNeg).toNatClampNeg) - (σ.1 6 ((3 * x6) + x7).toNatClampNeg))).1 5 ((3 * x6) + x7).toNatClampNeg) 8 ∧
  vp_in ((pI σ 24 (σ.1 1 x6.toNatClampNeg).toNatClampNeg ((σ.1 24 (σ.1 1 x6.toNatClampNeg).toNatClampNeg) - (σ.1 6 ((3 * x6) + x7).toNatClampNeg))).1 5 ((3 * x6) + x7).toNatClampNeg) 8 ∧
  f_X8_find_659 x1 L25 L108 L238 L267 L372 L384 L516 L544 L574 Po x5 x6 x7 (pI (pI σ 24 (σ.1 1 x6.toNatClampNeg).toNatClampNeg ((σ.1 24 (σ.1 1 x6.toNatClampNeg).toNatClampNeg) - (σ.1 6 ((3 * x6) + x7).toNatClampNeg))) 24 ((pI σ 24 (σ.1 1 x6.toNatClampNeg).toNatClampNeg ((σ.1 24 (σ.1 1 x6.toNatClampNeg).toNatClampNeg) - (σ.1 6 ((3 * x6) + x7).toNatClampNeg))).1 5 ((3 * x6) + x7).toNatClampNeg).toNatClampNeg (((pI σ 24 (σ.1 1 x6.toNatClampNeg).toNatClampNeg ((σ.1 24 (σ.1 1 x6.toNatClampNeg).toNatClampNeg) - (σ.1 6 ((3 * x6) + x7).toNatClampNeg))).1 24 ((pI σ 24 (σ.1 1 x6.toNatClampNeg).toNatClampNeg ((σ.1 24 (σ.1 1 x6.toNatClampNeg).toNatClampNeg) - (σ.1 6 ((3 * x6) + x7).toNatClampNeg))).1 5 ((3 * x6) + x7).toNatClampNeg).toNatClampNeg) + (σ.1 6 ((3 * x6) + x7).toNatClampNeg)))) ∧
  (¬ ((σ.1 6 ((3 * x6) + x7).toNatClampNeg) ≤ (σ.1 24 (σ.1 1 x6.toNatClampNeg).toNatClampNeg)) →
  f_X8_find_659 x1 L25 L108 L238 L267 L372 L384 L516 L544 L574 Po x5 x6 x7 σ))
def f_X8_find_544 (x1 : Int32) (L25 : Int32 → Int32 → Int32 → Sg → Prop) (L108 : Int32 → Int32 → Int32 → Int32 → Int32 → Sg → Prop) (L238 : Int32 → Int32 → Int32 → Sg → Prop) (L267 : Int32 → Int32 → Int32 → Int32 → Int32 → Sg → Prop) (L372 : Int32 → Int32 → Int32 → Int32 → Sg → Prop) (L384 : Int32 → Int32 → Int32 → Int32 → Int32 → Int32 → Sg → Prop) (L516 : Int32 → Sg → Prop) (L544 : Int32 → Sg → Prop) (L574 : Int32 → Int32 → Int32 → Sg → Prop) (Po : Sg → Prop) (x5 : Int32) (σ : Sg) : Prop :=
  ((σ.1 0 23) ≤ x5 →
  Po σ) ∧
  (¬ ((σ.1 0 23) ≤ x5) →
  vp_in x5 240 ∧
  vp_in (σ.1 23 x5.toNatClampNeg) 240 ∧
  L574 x5 (σ.1 23 x5.toNatClampNeg) 0 (pI σ 22 (σ.1 23 x5.toNatClampNeg).toNatClampNeg x5))
def f_X8_find_516 (x1 : Int32) (L25 : Int32 → Int32 → Int32 → Sg → Prop) (L108 : Int32 → Int32 → Int32 → Int32 → Int32 → Sg → Prop) (L238 : Int32 → Int32 → Int32 → Sg → Prop) (L267 : Int32 → Int32 → Int32 → Int32 → Int32 → Sg → Prop) (L372 : Int32 → Int32 → Int32 → Int32 → Sg → Prop) (L384 : Int32 → Int32 → Int32 → Int32 → Int32 → Int32 → Sg → Prop) (L516 : Int32 → Sg → Prop) (L544 : Int32 → Sg → Prop) (L574 : Int32 → Int32 → Int32 → Sg → Prop) (Po : Sg → Prop) (x5 : Int32) (σ : Sg) : Prop :=
  ((σ.1 0 1) ≤ x5 →
  L544 0 σ) ∧
  (¬ ((σ.1 0 1) ≤ x5) →
  vp_in x5 8 ∧
  L516 (x5 + 1) (pI σ 24 x5.toNatClampNeg 1000000))
def f_X8_find_384 (x1 : Int32) (L25 : Int32 → Int32 → Int32 → Sg → Prop) (L108 : Int32 → Int32 → Int32 → Int32 → Int32 → Sg → Prop) (L238 : Int32 → Int32 → Int32 → Sg → Prop) (L267 : Int32 → Int32 → Int32 → Int32 → Int32 → Sg → Prop) (L372 : Int32 → Int32 → Int32 → Int32 → Sg → Prop) (L384 : Int32 → Int32 → Int32 → Int32 → Int32 → Int32 → Sg → Prop) (L516 : Int32 → Sg → Prop) (L544 : Int32 → Sg → Prop) (L574 : Int32 → Int32 → Int32 → Sg → Prop) (Po : Sg → Prop) (x2 : Int32) (x3 : Int32) (x4 : Int32) (x5 : Int32) (x6 : Int32) (x7 : Int32) (σ : Sg) : Prop :=
  ((σ.1 0 2) ≤ x7 →
  (x4 = 0 →
  f_X8_find_507 x1 L25 L108 L238 L267 L372 L384 L516 L544 L574 Po x2 x3 x4 x5 σ) ∧
  (¬ (x4 = 0) →
  (¬ x6 = 0 →
  sp_X8_receive x1 x5 (pI σ 0 24 ((σ.1 0 24) + 1)) (fun u50 =>
  f_X8_find_507 x1 L25 L108 L238 L267 L372 L384 L516 L544 L574 Po x2 x3 x4 x5 u50)) ∧
  (x6 = 0 →
  f_X8_find_507 x1 L25 L108 L238 L267 L372 L384 L516 L544 L574 Po x2 x3 x4 x5 σ))) ∧
  (¬ ((σ.1 0 2) ≤ x7) →
  vp_in (x3 + x7) 1920 ∧
  ((σ.1 15 (x3 + x7).toNatClampNeg) = 0 →
  f_X8_find_471 x1 L25 L108 L238 L267 L372 L384 L516 L544 L574 Po x2 x3 x4 x5 x6 x7 σ) ∧
  (¬ ((σ.1 15 (x3 + x7).toNatClampNeg) = 0) →
  vp_in x7 240 ∧
  ((σ.1 17 x7.toNatClampNeg) = 0 →
  f_X8_find_471 x1 L25 L108 L238 L267 L372 L384 L516 L544 L574 Po x2 x3 x4 x5 x6 x7 σ) ∧
  (¬ ((σ.1 17 x7.toNatClampNeg) = 0) →
  vp_in x7 240 ∧
  ((σ.1 7 x7.toNatClampNeg) = x5 →
  vp_in x7 240 ∧
  ((σ.1 20 x7.toNatClampNeg) = 0 →
  f_X8_find_447 x1 L25 L108 L238 L267 L372 L384 L516 L544 L574 Po x2 x3 x5 x6 x7 0 x4 σ) ∧
  (¬ ((σ.1 20 x7.toNatClampNeg) = 0) →
  f_X8_find_447 x1 L25 L108 L238 L267 L372 L384 L516 L544 L574 Po x2 x3 x5 x6 x7 1 x4 σ)) ∧
  (¬ ((σ.1 7 x7.toNatClampNeg) = x5) →
  f_X8_find_471 x1 L25 L108 L238 L267 L372 L384 L516 L544 L574 Po x2 x3 x4 x5 x6 x7 σ))))
def f_X8_find_372 (x1 : Int32) (L25 : Int32 → Int32 → Int32 → Sg → Prop) (L108 : Int32 → Int32 → Int32 → Int32 → Int32 → Sg → Prop) (L238 : Int32 → Int32 → Int32 → Sg → Prop) (L267 : Int32 → Int32 → Int32 → Int32 → Int32 → Sg → Prop) (L372 : Int32 → Int32 → Int32 → Int32 → Sg → Prop) (L384 : Int32 → Int32 → Int32 → Int32 → Int32 → Int32 → Sg → Prop) (L516 : Int32 → Sg → Prop) (L544 : Int32 → Sg → Prop) (L574 : Int32 → Int32 → Int32 → Sg → Prop) (Po : Sg → Prop) (x2 : Int32) (x3 : Int32) (x4 : Int32) (x5 : Int32) (σ : Sg) : Prop :=
  (x2 < x5 →
  L516 0 σ) ∧
  (¬ (x2 < x5) →
  L384 x2 x3 x4 x5 0 0 σ)
def f_X8_find_267 (x1 : Int32) (L25 : Int32 → Int32 → Int32 → Sg → Prop) (L108 : Int32 → Int32 → Int32 → Int32 → Int32 → Sg → Prop) (L238 : Int32 → Int32 → Int32 → Sg → Prop) (L267 : Int32 → Int32 → Int32 → Int32 → Int32 → Sg → Prop) (L372 : Int32 → Int32 → Int32 → Int32 → Sg → Prop) (L384 : Int32 → Int32 → Int32 → Int32 → Int32 → Int32 → Sg → Prop) (L516 : Int32 → Sg → Prop) (L544 : Int32 → Sg → Prop) (L574 : Int32 → Int32 → Int32 → Sg → Prop) (Po : Sg → Prop) (x2 : Int32) (x3 : Int32) (x4 : Int32) (x5 : Int32) (x6 : Int32) (σ : Sg) : Prop :=
  ((σ.1 0 2) ≤ x6 →
  (x5 = 0 →
  f_X8_find_350 x1 L25 L108 L238 L267 L372 L384 L516 L544 L574 Po x2 x3 x4 σ) ∧
  (¬ (x5 = 0) →
  vp_in x4 240 ∧
  f_X8_find_350 x1 L25 L108 L238 L267 L372 L384 L516 L544 L574 Po x2 x3 x4 (pI σ 20 x4.toNatClampNeg 3))) ∧
  (¬ ((σ.1 0 2) ≤ x6) →
  (x6 = x4 →
  f_X8_find_331 x1 L25 L108 L238 L267 L372 L384 L516 L544 L574 Po x2 x3 x4 x5 x6 σ) ∧
  (¬ (x6 = x4) →
  vp_in x6 240 ∧
  ((σ.1 20 x6.toNatClampNeg) < 2 →
  f_X8_find_331 x1 L25 L108 L238 L267 L372 L384 L516 L544 L574 Po x2 x3 x4 x5 x6 σ) ∧
  (¬ ((σ.1 20 x6.toNatClampNeg) < 2) →
  vp_in x6 240 ∧
  vp_in x4 240 ∧
  (¬ (σ.1 1 x6.toNatClampNeg) = (σ.1 1 x4.toNatClampNeg) →
  f_X8_find_331 x1 L25 L108 L238 L267 L372 L384 L516 L544 L574 Po x2 x3 x4 x5 x6 σ) ∧
  ((σ.1 1 x6.toNatClampNeg) = (σ.1 1 x4.toNatClampNeg) →
  vp_in x6 240 ∧
  vp_in x4 240 ∧
  (¬ (σ.1 7 x6.toNatClampNeg) = (σ.1 7 x4.toNatClampNeg) →
  f_X8_find_331 x1 L25 L108 L238 L267 L372 L384 L516 L544 L574 Po x2 x3 x4 x5 x6 σ) ∧
  ((σ.1 7 x6.toNatClampNeg) = (σ.1 7 x4.toNatClampNeg) →
  f_X8_find_331 x1 L25 L108 L238 L267 L372 L384 L516 L544 L574 Po x2 x3 x4 0 x6 σ)))))
def f_X8_find_238 (x1 : Int32) (L25 : Int32 → Int32 → Int32 → Sg → Prop) (L108 : Int32 → Int32 → Int32 → Int32 → Int32 → Sg → Prop) (L238 : Int32 → Int32 → Int32 → Sg → Prop) (L267 : Int32 → Int32 → Int32 → Int32 → Int32 → Sg → Prop) (L372 : Int32 → Int32 → Int32 → Int32 → Sg → Prop) (L384 : Int32 → Int32 → Int32 → Int32 → Int32 → Int32 → Sg → Prop) (L516 : Int32 → Sg → Prop) (L544 : Int32 → Sg → Prop) (L574 : Int32 → Int32 → Int32 → Sg → Prop) (Po : Sg → Prop) (x2 : Int32) (x3 : Int32) (x4 : Int32) (σ : Sg) : Prop :=
  ((σ.1 0 2) ≤ x4 →
  L372 x2 x3 1 1 (pI (pI σ 0 23 0) 0 24 0)) ∧
  (¬ ((σ.1 0 2) ≤ x4) →
  vp_in x4 240 ∧
  ((σ.1 20 x4.toNatClampNeg) = 2 →
  L267 x2 x3 x4 1 0 σ) ∧
  (¬ ((σ.1 20 x4.toNatClampNeg) = 2) →
  f_X8_find_350 x1 L25 L108 L238 L267 L372 L384 L516 L544 L574 Po x2 x3 x4 σ))
def f_X8_find_108 (x1 : Int32) (L25 : Int32 → Int32 → Int32 → Sg → Prop) (L108 : Int32 → Int32 → Int32 → Int32 → Int32 → Sg → Prop) (L238 : Int32 → Int32 → Int32 → Sg → Prop) (L267 : Int32 → Int32 → Int32 → Int32 → Int32 → Sg → Prop) (L372 : Int32 → Int32 → Int32 → Int32 → Sg → Prop) (L384 : Int32 → Int32 → Int32 → Int32 → Int32 → Int32 → Sg → Prop) (L516 : Int32 → Sg → Prop) (L544 : Int32 → Sg → Prop) (L574 : Int32 → Int32 → Int32 → Sg → Prop) (Po : Sg → Prop) (x2 : Int32) (x3 : Int32) (x4 : Int32) (x5 : Int32) (x6 : Int32) (σ : Sg) : Prop :=
  ((σ.1 0 2) ≤ x6 →
  (x5 < 0 →
  f_X8_find_229 x1 L25 L108 L238 L267 L372 L384 L516 L544 L574 Po x2 x3 x4 σ) ∧
  (¬ (x5 < 0) →
  sp_X8_voteOf x5 x4 σ (fun r13 u14 =>
  (¬ r13 = 3 →
  f_X8_find_228 x1 L25 L108 L238 L267 L372 L384 L516 L544 L574 Po x2 x3 x4 1 x4 u14) ∧
  (r13 = 3 →
  f_X8_find_228 x1 L25 L108 L238 L267 L372 L384 L516 L544 L574 Po x2 x3 x4 2 x4 u14)))) ∧
  (¬ ((σ.1 0 2) ≤ x6) →
  vp_in (x3 + x6) 1920 ∧
  ((σ.1 15 (x3 + x6).toNatClampNeg) = 0 →
  f_X8_find_194 x1 L25 L108 L238 L267 L372 L384 L516 L544 L574 Po x2 x3 x4 x5 x6 σ) ∧
  (¬ ((σ.1 15 (x3 + x6).toNatClampNeg) = 0) →
  vp_in x6 240 ∧
  ((σ.1 17 x6.toNatClampNeg) = 0 →
  f_X8_find_194 x1 L25 L108 L238 L267 L372 L384 L516 L544 L574 Po x2 x3 x4 x5 x6 σ) ∧
  (¬ ((σ.1 17 x6.toNatClampNeg) = 0) →
  vp_in x6 240 ∧
  vp_in x4 240 ∧
  ((σ.1 7 x6.toNatClampNeg) ≤ (σ.1 7 x4.toNatClampNeg) →
  f_X8_find_194 x1 L25 L108 L238 L267 L372 L384 L516 L544 L574 Po x2 x3 x4 x5 x6 σ) ∧
  (¬ ((σ.1 7 x6.toNatClampNeg) ≤ (σ.1 7 x4.toNatClampNeg)) →
  sp_X8_voteOf x6 x4 σ (fun r21 u22 =>
  (r21 ≤ 1 →
  f_X8_find_194 x1 L25 L108 L238 L267 L372 L384 L516 L544 L574 Po x2 x3 x4 x5 x6 u22) ∧
  (¬ (r21 ≤ 1) →
  (x5 < 0 →
  f_X8_find_190 x1 L25 L108 L238 L267 L372 L384 L516 L544 L574 Po x2 x3 x4 x6 u22) ∧
  (¬ (x5 < 0) →
  vp_in x6 240 ∧
  vp_in x5 240 ∧
  ((u22.1 7 x5.toNatClampNeg) ≤ (u22.1 7 x6.toNatClampNeg) →
  f_X8_find_194 x1 L25 L108 L238 L267 L372 L384 L516 L544 L574 Po x2 x3 x4 x5 x6 u22) ∧
  (¬ ((u22.1 7 x5.toNatClampNeg) ≤ (u22.1 7 x6.toNatClampNeg)) →
  f_X8_find_190 x1 L25 L108 L238 L267 L372 L384 L516 L544 L574 Po x2 x3 x4 x6 u22))))))))
def f_X8_find_25 (x1 : Int32) (L25 : Int32 → Int32 → Int32 → Sg → Prop) (L108 : Int32 → Int32 → Int32 → Int32 → Int32 → Sg → Prop) (L238 : Int32 → Int32 → Int32 → Sg → Prop) (L267 : Int32 → Int32 → Int32 → Int32 → Int32 → Sg → Prop) (L372 : Int32 → Int32 → Int32 → Int32 → Sg → Prop) (L384 : Int32 → Int32 → Int32 → Int32 → Int32 → Int32 → Sg → Prop) (L516 : Int32 → Sg → Prop) (L544 : Int32 → Sg → Prop) (L574 : Int32 → Int32 → Int32 → Sg → Prop) (Po : Sg → Prop) (x2 : Int32) (x3 : Int32) (x4 : Int32) (σ : Sg) : Prop :=
  ((σ.1 0 2) ≤ x4 →
  L238 x2 x3 0 σ) ∧
  (¬ ((σ.1 0 2) ≤ x4) →
  vp_in x4 240 ∧
  vp_in x4 240 ∧
  vp_in x4 240 ∧
  vp_in (x3 + x4) 1920 ∧
  (((pI (pI (pI σ 20 x4.toNatClampNeg 0) 21 x4.toNatClampNeg 0) 22 x4.toNatClampNeg (-1)).1 15 (x3 + x4).toNatClampNeg) = 0 →
  f_X8_find_229 x1 L25 L108 L238 L267 L372 L384 L516 L544 L574 Po x2 x3 x4 (pI (pI (pI σ 20 x4.toNatClampNeg 0) 21 x4.toNatClampNeg 0) 22 x4.toNatClampNeg (-1))) ∧
  (¬ (((pI (pI (pI σ 20 x4.toNatClampNeg 0) 21 x4.toNatClampNeg 0) 22 x4.toNatClampNeg (-1)).1 15 (x3 + x4).toNatClampNeg) = 0) →
  vp_in x4 240 ∧
  (¬ ((pI (pI (pI σ 20 x4.toNatClampNeg 0) 21 x4.toNatClampNeg 0) 22 x4.toNatClampNeg (-1)).1 17 x4.toNatClampNeg) = 0 →
  vp_in x4 240 ∧
  (((pI (pI (pI σ 20 x4.toNatClampNeg 0) 21 x4.toNatClampNeg 0) 22 x4.toNatClampNeg (-1)).1 7 x4.toNatClampNeg) ≤ x2 →
  f_X8_find_102 x1 L25 L108 L238 L267 L372 L384 L516 L544 L574 Po x2 x3 x4 (pI (pI (pI σ 20 x4.toNatClampNeg 0) 21 x4.toNatClampNeg 0) 22 x4.toNatClampNeg (-1))) ∧
  (¬ (((pI (pI (pI σ 20 x4.toNatClampNeg 0) 21 x4.toNatClampNeg 0) 22 x4.toNatClampNeg (-1)).1 7 x4.toNatClampNeg) ≤ x2) →
  vp_in x4 240 ∧
  f_X8_find_102 x1 L25 L108 L238 L267 L372 L384 L516 L544 L574 Po ((pI (pI (pI σ 20 x4.toNatClampNeg 0) 21 x4.toNatClampNeg 0) 22 x4.toNatClampNeg (-1)).1 7 x4.toNatClampNeg) x3 x4 (pI (pI (pI σ 20 x4.toNatClampNeg 0) 21 x4.toNatClampNeg 0) 22 x4.toNatClampNeg (-1)))) ∧
  (((pI (pI (pI σ 20 x4.toNatClampNeg 0) 21 x4.toNatClampNeg 0) 22 x4.toNatClampNeg (-1)).1 17 x4.toNatClampNeg) = 0 →
  f_X8_find_229 x1 L25 L108 L238 L267 L372 L384 L516 L544 L574 Po x2 x3 x4 (pI (pI (pI σ 20 x4.toNatClampNeg 0) 21 x4.toNatClampNeg 0) 22 x4.toNatClampNeg (-1)))))
def f_X8_find_e (x1 : Int32) (L25 : Int32 → Int32 → Int32 → Sg → Prop) (L108 : Int32 → Int32 → Int32 → Int32 → Int32 → Sg → Prop) (L238 : Int32 → Int32 → Int32 → Sg → Prop) (L267 : Int32 → Int32 → Int32 → Int32 → Int32 → Sg → Prop) (L372 : Int32 → Int32 → Int32 → Int32 → Sg → Prop) (L384 : Int32 → Int32 → Int32 → Int32 → Int32 → Int32 → Sg → Prop) (L516 : Int32 → Sg → Prop) (L544 : Int32 → Sg → Prop) (L574 : Int32 → Int32 → Int32 → Sg → Prop) (Po : Sg → Prop) (σ : Sg) : Prop :=
  (¬ (σ.1 0 22) = x1 →
  L25 0 (240 * x1) 0 (pI σ 0 22 x1)) ∧
  ((σ.1 0 22) = x1 →
  Po σ)
def vc_X8_find (x1 : Int32) (σ : Sg) (Po : Sg → Prop) : Prop := ∀ L25 : Int32 → Int32 → Int32 → Sg → Prop, ∀ L108 : Int32 → Int32 → Int32 → Int32 → Int32 → Sg → Prop, ∀ L238 : Int32 → Int32 → Int32 → Sg → Prop, ∀ L267 : Int32 → Int32 → Int32 → Int32 → Int32 → Sg → Prop, ∀ L372 : Int32 → Int32 → Int32 → Int32 → Sg → Prop, ∀ L384 : Int32 → Int32 → Int32 → Int32 → Int32 → Int32 → Sg → Prop, ∀ L516 : Int32 → Sg → Prop, ∀ L544 : Int32 → Sg → Prop, ∀ L574 : Int32 → Int32 → Int32 → Sg → Prop, (∀ (x2 : Int32) (x3 : Int32) (x4 : Int32) (σ : Sg), f_X8_find_25 x1 L25 L108 L238 L267 L372 L384 L516 L544 L574 Po x2 x3 x4 σ → L25 x2 x3 x4 σ) → (∀ (x2 : Int32) (x3 : Int32) (x4 : Int32) (x5 : Int32) (x6 : Int32) (σ : Sg), f_X8_find_108 x1 L25 L108 L238 L267 L372 L384 L516 L544 L574 Po x2 x3 x4 x5 x6 σ → L108 x2 x3 x4 x5 x6 σ) → (∀ (x2 : Int32) (x3 : Int32) (x4 : Int32) (σ : Sg), f_X8_find_238 x1 L25 L108 L238 L267 L372 L384 L516 L544 L574 Po x2 x3 x4 σ → L238 x2 x3 x4 σ) → (∀ (x2 : Int32) (x3 : Int32) (x4 : Int32) (x5 : Int32) (x6 : Int32) (σ : Sg), f_X8_find_267 x1 L25 L108 L238 L267 L372 L384 L516 L544 L574 Po x2 x3 x4 x5 x6 σ → L267 x2 x3 x4 x5 x6 σ) → (∀ (x2 : Int32) (x3 : Int32) (x4 : Int32) (x5 : Int32) (σ : Sg), f_X8_find_372 x1 L25 L108 L238 L267 L372 L384 L516 L544 L574 Po x2 x3 x4 x5 σ → L372 x2 x3 x4 x5 σ) → (∀ (x2 : Int32) (x3 : Int32) (x4 : Int32) (x5 : Int32) (x6 : Int32) (x7 : Int32) (σ : Sg), f_X8_find_384 x1 L25 L108 L238 L267 L372 L384 L516 L544 L574 Po x2 x3 x4 x5 x6 x7 σ → L384 x2 x3 x4 x5 x6 x7 σ) → (∀ (x5 : Int32) (σ : Sg), f_X8_find_516 x1 L25 L108 L238 L267 L372 L384 L516 L544 L574 Po x5 σ → L516 x5 σ) → (∀ (x5 : Int32) (σ : Sg), f_X8_find_544 x1 L25 L108 L238 L267 L372 L384 L516 L544 L574 Po x5 σ → L544 x5 σ) → (∀ (x5 : Int32) (x6 : Int32) (x7 : Int32) (σ : Sg), f_X8_find_574 x1 L25 L108 L238 L267 L372 L384 L516 L544 L574 Po x5 x6 x7 σ → L574 x5 x6 x7 σ) → f_X8_find_e x1 L25 L108 L238 L267 L372 L384 L516 L544 L574 Po σ
def CT_X8_find (l : Launch) (Ω : Wm) : Prop := ∀ (x1 : Int32) (σ : Sg) (K : Sg → Prop), sp_X8_find x1 σ K → Ct l yX8_find cX8_find 9 none 301 20028 Ω [.ref (Ω.2.2.1 0), .int x1] σ (QV Ω K)
def f_X8_found_142 (x1 : Int32) (x2 : Int32) (x3 : Int32) (Po : Int32 → Sg → Prop) (s0 : Int32) (σ : Sg) : Prop :=
  Po s0 σ
def f_X8_found_102 (x1 : Int32) (x2 : Int32) (x3 : Int32) (Po : Int32 → Sg → Prop) (s0 : Int32) (σ : Sg) : Prop :=
  Po s0 σ
def f_X8_found_86 (x1 : Int32) (x2 : Int32) (x3 : Int32) (Po : Int32 → Sg → Prop) (s0 : Int32) (σ : Sg) : Prop :=
  Po s0 σ
def f_X8_found_56 (x1 : Int32) (x2 : Int32) (x3 : Int32) (Po : Int32 → Sg → Prop) (σ : Sg) : Prop :=
  Po 0 σ
def f_X8_found_49 (x1 : Int32) (x2 : Int32) (x3 : Int32) (Po : Int32 → Sg → Prop) (s0 : Int32) (σ : Sg) : Prop :=
  sp_X8_fails s0 2 σ (fun r13 u14 =>
  (r13 = 0 →
  vp_in ((240 * x1) + x2) 1920 ∧
  (¬ x3 = 0 →
  (¬ (u14.1 15 ((240 * x1) + x2).toNatClampNeg) = 0 →
  sp_X8_find x1 u14 (fun u17 =>
  (¬ x3 = 1 →
  (¬ x3 = 2 →
  vp_in x2 240 ∧
  f_X8_found_142 x1 x2 x3 Po (u17.1 22 x2.toNatClampNeg) u17) ∧
  (x3 = 2 →
  vp_in x2 240 ∧
  f_X8_found_142 x1 x2 x3 Po (u17.1 21 x2.toNatClampNeg) u17)) ∧
  (x3 = 1 →
  vp_in x2 240 ∧
  f_X8_found_142 x1 x2 x3 Po (u17.1 20 x2.toNatClampNeg) u17))) ∧
  ((u14.1 15 ((240 * x1) + x2).toNatClampNeg) = 0 →
  (¬ x3 = 3 →
  f_X8_found_102 x1 x2 x3 Po 0 u14) ∧
  (x3 = 3 →
  f_X8_found_102 x1 x2 x3 Po (-1) u14))) ∧
  (x3 = 0 →
  ((u14.1 15 ((240 * x1) + x2).toNatClampNeg) = 0 →
  f_X8_found_86 x1 x2 x3 Po 0 u14) ∧
  (¬ ((u14.1 15 ((240 * x1) + x2).toNatClampNeg) = 0) →
  f_X8_found_86 x1 x2 x3 Po 1 u14))) ∧
  (¬ (r13 = 0) →
  f_X8_found_56 x1 x2 x3 Po u14))
def f_X8_found_28 (x1 : Int32) (x2 : Int32) (x3 : Int32) (Po : Int32 → Sg → Prop) (s0 : Int32) (σ : Sg) : Prop :=
  sp_X8_fails s0 1 σ (fun r7 u8 =>
  (¬ r7 = 0 →
  f_X8_found_56 x1 x2 x3 Po u8) ∧
  (r7 = 0 →
  sp_X8_isEvent x2 u8 (fun r9 u10 =>
  (¬ r9 = 0 →
  f_X8_found_49 x1 x2 x3 Po 0 u10) ∧
  (r9 = 0 →
  f_X8_found_49 x1 x2 x3 Po 1 u10))))
def f_X8_found_23 (x1 : Int32) (x2 : Int32) (x3 : Int32) (Po : Int32 → Sg → Prop) (σ : Sg) : Prop :=
  f_X8_found_28 x1 x2 x3 Po 1 σ
def f_X8_found_e (x1 : Int32) (x2 : Int32) (x3 : Int32) (Po : Int32 → Sg → Prop) (σ : Sg) : Prop :=
  sp_X8_isNode x1 (pI σ 0 0 0) (fun r1 u2 =>
  (r1 = 0 →
  f_X8_found_23 x1 x2 x3 Po u2) ∧
  (¬ (r1 = 0) →
  sp_X8_in x3 0 3 u2 (fun r3 u4 =>
  (¬ r3 = 0 →
  f_X8_found_28 x1 x2 x3 Po 0 u4) ∧
  (r3 = 0 →
  f_X8_found_23 x1 x2 x3 Po u4))))
def vc_X8_found (x1 : Int32) (x2 : Int32) (x3 : Int32) (σ : Sg) (Po : Int32 → Sg → Prop) : Prop := f_X8_found_e x1 x2 x3 Po σ
def sp_X8_found (x1 : Int32) (x2 : Int32) (x3 : Int32) (σ : Sg) (K : Int32 → Sg → Prop) : Prop := vc_X8_found x1 x2 x3 σ K
def CT_X8_found (l : Launch) (Ω : Wm) : Prop := ∀ (x1 : Int32) (x2 : Int32) (x3 : Int32) (σ : Sg) (K : Int32 → Sg → Prop), sp_X8_found x1 x2 x3 σ K → Ct l yX8_found cX8_found 5 (some .int) 302 20056 Ω [.ref (Ω.2.2.1 0), .int x1, .int x2, .int x3] σ (QI Ω K)
def f_X8_stamp_101 (x1 : Int32) (x2 : Int32) (Po : Int64 → Sg → Prop) (s0 : Int64) (σ : Sg) : Prop :=
  Po s0 σ
def f_X8_stamp_84 (x1 : Int32) (x2 : Int32) (Po : Int64 → Sg → Prop) (s0 : Int32) (σ : Sg) : Prop :=
  sp_X8_fails s0 3 σ (fun r19 u20 =>
  (r19 = 0 →
  vp_in x2 240 ∧
  f_X8_stamp_101 x1 x2 Po (u20.2 26 x2.toNatClampNeg) u20) ∧
  (¬ (r19 = 0) →
  f_X8_stamp_101 x1 x2 Po 0 u20))
def f_X8_stamp_79 (x1 : Int32) (x2 : Int32) (Po : Int64 → Sg → Prop) (σ : Sg) : Prop :=
  f_X8_stamp_84 x1 x2 Po 1 σ
def f_X8_stamp_47 (x1 : Int32) (x2 : Int32) (Po : Int64 → Sg → Prop) (σ : Sg) : Prop :=
  Po 0 σ
def f_X8_stamp_40 (x1 : Int32) (x2 : Int32) (Po : Int64 → Sg → Prop) (s0 : Int32) (σ : Sg) : Prop :=
  sp_X8_fails s0 2 σ (fun r10 u11 =>
  (r10 = 0 →
  sp_X8_find x1 u11 (fun u13 =>
  vp_in ((240 * x1) + x2) 1920 ∧
  ((u13.1 15 ((240 * x1) + x2).toNatClampNeg) = 0 →
  f_X8_stamp_79 x1 x2 Po u13) ∧
  (¬ ((u13.1 15 ((240 * x1) + x2).toNatClampNeg) = 0) →
  vp_in x2 240 ∧
  (¬ (u13.1 21 x2.toNatClampNeg) = 0 →
  f_X8_stamp_84 x1 x2 Po 0 u13) ∧
  ((u13.1 21 x2.toNatClampNeg) = 0 →
  f_X8_stamp_79 x1 x2 Po u13)))) ∧
  (¬ (r10 = 0) →
  f_X8_stamp_47 x1 x2 Po u11))
def f_X8_stamp_19 (x1 : Int32) (x2 : Int32) (Po : Int64 → Sg → Prop) (s0 : Int32) (σ : Sg) : Prop :=
  sp_X8_fails s0 1 σ (fun r4 u5 =>
  (¬ r4 = 0 →
  f_X8_stamp_47 x1 x2 Po u5) ∧
  (r4 = 0 →
  sp_X8_isEvent x2 u5 (fun r6 u7 =>
  (¬ r6 = 0 →
  f_X8_stamp_40 x1 x2 Po 0 u7) ∧
  (r6 = 0 →
  f_X8_stamp_40 x1 x2 Po 1 u7))))
def f_X8_stamp_e (x1 : Int32) (x2 : Int32) (Po : Int64 → Sg → Prop) (σ : Sg) : Prop :=
  sp_X8_isNode x1 (pI σ 0 0 0) (fun r1 u2 =>
  (¬ r1 = 0 →
  f_X8_stamp_19 x1 x2 Po 0 u2) ∧
  (r1 = 0 →
  f_X8_stamp_19 x1 x2 Po 1 u2))
def vc_X8_stamp (x1 : Int32) (x2 : Int32) (σ : Sg) (Po : Int64 → Sg → Prop) : Prop := f_X8_stamp_e x1 x2 Po σ
def sp_X8_stamp (x1 : Int32) (x2 : Int32) (σ : Sg) (K : Int64 → Sg → Prop) : Prop := vc_X8_stamp x1 x2 σ K
def CT_X8_stamp (l : Launch) (Ω : Wm) : Prop := ∀ (x1 : Int32) (x2 : Int32) (σ : Sg) (K : Int64 → Sg → Prop), sp_X8_stamp x1 x2 σ K → Ct l yX8_stamp cX8_stamp 3 (some .long) 302 20056 Ω [.ref (Ω.2.2.1 0), .int x1, .int x2] σ (QL Ω K)
def f_X8_order_19 (x1 : Int32) (Po : Int32 → Sg → Prop) (s0 : Int32) (σ : Sg) : Prop :=
  sp_X8_fails s0 1 σ (fun r4 u5 =>
  (r4 = 0 →
  sp_X8_find x1 u5 (fun u7 =>
  Po (u7.1 0 23) u7)) ∧
  (¬ (r4 = 0) →
  Po 0 u5))
def f_X8_order_e (x1 : Int32) (Po : Int32 → Sg → Prop) (σ : Sg) : Prop :=
  sp_X8_isNode x1 (pI σ 0 0 0) (fun r1 u2 =>
  (¬ r1 = 0 →
  f_X8_order_19 x1 Po 0 u2) ∧
  (r1 = 0 →
  f_X8_order_19 x1 Po 1 u2))
def vc_X8_order (x1 : Int32) (σ : Sg) (Po : Int32 → Sg → Prop) : Prop := f_X8_order_e x1 Po σ
def sp_X8_order (x1 : Int32) (σ : Sg) (K : Int32 → Sg → Prop) : Prop := vc_X8_order x1 σ K
def CT_X8_order (l : Launch) (Ω : Wm) : Prop := ∀ (x1 : Int32) (σ : Sg) (K : Int32 → Sg → Prop), sp_X8_order x1 σ K → Ct l yX8_order cX8_order 2 (some .int) 302 20056 Ω [.ref (Ω.2.2.1 0), .int x1] σ (QI Ω K)
def f_X8_at_70 (x1 : Int32) (x2 : Int32) (Po : Int32 → Sg → Prop) (s0 : Int32) (σ : Sg) : Prop :=
  Po s0 σ
def f_X8_at_53 (x1 : Int32) (x2 : Int32) (Po : Int32 → Sg → Prop) (s0 : Int32) (σ : Sg) : Prop :=
  sp_X8_fails s0 2 σ (fun r12 u13 =>
  (r12 = 0 →
  vp_in x2 240 ∧
  f_X8_at_70 x1 x2 Po (u13.1 23 x2.toNatClampNeg) u13) ∧
  (¬ (r12 = 0) →
  f_X8_at_70 x1 x2 Po 0 u13))
def f_X8_at_19 (x1 : Int32) (x2 : Int32) (Po : Int32 → Sg → Prop) (s0 : Int32) (σ : Sg) : Prop :=
  sp_X8_fails s0 1 σ (fun r4 u5 =>
  (r4 = 0 →
  sp_X8_find x1 u5 (fun u7 =>
  sp_X8_in x2 0 ((u7.1 0 23) - 1) u7 (fun r8 u9 =>
  (¬ r8 = 0 →
  f_X8_at_53 x1 x2 Po 0 u9) ∧
  (r8 = 0 →
  f_X8_at_53 x1 x2 Po 1 u9)))) ∧
  (¬ (r4 = 0) →
  Po 0 u5))
def f_X8_at_e (x1 : Int32) (x2 : Int32) (Po : Int32 → Sg → Prop) (σ : Sg) : Prop :=
  sp_X8_isNode x1 (pI σ 0 0 0) (fun r1 u2 =>
  (¬ r1 = 0 →
  f_X8_at_19 x1 x2 Po 0 u2) ∧
  (r1 = 0 →
  f_X8_at_19 x1 x2 Po 1 u2))
def vc_X8_at (x1 : Int32) (x2 : Int32) (σ : Sg) (Po : Int32 → Sg → Prop) : Prop := f_X8_at_e x1 x2 Po σ
def sp_X8_at (x1 : Int32) (x2 : Int32) (σ : Sg) (K : Int32 → Sg → Prop) : Prop := vc_X8_at x1 x2 σ K
def CT_X8_at (l : Launch) (Ω : Wm) : Prop := ∀ (x1 : Int32) (x2 : Int32) (σ : Sg) (K : Int32 → Sg → Prop), sp_X8_at x1 x2 σ K → Ct l yX8_at cX8_at 3 (some .int) 302 20056 Ω [.ref (Ω.2.2.1 0), .int x1, .int x2] σ (QI Ω K)
def f_X8_balance_27 (x1 : Int32) (x2 : Int32) (Po : Int32 → Sg → Prop) (s0 : Int32) (σ : Sg) : Prop :=
  sp_X8_fails s0 1 σ (fun r7 u8 =>
  (r7 = 0 →
  sp_X8_find x1 u8 (fun u10 =>
  vp_in x2 8 ∧
  Po (u10.1 24 x2.toNatClampNeg) u10)) ∧
  (¬ (r7 = 0) →
  Po 0 u8))
def f_X8_balance_22 (x1 : Int32) (x2 : Int32) (Po : Int32 → Sg → Prop) (σ : Sg) : Prop :=
  f_X8_balance_27 x1 x2 Po 1 σ
def f_X8_balance_e (x1 : Int32) (x2 : Int32) (Po : Int32 → Sg → Prop) (σ : Sg) : Prop :=
  sp_X8_isNode x1 (pI σ 0 0 0) (fun r1 u2 =>
  (r1 = 0 →
  f_X8_balance_22 x1 x2 Po u2) ∧
  (¬ (r1 = 0) →
  sp_X8_isNode x2 u2 (fun r3 u4 =>
  (¬ r3 = 0 →
  f_X8_balance_27 x1 x2 Po 0 u4) ∧
  (r3 = 0 →
  f_X8_balance_22 x1 x2 Po u4))))
def vc_X8_balance (x1 : Int32) (x2 : Int32) (σ : Sg) (Po : Int32 → Sg → Prop) : Prop := f_X8_balance_e x1 x2 Po σ
def sp_X8_balance (x1 : Int32) (x2 : Int32) (σ : Sg) (K : Int32 → Sg → Prop) : Prop := vc_X8_balance x1 x2 σ K
def CT_X8_balance (l : Launch) (Ω : Wm) : Prop := ∀ (x1 : Int32) (x2 : Int32) (σ : Sg) (K : Int32 → Sg → Prop), sp_X8_balance x1 x2 σ K → Ct l yX8_balance cX8_balance 3 (some .int) 302 20056 Ω [.ref (Ω.2.2.1 0), .int x1, .int x2] σ (QI Ω K)
def f_X8_count_145 (x1 : Int32) (L80 : Int32 → Int32 → Sg → Prop) (L115 : Int32 → Int32 → Sg → Prop) (L126 : Int32 → Int32 → Int32 → Sg → Prop) (L171 : Int32 → Int32 → Sg → Prop) (Po : Int32 → Sg → Prop) (x2 : Int32) (x3 : Int32) (x4 : Int32) (σ : Sg) : Prop :=
  L126 x2 x3 (x4 + 1) σ
def f_X8_count_105 (x1 : Int32) (L80 : Int32 → Int32 → Sg → Prop) (L115 : Int32 → Int32 → Sg → Prop) (L126 : Int32 → Int32 → Int32 → Sg → Prop) (L171 : Int32 → Int32 → Sg → Prop) (Po : Int32 → Sg → Prop) (x2 : Int32) (x3 : Int32) (σ : Sg) : Prop :=
  L80 x2 (x3 + 1) σ
def f_X8_count_20 (x1 : Int32) (L80 : Int32 → Int32 → Sg → Prop) (L115 : Int32 → Int32 → Sg → Prop) (L126 : Int32 → Int32 → Int32 → Sg → Prop) (L171 : Int32 → Int32 → Sg → Prop) (Po : Int32 → Sg → Prop) (s0 : Int32) (σ : Sg) : Prop :=
  sp_X8_fails s0 1 σ (fun r4 u5 =>
  (r4 = 0 →
  (x1.toInt < 0 ∨ 4 < x1.toInt →
  L171 0 0 u5) ∧
  (x1.toInt = 0 →
  Po (u5.1 0 1) u5) ∧
  (x1.toInt = 1 →
  Po (u5.1 0 2) u5) ∧
  (x1.toInt = 2 →
  L80 0 0 u5) ∧
  (x1.toInt = 3 →
  L115 0 0 u5) ∧
  (x1.toInt = 4 →
  sp_X8_find 0 u5 (fun u7 =>
  Po (u7.1 0 24) u7))) ∧
  (¬ (r4 = 0) →
  Po 0 u5))
def f_X8_count_171 (x1 : Int32) (L80 : Int32 → Int32 → Sg → Prop) (L115 : Int32 → Int32 → Sg → Prop) (L126 : Int32 → Int32 → Int32 → Sg → Prop) (L171 : Int32 → Int32 → Sg → Prop) (Po : Int32 → Sg → Prop) (x2 : Int32) (x3 : Int32) (σ : Sg) : Prop :=
  ((σ.1 0 1) ≤ x3 →
  Po x2 σ) ∧
  (¬ ((σ.1 0 1) ≤ x3) →
  vp_in x3 8 ∧
  L171 (x2 + (σ.1 10 x3.toNatClampNeg)) (x3 + 1) σ)
def f_X8_count_126 (x1 : Int32) (L80 : Int32 → Int32 → Sg → Prop) (L115 : Int32 → Int32 → Sg → Prop) (L126 : Int32 → Int32 → Int32 → Sg → Prop) (L171 : Int32 → Int32 → Sg → Prop) (Po : Int32 → Sg → Prop) (x2 : Int32) (x3 : Int32) (x4 : Int32) (σ : Sg) : Prop :=
  (x3 ≤ x4 →
  L115 x2 (x3 + 1) σ) ∧
  (¬ (x3 ≤ x4) →
  sp_X8_isFork x3 x4 σ (fun r14 u15 =>
  (r14 = 0 →
  f_X8_count_145 x1 L80 L115 L126 L171 Po x2 x3 x4 u15) ∧
  (¬ (r14 = 0) →
  f_X8_count_145 x1 L80 L115 L126 L171 Po (x2 + 1) x3 x4 u15)))
def f_X8_count_115 (x1 : Int32) (L80 : Int32 → Int32 → Sg → Prop) (L115 : Int32 → Int32 → Sg → Prop) (L126 : Int32 → Int32 → Int32 → Sg → Prop) (L171 : Int32 → Int32 → Sg → Prop) (Po : Int32 → Sg → Prop) (x2 : Int32) (x3 : Int32) (σ : Sg) : Prop :=
  ((σ.1 0 2) ≤ x3 →
  Po x2 σ) ∧
  (¬ ((σ.1 0 2) ≤ x3) →
  L126 x2 x3 0 σ)
def f_X8_count_80 (x1 : Int32) (L80 : Int32 → Int32 → Sg → Prop) (L115 : Int32 → Int32 → Sg → Prop) (L126 : Int32 → Int32 → Int32 → Sg → Prop) (L171 : Int32 → Int32 → Sg → Prop) (Po : Int32 → Sg → Prop) (x2 : Int32) (x3 : Int32) (σ : Sg) : Prop :=
  ((σ.1 0 2) ≤ x3 →
  Po x2 σ) ∧
  (¬ ((σ.1 0 2) ≤ x3) →
  vp_in x3 240 ∧
  ((σ.1 7 x3.toNatClampNeg) ≤ x2 →
  f_X8_count_105 x1 L80 L115 L126 L171 Po x2 x3 σ) ∧
  (¬ ((σ.1 7 x3.toNatClampNeg) ≤ x2) →
  vp_in x3 240 ∧
  f_X8_count_105 x1 L80 L115 L126 L171 Po (σ.1 7 x3.toNatClampNeg) x3 σ))
def f_X8_count_e (x1 : Int32) (L80 : Int32 → Int32 → Sg → Prop) (L115 : Int32 → Int32 → Sg → Prop) (L126 : Int32 → Int32 → Int32 → Sg → Prop) (L171 : Int32 → Int32 → Sg → Prop) (Po : Int32 → Sg → Prop) (σ : Sg) : Prop :=
  sp_X8_in x1 0 5 (pI σ 0 0 0) (fun r1 u2 =>
  (¬ r1 = 0 →
  f_X8_count_20 x1 L80 L115 L126 L171 Po 0 u2) ∧
  (r1 = 0 →
  f_X8_count_20 x1 L80 L115 L126 L171 Po 1 u2))
def vc_X8_count (x1 : Int32) (σ : Sg) (Po : Int32 → Sg → Prop) : Prop := ∀ L80 : Int32 → Int32 → Sg → Prop, ∀ L115 : Int32 → Int32 → Sg → Prop, ∀ L126 : Int32 → Int32 → Int32 → Sg → Prop, ∀ L171 : Int32 → Int32 → Sg → Prop, (∀ (x2 : Int32) (x3 : Int32) (σ : Sg), f_X8_count_80 x1 L80 L115 L126 L171 Po x2 x3 σ → L80 x2 x3 σ) → (∀ (x2 : Int32) (x3 : Int32) (σ : Sg), f_X8_count_115 x1 L80 L115 L126 L171 Po x2 x3 σ → L115 x2 x3 σ) → (∀ (x2 : Int32) (x3 : Int32) (x4 : Int32) (σ : Sg), f_X8_count_126 x1 L80 L115 L126 L171 Po x2 x3 x4 σ → L126 x2 x3 x4 σ) → (∀ (x2 : Int32) (x3 : Int32) (σ : Sg), f_X8_count_171 x1 L80 L115 L126 L171 Po x2 x3 σ → L171 x2 x3 σ) → f_X8_count_e x1 L80 L115 L126 L171 Po σ
def CT_X8_count (l : Launch) (Ω : Wm) : Prop := ∀ (x1 : Int32) (σ : Sg) (K : Int32 → Sg → Prop), sp_X8_count x1 σ K → Ct l yX8_count cX8_count 5 (some .int) 302 20056 Ω [.ref (Ω.2.2.1 0), .int x1] σ (QI Ω K)
