def f_X7_begin_11 (x1 : Int32) (Po : Sg → Prop) (Px : String → Sg → Prop) (σ : Sg) : Prop :=
  Px "java/lang/IllegalArgumentException" σ
def f_X7_begin_e (x1 : Int32) (Po : Sg → Prop) (Px : String → Sg → Prop) (σ : Sg) : Prop :=
  (x1 < 2 →
  f_X7_begin_11 x1 Po Px σ) ∧
  (¬ (x1 < 2) →
  (x1 ≤ 8 →
  sp_X7_startAnew x1 σ (fun u2 =>
  Po u2)) ∧
  (¬ (x1 ≤ 8) →
  f_X7_begin_11 x1 Po Px σ))
def vc_X7_begin (x1 : Int32) (σ : Sg) (Po : Sg → Prop) (Px : String → Sg → Prop) : Prop := f_X7_begin_e x1 Po Px σ
def sp_X7_begin (x1 : Int32) (σ : Sg) (K : Sg → Prop) (Px : String → Sg → Prop) : Prop := vc_X7_begin x1 σ K Px
def CT_X7_begin (l : Launch) (Ω : Wm) : Prop := ∀ (x1 : Int32) (σ : Sg) (K : Sg → Prop) (Px : String → Sg → Prop), sp_X7_begin x1 σ K Px → Cu l yX7_begin cX7_begin 2 none 7 181 Ω [.ref (Ω.2.2.1 0), .int x1] σ (QV Ω K) Px
def f_X7_submit_26 (x1 : Int32) (x2 : Int32) (x3 : Int32) (Po : Int32 → Sg → Prop) (Px : String → Sg → Prop) (σ : Sg) : Prop :=
  Px "java/lang/IllegalArgumentException" σ
def f_X7_submit_e (x1 : Int32) (x2 : Int32) (x3 : Int32) (Po : Int32 → Sg → Prop) (Px : String → Sg → Prop) (σ : Sg) : Prop :=
  sp_X7_isNode x1 σ (fun r1 u2 =>
  (r1 = 0 →
  f_X7_submit_26 x1 x2 x3 Po Px u2) ∧
  (¬ (r1 = 0) →
  sp_X7_isNode x2 u2 (fun r3 u4 =>
  (r3 = 0 →
  f_X7_submit_26 x1 x2 x3 Po Px u4) ∧
  (¬ (r3 = 0) →
  (x3 < 0 →
  f_X7_submit_26 x1 x2 x3 Po Px u4) ∧
  (¬ (x3 < 0) →
  (x3 ≤ 1000000 →
  sp_X6_isFull x1 u4 (fun r5 u6 =>
  (r5 = 0 →
  sp_X6_join x1 x2 x3 u6 (fun u8 =>
  vp_in x1 8 ∧
  Po (u8.1 6 x1.toNatClampNeg) u8)) ∧
  (¬ (r5 = 0) →
  Px "java/lang/IndexOutOfBoundsException" u6))) ∧
  (¬ (x3 ≤ 1000000) →
  f_X7_submit_26 x1 x2 x3 Po Px u4))))))
def vc_X7_submit (x1 : Int32) (x2 : Int32) (x3 : Int32) (σ : Sg) (Po : Int32 → Sg → Prop) (Px : String → Sg → Prop) : Prop := f_X7_submit_e x1 x2 x3 Po Px σ
def sp_X7_submit (x1 : Int32) (x2 : Int32) (x3 : Int32) (σ : Sg) (K : Int32 → Sg → Prop) (Px : String → Sg → Prop) : Prop := vc_X7_submit x1 x2 x3 σ K Px
def CT_X7_submit (l : Launch) (Ω : Wm) : Prop := ∀ (x1 : Int32) (x2 : Int32) (x3 : Int32) (σ : Sg) (K : Int32 → Sg → Prop) (Px : String → Sg → Prop), sp_X7_submit x1 x2 x3 σ K Px → Cu l yX7_submit cX7_submit 4 (some .int) 6 90 Ω [.ref (Ω.2.2.1 0), .int x1, .int x2, .int x3] σ (QI Ω K) Px
def f_X7_sync_21 (x1 : Int32) (x2 : Int32) (x3 : Int64) (Po : Int32 → Sg → Prop) (Px : String → Sg → Prop) (σ : Sg) : Prop :=
  Px "java/lang/IllegalArgumentException" σ
def f_X7_sync_e (x1 : Int32) (x2 : Int32) (x3 : Int64) (Po : Int32 → Sg → Prop) (Px : String → Sg → Prop) (σ : Sg) : Prop :=
  sp_X7_isNode x1 σ (fun r1 u2 =>
  (r1 = 0 →
  f_X7_sync_21 x1 x2 x3 Po Px u2) ∧
  (¬ (r1 = 0) →
  sp_X7_isNode x2 u2 (fun r3 u4 =>
  (r3 = 0 →
  f_X7_sync_21 x1 x2 x3 Po Px u4) ∧
  (¬ (r3 = 0) →
  (¬ x1 = x2 →
  sp_X2_isFull u4 (fun r5 u6 =>
  (r5 = 0 →
  sp_X0_join 20 32 20 32 x2 x1 u6 (fun u8 =>
  vp_in x2 8 ∧
  vp_in x1 8 ∧
  vp_in x2 8 ∧
  sp_X7_makeEvent x2 (u8.1 2 x2.toNatClampNeg) (u8.1 2 x1.toNatClampNeg) x3 (imin (u8.1 6 x2.toNatClampNeg) 3) u8 (fun r12 u13 =>
  sp_X7_give r12 x2 u13 (fun u15 =>
  vp_in x2 8 ∧
  Po r12 (pI u15 2 x2.toNatClampNeg r12))))) ∧
  (¬ (r5 = 0) →
  Px "java/lang/IndexOutOfBoundsException" u6))) ∧
  (x1 = x2 →
  f_X7_sync_21 x1 x2 x3 Po Px u4)))))
def vc_X7_sync (x1 : Int32) (x2 : Int32) (x3 : Int64) (σ : Sg) (Po : Int32 → Sg → Prop) (Px : String → Sg → Prop) : Prop := f_X7_sync_e x1 x2 x3 Po Px σ
def sp_X7_sync (x1 : Int32) (x2 : Int32) (x3 : Int64) (σ : Sg) (K : Int32 → Sg → Prop) (Px : String → Sg → Prop) : Prop := vc_X7_sync x1 x2 x3 σ K Px
def CT_X7_sync (l : Launch) (Ω : Wm) : Prop := ∀ (x1 : Int32) (x2 : Int32) (x3 : Int64) (σ : Sg) (K : Int32 → Sg → Prop) (Px : String → Sg → Prop), sp_X7_sync x1 x2 x3 σ K Px → Cu l yX7_sync cX7_sync 6 (some .int) 6 159 Ω [.ref (Ω.2.2.1 0), .int x1, .int x2, .long x3] σ (QI Ω K) Px
def f_X7_inject_97 (x1 : Int32) (x2 : Int32) (x3 : Int32) (x4 : Int32) (x5 : Int64) (Po : Int32 → Sg → Prop) (Px : String → Sg → Prop) (σ : Sg) : Prop :=
  sp_X2_hasOneOf x2 x3 x4 x5 σ (fun r19 u20 =>
  (r19 = 0 →
  sp_X2_isFull u20 (fun r21 u22 =>
  (r21 = 0 →
  sp_X7_makeEvent x2 x3 x4 x5 0 u22 (fun r23 u24 =>
  sp_X7_give r23 x1 u24 (fun u26 =>
  Po r23 u26))) ∧
  (¬ (r21 = 0) →
  Px "java/lang/IndexOutOfBoundsException" u22))) ∧
  (¬ (r19 = 0) →
  Px "java/lang/IllegalStateException" u20))
def f_X7_inject_89 (x1 : Int32) (x2 : Int32) (x3 : Int32) (x4 : Int32) (x5 : Int64) (Po : Int32 → Sg → Prop) (Px : String → Sg → Prop) (σ : Sg) : Prop :=
  Px "java/lang/IllegalArgumentException" σ
def f_X7_inject_51 (x1 : Int32) (x2 : Int32) (x3 : Int32) (x4 : Int32) (x5 : Int64) (Po : Int32 → Sg → Prop) (Px : String → Sg → Prop) (σ : Sg) : Prop :=
  Px "java/lang/IllegalArgumentException" σ
def f_X7_inject_21 (x1 : Int32) (x2 : Int32) (x3 : Int32) (x4 : Int32) (x5 : Int64) (Po : Int32 → Sg → Prop) (Px : String → Sg → Prop) (σ : Sg) : Prop :=
  Px "java/lang/IllegalArgumentException" σ
def f_X7_inject_e (x1 : Int32) (x2 : Int32) (x3 : Int32) (x4 : Int32) (x5 : Int64) (Po : Int32 → Sg → Prop) (Px : String → Sg → Prop) (σ : Sg) : Prop :=
  sp_X7_isNode x1 σ (fun r1 u2 =>
  (r1 = 0 →
  f_X7_inject_21 x1 x2 x3 x4 x5 Po Px u2) ∧
  (¬ (r1 = 0) →
  sp_X7_isNode x2 u2 (fun r3 u4 =>
  (r3 = 0 →
  f_X7_inject_21 x1 x2 x3 x4 x5 Po Px u4) ∧
  (¬ (r3 = 0) →
  (¬ x1 = x2 →
  sp_X7_isHeld x1 x3 u4 (fun r5 u6 =>
  (r5 = 0 →
  f_X7_inject_51 x1 x2 x3 x4 x5 Po Px u6) ∧
  (¬ (r5 = 0) →
  vp_in x3 240 ∧
  ((u6.1 12 x3.toNatClampNeg) = x2 →
  (x4 = (-1) →
  f_X7_inject_97 x1 x2 x3 x4 x5 Po Px u6) ∧
  (¬ (x4 = (-1)) →
  sp_X7_isHeld x1 x4 u6 (fun r8 u9 =>
  (r8 = 0 →
  f_X7_inject_89 x1 x2 x3 x4 x5 Po Px u9) ∧
  (¬ (r8 = 0) →
  vp_in x4 240 ∧
  (¬ (u9.1 12 x4.toNatClampNeg) = x2 →
  f_X7_inject_97 x1 x2 x3 x4 x5 Po Px u9) ∧
  ((u9.1 12 x4.toNatClampNeg) = x2 →
  f_X7_inject_89 x1 x2 x3 x4 x5 Po Px u9))))) ∧
  (¬ ((u6.1 12 x3.toNatClampNeg) = x2) →
  f_X7_inject_51 x1 x2 x3 x4 x5 Po Px u6)))) ∧
  (x1 = x2 →
  f_X7_inject_21 x1 x2 x3 x4 x5 Po Px u4)))))
def vc_X7_inject (x1 : Int32) (x2 : Int32) (x3 : Int32) (x4 : Int32) (x5 : Int64) (σ : Sg) (Po : Int32 → Sg → Prop) (Px : String → Sg → Prop) : Prop := f_X7_inject_e x1 x2 x3 x4 x5 Po Px σ
def sp_X7_inject (x1 : Int32) (x2 : Int32) (x3 : Int32) (x4 : Int32) (x5 : Int64) (σ : Sg) (K : Int32 → Sg → Prop) (Px : String → Sg → Prop) : Prop := vc_X7_inject x1 x2 x3 x4 x5 σ K Px
def CT_X7_inject (l : Launch) (Ω : Wm) : Prop := ∀ (x1 : Int32) (x2 : Int32) (x3 : Int32) (x4 : Int32) (x5 : Int64) (σ : Sg) (K : Int32 → Sg → Prop) (Px : String → Sg → Prop), sp_X7_inject x1 x2 x3 x4 x5 σ K Px → Cu l yX7_inject cX7_inject 8 (some .int) 6 159 Ω [.ref (Ω.2.2.1 0), .int x1, .int x2, .int x3, .int x4, .long x5] σ (QI Ω K) Px
def f_X7_event_133 (x1 : Int32) (x2 : Int32) (Po : Int32 → Sg → Prop) (Px : String → Sg → Prop) (s0 : Int32) (σ : Sg) : Prop :=
  Po s0 σ
def f_X7_event_10 (x1 : Int32) (x2 : Int32) (Po : Int32 → Sg → Prop) (Px : String → Sg → Prop) (σ : Sg) : Prop :=
  Px "java/lang/IllegalArgumentException" σ
def f_X7_event_e (x1 : Int32) (x2 : Int32) (Po : Int32 → Sg → Prop) (Px : String → Sg → Prop) (σ : Sg) : Prop :=
  (x2 < 0 →
  f_X7_event_10 x1 x2 Po Px σ) ∧
  (¬ (x2 < 0) →
  (x2 ≤ 7 →
  sp_X7_isEvent x1 σ (fun r1 u2 =>
  (¬ r1 = 0 →
  (x2.toInt < 0 ∨ 6 < x2.toInt →
  sp_X0_size 23 960 x1 u2 (fun r3 u4 =>
  Po r3 u4)) ∧
  (x2.toInt = 0 →
  vp_in x1 240 ∧
  Po (u2.1 12 x1.toNatClampNeg) u2) ∧
  (x2.toInt = 1 →
  vp_in x1 240 ∧
  Po (u2.1 13 x1.toNatClampNeg) u2) ∧
  (x2.toInt = 2 →
  vp_in x1 240 ∧
  Po (u2.1 14 x1.toNatClampNeg) u2) ∧
  (x2.toInt = 3 →
  vp_in x1 240 ∧
  Po (u2.1 32 x1.toNatClampNeg) u2) ∧
  (x2.toInt = 4 →
  vp_in x1 240 ∧
  ((u2.1 33 x1.toNatClampNeg) = 0 →
  f_X7_event_133 x1 x2 Po Px 0 u2) ∧
  (¬ ((u2.1 33 x1.toNatClampNeg) = 0) →
  f_X7_event_133 x1 x2 Po Px 1 u2)) ∧
  (x2.toInt = 5 →
  vp_in x1 240 ∧
  Po (u2.1 16 x1.toNatClampNeg) u2) ∧
  (x2.toInt = 6 →
  sp_X0_rowsWith 20 32 x1 u2 (fun r12 u13 =>
  Po r12 u13))) ∧
  (r1 = 0 →
  Px "java/lang/IndexOutOfBoundsException" u2))) ∧
  (¬ (x2 ≤ 7) →
  f_X7_event_10 x1 x2 Po Px σ))
def vc_X7_event (x1 : Int32) (x2 : Int32) (σ : Sg) (Po : Int32 → Sg → Prop) (Px : String → Sg → Prop) : Prop := f_X7_event_e x1 x2 Po Px σ
def sp_X7_event (x1 : Int32) (x2 : Int32) (σ : Sg) (K : Int32 → Sg → Prop) (Px : String → Sg → Prop) : Prop := vc_X7_event x1 x2 σ K Px
def CT_X7_event (l : Launch) (Ω : Wm) : Prop := ∀ (x1 : Int32) (x2 : Int32) (σ : Sg) (K : Int32 → Sg → Prop) (Px : String → Sg → Prop), sp_X7_event x1 x2 σ K Px → Cu l yX7_event cX7_event 3 (some .int) 6 90 Ω [.ref (Ω.2.2.1 0), .int x1, .int x2] σ (QI Ω K) Px
def f_X7_hash_18 (x1 : Int32) (x2 : Int32) (Po : Int32 → Sg → Prop) (Px : String → Sg → Prop) (σ : Sg) : Prop :=
  Px "java/lang/IndexOutOfBoundsException" σ
def f_X7_hash_e (x1 : Int32) (x2 : Int32) (Po : Int32 → Sg → Prop) (Px : String → Sg → Prop) (σ : Sg) : Prop :=
  sp_X7_isEvent x1 σ (fun r1 u2 =>
  (r1 = 0 →
  f_X7_hash_18 x1 x2 Po Px u2) ∧
  (¬ (r1 = 0) →
  (x2 < 0 →
  f_X7_hash_18 x1 x2 Po Px u2) ∧
  (¬ (x2 < 0) →
  (x2 < 8 →
  sp_X2_hashWord x1 x2 u2 (fun r3 u4 =>
  Po r3 u4)) ∧
  (¬ (x2 < 8) →
  f_X7_hash_18 x1 x2 Po Px u2))))
def vc_X7_hash (x1 : Int32) (x2 : Int32) (σ : Sg) (Po : Int32 → Sg → Prop) (Px : String → Sg → Prop) : Prop := f_X7_hash_e x1 x2 Po Px σ
def sp_X7_hash (x1 : Int32) (x2 : Int32) (σ : Sg) (K : Int32 → Sg → Prop) (Px : String → Sg → Prop) : Prop := vc_X7_hash x1 x2 σ K Px
def CT_X7_hash (l : Launch) (Ω : Wm) : Prop := ∀ (x1 : Int32) (x2 : Int32) (σ : Sg) (K : Int32 → Sg → Prop) (Px : String → Sg → Prop), sp_X7_hash x1 x2 σ K Px → Cu l yX7_hash cX7_hash 3 (some .int) 6 90 Ω [.ref (Ω.2.2.1 0), .int x1, .int x2] σ (QI Ω K) Px
def f_X7_sees_55 (x1 : Int32) (x2 : Int32) (x3 : Int32) (Po : Int32 → Sg → Prop) (Px : String → Sg → Prop) (s0 : Int32) (σ : Sg) : Prop :=
  isZ s0 ∧
  Po s0 σ
def f_X7_sees_16 (x1 : Int32) (x2 : Int32) (x3 : Int32) (Po : Int32 → Sg → Prop) (Px : String → Sg → Prop) (σ : Sg) : Prop :=
  Px "java/lang/IndexOutOfBoundsException" σ
def f_X7_sees_e (x1 : Int32) (x2 : Int32) (x3 : Int32) (Po : Int32 → Sg → Prop) (Px : String → Sg → Prop) (σ : Sg) : Prop :=
  sp_X7_isEvent x1 σ (fun r1 u2 =>
  (r1 = 0 →
  f_X7_sees_16 x1 x2 x3 Po Px u2) ∧
  (¬ (r1 = 0) →
  sp_X7_isEvent x2 u2 (fun r3 u4 =>
  (¬ r3 = 0 →
  (x3 = 0 →
  sp_X0_has 25 960 x1 x2 u4 (fun r5 u6 =>
  f_X7_sees_55 x1 x2 x3 Po Px r5 u6)) ∧
  (¬ (x3 = 0) →
  sp_X0_has 27 960 x1 x2 u4 (fun r7 u8 =>
  f_X7_sees_55 x1 x2 x3 Po Px r7 u8))) ∧
  (r3 = 0 →
  f_X7_sees_16 x1 x2 x3 Po Px u4))))
def vc_X7_sees (x1 : Int32) (x2 : Int32) (x3 : Int32) (σ : Sg) (Po : Int32 → Sg → Prop) (Px : String → Sg → Prop) : Prop := f_X7_sees_e x1 x2 x3 Po Px σ
def sp_X7_sees (x1 : Int32) (x2 : Int32) (x3 : Int32) (σ : Sg) (K : Int32 → Sg → Prop) (Px : String → Sg → Prop) : Prop := vc_X7_sees x1 x2 x3 σ K Px
def CT_X7_sees (l : Launch) (Ω : Wm) : Prop := ∀ (x1 : Int32) (x2 : Int32) (x3 : Int32) (σ : Sg) (K : Int32 → Sg → Prop) (Px : String → Sg → Prop), sp_X7_sees x1 x2 x3 σ K Px → Cu l yX7_sees cX7_sees 4 (some .boolean) 6 90 Ω [.ref (Ω.2.2.1 0), .int x1, .int x2, .int x3] σ (QI Ω K) Px
def f_X7_vote_111 (x1 : Int32) (x2 : Int32) (Po : Int32 → Sg → Prop) (Px : String → Sg → Prop) (s0 : Int32) (s1 : Int32) (σ : Sg) : Prop :=
  Po (s1 + s0) σ
def f_X7_vote_94 (x1 : Int32) (x2 : Int32) (Po : Int32 → Sg → Prop) (Px : String → Sg → Prop) (s0 : Int32) (σ : Sg) : Prop :=
  sp_X1_decides x1 x2 σ (fun r17 u18 =>
  (r17 = 0 →
  f_X7_vote_111 x1 x2 Po Px 0 s0 u18) ∧
  (¬ (r17 = 0) →
  f_X7_vote_111 x1 x2 Po Px 2 s0 u18))
def f_X7_vote_69 (x1 : Int32) (x2 : Int32) (Po : Int32 → Sg → Prop) (Px : String → Sg → Prop) (σ : Sg) : Prop :=
  Px "java/lang/IllegalArgumentException" σ
def f_X7_vote_16 (x1 : Int32) (x2 : Int32) (Po : Int32 → Sg → Prop) (Px : String → Sg → Prop) (σ : Sg) : Prop :=
  Px "java/lang/IndexOutOfBoundsException" σ
def f_X7_vote_e (x1 : Int32) (x2 : Int32) (Po : Int32 → Sg → Prop) (Px : String → Sg → Prop) (σ : Sg) : Prop :=
  sp_X7_isEvent x1 σ (fun r1 u2 =>
  (r1 = 0 →
  f_X7_vote_16 x1 x2 Po Px u2) ∧
  (¬ (r1 = 0) →
  sp_X7_isEvent x2 u2 (fun r3 u4 =>
  (¬ r3 = 0 →
  vp_in x1 240 ∧
  ((u4.1 33 x1.toNatClampNeg) = 0 →
  f_X7_vote_69 x1 x2 Po Px u4) ∧
  (¬ ((u4.1 33 x1.toNatClampNeg) = 0) →
  vp_in x2 240 ∧
  ((u4.1 33 x2.toNatClampNeg) = 0 →
  f_X7_vote_69 x1 x2 Po Px u4) ∧
  (¬ ((u4.1 33 x2.toNatClampNeg) = 0) →
  vp_in x1 240 ∧
  vp_in x2 240 ∧
  ((u4.1 32 x2.toNatClampNeg) < (u4.1 32 x1.toNatClampNeg) →
  sp_X1_isYes x1 x2 u4 (fun r9 u10 =>
  (r9 = 0 →
  f_X7_vote_94 x1 x2 Po Px 0 u10) ∧
  (¬ (r9 = 0) →
  f_X7_vote_94 x1 x2 Po Px 1 u10))) ∧
  (¬ ((u4.1 32 x2.toNatClampNeg) < (u4.1 32 x1.toNatClampNeg)) →
  f_X7_vote_69 x1 x2 Po Px u4)))) ∧
  (r3 = 0 →
  f_X7_vote_16 x1 x2 Po Px u4))))
def vc_X7_vote (x1 : Int32) (x2 : Int32) (σ : Sg) (Po : Int32 → Sg → Prop) (Px : String → Sg → Prop) : Prop := f_X7_vote_e x1 x2 Po Px σ
def sp_X7_vote (x1 : Int32) (x2 : Int32) (σ : Sg) (K : Int32 → Sg → Prop) (Px : String → Sg → Prop) : Prop := vc_X7_vote x1 x2 σ K Px
def CT_X7_vote (l : Launch) (Ω : Wm) : Prop := ∀ (x1 : Int32) (x2 : Int32) (σ : Sg) (K : Int32 → Sg → Prop) (Px : String → Sg → Prop), sp_X7_vote x1 x2 σ K Px → Cu l yX7_vote cX7_vote 3 (some .int) 6 90 Ω [.ref (Ω.2.2.1 0), .int x1, .int x2] σ (QI Ω K) Px
def f_X7_found_88 (x1 : Int32) (x2 : Int32) (x3 : Int32) (Po : Int32 → Sg → Prop) (Px : String → Sg → Prop) (s0 : Int32) (σ : Sg) : Prop :=
  Po s0 σ
def f_X7_found_17 (x1 : Int32) (x2 : Int32) (x3 : Int32) (Po : Int32 → Sg → Prop) (Px : String → Sg → Prop) (σ : Sg) : Prop :=
  Px "java/lang/IllegalArgumentException" σ
def f_X7_found_e (x1 : Int32) (x2 : Int32) (x3 : Int32) (Po : Int32 → Sg → Prop) (Px : String → Sg → Prop) (σ : Sg) : Prop :=
  sp_X7_isNode x1 σ (fun r1 u2 =>
  (r1 = 0 →
  f_X7_found_17 x1 x2 x3 Po Px u2) ∧
  (¬ (r1 = 0) →
  (x3 < 0 →
  f_X7_found_17 x1 x2 x3 Po Px u2) ∧
  (¬ (x3 < 0) →
  (x3 ≤ 3 →
  sp_X7_isEvent x2 u2 (fun r3 u4 =>
  (¬ r3 = 0 →
  (x3.toInt < 0 ∨ 2 < x3.toInt →
  sp_X7_freshView x1 u4 (fun r5 u6 =>
  IsView r5 ∧
  vp_in x2 240 ∧
  Po (u6.1 (r5 + 4) x2.toNatClampNeg) u6)) ∧
  (x3.toInt = 0 →
  sp_X0_has 20 32 x1 x2 u4 (fun r9 u10 =>
  (r9 = 0 →
  f_X7_found_88 x1 x2 x3 Po Px 0 u10) ∧
  (¬ (r9 = 0) →
  f_X7_found_88 x1 x2 x3 Po Px 1 u10))) ∧
  (x3.toInt = 1 →
  sp_X7_freshView x1 u4 (fun r12 u13 =>
  IsView r12 ∧
  vp_in x2 240 ∧
  Po (u13.1 (r12 + 1) x2.toNatClampNeg) u13)) ∧
  (x3.toInt = 2 →
  sp_X7_freshView x1 u4 (fun r16 u17 =>
  IsView r16 ∧
  vp_in x2 240 ∧
  Po (u17.1 (r16 + 2) x2.toNatClampNeg) u17))) ∧
  (r3 = 0 →
  Px "java/lang/IndexOutOfBoundsException" u4))) ∧
  (¬ (x3 ≤ 3) →
  f_X7_found_17 x1 x2 x3 Po Px u2))))
def vc_X7_found (x1 : Int32) (x2 : Int32) (x3 : Int32) (σ : Sg) (Po : Int32 → Sg → Prop) (Px : String → Sg → Prop) : Prop := f_X7_found_e x1 x2 x3 Po Px σ
def sp_X7_found (x1 : Int32) (x2 : Int32) (x3 : Int32) (σ : Sg) (K : Int32 → Sg → Prop) (Px : String → Sg → Prop) : Prop := vc_X7_found x1 x2 x3 σ K Px
def CT_X7_found (l : Launch) (Ω : Wm) : Prop := ∀ (x1 : Int32) (x2 : Int32) (x3 : Int32) (σ : Sg) (K : Int32 → Sg → Prop) (Px : String → Sg → Prop), sp_X7_found x1 x2 x3 σ K Px → Cu l yX7_found cX7_found 4 (some .int) 6 148 Ω [.ref (Ω.2.2.1 0), .int x1, .int x2, .int x3] σ (QI Ω K) Px
def f_X7_stamp_e (x1 : Int32) (x2 : Int32) (Po : Int64 → Sg → Prop) (Px : String → Sg → Prop) (σ : Sg) : Prop :=
  sp_X7_isNode x1 σ (fun r1 u2 =>
  (¬ r1 = 0 →
  sp_X7_isEvent x2 u2 (fun r3 u4 =>
  (¬ r3 = 0 →
  sp_X7_freshView x1 u4 (fun r5 u6 =>
  IsView r5 ∧
  vp_in x2 240 ∧
  (¬ (u6.1 (r5 + 2) x2.toNatClampNeg) = 0 →
  vp_in x2 240 ∧
  Po (u6.2 (r5 + 3) x2.toNatClampNeg) u6) ∧
  ((u6.1 (r5 + 2) x2.toNatClampNeg) = 0 →
  Px "java/lang/UnsupportedOperationException" u6))) ∧
  (r3 = 0 →
  Px "java/lang/IndexOutOfBoundsException" u4))) ∧
  (r1 = 0 →
  Px "java/lang/IllegalArgumentException" u2))
def vc_X7_stamp (x1 : Int32) (x2 : Int32) (σ : Sg) (Po : Int64 → Sg → Prop) (Px : String → Sg → Prop) : Prop := f_X7_stamp_e x1 x2 Po Px σ
def sp_X7_stamp (x1 : Int32) (x2 : Int32) (σ : Sg) (K : Int64 → Sg → Prop) (Px : String → Sg → Prop) : Prop := vc_X7_stamp x1 x2 σ K Px
def CT_X7_stamp (l : Launch) (Ω : Wm) : Prop := ∀ (x1 : Int32) (x2 : Int32) (σ : Sg) (K : Int64 → Sg → Prop) (Px : String → Sg → Prop), sp_X7_stamp x1 x2 σ K Px → Cu l yX7_stamp cX7_stamp 4 (some .long) 6 148 Ω [.ref (Ω.2.2.1 0), .int x1, .int x2] σ (QL Ω K) Px
def f_X7_order_e (x1 : Int32) (Po : Int32 → Sg → Prop) (Px : String → Sg → Prop) (σ : Sg) : Prop :=
  sp_X7_isNode x1 σ (fun r1 u2 =>
  (¬ r1 = 0 →
  sp_X7_freshView x1 u2 (fun r3 u4 =>
  IsView r3 ∧
  Po (u4.1 r3 15) u4)) ∧
  (r1 = 0 →
  Px "java/lang/IllegalArgumentException" u2))
def vc_X7_order (x1 : Int32) (σ : Sg) (Po : Int32 → Sg → Prop) (Px : String → Sg → Prop) : Prop := f_X7_order_e x1 Po Px σ
def sp_X7_order (x1 : Int32) (σ : Sg) (K : Int32 → Sg → Prop) (Px : String → Sg → Prop) : Prop := vc_X7_order x1 σ K Px
def CT_X7_order (l : Launch) (Ω : Wm) : Prop := ∀ (x1 : Int32) (σ : Sg) (K : Int32 → Sg → Prop) (Px : String → Sg → Prop), sp_X7_order x1 σ K Px → Cu l yX7_order cX7_order 2 (some .int) 6 148 Ω [.ref (Ω.2.2.1 0), .int x1] σ (QI Ω K) Px
def f_X7_at_34 (x1 : Int32) (x2 : Int32) (Po : Int32 → Sg → Prop) (Px : String → Sg → Prop) (σ : Sg) : Prop :=
  Px "java/lang/IndexOutOfBoundsException" σ
def f_X7_at_e (x1 : Int32) (x2 : Int32) (Po : Int32 → Sg → Prop) (Px : String → Sg → Prop) (σ : Sg) : Prop :=
  sp_X7_isNode x1 σ (fun r1 u2 =>
  (¬ r1 = 0 →
  sp_X7_freshView x1 u2 (fun r3 u4 =>
  (x2 < 0 →
  f_X7_at_34 x1 x2 Po Px u4) ∧
  (¬ (x2 < 0) →
  IsView r3 ∧
  (x2 < (u4.1 r3 15) →
  vp_in x2 240 ∧
  Po (u4.1 (r3 + 5) x2.toNatClampNeg) u4) ∧
  (¬ (x2 < (u4.1 r3 15)) →
  f_X7_at_34 x1 x2 Po Px u4)))) ∧
  (r1 = 0 →
  Px "java/lang/IllegalArgumentException" u2))
def vc_X7_at (x1 : Int32) (x2 : Int32) (σ : Sg) (Po : Int32 → Sg → Prop) (Px : String → Sg → Prop) : Prop := f_X7_at_e x1 x2 Po Px σ
def sp_X7_at (x1 : Int32) (x2 : Int32) (σ : Sg) (K : Int32 → Sg → Prop) (Px : String → Sg → Prop) : Prop := vc_X7_at x1 x2 σ K Px
def CT_X7_at (l : Launch) (Ω : Wm) : Prop := ∀ (x1 : Int32) (x2 : Int32) (σ : Sg) (K : Int32 → Sg → Prop) (Px : String → Sg → Prop), sp_X7_at x1 x2 σ K Px → Cu l yX7_at cX7_at 4 (some .int) 6 148 Ω [.ref (Ω.2.2.1 0), .int x1, .int x2] σ (QI Ω K) Px
def f_X7_balance_16 (x1 : Int32) (x2 : Int32) (Po : Int32 → Sg → Prop) (Px : String → Sg → Prop) (σ : Sg) : Prop :=
  Px "java/lang/IllegalArgumentException" σ
def f_X7_balance_e (x1 : Int32) (x2 : Int32) (Po : Int32 → Sg → Prop) (Px : String → Sg → Prop) (σ : Sg) : Prop :=
  sp_X7_isNode x1 σ (fun r1 u2 =>
  (r1 = 0 →
  f_X7_balance_16 x1 x2 Po Px u2) ∧
  (¬ (r1 = 0) →
  sp_X7_isNode x2 u2 (fun r3 u4 =>
  (¬ r3 = 0 →
  sp_X7_freshView x1 u4 (fun r5 u6 =>
  IsView r5 ∧
  vp_in x2 8 ∧
  Po (u6.1 (r5 + 6) x2.toNatClampNeg) u6)) ∧
  (r3 = 0 →
  f_X7_balance_16 x1 x2 Po Px u4))))
def vc_X7_balance (x1 : Int32) (x2 : Int32) (σ : Sg) (Po : Int32 → Sg → Prop) (Px : String → Sg → Prop) : Prop := f_X7_balance_e x1 x2 Po Px σ
def sp_X7_balance (x1 : Int32) (x2 : Int32) (σ : Sg) (K : Int32 → Sg → Prop) (Px : String → Sg → Prop) : Prop := vc_X7_balance x1 x2 σ K Px
def CT_X7_balance (l : Launch) (Ω : Wm) : Prop := ∀ (x1 : Int32) (x2 : Int32) (σ : Sg) (K : Int32 → Sg → Prop) (Px : String → Sg → Prop), sp_X7_balance x1 x2 σ K Px → Cu l yX7_balance cX7_balance 3 (some .int) 6 148 Ω [.ref (Ω.2.2.1 0), .int x1, .int x2] σ (QI Ω K) Px
def f_X7_count_e (x1 : Int32) (Po : Int32 → Sg → Prop) (Px : String → Sg → Prop) (σ : Sg) : Prop :=
  (x1.toInt < 0 ∨ 5 < x1.toInt →
  Px "java/lang/IllegalArgumentException" σ) ∧
  (x1.toInt = 0 →
  Po (σ.1 0 6) σ) ∧
  (x1.toInt = 1 →
  Po (σ.1 7 10) σ) ∧
  (x1.toInt = 2 →
  Po (σ.1 22 13) σ) ∧
  (x1.toInt = 3 →
  Po (σ.1 22 12) σ) ∧
  (x1.toInt = 4 →
  sp_X7_freshView 0 σ (fun r1 u2 =>
  IsView r1 ∧
  Po (u2.1 r1 16) u2)) ∧
  (x1.toInt = 5 →
  sp_X6_lengthOfAll σ (fun r4 u5 =>
  Po r4 u5))
def vc_X7_count (x1 : Int32) (σ : Sg) (Po : Int32 → Sg → Prop) (Px : String → Sg → Prop) : Prop := f_X7_count_e x1 Po Px σ
def sp_X7_count (x1 : Int32) (σ : Sg) (K : Int32 → Sg → Prop) (Px : String → Sg → Prop) : Prop := vc_X7_count x1 σ K Px
def CT_X7_count (l : Launch) (Ω : Wm) : Prop := ∀ (x1 : Int32) (σ : Sg) (K : Int32 → Sg → Prop) (Px : String → Sg → Prop), sp_X7_count x1 σ K Px → Cu l yX7_count cX7_count 2 (some .int) 6 148 Ω [.ref (Ω.2.2.1 0), .int x1] σ (QI Ω K) Px
