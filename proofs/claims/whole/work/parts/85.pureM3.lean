/-! ===== the model's graph ===== -/
def MKb (m : Nat) (p : Nat → Bool) : Prop := m < 256 ∧ ∀ c, m.testBit c = (decide (c < 8) && p c)
theorem mk_0 {p : Nat → Bool} (h : ∀ c, c < 8 → p c = false) : MKb 0 p := ⟨by decide, fun c => by
  rw [Nat.zero_testBit]
  by_cases hc : c < 8
  · rw [h c hc, Bool.and_false]
  · rw [decide_eq_false hc]
    rfl⟩
theorem mk_same {m : Nat} {p q : Nat → Bool} (h : MKb m p) (e : ∀ c, c < 8 → q c = p c) : MKb m q := ⟨h.1, fun c => by
  rw [h.2 c]
  by_cases hc : c < 8
  · rw [e c hc]
  · rw [decide_eq_false hc]
    rfl⟩
theorem mk_or {m c : Nat} {p q : Nat → Bool} (h : MKb m p) (hc : c < 8) (e : ∀ d, d < 8 → q d = (p d || decide (c = d))) : MKb (m ||| 2 ^ c) q := ⟨Nat.or_lt_two_pow (show m < 2 ^ 8 from h.1) (Nat.pow_lt_pow_right (by decide) hc), fun d => by
  rw [Nat.testBit_or, h.2 d, Nat.testBit_two_pow]
  by_cases hd : d < 8
  · rw [e d hd, decide_eq_true hd, Bool.true_and, Bool.true_and]
  · rw [decide_eq_false hd, decide_eq_false (by omega)]
    rfl⟩
theorem mk_pop {m : Nat} {p : Nat → Bool} (h : MKb m p) : pop8 m = cnt p 8 := pop8_mask h.2
theorem mi240 (x y : Nat) : (240 * nI x) + nI y = nI (x * 240 + y) := by
  rw [show (240 : Int32) = nI 240 from rfl, pk_mul, nI_add, Nat.mul_comm]
theorem mi8 (x y : Nat) : (8 * nI x) + nI y = nI (x * 8 + y) := by
  rw [show (8 : Int32) = nI 8 from rfl, pk_mul, nI_add, Nat.mul_comm]
theorem mi3 (x y : Nat) : (3 * nI x) + nI y = nI (x * 3 + y) := by
  rw [show (3 : Int32) = nI 3 from rfl, pk_mul, nI_add, Nat.mul_comm]
theorem v57 {x y : Nat} (hx : x < 240) (hy : y < 240) : vp_in (nI (x * 240 + y)) 57600 := vp_in_nI (by omega) (by omega)
theorem v19 {x d : Nat} (hx : x < 240) (hd : d < 8) : vp_in (nI (x * 8 + d)) 1920 := vp_in_nI (by omega) (by omega)
theorem mmost_ok {g : Gr} {k : Nat} {σ : Sg} {K : Int32 → Sg → Prop} (hn : gn g ≤ 8) (h1 : σ.1 0 1 = nI (gn g)) (hk : k ≤ 240) (hK : K (bI (most g k)) σ) : sp_X8_isMost (nI k) σ K := by
  unfold sp_X8_isMost vc_X8_isMost f_X8_isMost_e
  rw [h1]
  refine ⟨fun c => ⟨isZ_0, ?_⟩, fun c => ⟨isZ_1, ?_⟩⟩
  · rw [(most_nI hn (by omega)).mp c] at hK
    exact hK
  · have : most g k = true := by
      cases e : most g k
      · exact absurd ((most_nI hn (by omega)).mpr e) c
      · rfl
    rw [this] at hK
    exact hK
theorem v_X8_isSelf (x1 x2 : Int32) (σ : Sg) (K : Int32 → Sg → Prop) (h : sp_X8_isSelf x1 x2 σ K) : vc_X8_isSelf x1 x2 σ K := by
  obtain ⟨g, M, x, y, rfl, rfl, hx, hy, hM, hP, hE, hK⟩ := h
  intro L r
  have key : ∀ n z, z < n → z < M → K (bI (sa g z y)) σ → L (nI z) σ := by
    intro n
    induction n with
    | zero => intro z hz; exact absurd hz (Nat.not_lt_zero _)
    | succ n ih =>
      intro z hz hzM hk
      have cz : (nI z).toNatClampNeg = z := cl_nI (by omega)
      refine r _ _ ?_
      unfold f_X8_isSelf_2
      rw [cz, (hE z hzM).2.1]
      refine ⟨fun c => absurd c (nI_pos (by omega)), fun _ => ⟨fun c => ⟨v240 (by omega), ?_⟩, fun c => ?_⟩⟩
      · have hne : ¬ y = z := fun e => c (by rw [e])
        rw [sa_eq hP hzM, decide_eq_false hne, Bool.false_or] at hk
        cases hs : gs g z with
        | none =>
          rw [hs] at hk
          exact r _ _ ⟨fun _ => hk, fun c => absurd (by decide) c⟩
        | some s =>
          rw [hs] at hk
          have := ((hP.1 z hzM).2.1 s hs).1
          exact ih s (by omega) (by omega) hk
      · have e : z = y := (nI_eq (by omega) (by omega)).mp c
        subst e
        rw [sa_self hP hzM] at hk
        exact hk
  exact key (x + 1) x (Nat.lt_succ_self x) hx hK
theorem v_X8_isFork (x1 x2 : Int32) (σ : Sg) (K : Int32 → Sg → Prop) (h : sp_X8_isFork x1 x2 σ K) : vc_X8_isFork x1 x2 σ K := by
  obtain ⟨g, M, x, y, rfl, rfl, hx, hy, hM, hP, hE, hK⟩ := h
  have cx : (nI x).toNatClampNeg = x := cl_nI (by omega)
  have cy : (nI y).toNatClampNeg = y := cl_nI (by omega)
  have no : frk g x y = false → K 0 σ := fun e => by rw [e] at hK; exact hK
  show f_X8_isFork_e (nI x) (nI y) K σ
  unfold f_X8_isFork_e
  rw [cx, cy, (hE x hx).1, (hE y hy).1]
  have hcx := (hP.1 x hx).1
  have hcy := (hP.1 y hy).1
  refine ⟨fun c => ⟨isZ_0, no ?_⟩, fun c => ⟨v240 (by omega), v240 (by omega), fun c2 => ⟨isZ_0, no ?_⟩, fun c2 => ⟨g, M, x, y, rfl, rfl, hx, hy, hM, hP, hE, fun c3 => ⟨isZ_0, no ?_⟩, fun c3 => ⟨g, M, y, x, rfl, rfl, hy, hx, hM, hP, hE, fun c4 => ⟨isZ_0, no ?_⟩, fun c4 => ⟨isZ_1, ?_⟩⟩⟩⟩⟩
  · have e : x = y := (nI_eq (by omega) (by omega)).mp c
    unfold frk
    rw [decide_eq_false (fun q => q e)]
    rfl
  · have : ¬ gc g x = gc g y := fun e => c2 (by rw [e])
    unfold frk
    rw [decide_eq_false this]
    simp
  · rw [bI_1] at c3
    unfold frk
    rw [c3]
    simp
  · rw [bI_1] at c4
    unfold frk
    rw [c4]
    simp
  · rw [bI_0] at c3 c4
    have hne : x ≠ y := fun e => c (by rw [e])
    have hgc : gc g x = gc g y := (nI_eq (by omega) (by omega)).mp c2
    have : frk g x y = true := by
      unfold frk
      rw [c3, c4, decide_eq_true hne, decide_eq_true hgc]
      rfl
    rw [this] at hK
    exact hK
theorem v_X8_isForked (x1 x2 : Int32) (σ : Sg) (K : Int32 → Sg → Prop) (h : sp_X8_isForked x1 x2 σ K) : vc_X8_isForked x1 x2 σ K := by
  obtain ⟨g, M, x, d, rfl, rfl, hx, hd, hM, hP, hE, hA, hK⟩ := h
  intro L2 L38 r2 r38
  have ha : ∀ y, y < 240 → σ.1 14 (x * 240 + y) = bI (anc g x y) := fun y hy => by rw [hA x y (by omega) hy, if_pos hx]
  have yes : (∃ y, y < x + 1 ∧ (inA g x d y && anyN (fun z => inA g x d z && frk g y z) y) = true) → K 1 σ := fun e => by
    have : forked g x d = true := by
      unfold forked
      exact (anyN_iff _ _).mpr e
    rw [this] at hK
    exact hK
  have outer : ∀ y, y ≤ x + 1 → anyN (fun y => inA g x d y && anyN (fun z => inA g x d z && frk g y z) y) y = false → L2 (nI y) σ := by
    refine down (P := fun y => anyN (fun y => inA g x d y && anyN (fun z => inA g x d z && frk g y z) y) y = false → L2 (nI y) σ) (x + 1) (fun h0 => ?_) (fun y hy ih h0 => ?_)
    · refine r2 _ _ ⟨fun _ => ?_, fun c => absurd (nI_lt (Nat.lt_succ_self x) (by omega)) c⟩
      have : forked g x d = false := h0
      rw [this] at hK
      exact hK
    · have cy : (nI y).toNatClampNeg = y := cl_nI (by omega)
      have skip : (inA g x d y && anyN (fun z => inA g x d z && frk g y z) y) = false → L2 (nI y + 1) σ := fun e => by
        rw [nI_1]
        refine ih ?_
        show (anyN _ y || (inA g x d y && anyN (fun z => inA g x d z && frk g y z) y)) = false
        rw [h0, e]
        rfl
      have hcy := (hP.1 y (by omega)).1
      refine r2 _ _ ?_
      unfold f_X8_isForked_2 f_X8_isForked_89
      rw [cy, (hE y (by omega)).1, mi240, cl_nI (show x * 240 + y < 2 ^ 31 by omega), ha y (by omega)]
      refine ⟨fun c => absurd c (nI_nlt (by omega) (by omega)), fun _ => ⟨v240 (by omega), fun c => skip ?_, fun c => ⟨v57 (by omega) (by omega), fun c2 => ?_, fun c2 => skip ?_⟩⟩⟩
      · have : ¬ gc g y = d := fun e => c (by rw [e])
        unfold inA
        rw [decide_eq_false this]
        simp
      · rw [bI_1] at c2
        have hgc : gc g y = d := (nI_eq (by omega) (by omega)).mp c
        have hin : inA g x d y = true := by
          unfold inA
          rw [c2, decide_eq_true hgc]
          rfl
        have inner : ∀ z, z ≤ y → anyN (fun z => inA g x d z && frk g y z) z = false → L38 (nI y) (nI z) σ := by
          refine down (P := fun z => anyN (fun z => inA g x d z && frk g y z) z = false → L38 (nI y) (nI z) σ) y (fun h1 => ?_) (fun z hz ih2 h1 => ?_)
          · refine r38 _ _ _ ⟨fun _ => skip (by rw [h1, Bool.and_false]), fun c => absurd (Int32.le_refl _) c⟩
          · have cz : (nI z).toNatClampNeg = z := cl_nI (by omega)
            have hcz := (hP.1 z (by omega)).1
            have skip2 : (inA g x d z && frk g y z) = false → L38 (nI y) (nI z + 1) σ := fun e => by
              rw [nI_1]
              refine ih2 ?_
              show (anyN _ z || (inA g x d z && frk g y z)) = false
              rw [h1, e]
              rfl
            refine r38 _ _ _ ?_
            unfold f_X8_isForked_38 f_X8_isForked_83
            rw [cz, (hE z (by omega)).1, mi240, cl_nI (show x * 240 + z < 2 ^ 31 by omega), ha z (by omega)]
            refine ⟨fun c => absurd c (nI_ge hz (by omega)), fun _ => ⟨v240 (by omega), fun c3 => skip2 ?_, fun c3 => ⟨v57 (by omega) (by omega), fun c4 => skip2 ?_, fun c4 => ⟨g, M, y, z, rfl, rfl, by omega, by omega, hM, hP, hE, fun c5 => skip2 ?_, fun c5 => yes ⟨y, hy, ?_⟩⟩⟩⟩⟩
            · have : ¬ gc g z = d := fun e => c3 (by rw [e])
              unfold inA
              rw [decide_eq_false this]
              simp
            · rw [bI_0] at c4
              unfold inA
              rw [c4]
              simp
            · rw [bI_0] at c5
              rw [c5, Bool.and_false]
            · rw [bI_1] at c4 c5
              have hgz : gc g z = d := (nI_eq (by omega) (by omega)).mp c3
              have hiz : inA g x d z = true := by
                unfold inA
                rw [c4, decide_eq_true hgz]
                rfl
              rw [hin, Bool.true_and]
              exact (anyN_iff _ _).mpr ⟨z, hz, by rw [hiz, c5]; rfl⟩
        exact inner 0 (Nat.zero_le _) rfl
      · rw [bI_0] at c2
        unfold inA
        rw [c2]
        simp
  exact outer 0 (Nat.zero_le _) rfl
theorem v_X8_sees (x1 x2 : Int32) (σ : Sg) (K : Int32 → Sg → Prop) (h : sp_X8_sees x1 x2 σ K) : vc_X8_sees x1 x2 σ K := by
  obtain ⟨g, M, x, y, rfl, rfl, hx, hy, ⟨⟨hM, hP, hO⟩, hn, hE, hA, hF⟩, hK⟩ := h
  have cy : (nI y).toNatClampNeg = y := cl_nI (by omega)
  have hcy := hO y hy
  have hg8 := hP.2.2
  show f_X8_sees_e (nI x) (nI y) K σ
  unfold f_X8_sees_e f_X8_sees_38 f_X8_sees_39
  rw [cy, (hE y hy).1, mi240, mi8, cl_nI (show x * 240 + y < 2 ^ 31 by omega), cl_nI (show x * 8 + gc g y < 2 ^ 31 by omega), hA x y (by omega) (by omega), if_pos hx, hF x (gc g y) hx hcy]
  refine ⟨v57 (by omega) (by omega), fun c => ⟨isZ_0, ?_⟩, fun c => ⟨v240 (by omega), v19 (by omega) (by omega), fun c2 => ⟨isZ_0, ?_⟩, fun c2 => ⟨isZ_1, ?_⟩⟩⟩
  · rw [bI_0] at c
    have : see g x y = false := by unfold see; rw [c]; rfl
    rw [this] at hK
    exact hK
  · rw [bI_1] at c c2
    have : see g x y = false := by unfold see; rw [c, c2]; rfl
    rw [this] at hK
    exact hK
  · rw [bI_1] at c
    rw [bI_0] at c2
    have : see g x y = true := by unfold see; rw [c, c2]; rfl
    rw [this] at hK
    exact hK
