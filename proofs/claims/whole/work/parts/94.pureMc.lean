/-! ===== the model: event, count ===== -/
theorem sumT_ext {f : Nat → Nat} {n m : Nat} (h : n ≤ m) (h0 : ∀ i, n ≤ i → i < m → f i = 0) : sumT f m = sumT f n := by
  obtain ⟨d, rfl⟩ : ∃ d, m = n + d := ⟨m - n, by omega⟩
  induction d with
  | zero => rfl
  | succ d ih =>
    show sumT f (n + d) + f (n + d) = sumT f n
    rw [ih (by omega) (fun i h1 h2 => h0 i h1 (by omega)), h0 (n + d) (by omega) (by omega), Nat.add_zero]
theorem v_X8_event (x1 x2 : Int32) (σ : Sg) (K : Int32 → Sg → Prop) (hsp : sp_X8_event x1 x2 σ K) : vc_X8_event x1 x2 σ K := by
  obtain ⟨h, m, hK⟩ := hsp
  obtain ⟨m0, e0⟩ := mi_err m 0
  obtain ⟨n1, n2, n3, n4, n5, n6⟩ := mi_n m0
  have ne2 : ¬ (2 : Int32) = 0 := by decide
  intro L149 L188 r149 r188
  have bad : ∀ c : Nat, opEvent h x1 x2 = (c, 0) → K 0 (pI (pI σ 0 0 0) 0 0 (nI c)) := fun c e => by
    rw [e] at hK
    obtain ⟨m1, e1⟩ := mi_err m0 (nI c)
    exact hK _ m1 e1
  show f_X8_event_e x1 x2 L149 L188 K σ
  unfold f_X8_event_e f_X8_event_21 f_X8_event_42 f_X8_event_49 f_X8_event_138
  refine in_ok (fun a b => ⟨fun _ => fails_0 e0 ⟨fun q => absurd rfl q, fun _ => ?_⟩, fun q => absurd q one_ne⟩) (fun z => ⟨fun q => absurd rfl q, fun _ => fails_1 e0 one_ne ⟨fun _ => bad 1 (if_neg z), fun q => absurd q one_ne⟩⟩)
  have e1 : opEvent h x1 x2 = match nd (hN h) x1 with
    | some e => (0, evV h e x2)
    | none => (2, 0) := if_pos ⟨a, b⟩
  refine mevent_ok n6 (by omega) n4 (fun e he hx hn => ⟨fun _ => fails_0 e0 ⟨fun _ => ?_, fun q => absurd rfl q⟩, fun q => absurd q one_ne⟩) (fun hn => ⟨fun q => absurd rfl q, fun _ => fails_1 e0 ne2 ⟨fun q => absurd q one_ne, fun _ => bad 2 (by rw [e1, hn])⟩⟩)
  rw [hn] at e1
  rw [e1] at hK
  subst hx
  obtain ⟨k, hk, rfl⟩ := i32_cases (n := 7) (by decide) (Int32.not_lt.mpr a) b
  obtain ⟨τ, hτ⟩ : ∃ z, z = pI σ 0 0 0 := ⟨_, rfl⟩
  rw [← hτ] at m0 e0 n1 n4 ⊢
  have hK : K (evV h e (nI k)) τ := hK τ m0 e0
  obtain ⟨mE, mH, mW, mL, mK, mV⟩ := id m0
  have hC := mE.1
  have hP := hC.2.2.1
  have ce : (nI e).toNatClampNeg = e := cl_nI (by omega)
  have ve := v240 (show e < 240 by omega)
  obtain ⟨r1, r2, r3⟩ := mE.2.1.2.2.1 e he
  have rr := mE.2.2.2.1 e he
  have rt := (mE.2.2.2.2.2.2.2.2.1 e he).1
  have hj : ∀ j : Nat, j ≤ 7 → (nI k = nI j ↔ k = j) := fun j hj => nI_eq (by omega) (by omega)
  have ev : evV h e (nI k) = if k = 0 then nI (gc (hg h) e) else if k = 1 then nO (gs (hg h) e) else if k = 2 then nO (go (hg h) e) else if k = 3 then nI (rnd (hg h) e) else if k = 4 then bI (wit (hg h) e) else if k = 5 then nI (htn h e) else if k = 6 then nI (cnt (fun q => hhd h q e) 8) else nI (cnt (anc (hg h) e) 256) := by
    have h0 := hj 0 (by decide)
    have h1 := hj 1 (by decide)
    have h2 := hj 2 (by decide)
    have h3 := hj 3 (by decide)
    have h4 := hj 4 (by decide)
    have h5 := hj 5 (by decide)
    have h6 := hj 6 (by decide)
    have g0 : nI k = 0 ↔ k = 0 := h0
    have g1 : nI k = 1 ↔ k = 1 := h1
    have g2 : nI k = 2 ↔ k = 2 := h2
    have g3 : nI k = 3 ↔ k = 3 := h3
    have g4 : nI k = 4 ↔ k = 4 := h4
    have g5 : nI k = 5 ↔ k = 5 := h5
    have g6 : nI k = 6 ↔ k = 6 := h6
    unfold evV
    simp only [g0, g1, g2, g3, g4, g5, g6]
  rw [ev] at hK
  rw [ce, nI_toInt (show k < 2 ^ 31 by omega), r1, r2, r3, rr.1, rr.2, rt]
  refine ⟨fun q => ?_, fun q => ⟨ve, ?_⟩, fun q => ⟨ve, ?_⟩, fun q => ⟨ve, ?_⟩, fun q => ⟨ve, ?_⟩, fun q => ⟨ve, ?_⟩, fun q => ⟨ve, ?_⟩, fun q => ?_⟩
  · have : k = 7 := by omega
    subst this
    have l188 : ∀ y, y ≤ e + 1 → L188 (nI (cnt (anc (hg h) e) y)) (nI y) τ := by
      refine down (e + 1) ?_ (fun y hy ih => ?_)
      · refine r188 _ _ _ ⟨fun _ => ?_, fun q => absurd (nI_lt (Nat.lt_succ_self e) (by omega)) q⟩
        have : cnt (anc (hg h) e) 256 = cnt (anc (hg h) e) (e + 1) := cnt_ext (by omega) (fun j h1 _ => anc_big hP he (by omega))
        rw [this] at hK
        exact hK
      · refine r188 _ _ _ ?_
        unfold f_X8_event_188 f_X8_event_213
        have cs : cnt (anc (hg h) e) (y + 1) = cnt (anc (hg h) e) y + if anc (hg h) e y then 1 else 0 := rfl
        rw [mi240, cl_nI (show e * 240 + y < 2 ^ 31 by omega), mE.2.1.2.2.2.1 e y (by omega) (by omega), if_pos he]
        refine ⟨fun q => absurd q (nI_nlt (by omega) (by omega)), fun _ => ⟨v57 (by omega) (by omega), fun q => ?_, fun q => ?_⟩⟩
        · rw [bI_0] at q
          rw [cs, q] at ih
          rw [nI_1]
          exact ih
        · rw [bI_1] at q
          rw [cs, q] at ih
          rw [nI_1, nI_1]
          exact ih
    exact l188 0 (Nat.zero_le _)
  · have : k = 0 := by omega
    subst this
    exact hK
  · have : k = 1 := by omega
    subst this
    exact hK
  · have : k = 2 := by omega
    subst this
    exact hK
  · have : k = 3 := by omega
    subst this
    exact hK
  · have : k = 4 := by omega
    subst this
    have hK : K (bI (wit (hg h) e)) τ := hK
    refine ⟨fun q2 => ?_, fun q2 => ?_⟩
    · rw [bI_0] at q2
      rw [q2] at hK
      exact hK
    · rw [bI_1] at q2
      rw [q2] at hK
      exact hK
  · have : k = 5 := by omega
    subst this
    exact hK
  · have : k = 6 := by omega
    subst this
    have l149 : ∀ y, y ≤ gn (hg h) → L149 (nI (cnt (fun q => hhd h q e) y)) (nI y) τ := by
      refine down (gn (hg h)) ?_ (fun y hy ih => ?_)
      · refine r149 _ _ _ ?_
        unfold f_X8_event_149
        rw [n1]
        refine ⟨fun _ => ?_, fun q => absurd (Int32.le_refl _) q⟩
        have : cnt (fun q => hhd h q e) 8 = cnt (fun q => hhd h q e) (gn (hg h)) := cnt_ext (by omega) (fun j h1 _ => by
          cases z : hhd h j e
          · rfl
          · have := (hC.2.2.2.2.2.1 j e z).2; omega)
        have hK : K (nI (cnt (fun q => hhd h q e) 8)) τ := hK
        rw [this] at hK
        exact hK
      · refine r149 _ _ _ ?_
        unfold f_X8_event_149 f_X8_event_177
        have cs : cnt (fun q => hhd h q e) (y + 1) = cnt (fun q => hhd h q e) y + if hhd h y e then 1 else 0 := rfl
        rw [n1, mi240, cl_nI (show y * 240 + e < 2 ^ 31 by omega), mH y e (by omega) (by omega)]
        refine ⟨fun q => absurd q (nI_ge hy (by omega)), fun _ => ⟨vp_in_nI (by omega) (by omega), fun q => ?_, fun q => ?_⟩⟩
        · rw [bI_0] at q
          rw [cs, q] at ih
          rw [nI_1]
          exact ih
        · rw [bI_1] at q
          rw [cs, q] at ih
          rw [nI_1, nI_1]
          exact ih
    exact l149 0 (Nat.zero_le _)
theorem v_X8_count (x1 : Int32) (σ : Sg) (K : Int32 → Sg → Prop) (hsp : sp_X8_count x1 σ K) : vc_X8_count x1 σ K := by
  obtain ⟨h, m, hK⟩ := hsp
  obtain ⟨m0, e0⟩ := mi_err m 0
  obtain ⟨n1, n2, n3, n4, n5, n6⟩ := mi_n m0
  intro L80 L115 L126 L171 r80 r115 r126 r171
  show f_X8_count_e x1 L80 L115 L126 L171 K σ
  unfold f_X8_count_e f_X8_count_20
  refine in_ok (fun a b => ⟨fun _ => fails_0 e0 ⟨fun _ => ?_, fun q => absurd rfl q⟩, fun q => absurd q one_ne⟩) (fun z => ⟨fun q => absurd rfl q, fun _ => fails_1 e0 one_ne ⟨fun q => absurd q one_ne, fun _ => ?_⟩⟩)
  · have e1 : opCount h x1 = (0, ctV h x1) := if_pos ⟨a, b⟩
    rw [e1] at hK
    obtain ⟨τ, hτ⟩ : ∃ z, z = pI σ 0 0 0 := ⟨_, rfl⟩
    rw [← hτ] at m0 e0 n1 n4 ⊢
    have hK : ∀ τ, MI h τ → τ.1 0 0 = 0 → K (ctV h x1) τ := hK
    obtain ⟨k, hk, rfl⟩ := i32_cases (n := 5) (by decide) (Int32.not_lt.mpr a) b
    obtain ⟨mE, mH, mW, mL, mK, mV⟩ := id m0
    have hC := mE.1
    have hP := hC.2.2.1
    rw [nI_toInt (show k < 2 ^ 31 by omega), n1, n4]
    refine ⟨fun q => ?_, fun q => ?_, fun q => ?_, fun q => ?_, fun q => ?_, fun q => ?_⟩
    · have : k = 5 := by omega
      subst this
      have hK : K (nI (sumT (hwn h) 8)) τ := hK τ m0 e0
      have l171 : ∀ y, y ≤ gn (hg h) → L171 (nI (sumT (hwn h) y)) (nI y) τ := by
        refine down (gn (hg h)) ?_ (fun y hy ih => ?_)
        · refine r171 _ _ _ ?_
          unfold f_X8_count_171
          rw [n1]
          refine ⟨fun _ => ?_, fun q => absurd (Int32.le_refl _) q⟩
          rw [sumT_ext (f := hwn h) n2 (fun j h1 h2 => (hC.2.2.2.2.2.2 j h2).2.2 h1)] at hK
          exact hK
        · refine r171 _ _ _ ?_
          unfold f_X8_count_171
          rw [n1, cl_nI (show y < 2 ^ 31 by omega), (mW y hy).1, nI_add, nI_1]
          exact ⟨fun q => absurd q (nI_ge hy (by omega)), fun _ => ⟨vp_in_nI (by omega) (by omega), ih⟩⟩
      exact l171 0 (Nat.zero_le _)
    · have : k = 0 := by omega
      subst this
      exact hK τ m0 e0
    · have : k = 1 := by omega
      subst this
      exact hK τ m0 e0
    · have : k = 2 := by omega
      subst this
      have hK : K (nI (mxR (hg h) (hN h))) τ := hK τ m0 e0
      have l80 : ∀ y, y ≤ hN h → L80 (nI (mxR (hg h) y)) (nI y) τ := by
        refine down (hN h) ?_ (fun y hy ih => ?_)
        · refine r80 _ _ _ ?_
          unfold f_X8_count_80
          rw [n4]
          exact ⟨fun _ => hK, fun q => absurd (Int32.le_refl _) q⟩
        · refine r80 _ _ _ ?_
          unfold f_X8_count_80 f_X8_count_105
          have cs : mxR (hg h) (y + 1) = max (mxR (hg h) y) (rnd (hg h) y) := rfl
          have b1 := mxR_le (hP.mono (Nat.le_of_lt hy))
          have b2 := (rnd_pos hP y hy).2
          have vy := v240 (show y < 240 by omega)
          rw [n4, cl_nI (show y < 2 ^ 31 by omega), (mE.2.2.2.1 y hy).1, nI_1]
          refine ⟨fun q => absurd q (nI_ge hy (by omega)), fun _ => ⟨vy, fun q => ?_, fun q => ⟨vy, ?_⟩⟩⟩
          · have := (nI_leI (by omega) (by omega)).mp q
            rw [cs, Nat.max_eq_left this] at ih
            exact ih
          · have : ¬ rnd (hg h) y ≤ mxR (hg h) y := fun z => q (nI_le z (by omega))
            rw [cs, Nat.max_eq_right (by omega)] at ih
            exact ih
      exact l80 0 (Nat.zero_le _)
    · have : k = 3 := by omega
      subst this
      have hK : K (nI (FK (hg h) (hN h))) τ := hK τ m0 e0
      have l126 : ∀ x, x < hN h → L115 (nI (FK (hg h) (x + 1))) (nI (x + 1)) τ → ∀ y, y ≤ x → L126 (nI (FK (hg h) x + cnt (frk (hg h) x) y)) (nI x) (nI y) τ := by
        intro x hx hL
        refine down x ?_ (fun y hy ih => ?_)
        · refine r126 _ _ _ _ ⟨fun _ => ?_, fun q => absurd (Int32.le_refl _) q⟩
          rw [nI_1]
          exact hL
        · have cs : cnt (frk (hg h) x) (y + 1) = cnt (frk (hg h) x) y + if frk (hg h) x y then 1 else 0 := rfl
          refine r126 _ _ _ _ ⟨fun q => absurd q (nI_ge hy (by omega)), fun _ => ⟨hg h, hN h, x, y, rfl, rfl, hx, by omega, n5, hP, mE.2.1.2.2.1, fun q => ?_, fun q => ?_⟩⟩
          · rw [bI_0] at q
            rw [cs, q] at ih
            show L126 (nI (FK (hg h) x + cnt (frk (hg h) x) y)) (nI x) (nI y + 1) τ
            rw [nI_1]
            exact ih
          · rw [bI_1] at q
            rw [cs, q] at ih
            show L126 (nI (FK (hg h) x + cnt (frk (hg h) x) y) + 1) (nI x) (nI y + 1) τ
            rw [nI_1, nI_1]
            exact ih
      have l115 : ∀ x, x ≤ hN h → L115 (nI (FK (hg h) x)) (nI x) τ := by
        refine down (hN h) ?_ (fun x hx ih => ?_)
        · refine r115 _ _ _ ?_
          unfold f_X8_count_115
          rw [n4]
          exact ⟨fun _ => hK, fun q => absurd (Int32.le_refl _) q⟩
        · refine r115 _ _ _ ?_
          unfold f_X8_count_115
          rw [n4]
          exact ⟨fun q => absurd q (nI_ge hx (by omega)), fun _ => l126 x hx ih 0 (Nat.zero_le _)⟩
      exact l115 0 (Nat.zero_le _)
    · have : k = 4 := by omega
      subst this
      refine find_ok (i := 0) m0 (by omega) (fun τ2 mt mv et => ?_)
      rw [mv.2.2.1]
      exact hK τ2 mt (et.trans e0)
  · have e1 : opCount h x1 = (1, 0) := if_neg z
    rw [e1] at hK
    obtain ⟨m1, e2⟩ := mi_err m0 1
    exact hK _ m1 e2
