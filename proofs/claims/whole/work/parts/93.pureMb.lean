/-! ===== the model: sync, inject ===== -/
theorem ME.tx {h : Hs} {σ τ : Sg} {S : List Nat} (m : ME h σ) (F : Fr S σ τ) (d : ∀ a ∈ [1, 2, 3, 7, 8, 13, 14, 16, 17, 18, 19, 30, 32], a ∉ S) (k1 : τ.1 0 1 = σ.1 0 1) (k2 : τ.1 0 2 = σ.1 0 2) (h4 : ∀ x, x < hN h → τ.1 4 x = σ.1 4 x) (h5 : ∀ z, z < hN h * 3 → τ.1 5 z = σ.1 5 z ∧ τ.1 6 z = σ.1 6 z) : ME h τ := by
  obtain ⟨m1, m2, m3, m4, m5, m6, m7, m8, m9, m10, m11⟩ := m
  have q : ∀ a, a ∈ [1, 2, 3, 7, 8, 13, 14, 16, 17, 18, 19, 30, 32] → τ.1 a = σ.1 a ∧ τ.2 a = σ.2 a := fun a ha => F a (d a ha)
  refine ⟨m1, m2.sm k1 (q 1 (by decide)).1 (q 2 (by decide)).1 (q 3 (by decide)).1 (q 14 (by decide)).1 (q 16 (by decide)).1, m3.sm (q 18 (by decide)).1, m4.sm (q 7 (by decide)).1 (q 17 (by decide)).1, m5.sm (q 19 (by decide)).1, by rw [k2]; exact m6, fun x w hx hw => by rw [(q 8 (by decide)).1]; exact m7 x w hx hw, fun x hx => by rw [(q 13 (by decide)).2]; exact m8 x hx, fun x hx => ?_, fun j hj => by rw [(q 30 (by decide)).1]; exact m10 j hj, fun j hj => by rw [(q 32 (by decide)).1]; exact m11 j hj⟩
  have t3 := (m1.2.2.2.2.1 x hx).1
  rw [h4 x hx]
  refine ⟨(m9 x hx).1, fun i hi => ?_⟩
  rw [(h5 (x * 3 + i) (by omega)).1, (h5 (x * 3 + i) (by omega)).2]
  exact (m9 x hx).2 i hi
section MOPS2
variable {h : Hs} {σ : Sg}
theorem v_X8_sync (x1 x2 : Int32) (x3 : Int64) (σ : Sg) (K : Int32 → Sg → Prop) (hsp : sp_X8_sync x1 x2 x3 σ K) : vc_X8_sync x1 x2 x3 σ K := by
  obtain ⟨h, m, hK⟩ := hsp
  obtain ⟨m0, e0⟩ := mi_err m 0
  obtain ⟨n1, n2, n3, n4, n5, n6⟩ := mi_n m0
  have ne2 : ¬ (2 : Int32) = 0 := by decide
  intro L67 L148 L217 r67 r148 r217
  have bad : opSync h x1 x2 x3 = (1, 0, h) → f_X8_sync_27 x1 x2 x3 L67 L148 L217 K (pI σ 0 0 0) := fun e => by
    rw [e] at hK
    obtain ⟨m1, e1⟩ := mi_err m0 1
    unfold f_X8_sync_27 f_X8_sync_32 f_X8_sync_62
    exact fails_1 e0 one_ne ⟨fun _ => hK _ m1 e1, fun q => absurd q one_ne⟩
  show f_X8_sync_e x1 x2 x3 L67 L148 L217 K σ
  unfold f_X8_sync_e
  refine mnode_ok (by omega) (by omega) n1 (fun i hi hx hn => ⟨fun q => absurd q one_ne, fun _ => mnode_ok (by omega) (by omega) n1 (fun j hj hx2 hn2 => ⟨fun q => absurd q one_ne, fun _ => ⟨fun q => ?_, fun q => bad ?_⟩⟩) (fun hn2 => ⟨fun _ => bad ?_, fun q => absurd rfl q⟩)⟩) (fun hn => ⟨fun _ => bad ?_, fun q => absurd rfl q⟩)
  · have e1 : opSync h x1 x2 x3 = if i = j then (1, 0, h) else if hN h = 240 then (2, 0, h) else (0, nI (hN h), hsync h i j x3) := by unfold opSync; rw [hn, hn2]
    subst hx hx2
    have hij : ¬ i = j := fun z => q (by rw [z])
    rw [if_neg hij] at e1
    unfold f_X8_sync_32 f_X8_sync_55 f_X8_sync_62
    refine fails_0 e0 ⟨fun q => absurd rfl q, fun _ => ⟨fun q2 => fails_0 e0 ⟨fun _ => ?_, fun q => absurd rfl q⟩, fun q2 => fails_1 e0 ne2 ⟨fun q => absurd q one_ne, fun _ => ?_⟩⟩⟩
    · rw [n4] at q2
      have hN1 : hN h < 240 := by
        have : hN h ≠ 240 := fun z => q2 (by rw [z]; rfl)
        omega
      rw [if_neg (by omega)] at e1
      rw [e1] at hK
      have hK : ∀ τ, MI (hsync h i j x3) τ → τ.1 0 0 = 0 → K (nI (hN h)) τ := hK
      obtain ⟨τ0, h0⟩ : ∃ z, z = pI σ 0 0 0 := ⟨_, rfl⟩
      rw [← h0] at m0 e0 n1 n4 ⊢
      obtain ⟨mE, mH, mW, mL, mK, mV⟩ := id m0
      have hC := mE.1
      obtain ⟨N, eN⟩ : ∃ N, N = hN h := ⟨_, rfl⟩
      rw [← eN] at hK n4 n5 n6 hN1
      have ci : (nI i).toNatClampNeg = i := cl_nI (by omega)
      have cj : (nI j).toNatClampNeg = j := cl_nI (by omega)
      have cN : (nI N).toNatClampNeg = N := cl_nI (by omega)
      have vi : vp_in (nI i) 8 := vp_in_nI (by omega) (by omega)
      have vj : vp_in (nI j) 8 := vp_in_nI (by omega) (by omega)
      obtain ⟨w8, wv, -⟩ := hC.2.2.2.2.2.2 j (by omega)
      obtain ⟨mw1, mw2⟩ := mW j hj
      obtain ⟨k, ek⟩ : ∃ k, k = min (hwn h j) 3 := ⟨_, rfl⟩
      have k3 : k ≤ 3 := by omega
      have kw : k ≤ hwn h j := by omega
      have lki := mK i hi
      have lkj := mK j hj
      rw [← eN] at lki lkj
      -- the making
      have make : ∀ τ : Sg, Fr [4, 5, 6, 11, 12, 15] τ0 τ → (∀ a b, a < 8 → b < 240 → τ.1 15 (a * 240 + b) = bI (hhd (hjn h j i) a b)) → τ.1 4 N = nI k → (∀ a, a ≠ N → τ.1 4 a = τ0.1 4 a) → (∀ z, z < N * 3 → τ.1 5 z = τ0.1 5 z ∧ τ.1 6 z = τ0.1 6 z) → (∀ q, q < k → τ.1 5 (N * 3 + q) = hwt h j q ∧ τ.1 6 (N * 3 + q) = hwa h j q) → (∀ a, a ≠ j → a < 8 → ∀ q, q < 8 → τ.1 11 (a * 8 + q) = τ0.1 11 (a * 8 + q) ∧ τ.1 12 (a * 8 + q) = τ0.1 12 (a * 8 + q)) → (∀ q, q < hwn h j - k → τ.1 11 (j * 8 + q) = hwt h j (q + k) ∧ τ.1 12 (j * 8 + q) = hwa h j (q + k)) → L217 (nI k) (nI (hwn h j)) τ := by
        intro τ F h15 h4 h4' h5 h5' h11 h11'
        have k0 := (F 0 (by decide)).1
        have e10 : τ.1 10 = τ0.1 10 := (F 10 (by decide)).1
        refine r217 _ _ _ ?_
        unfold f_X8_sync_217
        rw [cj, ci, e10, mw1, nI_subL kw]
        obtain ⟨τ1, h1⟩ : ∃ z, z = pI τ 10 j (nI (hwn h j - k)) := ⟨_, rfl⟩
        rw [← h1]
        have F1 : Fr [10] τ τ1 := by rw [h1]; exact Fr_pI (Fr.refl _ _) (by decide)
        have k1 : τ1.1 0 = τ0.1 0 := by rw [(F1 0 (by decide)).1, k0]
        have e9 : τ1.1 9 = τ0.1 9 := by rw [(F1 9 (by decide)).1, (F 9 (by decide)).1]
        rw [e9, mL j hj, mL i hi]
        have F01 : Fr [4, 5, 6, 10, 11, 12, 15] τ0 τ1 := (F.mono (by decide)).trans (F1.mono (by decide))
        have ME1 : ME h τ1 := mE.tx F01 (by decide) (by rw [k1]) (by rw [k1]) (fun x hx => by rw [(F1 4 (by decide)).1]; exact h4' x (by omega)) (fun z hz => by rw [(F1 5 (by decide)).1, (F1 6 (by decide)).1]; exact h5 z (by rw [eN]; exact hz))
        have MEj : ME (hjn h j i) τ1 := ⟨hc_jn hC hj, ME1.2⟩
        have M : MkOK (hjn h j i) j (some (hlat h j)) (some (hlat h i)) k := ⟨by show hN h < 240; omega, hj, fun y hy => (by cases hy; exact mK j hj), fun y hy => (by cases hy; exact (mK i hi).1), fun z => (by cases z), k3, kw⟩
        refine ⟨vj, fun _ => ⟨vj, vj, vj, vi, hjn h j i, j, some (hlat h j), some (hlat h i), k, MEj, M, rfl, rfl, rfl, fun z => (by cases z), fun _ => ?_, fun q hq => ?_, fun τ2 d2 d22 K2 F2 => ?_⟩, fun q => absurd (Int32.le_refl _) q⟩
        · show τ1.1 4 (hN h) = nI k
          rw [(F1 4 (by decide)).1, ← eN]
          exact h4
        · show τ1.1 5 (hN h * 3 + q) = hwt h j q ∧ τ1.1 6 (hN h * 3 + q) = hwa h j q
          rw [(F1 5 (by decide)).1, (F1 6 (by decide)).1, ← eN]
          exact h5' q hq
        · have eNj : hN (hjn h j i) = N := by rw [eN]; rfl
          dsimp only
          rw [eNj, mi240, cl_nI (show j * 240 + N < 2 ^ 31 by omega)]
          refine ⟨vj, vp_in_nI (by omega) (by omega), ?_⟩
          obtain ⟨τ3, h3⟩ : ∃ z, z = pI τ2 9 j (nI N) := ⟨_, rfl⟩
          rw [← h3]
          obtain ⟨τ4, h4e⟩ : ∃ z, z = pI τ3 15 (j * 240 + N) 1 := ⟨_, rfl⟩
          rw [← h4e]
          have F3 : Fr [9] τ2 τ3 := by rw [h3]; exact Fr_pI (Fr.refl _ _) (by decide)
          have F4 : Fr [15] τ3 τ4 := by rw [h4e]; exact Fr_pI (Fr.refl _ _) (by decide)
          have F34 : Fr [9, 15] τ2 τ4 := (F3.mono (by decide)).trans (F4.mono (by decide))
          have k4 : τ4.1 0 = τ2.1 0 := (F34 0 (by decide)).1
          have d4 := d2.fr F34 (by decide) (by rw [k4]) (by rw [k4])
          obtain ⟨G, eG⟩ : ∃ G, G = hmk (hjn h j i) j (some (hlat h j)) (some (hlat h i)) x3 k := ⟨_, rfl⟩
          rw [← eG] at d4
          have eS : hsync h i j x3 = hlt (hgv G N j) j N := by
            rw [eG]
            unfold hsync
            rw [← ek, ← eN]
          have hNG : hN G = N + 1 := by rw [eG, eN]; rfl
          have gnG : gn (hg G) = gn (hg h) := by rw [eG]; rfl
          refine hK τ4 ?_ (by rw [k4, K2 0 (by decide), k1]; exact e0)
          rw [eS]
          refine ⟨me_lt (me_gv d4 (by omega) (by omega)), ?_, fun a ha => ?_, fun a ha => ?_, fun a ha => ?_, Or.inl (by rw [k4]; exact d22)⟩
          · rw [h4e]
            refine mh_gv (h := G) (fun a b ha hb => ?_) (by omega) (by omega)
            rw [(F3 15 (by decide)).1, (F2 15 (by decide)).1, (F1 15 (by decide)).1, h15 a b ha hb, eG]
            rfl
          · have ha : a < gn (hg h) := by rw [← gnG]; exact ha
            have eW : hwn (hlt (hgv G N j) j N) = uN (hwn h) j (hwn h j - k) := by rw [eG]; rfl
            have eT : hwt (hlt (hgv G N j) j N) = uN (hwt h) j (fun q => hwt h j (q + k)) := by rw [eG]; rfl
            have eA : hwa (hlt (hgv G N j) j N) = uN (hwa h) j (fun q => hwa h j (q + k)) := by rw [eG]; rfl
            rw [eW, eT, eA, (F34 10 (by decide)).1, (F34 11 (by decide)).1, (F34 12 (by decide)).1, (F2 10 (by decide)).1, (F2 11 (by decide)).1, (F2 12 (by decide)).1, (F1 11 (by decide)).1, (F1 12 (by decide)).1, h1, pI_at]
            by_cases e : a = j
            · subst e
              rw [if_pos ⟨rfl, rfl⟩, uN_at, uN_at, uN_at]
              exact ⟨rfl, h11'⟩
            · rw [if_neg (fun z => e z.2), uN_ne _ _ e, uN_ne _ _ e, uN_ne _ _ e, e10]
              obtain ⟨z1, z2⟩ := mW a ha
              have := (hC.2.2.2.2.2.2 a (by omega)).1
              refine ⟨z1, fun q hq => ?_⟩
              rw [(h11 a e (by omega) q (by omega)).1, (h11 a e (by omega) q (by omega)).2]
              exact z2 q hq
          · have ha : a < gn (hg h) := by rw [← gnG]; exact ha
            have eL : hlat (hlt (hgv G N j) j N) = uN (hlat h) j N := by rw [eG]; rfl
            rw [eL, (F4 9 (by decide)).1, h3, pI_at]
            by_cases e : a = j
            · rw [if_pos ⟨rfl, e⟩, e, uN_at]
            · rw [if_neg (fun z => e z.2), uN_ne _ _ e, (F2 9 (by decide)).1, e9]
              exact mL a ha
          · have ha : a < gn (hg h) := by rw [← gnG]; exact ha
            have eL : hlat (hlt (hgv G N j) j N) = uN (hlat h) j N := by rw [eG]; rfl
            have eC : gc (hg (hlt (hgv G N j) j N)) = uN (gc (hg h)) N j := by rw [eG, eN]; rfl
            have eH : hN (hlt (hgv G N j) j N) = N + 1 := hNG
            rw [eL, eC, eH]
            by_cases e : a = j
            · rw [e, uN_at, uN_at]
              exact ⟨by omega, rfl⟩
            · have z := mK a ha
              rw [← eN] at z
              rw [uN_ne _ _ e, uN_ne _ _ (show hlat h a ≠ N by omega)]
              exact ⟨by omega, z.2⟩
      -- what waits moves up
      have l217 : ∀ a, a ≤ hwn h j → ∀ τ : Sg, (k ≤ a ∧ Fr [4, 5, 6, 11, 12, 15] τ0 τ ∧ (∀ a b, a < 8 → b < 240 → τ.1 15 (a * 240 + b) = bI (hhd (hjn h j i) a b)) ∧ τ.1 4 N = nI k ∧ (∀ a, a ≠ N → τ.1 4 a = τ0.1 4 a) ∧ (∀ z, z < N * 3 → τ.1 5 z = τ0.1 5 z ∧ τ.1 6 z = τ0.1 6 z) ∧ (∀ q, q < k → τ.1 5 (N * 3 + q) = hwt h j q ∧ τ.1 6 (N * 3 + q) = hwa h j q) ∧ (∀ a, a ≠ j → a < 8 → ∀ q, q < 8 → τ.1 11 (a * 8 + q) = τ0.1 11 (a * 8 + q) ∧ τ.1 12 (a * 8 + q) = τ0.1 12 (a * 8 + q)) ∧ (∀ q, q < a - k → τ.1 11 (j * 8 + q) = hwt h j (q + k) ∧ τ.1 12 (j * 8 + q) = hwa h j (q + k)) ∧ ∀ q, a ≤ q → q < hwn h j → τ.1 11 (j * 8 + q) = hwt h j q ∧ τ.1 12 (j * 8 + q) = hwa h j q) → L217 (nI k) (nI a) τ := by
        refine lup (L := fun a τ => L217 (nI k) (nI a) τ) (fun a τ => k ≤ a ∧ Fr [4, 5, 6, 11, 12, 15] τ0 τ ∧ (∀ a b, a < 8 → b < 240 → τ.1 15 (a * 240 + b) = bI (hhd (hjn h j i) a b)) ∧ τ.1 4 N = nI k ∧ (∀ a, a ≠ N → τ.1 4 a = τ0.1 4 a) ∧ (∀ z, z < N * 3 → τ.1 5 z = τ0.1 5 z ∧ τ.1 6 z = τ0.1 6 z) ∧ (∀ q, q < k → τ.1 5 (N * 3 + q) = hwt h j q ∧ τ.1 6 (N * 3 + q) = hwa h j q) ∧ (∀ a, a ≠ j → a < 8 → ∀ q, q < 8 → τ.1 11 (a * 8 + q) = τ0.1 11 (a * 8 + q) ∧ τ.1 12 (a * 8 + q) = τ0.1 12 (a * 8 + q)) ∧ (∀ q, q < a - k → τ.1 11 (j * 8 + q) = hwt h j (q + k) ∧ τ.1 12 (j * 8 + q) = hwa h j (q + k)) ∧ ∀ q, a ≤ q → q < hwn h j → τ.1 11 (j * 8 + q) = hwt h j q ∧ τ.1 12 (j * 8 + q) = hwa h j q) (hwn h j) (fun τ ht => ?_) (fun a τ ha ht ih => ?_)
        · obtain ⟨t0, t1, t2, t3, t4, t5, t6, t7, t8, t9⟩ := ht
          exact make τ t1 t2 t3 t4 t5 t6 t7 t8
        · obtain ⟨t0, t1, t2, t3, t4, t5, t6, t7, t8, t9⟩ := ht
          have e10 : τ.1 10 = τ0.1 10 := (t1 10 (by decide)).1
          refine r217 _ _ _ ?_
          unfold f_X8_sync_217
          rw [cj, e10, mw1, mi8, nI_subL (show k ≤ j * 8 + a by omega), cl_nI (show j * 8 + a < 2 ^ 31 by omega), cl_nI (show j * 8 + a - k < 2 ^ 31 by omega), nI_1]
          have e12 : ∀ v : Int32, (pI τ 11 (j * 8 + a - k) v).1 12 (j * 8 + a) = hwa h j a := fun v => by rw [pI_ne _ _ _ (by decide)]; exact (t9 a (Nat.le_refl _) ha).2
          rw [e12, (t9 a (Nat.le_refl _) ha).1]
          have v1 : vp_in (nI (j * 8 + a)) 64 := vp_in_nI (by omega) (by omega)
          have v2 : vp_in (nI (j * 8 + a - k)) 64 := vp_in_nI (by omega) (by omega)
          obtain ⟨φ, hφ⟩ : ∃ z, z = pI (pI τ 11 (j * 8 + a - k) (hwt h j a)) 12 (j * 8 + a - k) (hwa h j a) := ⟨_, rfl⟩
          rw [← hφ]
          have Fφ : Fr [11, 12] τ φ := by rw [hφ]; exact Fr_pI (Fr_pI (Fr.refl _ _) (by decide)) (by decide)
          have p11 : ∀ z, φ.1 11 z = if z = j * 8 + a - k then hwt h j a else τ.1 11 z := fun z => by
            rw [hφ, pI_ne _ _ _ (by decide), pI_at]
            by_cases e : z = j * 8 + a - k
            · rw [if_pos ⟨rfl, e⟩, if_pos e]
            · rw [if_neg (fun w => e w.2), if_neg e]
          have p12 : ∀ z, φ.1 12 z = if z = j * 8 + a - k then hwa h j a else τ.1 12 z := fun z => by
            rw [hφ, pI_at, pI_ne _ _ _ (by decide)]
            by_cases e : z = j * 8 + a - k
            · rw [if_pos ⟨rfl, e⟩, if_pos e]
            · rw [if_neg (fun w => e w.2), if_neg e]
          refine ⟨vj, fun q => absurd q (nI_ge ha (by omega)), fun _ => ⟨v1, v2, v1, v2, ih φ ⟨by omega, t1.trans (Fφ.mono (by decide)), ?_, ?_, ?_, ?_, ?_, fun b hb hb8 q hq => ?_, fun q hq => ?_, fun q hq hq2 => ?_⟩⟩⟩
          · rw [(Fφ 15 (by decide)).1]; exact t2
          · rw [(Fφ 4 (by decide)).1]; exact t3
          · rw [(Fφ 4 (by decide)).1]; exact t4
          · rw [(Fφ 5 (by decide)).1, (Fφ 6 (by decide)).1]; exact t5
          · rw [(Fφ 5 (by decide)).1, (Fφ 6 (by decide)).1]; exact t6
          · rw [p11, p12, if_neg (by omega), if_neg (by omega)]
            exact t7 b hb hb8 q hq
          · rw [p11, p12]
            by_cases e : q = a - k
            · subst e
              rw [if_pos (by omega), if_pos (by omega), show a - k + k = a by omega]
              exact ⟨rfl, rfl⟩
            · rw [if_neg (by omega), if_neg (by omega)]
              exact t8 q (by omega)
          · rw [p11, p12, if_neg (by omega), if_neg (by omega)]
            exact t9 q (by omega) hq2
      -- the transactions
      have l148 : ∀ a, a ≤ k → ∀ τ : Sg, (Fr [4, 5, 6, 15] τ0 τ ∧ (∀ a b, a < 8 → b < 240 → τ.1 15 (a * 240 + b) = bI (hhd (hjn h j i) a b)) ∧ τ.1 4 N = nI k ∧ (∀ a, a ≠ N → τ.1 4 a = τ0.1 4 a) ∧ (∀ z, z < N * 3 → τ.1 5 z = τ0.1 5 z ∧ τ.1 6 z = τ0.1 6 z) ∧ ∀ q, q < a → τ.1 5 (N * 3 + q) = hwt h j q ∧ τ.1 6 (N * 3 + q) = hwa h j q) → L148 (nI k) (nI a) τ := by
        refine lup (L := fun a τ => L148 (nI k) (nI a) τ) (fun a τ => Fr [4, 5, 6, 15] τ0 τ ∧ (∀ a b, a < 8 → b < 240 → τ.1 15 (a * 240 + b) = bI (hhd (hjn h j i) a b)) ∧ τ.1 4 N = nI k ∧ (∀ a, a ≠ N → τ.1 4 a = τ0.1 4 a) ∧ (∀ z, z < N * 3 → τ.1 5 z = τ0.1 5 z ∧ τ.1 6 z = τ0.1 6 z) ∧ ∀ q, q < a → τ.1 5 (N * 3 + q) = hwt h j q ∧ τ.1 6 (N * 3 + q) = hwa h j q) k (fun τ ht => ?_) (fun a τ ha ht ih => ?_)
        · obtain ⟨t1, t2, t3, t4, t5, t6⟩ := ht
          refine r148 _ _ _ ⟨fun _ => l217 k kw τ ⟨Nat.le_refl _, t1.mono (by decide), t2, t3, t4, t5, t6, fun b _ _ q _ => ?_, fun q hq => absurd hq (by omega), fun q _ hq => ?_⟩, fun q => absurd (Int32.le_refl _) q⟩
          · rw [(t1 11 (by decide)).1, (t1 12 (by decide)).1]
            exact ⟨rfl, rfl⟩
          · rw [(t1 11 (by decide)).1, (t1 12 (by decide)).1]
            exact mw2 q hq
        · obtain ⟨t1, t2, t3, t4, t5, t6⟩ := ht
          have k0 : τ.1 0 2 = nI N := by rw [(t1 0 (by decide)).1]; exact n4
          refine r148 _ _ _ ?_
          unfold f_X8_sync_148
          have k02 : ∀ v : Int32, (pI τ 5 (N * 3 + a) v).1 0 2 = nI N := fun v => by rw [pI_ne _ _ _ (by decide)]; exact k0
          rw [k0, mi8, mi3, cl_nI (show j * 8 + a < 2 ^ 31 by omega), cl_nI (show N * 3 + a < 2 ^ 31 by omega), k02, mi3, cl_nI (show N * 3 + a < 2 ^ 31 by omega), nI_1]
          have e11 : τ.1 11 (j * 8 + a) = hwt h j a := by rw [(t1 11 (by decide)).1]; exact (mw2 a (by omega)).1
          have e12 : ∀ v : Int32, (pI τ 5 (N * 3 + a) v).1 12 (j * 8 + a) = hwa h j a := fun v => by rw [pI_ne _ _ _ (by decide), (t1 12 (by decide)).1]; exact (mw2 a (by omega)).2
          rw [e11, e12]
          have v1 : vp_in (nI (j * 8 + a)) 64 := vp_in_nI (by omega) (by omega)
          have v2 : vp_in (nI (N * 3 + a)) 720 := vp_in_nI (by omega) (by omega)
          obtain ⟨φ, hφ⟩ : ∃ z, z = pI (pI τ 5 (N * 3 + a) (hwt h j a)) 6 (N * 3 + a) (hwa h j a) := ⟨_, rfl⟩
          rw [← hφ]
          have Fφ : Fr [5, 6] τ φ := by rw [hφ]; exact Fr_pI (Fr_pI (Fr.refl _ _) (by decide)) (by decide)
          have p5 : ∀ z, φ.1 5 z = if z = N * 3 + a then hwt h j a else τ.1 5 z := fun z => by
            rw [hφ, pI_ne _ _ _ (by decide), pI_at]
            by_cases e : z = N * 3 + a
            · rw [if_pos ⟨rfl, e⟩, if_pos e]
            · rw [if_neg (fun w => e w.2), if_neg e]
          have p6 : ∀ z, φ.1 6 z = if z = N * 3 + a then hwa h j a else τ.1 6 z := fun z => by
            rw [hφ, pI_at, pI_ne _ _ _ (by decide)]
            by_cases e : z = N * 3 + a
            · rw [if_pos ⟨rfl, e⟩, if_pos e]
            · rw [if_neg (fun w => e w.2), if_neg e]
          refine ⟨fun q => absurd q (nI_ge ha (by omega)), fun _ => ⟨v1, v2, v1, v2, ih φ ⟨t1.trans (Fφ.mono (by decide)), ?_, ?_, ?_, fun z hz => ?_, fun q hq => ?_⟩⟩⟩
          · rw [(Fφ 15 (by decide)).1]; exact t2
          · rw [(Fφ 4 (by decide)).1]; exact t3
          · rw [(Fφ 4 (by decide)).1]; exact t4
          · rw [p5, p6, if_neg (by omega), if_neg (by omega)]
            exact t5 z hz
          · rw [p5, p6]
            by_cases e : q = a
            · subst e
              rw [if_pos rfl, if_pos rfl]
              exact ⟨rfl, rfl⟩
            · rw [if_neg (by omega), if_neg (by omega)]
              exact t6 q (by omega)
      -- the holdings
      have l67 : ∀ x, x ≤ N → ∀ τ : Sg, (Fr [15] τ0 τ ∧ ∀ a b, a < 8 → b < 240 → τ.1 15 (a * 240 + b) = bI (hhd h a b || (decide (a = j) && (decide (b < x) && hhd h i b)))) → L67 (nI x) τ := by
        refine lup (L := fun x τ => L67 (nI x) τ) (fun x τ => Fr [15] τ0 τ ∧ ∀ a b, a < 8 → b < 240 → τ.1 15 (a * 240 + b) = bI (hhd h a b || (decide (a = j) && (decide (b < x) && hhd h i b)))) N (fun τ ht => ?_) (fun x τ hx ht ih => ?_)
        · obtain ⟨t1, t2⟩ := ht
          have k0 := (t1 0 (by decide)).1
          have e10 : τ.1 10 = τ0.1 10 := (t1 10 (by decide)).1
          have go : ∀ v : Int32, v = nI k → f_X8_sync_132 (nI i) (nI j) x3 L67 L148 L217 K v τ := fun v hv => by
            unfold f_X8_sync_132
            rw [k0, n4, cN, hv]
            have F1 : Fr [4] τ (pI τ 4 N (nI k)) := Fr_pI (Fr.refl _ _) (by decide)
            refine ⟨v240 hN1, l148 0 (Nat.zero_le _) _ ⟨(t1.mono (by decide)).trans (F1.mono (by decide)), fun a b ha hb => ?_, ?_, fun a ha => ?_, fun z hz => ?_, fun q hq => absurd hq (Nat.not_lt_zero _)⟩⟩
            · rw [(F1 15 (by decide)).1, t2 a b ha hb]
              show _ = bI (hhd h a b || (decide (a = j) && hhd h i b))
              cases e : hhd h i b
              · rw [Bool.and_false]
              · have := (hC.2.2.2.2.2.1 i b e).1
                rw [decide_eq_true (show b < N by omega)]
                rfl
            · rw [pI_at, if_pos ⟨rfl, rfl⟩]
            · rw [pI_at, if_neg (fun w => ha w.2), (t1 4 (by decide)).1]
            · rw [(F1 5 (by decide)).1, (F1 6 (by decide)).1, (t1 5 (by decide)).1, (t1 6 (by decide)).1]
              exact ⟨rfl, rfl⟩
          refine r67 _ _ ?_
          unfold f_X8_sync_67
          rw [k0, n4, cj, e10, mw1]
          refine ⟨fun _ => ⟨vj, fun q3 => go 3 ?_, fun q3 => ⟨vj, go _ ?_⟩⟩, fun q => absurd (Int32.le_refl _) q⟩
          · have : 3 ≤ hwn h j := (nI_leI (a := 3) (by decide) (by omega)).mp q3
            rw [show k = 3 by omega]
            rfl
          · have : ¬ 3 ≤ hwn h j := fun z => q3 (nI_le (a := 3) z (by omega))
            rw [show k = hwn h j by omega]
        · obtain ⟨t1, t2⟩ := ht
          have k0 := (t1 0 (by decide)).1
          refine r67 _ _ ?_
          unfold f_X8_sync_67 f_X8_sync_106
          rw [k0, n4, mi240, mi240, cl_nI (show i * 240 + x < 2 ^ 31 by omega), cl_nI (show j * 240 + x < 2 ^ 31 by omega), t2 i x (by omega) (by omega), decide_eq_false hij, Bool.false_and, Bool.or_false, nI_1]
          refine ⟨fun q => absurd q (nI_ge hx (by omega)), fun _ => ⟨vp_in_nI (by omega) (by omega), fun q => ih τ ⟨t1, fun a b ha hb => ?_⟩, fun q => ⟨vp_in_nI (by omega) (by omega), ih _ ⟨Fr_pI t1 (by decide), fun a b ha hb => ?_⟩⟩⟩⟩
          · rw [bI_0] at q
            rw [t2 a b ha hb]
            by_cases e : b = x
            · subst e
              simp [q]
            · rw [show decide (b < x + 1) = decide (b < x) from decide_eq_decide.mpr (by omega)]
          · rw [bI_1] at q
            rw [pI_at]
            by_cases e : a = j ∧ b = x
            · obtain ⟨rfl, rfl⟩ := e
              rw [if_pos ⟨rfl, rfl⟩, q, decide_eq_true rfl, decide_eq_true (Nat.lt_succ_self b)]
              simp [bI]
            · rw [if_neg (fun z => e (by omega)), t2 a b ha hb]
              by_cases ea : a = j
              · have eb : b ≠ x := fun z => e ⟨ea, z⟩
                rw [show decide (b < x + 1) = decide (b < x) from decide_eq_decide.mpr (by omega)]
              · rw [decide_eq_false ea, Bool.false_and, Bool.false_and]
      refine l67 0 (Nat.zero_le _) τ0 ⟨Fr.refl _ _, fun a b ha hb => ?_⟩
      rw [mH a b ha hb, decide_eq_false (Nat.not_lt_zero b), Bool.false_and, Bool.and_false, Bool.or_false]
    · rw [n4] at q2
      rw [if_pos ((nI_eq (by omega) (by decide)).mp q2)] at e1
      rw [e1] at hK
      obtain ⟨m1, e2⟩ := mi_err m0 2
      exact hK _ m1 e2
  · have e1 : opSync h x1 x2 x3 = if i = j then (1, 0, h) else if hN h = 240 then (2, 0, h) else (0, nI (hN h), hsync h i j x3) := by unfold opSync; rw [hn, hn2]
    rw [hx, hx2] at q
    rw [e1, if_pos ((nI_eq (by omega) (by omega)).mp q)]
  · unfold opSync
    rw [hn, hn2]
  · unfold opSync
    rw [hn]
theorem mheld_ok {K : Int32 → Sg → Prop} {i : Nat} {x : Int32} {τ : Sg} (m : MI h τ) (hi : i < gn (hg h)) (h1 : ∀ e, e < hN h → x = nI e → nd (hN h) x = some e → hhd h i e = true → K 1 τ) (h2 : nd (hN h) x = none → K 0 τ) (h3 : ∀ e, nd (hN h) x = some e → hhd h i e = false → K 0 τ) : sp_X8_holds (nI i) x τ K := by
  obtain ⟨n1, n2, n3, n4, n5, n6⟩ := mi_n m
  unfold sp_X8_holds vc_X8_holds f_X8_holds_e f_X8_holds_27
  refine mevent_ok n6 (by omega) n4 (fun e he hx hn => ⟨fun q => absurd q one_ne, fun _ => ?_⟩) (fun hn => ⟨fun _ => ⟨isZ_0, h2 hn⟩, fun q => absurd rfl q⟩)
  subst hx
  rw [mi240, cl_nI (show i * 240 + e < 2 ^ 31 by omega), m.2.1 i e (by omega) (by omega)]
  exact ⟨vp_in_nI (by omega) (by omega), fun q => ⟨isZ_0, h3 e hn ((bI_0 _).mp q)⟩, fun q => ⟨isZ_1, h1 e he rfl hn ((bI_1 _).mp q)⟩⟩
theorem v_X8_inject (x1 x2 x3 x4 : Int32) (x5 : Int64) (σ : Sg) (K : Int32 → Sg → Prop) (hsp : sp_X8_inject x1 x2 x3 x4 x5 σ K) : vc_X8_inject x1 x2 x3 x4 x5 σ K := by
  obtain ⟨h, m, hK⟩ := hsp
  obtain ⟨m0, e0⟩ := mi_err m 0
  obtain ⟨n1, n2, n3, n4, n5, n6⟩ := mi_n m0
  have ne2 : ¬ (2 : Int32) = 0 := by decide
  have ne3 : ¬ (3 : Int32) = 0 := by decide
  intro L90 r90
  have hC := m0.1.1
  have hP := hC.2.2.1
  have bad : opInject h x1 x2 x3 x4 x5 = (1, 0, h) → f_X8_inject_73 x1 x2 x3 x4 x5 L90 K (pI σ 0 0 0) := fun e => by
    rw [e] at hK
    obtain ⟨m1, e1⟩ := mi_err m0 1
    unfold f_X8_inject_73 f_X8_inject_78
    exact fails_1 e0 one_ne ⟨fun q => absurd q one_ne, fun _ => hK _ m1 e1⟩
  show f_X8_inject_e x1 x2 x3 x4 x5 L90 K σ
  unfold f_X8_inject_e
  refine mnode_ok (by omega) (by omega) n1 (fun i hi hx hn => ⟨fun q => absurd q one_ne, fun _ => mnode_ok (by omega) (by omega) n1 (fun j hj hx2 hn2 => ⟨fun q => absurd q one_ne, fun _ => ?_⟩) (fun hn2 => ⟨fun _ => bad ?_, fun q => absurd rfl q⟩)⟩) (fun hn => ⟨fun _ => bad ?_, fun q => absurd rfl q⟩)
  · have eo0 : opInject h x1 x2 x3 x4 x5 = if i = j then (1, 0, h) else match nd (hN h) x3 with
      | some sx => if hhd h i sx = true ∧ gc (hg h) sx = j then (match injO h i j x4 with
        | none => (1, 0, h)
        | some oo => if anyN (sameE h j sx oo x5) (hN h) then (2, 0, h) else if hN h = 240 then (3, 0, h) else (0, nI (hN h), hinj h i j sx oo x5)) else (1, 0, h)
      | none => (1, 0, h) := by unfold opInject; rw [hn, hn2] <;> rfl
    refine ⟨fun q => bad ?_, fun q => ?_⟩
    · rw [hx, hx2] at q
      rw [eo0, if_pos ((nI_eq (by omega) (by omega)).mp q)]
    · have hij : ¬ i = j := fun z => q (by rw [hx, hx2, z])
      rw [if_neg hij] at eo0
      subst hx hx2
      refine mheld_ok m0 hi (fun sx hs hsx hn3 hh => ⟨fun q => absurd q one_ne, fun _ => ?_⟩) (fun hn3 => ⟨fun _ => bad (by rw [eo0, hn3]), fun z => absurd rfl z⟩) (fun e hn3 hh => ⟨fun _ => bad (by rw [eo0, hn3]; show (if hhd h i e = true ∧ gc (hg h) e = j then _ else _ : Nat × Int32 × Hs) = _; rw [if_neg (fun z => by rw [hh] at z; exact absurd z.1 (by decide))]), fun z => absurd rfl z⟩)
      have e1 : opInject h (nI i) (nI j) x3 x4 x5 = if hhd h i sx = true ∧ gc (hg h) sx = j then (match injO h i j x4 with
        | none => (1, 0, h)
        | some oo => if anyN (sameE h j sx oo x5) (hN h) then (2, 0, h) else if hN h = 240 then (3, 0, h) else (0, nI (hN h), hinj h i j sx oo x5)) else (1, 0, h) := by rw [eo0, hn3]
      subst hsx
      have cs : (nI sx).toNatClampNeg = sx := cl_nI (by omega)
      have dE := m0.1.2.1.2.2.1
      have hcs := (hP.1 sx hs).1
      rw [cs, (dE sx hs).1]
      refine ⟨v240 (by omega), fun q2 => bad (by rw [e1, if_neg (fun z => q2 (by rw [z.2]))]), fun q2 => ?_⟩
      have gcs : gc (hg h) sx = j := (nI_eq (by omega) (by omega)).mp q2
      rw [if_pos ⟨hh, gcs⟩] at e1
      have fin : ∀ oo : Option Nat, injO h i j x4 = some oo → x4 = nO oo → (∀ y, oo = some y → y < hN h) → f_X8_inject_77 (nI i) (nI j) (nI sx) x4 x5 L90 K (pI σ 0 0 0) := by
        intro oo ho hoe holt
        have e2 : opInject h (nI i) (nI j) (nI sx) x4 x5 = if anyN (sameE h j sx oo x5) (hN h) then (2, 0, h) else if hN h = 240 then (3, 0, h) else (0, nI (hN h), hinj h i j sx oo x5) := by rw [e1, ho]
        unfold f_X8_inject_77 f_X8_inject_78
        refine fails_0 e0 ⟨fun _ => ?_, fun q => absurd rfl q⟩
        obtain ⟨τ0, h0⟩ : ∃ z, z = pI σ 0 0 0 := ⟨_, rfl⟩
        rw [← h0] at m0 e0 n1 n4 dE ⊢
        have l90 : ∀ x, x ≤ hN h → (∀ y, y < x → sameE h j sx oo x5 y = false) → L90 (nI x) τ0 := by
          refine down (hN h) (fun hall => ?_) (fun x hx ih hall => ?_)
          · have ea : anyN (sameE h j sx oo x5) (hN h) = false := (anyN_false _ _).mpr hall
            rw [if_neg (by rw [ea]; decide)] at e2
            refine r90 _ _ ?_
            unfold f_X8_inject_90 f_X8_inject_193
            rw [n4]
            refine ⟨fun _ => ⟨fun q3 => fails_0 e0 ⟨fun _ => ?_, fun z => absurd rfl z⟩, fun q3 => fails_1 e0 ne3 ⟨fun z => absurd z one_ne, fun _ => ?_⟩⟩, fun z => absurd (Int32.le_refl _) z⟩
            · have hN1 : hN h < 240 := by
                have : hN h ≠ 240 := fun z => q3 (by rw [z]; rfl)
                omega
              rw [if_neg (by omega)] at e2
              rw [e2] at hK
              have hK : ∀ τ, MI (hinj h i j sx oo x5) τ → τ.1 0 0 = 0 → K (nI (hN h)) τ := hK
              obtain ⟨N, eN⟩ : ∃ N, N = hN h := ⟨_, rfl⟩
              rw [← eN] at hK n4 n5 n6 hN1
              rw [n4, cl_nI (show N < 2 ^ 31 by omega)]
              refine ⟨v240 hN1, ?_⟩
              obtain ⟨τ1, h1⟩ : ∃ z, z = pI τ0 4 N 0 := ⟨_, rfl⟩
              rw [← h1]
              have F1 : Fr [4] τ0 τ1 := by rw [h1]; exact Fr_pI (Fr.refl _ _) (by decide)
              have k1 : τ1.1 0 = τ0.1 0 := (F1 0 (by decide)).1
              obtain ⟨mE, mH, mW, mL, mK, mV⟩ := id m0
              have ME1 : ME h τ1 := mE.tx F1 (by decide) (by rw [k1]) (by rw [k1]) (fun x hx => by rw [h1, pI_at, if_neg (fun w => by omega)]) (fun z hz => by rw [(F1 5 (by decide)).1, (F1 6 (by decide)).1]; exact ⟨rfl, rfl⟩)
              have M : MkOK h j (some sx) oo 0 := ⟨by omega, hj, fun y hy => (by cases hy; exact ⟨hs, gcs⟩), holt, fun z => (by cases z), by decide, Nat.zero_le _⟩
              refine ⟨h, j, some sx, oo, 0, ME1, M, rfl, rfl, hoe, fun _ => rfl, fun _ => ?_, fun q hq => absurd hq (Nat.not_lt_zero _), fun τ2 d2 d22 K2 F2 => ?_⟩
              · rw [← eN, h1, pI_at, if_pos ⟨rfl, rfl⟩]
                rfl
              · dsimp only
                rw [← eN, mi240, cl_nI (show i * 240 + N < 2 ^ 31 by omega)]
                refine ⟨vp_in_nI (by omega) (by omega), ?_⟩
                obtain ⟨τ4, h4e⟩ : ∃ z, z = pI τ2 15 (i * 240 + N) 1 := ⟨_, rfl⟩
                rw [← h4e]
                have F4 : Fr [15] τ2 τ4 := by rw [h4e]; exact Fr_pI (Fr.refl _ _) (by decide)
                have k4 : τ4.1 0 = τ2.1 0 := (F4 0 (by decide)).1
                have d4 := d2.fr F4 (by decide) (by rw [k4]) (by rw [k4])
                obtain ⟨G, eG⟩ : ∃ G, G = hmk h j (some sx) oo x5 0 := ⟨_, rfl⟩
                rw [← eG] at d4
                have eS : hinj h i j sx oo x5 = hgv G N i := by
                  rw [eG, eN]
                  rfl
                have hNG : hN G = N + 1 := by rw [eG, eN]; rfl
                have gnG : gn (hg G) = gn (hg h) := by rw [eG]; rfl
                refine hK τ4 ?_ (by rw [k4, K2 0 (by decide), k1]; exact e0)
                rw [eS]
                refine ⟨me_gv d4 (by omega) (by omega), ?_, fun a ha => ?_, fun a ha => ?_, fun a ha => ?_, Or.inl (by rw [k4]; exact d22)⟩
                · rw [h4e]
                  refine mh_gv (h := G) (fun a b ha hb => ?_) (by omega) (by omega)
                  rw [(F2 15 (by decide)).1, (F1 15 (by decide)).1, mH a b ha hb, eG]
                  rfl
                · have ha : a < gn (hg h) := by rw [← gnG]; exact ha
                  have eW : hwn (hgv G N i) = hwn h := by
                    rw [eG]
                    exact uN_id (hwn h) j
                  have eT : hwt (hgv G N i) = hwt h := by
                    rw [eG]
                    exact uN_zero (hwt h) j
                  have eA : hwa (hgv G N i) = hwa h := by
                    rw [eG]
                    exact uN_zero (hwa h) j
                  rw [eW, eT, eA, (F4 10 (by decide)).1, (F4 11 (by decide)).1, (F4 12 (by decide)).1, (F2 10 (by decide)).1, (F2 11 (by decide)).1, (F2 12 (by decide)).1, (F1 10 (by decide)).1, (F1 11 (by decide)).1, (F1 12 (by decide)).1]
                  exact mW a ha
                · have ha : a < gn (hg h) := by rw [← gnG]; exact ha
                  have eL : hlat (hgv G N i) = hlat h := by rw [eG]; rfl
                  rw [eL, (F4 9 (by decide)).1, (F2 9 (by decide)).1, (F1 9 (by decide)).1]
                  exact mL a ha
                · have ha : a < gn (hg h) := by rw [← gnG]; exact ha
                  have eL : hlat (hgv G N i) = hlat h := by rw [eG]; rfl
                  have eC : gc (hg (hgv G N i)) = uN (gc (hg h)) N j := by rw [eG, eN]; rfl
                  have eH : hN (hgv G N i) = N + 1 := hNG
                  have z := mK a ha
                  rw [← eN] at z
                  rw [eL, eC, eH, uN_ne _ _ (show hlat h a ≠ N by omega)]
                  exact ⟨by omega, z.2⟩
            · rw [if_pos ((nI_eq (by omega) (by decide)).mp q3)] at e2
              rw [e2] at hK
              obtain ⟨m1, e3⟩ := mi_err m0 3
              exact hK _ m1 e3
          · obtain ⟨a1, a2, a3⟩ := dE x hx
            have ax := (m0.1.2.2.2.2.2.2.2.2.1 x hx).1
            obtain ⟨p1, p2, p3, p4⟩ := hP.1 x hx
            have t3 := (hC.2.2.2.2.1 x hx).1
            have b1 : (nI (gc (hg h) x) = nI j) ↔ gc (hg h) x = j := nI_eq (by omega) (by omega)
            have b2 : (nO (gs (hg h) x) = nI sx) ↔ gs (hg h) x = some sx := ⟨fun z => nO_inj (fun w hw => by have := (p2 w hw).1; omega) (fun w hw => by cases hw; omega) (z.trans rfl), fun z => by rw [z]; rfl⟩
            have b3 : (nO (go (hg h) x) = nO oo) ↔ go (hg h) x = oo := ⟨fun z => nO_inj (fun w hw => by have := p3 w hw; omega) (fun w hw => by have := holt w hw; omega) z, fun z => by rw [z]⟩
            have b4 : (nI (htn h x) = 0) ↔ htn h x = 0 := nI_eq (a := htn h x) (b := 0) (by omega) (by decide)
            have no : ¬ (gc (hg h) x = j ∧ gs (hg h) x = some sx ∧ go (hg h) x = oo ∧ htm h x = x5 ∧ htn h x = 0) → f_X8_inject_161 (nI i) (nI j) (nI sx) x4 x5 L90 K (nI x) τ0 := fun z => by
              unfold f_X8_inject_161 f_X8_inject_162
              refine fails_0 e0 ⟨fun _ => ?_, fun z => absurd rfl z⟩
              rw [nI_1]
              refine ih (fun y hy => ?_)
              by_cases e : y = x
              · subst e
                cases w : sameE h j sx oo x5 y
                · rfl
                · unfold sameE at w
                  simp only [Bool.and_eq_true, decide_eq_true_eq] at w
                  exact absurd w z
              · exact hall y (by omega)
            refine r90 _ _ ?_
            unfold f_X8_inject_90
            have vx := v240 (show x < 240 by omega)
            have eT := m0.1.2.2.2.2.2.2.2.1 x hx
            rw [n4, cl_nI (show x < 2 ^ 31 by omega), a1, a2, a3, eT, ax, lg_cmp_eq, hoe]
            rw [hoe] at no
            refine ⟨fun z => absurd z (nI_ge hx (by omega)), fun _ => ⟨vx, fun z => no (fun w => z (b1.mpr w.1)), fun z1 => ⟨vx, fun z => no (fun w => z (b2.mpr w.2.1)), fun z2 => ⟨vx, fun z => no (fun w => z (b3.mpr w.2.2.1)), fun z3 => ⟨vx, fun z => no (fun w => z w.2.2.2.1), fun z4 => ⟨vx, fun z => no (fun w => z (b4.mpr w.2.2.2.2)), fun z5 => ?_⟩⟩⟩⟩⟩⟩
            have ws : sameE h j sx oo x5 x = true := by
              unfold sameE
              simp only [Bool.and_eq_true, decide_eq_true_eq]
              exact ⟨b1.mp z1, b2.mp z2, b3.mp z3, z4, b4.mp z5⟩
            have ea : anyN (sameE h j sx oo x5) (hN h) = true := (anyN_iff _ _).mpr ⟨x, hx, ws⟩
            rw [if_pos ea] at e2
            rw [e2] at hK
            unfold f_X8_inject_162
            obtain ⟨m1, e3⟩ := mi_err m0 2
            exact fails_1 e0 ne2 ⟨fun z => absurd z one_ne, fun _ => hK _ m1 e3⟩
        exact l90 0 (Nat.zero_le _) (fun y hy => absurd hy (Nat.not_lt_zero _))
      refine ⟨fun q3 => fin none ?_ q3 (fun y hy => by cases hy), fun q3 => ?_⟩
      · unfold injO
        rw [if_pos q3]
      · have eo : injO h i j x4 = match nd (hN h) x4 with
          | some ox => if hhd h i ox = true ∧ gc (hg h) ox ≠ j then some (some ox) else none
          | none => none := by unfold injO; rw [if_neg q3] <;> rfl
        refine mheld_ok m0 hi (fun ox hox hoe hn4 hh2 => ⟨fun q => absurd q one_ne, fun _ => ?_⟩) (fun hn4 => ⟨fun _ => bad (by rw [e1, eo, hn4]), fun z => absurd rfl z⟩) (fun e hn4 hh2 => ⟨fun _ => bad ?_, fun z => absurd rfl z⟩)
        · have eo2 : injO h i j x4 = if hhd h i ox = true ∧ gc (hg h) ox ≠ j then some (some ox) else none := by rw [eo, hn4]
          subst hoe
          have co : (nI ox).toNatClampNeg = ox := cl_nI (by omega)
          rw [co, (dE ox hox).1]
          have hco := (hP.1 ox hox).1
          refine ⟨v240 (by omega), fun q4 => fin (some ox) ?_ rfl (fun y hy => by cases hy; exact hox), fun q4 => bad ?_⟩
          · rw [eo2, if_pos ⟨hh2, fun z => q4 (by rw [z])⟩]
          · have : gc (hg h) ox = j := (nI_eq (by omega) (by omega)).mp q4
            rw [if_neg (fun z => z.2 this)] at eo2
            rw [e1, eo2]
        · have eo2 : injO h i j x4 = if hhd h i e = true ∧ gc (hg h) e ≠ j then some (some e) else none := by rw [eo, hn4]
          rw [if_neg (fun z => by rw [hh2] at z; exact absurd z.1 (by decide))] at eo2
          rw [e1, eo2]
  · unfold opInject
    rw [hn, hn2]
  · unfold opInject
    rw [hn]
end MOPS2
