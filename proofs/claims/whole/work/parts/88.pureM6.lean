/-! ===== the model: all anew ===== -/
theorem ME.fr {h : Hs} {σ τ : Sg} {S : List Nat} (m : ME h σ) (F : Fr S σ τ) (d : ∀ a ∈ [1, 2, 3, 4, 5, 6, 7, 8, 13, 14, 16, 17, 18, 19, 30, 32], a ∉ S) (k1 : τ.1 0 1 = σ.1 0 1) (k2 : τ.1 0 2 = σ.1 0 2) : ME h τ := by
  obtain ⟨m1, m2, m3, m4, m5, m6, m7, m8, m9, m10, m11⟩ := m
  have q : ∀ a, a ∈ [1, 2, 3, 4, 5, 6, 7, 8, 13, 14, 16, 17, 18, 19, 30, 32] → τ.1 a = σ.1 a ∧ τ.2 a = σ.2 a := fun a ha => F a (d a ha)
  refine ⟨m1, m2.sm k1 (q 1 (by decide)).1 (q 2 (by decide)).1 (q 3 (by decide)).1 (q 14 (by decide)).1 (q 16 (by decide)).1, m3.sm (q 18 (by decide)).1, m4.sm (q 7 (by decide)).1 (q 17 (by decide)).1, m5.sm (q 19 (by decide)).1, by rw [k2]; exact m6, fun x w hx hw => by rw [(q 8 (by decide)).1]; exact m7 x w hx hw, fun x hx => by rw [(q 13 (by decide)).2]; exact m8 x hx, fun x hx => by rw [(q 4 (by decide)).1, (q 5 (by decide)).1, (q 6 (by decide)).1]; exact m9 x hx, fun j hj => by rw [(q 30 (by decide)).1]; exact m10 j hj, fun j hj => by rw [(q 32 (by decide)).1]; exact m11 j hj⟩
theorem me_gv {h : Hs} {x node : Nat} {σ : Sg} (m : ME h σ) (hx : x < hN h) (hn : node < gn (hg h)) : ME (hgv h x node) σ := ⟨hc_gv m.1 hx hn, m.2⟩
theorem me_lt {h : Hs} {node x : Nat} {σ : Sg} (m : ME h σ) : ME (hlt h node x) σ := m
theorem hst_w (n : Nat) : ∀ i k, hwn (hst n i) k = 0
  | 0, _ => rfl
  | i + 1, k => by
    show uN (hwn (hst n i)) i (hwn (hst n i) i - 0) k = 0
    by_cases e : k = i
    · subst e; rw [uN_at, hst_w n k k]
    · rw [uN_ne _ _ e]; exact hst_w n i k
theorem nar0 : vp_nar .byte 0 = 0 := by first | rfl | decide
theorem mh_gv {h : Hs} {x node : Nat} {σ : Sg} (m : MH h σ) (hx : x < 240) (hn : node < 8) : MH (hgv h x node) (pI σ 15 (node * 240 + x) 1) := fun k y hk hy => by
  show (pI σ 15 (node * 240 + x) 1).1 15 (k * 240 + y) = bI (hhd h k y || (decide (k = node) && decide (y = x)))
  rw [pI_at]
  by_cases e : k = node ∧ y = x
  · obtain ⟨rfl, rfl⟩ := e
    rw [if_pos ⟨rfl, rfl⟩, decide_eq_true rfl, decide_eq_true rfl, Bool.and_true, Bool.or_true]
    rfl
  · rw [if_neg (fun z => e (by omega)), m k y hk hy]
    have : (decide (k = node) && decide (y = x)) = false := by
      cases z : (decide (k = node) && decide (y = x))
      · rfl
      · rw [Bool.and_eq_true, decide_eq_true_eq, decide_eq_true_eq] at z
        exact absurd z e
    rw [this, Bool.or_false]
theorem v_X8_anew (x1 : Int32) (σ : Sg) (K : Sg → Prop) (h : sp_X8_anew x1 σ K) : vc_X8_anew x1 σ K := by
  obtain ⟨n, hn2, hn8, rfl, ⟨z1, z2⟩, hK⟩ := h
  intro L17 L39 L74 r17 r39 r74
  have loop : ∀ i, i ≤ n → ∀ τ : Sg, (ME (hst n i) τ ∧ MH (hst n i) τ ∧ (∀ k, k < i → τ.1 10 k = 0 ∧ τ.1 9 k = nI k) ∧ τ.1 0 0 = σ.1 0 0 ∧ τ.1 0 22 = -1) → L74 (nI i) τ := by
    refine lup (L := fun i τ => L74 (nI i) τ) (fun i τ => ME (hst n i) τ ∧ MH (hst n i) τ ∧ (∀ k, k < i → τ.1 10 k = 0 ∧ τ.1 9 k = nI k) ∧ τ.1 0 0 = σ.1 0 0 ∧ τ.1 0 22 = -1) n (fun τ ht => ?_) (fun i τ hi ht ih => ?_)
    · obtain ⟨e1, e2, e3, e4⟩ := hst_is n n
      obtain ⟨t1, t2, t3, t4, t5⟩ := ht
      have hn1 : τ.1 0 1 = nI n := by rw [t1.2.1.2.1, e2]
      refine r74 _ _ ?_
      unfold f_X8_anew_74
      rw [hn1]
      refine ⟨fun _ => hK τ ⟨t1, t2, fun k hk => ⟨?_, fun j hj => ?_⟩, fun k hk => ?_, fun k hk => ?_, Or.inl t5⟩ t4, fun q => absurd (Int32.le_refl _) q⟩
      · rw [e2] at hk
        rw [(t3 k hk).1, hst_w]
        rfl
      · rw [hst_w] at hj
        exact absurd hj (Nat.not_lt_zero _)
      · rw [e2] at hk
        rw [(t3 k hk).2, e4 k hk]
      · rw [e2] at hk
        rw [e4 k hk, e1, e3 k hk]
        exact ⟨hk, rfl⟩
    · obtain ⟨e1, e2, e3, e4⟩ := hst_is n i
      obtain ⟨t1, t2, t3, t4, t5⟩ := ht
      have hn1 : τ.1 0 1 = nI n := by rw [t1.2.1.2.1, e2]
      have ci : (nI i).toNatClampNeg = i := cl_nI (by omega)
      have vi : vp_in (nI i) 8 := vp_in_nI (by omega) (by omega)
      refine r74 _ _ ?_
      unfold f_X8_anew_74
      rw [hn1, ci]
      refine ⟨fun q => absurd q (nI_ge hi (by omega)), fun _ => ⟨vi, ?_⟩⟩
      obtain ⟨τ0, h0⟩ : ∃ z, z = pI τ 10 i 0 := ⟨_, rfl⟩
      rw [← h0]
      have F0 : Fr [10] τ τ0 := by rw [h0]; exact Fr_pI (Fr.refl _ _) (by decide)
      have m0 : ME (hst n i) τ0 := t1.fr F0 (by decide) (by rw [(F0 0 (by decide)).1]) (by rw [(F0 0 (by decide)).1])
      have mk : MkOK (hst n i) i none none 0 := ⟨by omega, by omega, fun y hy => (by cases hy), fun y hy => (by cases hy), fun _ => ⟨rfl, fun y hy _ => by rw [e3 y (by omega)]; omega⟩, by omega, Nat.zero_le _⟩
      refine ⟨hst n i, i, none, none, 0, m0, mk, rfl, rfl, rfl, fun _ => rfl, fun q => absurd rfl q, fun j hj => absurd hj (Nat.not_lt_zero _), fun τ1 d1 d22 K1 F1 => ?_⟩
      rw [e1]
      have e99 : (pI τ1 9 i (nI i)).1 9 i = nI i := by rw [pI_at, if_pos ⟨rfl, rfl⟩]
      dsimp only
      rw [e99, mi240, cl_nI (show i * 240 + i < 2 ^ 31 by omega), nI_1]
      refine ⟨vi, vi, vp_in_nI (by omega) (by omega), ?_⟩
      have hnew : hst n (i + 1) = hgv (hlt (hmk (hst n i) i none none 0 0) i (hN (hst n i))) i i := by
        show hroot (hst n i) i = _
        unfold hroot
        rw [e1]
        rfl
      obtain ⟨τ2, h2⟩ : ∃ z, z = pI τ1 9 i (nI i) := ⟨_, rfl⟩
      rw [← h2]
      have F2 : Fr [9] τ1 τ2 := by rw [h2]; exact Fr_pI (Fr.refl _ _) (by decide)
      have d2 : ME (hmk (hst n i) i none none 0 0) τ2 := d1.fr F2 (by decide) (by rw [(F2 0 (by decide)).1]) (by rw [(F2 0 (by decide)).1])
      obtain ⟨τ3, h3⟩ : ∃ z, z = pI τ2 15 (i * 240 + i) 1 := ⟨_, rfl⟩
      rw [← h3]
      have F3 : Fr [15] τ2 τ3 := by rw [h3]; exact Fr_pI (Fr.refl _ _) (by decide)
      have d3 : ME (hmk (hst n i) i none none 0 0) τ3 := d2.fr F3 (by decide) (by rw [(F3 0 (by decide)).1]) (by rw [(F3 0 (by decide)).1])
      have c0 : τ3.1 0 = τ1.1 0 := by rw [(F3 0 (by decide)).1, (F2 0 (by decide)).1]
      have mh2 : MH (hlt (hmk (hst n i) i none none 0 0) i (hN (hst n i))) τ2 := fun k y hk hy => by
        rw [(F2 15 (by decide)).1, (F1 15 (by decide)).1, (F0 15 (by decide)).1]
        exact t2 k y hk hy
      refine ih τ3 ⟨?_, ?_, fun k hk => ?_, ?_, ?_⟩
      · rw [hnew]
        exact me_gv (me_lt d3) (show i < hN (hst n i) + 1 by omega) (show i < gn (hg (hst n i)) by omega)
      · rw [hnew, h3]
        exact mh_gv mh2 (by omega) (by omega)
      · rw [(F3 10 (by decide)).1, (F2 10 (by decide)).1, (F1 10 (by decide)).1, (F3 9 (by decide)).1, h2, h0, pI_at, pI_at]
        by_cases e : k = i
        · subst e
          rw [if_pos ⟨rfl, rfl⟩, if_pos ⟨rfl, rfl⟩]
          exact ⟨rfl, rfl⟩
        · rw [if_neg (fun q => e q.2), if_neg (fun q => e q.2), (F1 9 (by decide)).1, (F0 9 (by decide)).1]
          exact t3 k (by omega)
      · rw [c0, K1 0 (by decide), (F0 0 (by decide)).1]
        exact t4
      · rw [c0]
        exact d22
  show f_X8_anew_e (nI n) L17 L39 L74 K σ
  unfold f_X8_anew_e
  obtain ⟨τ0, h0⟩ : ∃ z, z = pI (pI (pI σ 0 1 (nI n)) 0 2 0) 0 22 (-1) := ⟨_, rfl⟩
  rw [← h0]
  have F0 : Fr [0] σ τ0 := by rw [h0]; exact Fr_pI (Fr_pI (Fr_pI (Fr.refl _ _) (by decide)) (by decide)) (by decide)
  have l39 : ∀ j, j ≤ 57600 → ∀ τ : Sg, (Fr [14, 15, 18, 19] τ0 τ ∧ (∀ a, a < 1920 → τ.1 15 a = 0) ∧ ∀ a, a < j → τ.1 14 a = 0 ∧ τ.1 18 a = 0 ∧ τ.1 19 a = 0) → L39 (nI j) τ := by
    refine lup (L := fun j τ => L39 (nI j) τ) (fun j τ => Fr [14, 15, 18, 19] τ0 τ ∧ (∀ a, a < 1920 → τ.1 15 a = 0) ∧ ∀ a, a < j → τ.1 14 a = 0 ∧ τ.1 18 a = 0 ∧ τ.1 19 a = 0) 57600 (fun τ ht => ?_) (fun j τ hj ht ih => ?_)
    · obtain ⟨F, t15, t3⟩ := ht
      have no : ∀ {P : Nat → Prop} (x : Nat), x < hN (hst n 0) → P x := fun x hx => absurd (show x < 0 from hx) (Nat.not_lt_zero _)
      have k0 : τ.1 0 = τ0.1 0 := (F 0 (by decide)).1
      refine r39 _ _ ⟨fun _ => loop 0 (Nat.zero_le _) τ ⟨⟨⟨hn2, Nat.zero_le _, ⟨no, fun x y hx => absurd (show x < 0 from hx) (Nat.not_lt_zero _), hn8⟩, no, no, fun k x q => (by cases q), fun k hk => ⟨Nat.zero_le _, fun j hj => absurd (show j < 0 from hj) (Nat.not_lt_zero _), fun _ => rfl⟩⟩, ⟨⟨Nat.zero_le _, ⟨no, fun x y hx => absurd (show x < 0 from hx) (Nat.not_lt_zero _), hn8⟩, no⟩, ?_, no, fun x y hx hy => ?_, fun x d hx => absurd (show x < 0 from hx) (Nat.not_lt_zero _)⟩, fun x y hx hy => Or.inl (t3 _ (by omega)).2.1, no, fun x y hx hy => Or.inl (t3 _ (by omega)).2.2, ?_, fun x w hx => absurd (show x < 0 from hx) (Nat.not_lt_zero _), no, no, fun j hj => ?_, fun j hj => ?_⟩, fun k x hk hx => ?_, fun k hk => absurd hk (Nat.not_lt_zero _), ?_, ?_⟩, fun q => absurd (by decide) q⟩
      · rw [k0, h0, pI_at, if_neg (by decide), pI_at, if_neg (by decide), pI_at, if_pos (by decide)]
        rfl
      · rw [(t3 (x * 240 + y) (by omega)).1]
        exact (if_neg (Nat.not_lt_zero x)).symm
      · rw [k0, h0, pI_at, if_neg (by decide), pI_at, if_pos (by decide)]
        rfl
      · rw [(F 30 (by decide)).1, (F0 30 (by decide)).1]; exact z1 j hj
      · rw [(F 32 (by decide)).1, (F0 32 (by decide)).1]; exact z2 j hj
      · rw [t15 _ (by omega)]
        rfl
      · rw [k0, h0, pI_at, if_neg (by decide), pI_at, if_neg (by decide), pI_at, if_neg (by decide)]
      · rw [k0, h0, pI_at, if_pos (by decide)]
    · obtain ⟨F, t15, t3⟩ := ht
      have v : vp_in (nI j) 57600 := vp_in_nI hj (by decide)
      refine r39 _ _ ⟨fun q => absurd q (nI_ge (b := 57600) hj (by decide)), fun _ => ⟨v, v, v, ?_⟩⟩
      rw [nar0, cl_nI (show j < 2 ^ 31 by omega), nI_1]
      refine ih _ ⟨Fr_pI (Fr_pI (Fr_pI F (by decide)) (by decide)) (by decide), fun a ha => ?_, fun a ha => ⟨?_, ?_, ?_⟩⟩
      · rw [pI_at, if_neg (fun q => absurd q.1 (by decide)), pI_at, if_neg (fun q => absurd q.1 (by decide)), pI_at, if_neg (fun q => absurd q.1 (by decide))]
        exact t15 a ha
      · rw [pI_at, if_neg (fun q => absurd q.1 (by decide)), pI_at, if_neg (fun q => absurd q.1 (by decide)), pI_at]
        by_cases e : a = j
        · rw [if_pos ⟨rfl, e⟩]
        · rw [if_neg (fun q => e q.2)]; exact (t3 a (by omega)).1
      · rw [pI_at, if_neg (fun q => absurd q.1 (by decide)), pI_at]
        by_cases e : a = j
        · rw [if_pos ⟨rfl, e⟩]
        · rw [if_neg (fun q => e q.2), pI_at, if_neg (fun q => absurd q.1 (by decide))]; exact (t3 a (by omega)).2.1
      · rw [pI_at]
        by_cases e : a = j
        · rw [if_pos ⟨rfl, e⟩]
        · rw [if_neg (fun q => e q.2), pI_at, if_neg (fun q => absurd q.1 (by decide)), pI_at, if_neg (fun q => absurd q.1 (by decide))]; exact (t3 a (by omega)).2.2
  have l17 : ∀ j, j ≤ 1920 → ∀ τ : Sg, (Fr [15] τ0 τ ∧ ∀ a, a < j → τ.1 15 a = 0) → L17 (nI j) τ := by
    refine lup (L := fun j τ => L17 (nI j) τ) (fun j τ => Fr [15] τ0 τ ∧ ∀ a, a < j → τ.1 15 a = 0) 1920 (fun τ ht => ?_) (fun j τ hj ht ih => ?_)
    · obtain ⟨F, t15⟩ := ht
      exact r17 _ _ ⟨fun _ => l39 0 (Nat.zero_le _) τ ⟨F.mono (by decide), t15, fun a ha => absurd ha (Nat.not_lt_zero _)⟩, fun q => absurd (by decide) q⟩
    · obtain ⟨F, t15⟩ := ht
      refine r17 _ _ ⟨fun q => absurd q (nI_ge (b := 1920) hj (by decide)), fun _ => ⟨vp_in_nI hj (by decide), ?_⟩⟩
      rw [cl_nI (show j < 2 ^ 31 by omega), nI_1]
      refine ih _ ⟨Fr_pI F (by decide), fun a ha => ?_⟩
      rw [pI_at]
      by_cases e : a = j
      · rw [if_pos ⟨rfl, e⟩]
      · rw [if_neg (fun q => e q.2)]; exact t15 a (by omega)
  exact l17 0 (Nat.zero_le _) τ0 ⟨Fr.refl _ _, fun a ha => absurd ha (Nat.not_lt_zero _)⟩
