theorem VF.sm {p : Vp} {v : Nat} {σ τ : Sg} (h : VF p v σ) (q : ∀ a, v ≤ a → a < v + 12 → τ.1 a = σ.1 a ∧ τ.2 a = σ.2 a) : VF p v τ := by
  obtain ⟨⟨u1, u2, u3, u4⟩, ⟨r1, r2⟩, ⟨o1, o2, o3⟩, b, s, t⟩ := h
  have q0 := (q v (by omega) (by omega)).1
  have q1 := (q (v + 1) (by omega) (by omega)).1
  have q2 := (q (v + 2) (by omega) (by omega)).1
  have q3 := (q (v + 3) (by omega) (by omega)).2
  have q4 := (q (v + 4) (by omega) (by omega)).1
  have q5 := (q (v + 5) (by omega) (by omega)).1
  have q6 := (q (v + 6) (by omega) (by omega)).1
  have q7 := (q (v + 7) (by omega) (by omega)).1
  have q8 := (q (v + 8) (by omega) (by omega)).1
  have q9 := (q (v + 9) (by omega) (by omega)).1
  refine ⟨⟨by rw [q1]; exact u1, by rw [q8]; exact u2, by rw [q7]; exact u3, by rw [q9]; exact u4⟩, ⟨by rw [q2]; exact r1, by rw [q3]; exact r2⟩, ⟨by rw [q4]; exact o1, by rw [q5]; exact o2, by rw [q0]; exact o3⟩, by rw [q6]; exact b, by rw [q0]; exact s, by rw [q0]; exact t⟩
theorem VW.sm {h : Hs} {i : Nat} {σ τ : Sg} (w : VW h i σ) (q : ∀ a, 45 + 12 * i ≤ a → a < 45 + 12 * i + 12 → τ.1 a = σ.1 a ∧ τ.2 a = σ.2 a) : VW h i τ := by
  obtain ⟨a, b, c⟩ := w
  have q0 := (q (45 + 12 * i) (by omega) (by omega)).1
  exact ⟨by rw [q0]; exact a, by rw [q0]; exact b, fun h1 h2 => (c h1 (by rw [← q0]; exact h2)).sm q⟩
theorem hc_gv {h : Hs} {x node : Nat} (c : HC h) (hx : x < hN h) (hn : node < gn (hg h)) : HC (hgv h x node) := by
  obtain ⟨c1, c2, c3, c4, c5, c6, c7⟩ := c
  refine ⟨c1, c2, c3, c4, c5, fun k y q => ?_, c7⟩
  have q2 : (hhd h k y || (decide (k = node) && decide (y = x))) = true := q
  rw [Bool.or_eq_true, Bool.and_eq_true, decide_eq_true_eq, decide_eq_true_eq] at q2
  rcases q2 with q2 | ⟨rfl, rfl⟩
  · exact c6 k y q2
  · exact ⟨hx, hn⟩
theorem give_ok {h : Hs} {x node : Nat} {σ : Sg} {K : Sg → Prop} (d : DC h σ) (hx : x < hN h) (hn : node < gn (hg h)) (hK : ∀ τ, DC (hgv h x node) τ → Fr [21, 45 + 12 * node] σ τ → (∀ j, j ≠ 17 → τ.1 (45 + 12 * node) j = σ.1 (45 + 12 * node) j) → τ.1 (45 + 12 * node) 17 = 1 → K τ) : sp_X7_give (nI x) (nI node) σ K := by
  obtain ⟨hC, d0, eE, ⟨hd0, hd⟩, hG, hE, h7, hW⟩ := id d
  have hn8 : node < 8 := by have := hC.2.2.1.2.2; omega
  have hx2 : x < 240 := by have := hC.2.1; omega
  have cn : (nI node).toNatClampNeg = node := cl_nI (by omega)
  unfold sp_X7_give vc_X7_give f_X7_give_e
  rw [cn]
  refine ⟨by decide, node, x, rfl, rfl, by omega, by omega, vp_in_nI hn8 (by omega), ⟨node, hn8, rfl⟩, ?_⟩
  have F1 : Fr [21] σ (bput σ 20 node x) := Fr_bput σ 20 node x
  have F2 : Fr [21, 45 + 12 * node] σ (pI (bput σ 20 node x) (45 + 12 * node) 17 1) := Fr_pI (F1.mono (by simp)) (by simp)
  have F3 : Fr [45 + 12 * node] (bput σ 20 node x) (pI (bput σ 20 node x) (45 + 12 * node) 17 1) := Fr_pI (Fr.refl _ _) (by simp)
  have nin : ∀ a, a < 45 → a ≠ 21 → a ∉ [21, 45 + 12 * node] := fun a h1 h2 q => by
    simp only [List.mem_cons, List.not_mem_nil, or_false] at q
    omega
  have sm : ∀ L : List Nat, (∀ a ∈ L, a < 45 ∧ a ≠ 21) → Sm L σ (pI (bput σ 20 node x) (45 + 12 * node) 17 1) := fun L hL a ha => F2 a (nin a (hL a ha).1 (hL a ha).2)
  refine hK _ ⟨hc_gv hC hx hn, ?_, EvP.sm (h := h) eE (sm _ (by decide)), ⟨?_, fun k y hk hy => ?_⟩, hG.sm (sm _ (by decide)), EL.sm (hb := hhb h) hE (sm _ (by decide)), ?_, WT.sm (wn := hwn h) hW (sm _ (by decide))⟩ F2 (fun j hj => ?_) ?_
  · rw [(F2 0 (nin 0 (by decide) (by decide))).1]; exact d0
  · rw [(F2 20 (nin 20 (by decide) (by decide))).1]; exact hd0
  · rw [F3.bt (by simp; omega), bt_put σ 20 node x k y (by omega) hy, hd k y hk hy]
    show (hhd h k y || decide (k = node ∧ y = x)) = (hhd h k y || (decide (k = node) && decide (y = x)))
    rw [Bool.decide_and]
  · rw [(F2 7 (nin 7 (by decide) (by decide))).1]; exact h7
  · rw [pI_at, if_neg (fun q => hj q.2), (F1 _ (by simp; omega)).1]
  · rw [pI_at, if_pos ⟨rfl, rfl⟩]
theorem dc_lt {h : Hs} {node x : Nat} {σ : Sg} (d : DC h σ) : DC (hlt h node x) (pI σ 2 node (nI x)) := by
  have F : Fr [2] σ (pI σ 2 node (nI x)) := Fr_pI (Fr.refl _ _) (by simp)
  exact DC.sm (h := hlt h node x) d (F.sm _ (by decide))
theorem hst_is (n : Nat) : ∀ i, hN (hst n i) = i ∧ gn (hg (hst n i)) = n ∧ (∀ y, y < i → gc (hg (hst n i)) y = y) ∧ ∀ k, k < i → hlat (hst n i) k = k
  | 0 => ⟨rfl, rfl, fun y hy => absurd hy (Nat.not_lt_zero _), fun y hy => absurd hy (Nat.not_lt_zero _)⟩
  | i + 1 => by
    obtain ⟨a, b, c, d⟩ := hst_is n i
    refine ⟨(show hN (hst n i) + 1 = i + 1 by rw [a]), b, fun y hy => ?_, fun k hk => ?_⟩
    · show uN (gc (hg (hst n i))) (hN (hst n i)) i y = y
      rw [a]
      by_cases e : y = i
      · subst e; rw [uN_at]
      · rw [uN_ne _ _ e]; exact c y (by omega)
    · show uN (hlat (hst n i)) i (hN (hst n i)) k = k
      rw [a]
      by_cases e : k = i
      · subst e; rw [uN_at]
      · rw [uN_ne _ _ e]; exact d k (by omega)
theorem v_X7_startAnew (x1 : Int32) (σ : Sg) (K : Sg → Prop) (h : sp_X7_startAnew x1 σ K) : vc_X7_startAnew x1 σ K := by
  obtain ⟨n, hn2, hn8, rfl, ⟨z1, z2, z3⟩, hK⟩ := h
  intro L r
  have loop : ∀ i, i ≤ n → ∀ τ : Sg, (DC (hst n i) τ ∧ (∀ k, k < i → τ.1 2 k = nI k) ∧ (∀ j, j < 8 → τ.1 (45 + 12 * j) 0 = nI j ∧ isZ (τ.1 (45 + 12 * j) 17) ∧ (j < i → τ.1 (45 + 12 * j) 17 = 1))) → L (nI i) τ := by
    refine lup (L := fun i τ => L (nI i) τ) (fun i τ => DC (hst n i) τ ∧ (∀ k, k < i → τ.1 2 k = nI k) ∧ (∀ j, j < 8 → τ.1 (45 + 12 * j) 0 = nI j ∧ isZ (τ.1 (45 + 12 * j) 17) ∧ (j < i → τ.1 (45 + 12 * j) 17 = 1))) n (fun τ ht => ?_) (fun i τ hi ht ih => ?_)
    · obtain ⟨e1, e2, e3, e4⟩ := hst_is n n
      obtain ⟨t1, t2, t3⟩ := ht
      refine r _ _ ⟨fun _ => hK τ ⟨t1, fun k hk => ?_, fun k hk => ?_, fun j hj => ?_⟩, fun q => absurd (Int32.le_refl _) q⟩
      · rw [e2] at hk
        rw [e4 k hk, e1, e3 k hk]
        exact ⟨hk, rfl⟩
      · rw [e2] at hk
        rw [t2 k hk, e4 k hk]
      · obtain ⟨j1, j2, j3⟩ := t3 j hj
        refine ⟨j1, j2, fun q1 q2 => ?_⟩
        rw [e2] at q1
        rw [j3 q1] at q2
        exact absurd q2 (by decide)
    · obtain ⟨e1, e2, e3, e4⟩ := hst_is n i
      obtain ⟨t1, t2, t3⟩ := ht
      refine r _ _ ⟨fun q => absurd q (nI_ge hi (by omega)), fun _ => ?_⟩
      have mk : MkOK (hst n i) i none none 0 := ⟨by omega, by omega, fun y hy => (by cases hy), fun y hy => (by cases hy), fun _ => ⟨rfl, fun y hy _ => by rw [e3 y (by omega)]; omega⟩, by omega, Nat.zero_le _⟩
      have ci : (nI i).toNatClampNeg = i := cl_nI (by omega)
      refine ⟨hst n i, i, none, none, 0, t1, mk, rfl, rfl, rfl, rfl, fun τ1 d1 F1 => ?_⟩
      rw [ci, e1]
      obtain ⟨τ2, h2⟩ : ∃ z, z = pI τ1 2 i (nI i) := ⟨_, rfl⟩
      rw [← h2]
      have e22 : τ2.1 2 i = nI i := by rw [h2, pI_at, if_pos ⟨rfl, rfl⟩]
      rw [e22]
      have F2 : Fr [2] τ1 τ2 := by rw [h2]; exact Fr_pI (Fr.refl _ _) (by simp)
      have d2 : DC (hlt (hmk (hst n i) i none none 0 0) i (hN (hst n i))) τ2 := by
        rw [h2, e1]
        exact dc_lt d1
      refine ⟨vp_in_nI (by omega) (by omega), vp_in_nI (by omega) (by omega), give_ok (h := hlt (hmk (hst n i) i none none 0 0) i (hN (hst n i))) d2 (show i < hN (hst n i) + 1 by omega) (show i < gn (hg (hst n i)) by omega) (fun τ3 d3 F3 g3 g17 => ?_)⟩
      rw [nI_1]
      have hnew : hst n (i + 1) = hgv (hlt (hmk (hst n i) i none none 0 0) i (hN (hst n i))) i i := by
        show hroot (hst n i) i = _
        unfold hroot
        rw [e1]
        rfl
      have f3 : ∀ a, a ≠ 21 → a ≠ 45 + 12 * i → τ3.1 a = τ2.1 a ∧ τ3.2 a = τ2.2 a := fun a h1 h2 => F3 a (by simp only [List.mem_cons, List.not_mem_nil, or_false]; omega)
      refine ih τ3 ⟨by rw [hnew]; exact d3, fun k hk => ?_, fun j hj => ?_⟩
      · rw [(f3 2 (by decide) (by omega)).1, h2, pI_at]
        by_cases e : k = i
        · subst e
          rw [if_pos ⟨rfl, rfl⟩]
        · rw [if_neg (fun q => e q.2), (F1 2 (by decide)).1]
          exact t2 k (by omega)
      · obtain ⟨j1, j2, j3⟩ := t3 j hj
        have nSM : 45 + 12 * j ∉ SM := fun q => by
          have : ∀ a ∈ SM, a < 45 := by decide
          have := this _ q
          omega
        have k1 : τ2.1 (45 + 12 * j) = τ.1 (45 + 12 * j) := by
          rw [(F2 _ (by simp; omega)).1, (F1 _ nSM).1]
        by_cases e : j = i
        · subst e
          refine ⟨by rw [g3 0 (by decide), k1]; exact j1, by rw [g17]; exact isZ_1, fun _ => g17⟩
        · rw [(f3 _ (by omega) (by omega)).1, k1]
          exact ⟨j1, j2, fun q => j3 (by omega)⟩
  show f_X7_startAnew_e (nI n) L K σ
  unfold f_X7_startAnew_e
  refine ⟨by decide, ?_⟩
  obtain ⟨τ1, h1⟩ : ∃ z, z = pR (pI σ 0 6 (nI n)) 6 (fun j => if j < 8 then 0 else (pI σ 0 6 (nI n)).1 6 j) := ⟨_, rfl⟩
  rw [← h1]
  refine ⟨by decide, ?_⟩
  obtain ⟨τ2, h2⟩ : ∃ z, z = pS (pI τ1 7 10 0) 21 (fun j => if j < 32 then 0 else (pI τ1 7 10 0).2 21 j) := ⟨_, rfl⟩
  show sp_X3_clear (nI n) (pS (pI τ1 7 10 0) 21 (fun j => if j < 32 then 0 else (pI τ1 7 10 0).2 21 j)) _
  rw [← h2]
  refine ⟨by decide, ?_⟩
  obtain ⟨τ3, h3⟩ : ∃ z, z = pI (pI (pI τ2 22 11 (nI n)) 22 12 0) 22 13 0 := ⟨_, rfl⟩
  rw [← h3]
  obtain ⟨τ4, h4⟩ : ∃ z, z = pR τ3 34 (fun j => if j < 8 then 0 else τ3.1 34 j) := ⟨_, rfl⟩
  show sp_X1_clear (nI n) (pR τ3 34 (fun j => if j < 8 then 0 else τ3.1 34 j)) _
  rw [← h4]
  obtain ⟨τ5, h5⟩ : ∃ z, z = pI (pI τ4 37 7 (nI n)) 37 6 0 := ⟨_, rfl⟩
  show L 0 (pI (pI τ4 37 7 (nI n)) 37 6 0)
  rw [← h5]
  have F5 : Fr [37] τ4 τ5 := by rw [h5]; exact Fr_pI (Fr_pI (Fr.refl _ _) (by decide)) (by decide)
  have F4 : Fr [34] τ3 τ4 := by rw [h4]; exact Fr_pR (Fr.refl _ _) (by decide)
  have F3 : Fr [22] τ2 τ3 := by rw [h3]; exact Fr_pI (Fr_pI (Fr_pI (Fr.refl _ _) (by decide)) (by decide)) (by decide)
  have F2 : Fr [7, 21] τ1 τ2 := by rw [h2]; exact Fr_pS (Fr_pI (Fr.refl _ _) (by decide)) (by decide)
  have F1 : Fr [0, 6] σ τ1 := by rw [h1]; exact Fr_pR (Fr_pI (Fr.refl _ _) (by decide)) (by decide)
  have F : Fr [0, 6, 7, 21, 22, 34, 37] σ τ5 := (F1.mono (by decide)).trans ((F2.mono (by decide)).trans ((F3.mono (by decide)).trans ((F4.mono (by decide)).trans (F5.mono (by decide)))))
  have no : ∀ {P : Nat → Prop} (x : Nat), x < hN (hst n 0) → P x := fun x hx => absurd (show x < 0 from hx) (Nat.not_lt_zero _)
  refine loop 0 (Nat.zero_le _) τ5 ⟨⟨⟨hn2, Nat.zero_le _, ⟨no, fun x y hx => absurd (show x < 0 from hx) (Nat.not_lt_zero _), hn8⟩, no, no, fun k x q => (by cases q), fun k hk => ⟨Nat.zero_le _, fun j hj => absurd (show j < 0 from hj) (Nat.not_lt_zero _), fun _ => rfl⟩⟩, ?_, ⟨no, fun x w hx => absurd (show x < 0 from hx) (Nat.not_lt_zero _), no, no⟩, ⟨?_, fun k x hk hx => ?_⟩, ⟨fun x y hx => absurd (show x < 0 from hx) (Nat.not_lt_zero _), fun x y hx => absurd (show x < 0 from hx) (Nat.not_lt_zero _), fun x y hx => absurd (show x < 0 from hx) (Nat.not_lt_zero _), no, no, fun c hc => ?_, ?_, ?_, ?_, ?_⟩, ⟨?_, ?_, no, fun y b hy => absurd (show y < 0 from hy) (Nat.not_lt_zero _), fun y b hy => absurd (show y < 0 from hy) (Nat.not_lt_zero _), fun y b hy => absurd (show y < 0 from hy) (Nat.not_lt_zero _)⟩, ?_, fun k hk => ⟨?_, fun j hj => absurd (show j < 0 from hj) (Nat.not_lt_zero _)⟩⟩, fun k hk => absurd hk (Nat.not_lt_zero _), fun j hj => ?_⟩
  · rw [(F5 0 (by decide)).1, (F4 0 (by decide)).1, (F3 0 (by decide)).1, (F2 0 (by decide)).1, h1, pR_ne _ _ (by decide), pI_at, if_pos ⟨rfl, rfl⟩]
    rfl
  · rw [(F 20 (by decide)).1]; exact z1
  · rw [F5.bt (by decide), F4.bt (by decide), F3.bt (by decide), h2, bt_clear (pI τ1 7 10 0) 20 32 k x hx (by omega)]
    rfl
  · rw [(F5 34 (by decide)).1, h4, pR_self, if_pos hc]
    rfl
  · rw [(F5 22 (by decide)).1, (F4 22 (by decide)).1, h3, pI_at, if_neg (by decide), pI_at, if_neg (by decide), pI_at, if_pos (by decide)]
    rfl
  · rw [(F5 22 (by decide)).1, (F4 22 (by decide)).1, h3, pI_at, if_neg (by decide), pI_at, if_pos (by decide)]
    rfl
  · rw [(F5 22 (by decide)).1, (F4 22 (by decide)).1, h3, pI_at, if_pos (by decide)]
    rfl
  · rw [(F 29 (by decide)).1]; exact z2
  · rw [h5, pI_at, if_pos (by decide)]
    rfl
  · rw [h5, pI_at, if_neg (by decide), pI_at, if_pos (by decide)]
    rfl
  · rw [(F5 7 (by decide)).1, (F4 7 (by decide)).1, (F3 7 (by decide)).1, h2, pS_I, pI_at, if_pos (by decide)]
    rfl
  · rw [(F5 6 (by decide)).1, (F4 6 (by decide)).1, (F3 6 (by decide)).1, (F2 6 (by decide)).1, h1, pR_self, if_pos hk]
    rfl
  · rw [(F (45 + 12 * j) (by simp; omega)).1]
    exact ⟨(z3 j hj).1, (z3 j hj).2, fun q => absurd q (Nat.not_lt_zero _)⟩
