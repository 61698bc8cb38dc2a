section PUB3
variable {h : Hs} {σ : Sg} {Px : String → Sg → Prop}
theorem vp_ext {h h2 : Hs} {i : Nat} (e : hhd h2 i = hhd h i) (e1 : hg h2 = hg h) (e2 : htm h2 = htm h) (e3 : hN h2 = hN h) (e4 : htn h2 = htn h) (e5 : htt h2 = htt h) (e6 : hta h2 = hta h) (e7 : hsh h2 = hsh h) : vp h2 i = vp h i := by
  unfold vp
  rw [e, e1, e2, e3, e4, e5, e6, e7]
theorem hc_wj {node : Nat} {to am : Int32} (c : HC h) (hn : node < gn (hg h)) (hw : hwn h node < 8) (ht : vp_in to 8) : HC (hwj h node to am) := by
  obtain ⟨c1, c2, c3, c4, c5, c6, c7⟩ := c
  refine ⟨c1, c2, c3, c4, c5, c6, fun k hk => ?_⟩
  obtain ⟨d1, d2, d3⟩ := c7 k hk
  show uN (hwn h) node (hwn h node + 1) k ≤ 8 ∧ (∀ j, j < uN (hwn h) node (hwn h node + 1) k → vp_in (uN (hwt h) node (uN (hwt h node) (hwn h node) to) k j) 8) ∧ (gn (hg h) ≤ k → uN (hwn h) node (hwn h node + 1) k = 0)
  by_cases e : k = node
  · subst e
    rw [uN_at, uN_at]
    refine ⟨by omega, fun j hj => ?_, fun q => by omega⟩
    by_cases ej : j = hwn h k
    · subst ej; rw [uN_at]; exact ht
    · rw [uN_ne _ _ ej]; exact d2 j (by omega)
  · rw [uN_ne _ _ e, uN_ne _ _ e]
    exact ⟨d1, d2, d3⟩
theorem g_submit {K : Int32 → Sg → Prop} {x y a : Int32} (d : DI h σ) (hK : (opSubmit h x y a).1 = 0 → ∀ τ, DI (opSubmit h x y a).2.2 τ → K (opSubmit h x y a).2.1 τ) (h1 : (opSubmit h x y a).1 = 1 → Px xIA σ) (h2 : (opSubmit h x y a).1 = 2 → Px xIO σ) : sp_X7_submit x y a σ K Px := by
  obtain ⟨n1, n2, n3, n4, n5⟩ := di_n d
  obtain ⟨hC, d0, dE, dH, hG, hE, h7, hW⟩ := id d.1
  refine node_op (by omega) n1 (fun i hi hx hn => ?_) (fun hn => ⟨fun _ => h1 (by unfold opSubmit; rw [hn]), fun q => absurd rfl q⟩)
  refine ⟨fun q => absurd q one_ne, fun _ => node_op (by omega) n1 (fun j hj hy hn2 => ?_) (fun hn2 => ⟨fun _ => h1 (by unfold opSubmit; rw [hn, hn2]), fun q => absurd rfl q⟩)⟩
  have e0 : opSubmit h x y a = if 0 ≤ a ∧ a ≤ 1000000 then (if hwn h i = 8 then (2, 0, h) else (0, nI (hwn h i + 1), hwj h i y a)) else (1, 0, h) := by unfold opSubmit; rw [hn, hn2]
  have no : (a < 0 ∨ ¬ a ≤ 1000000) → Px xIA σ := fun q => h1 (by
    rw [e0, if_neg (fun z => by
      rcases q with q | q
      · exact Int32.not_le.mpr q z.1
      · exact q z.2)])
  refine ⟨fun q => absurd q one_ne, fun _ => ⟨fun c => no (Or.inl c), fun c => ⟨fun c2 => ?_, fun c2 => no (Or.inr c2)⟩⟩⟩
  rw [if_pos ⟨Int32.not_lt.mp c, c2⟩] at e0
  subst hx hy
  have ci : (nI i).toNatClampNeg = i := cl_nI (by omega)
  have hw8 := (hC.2.2.2.2.2.2 i (by omega)).1
  obtain ⟨w6, w45⟩ := hW i (by omega)
  have hv : vp_in (nI i) 8 := vp_in_nI (by omega) (by omega)
  show f_X6_isFull_e (nI i) _ σ
  unfold f_X6_isFull_e
  rw [ci, w6]
  refine ⟨hv, fun q => ⟨isZ_0, fun _ => ?_, fun z => absurd rfl z⟩, fun q => ⟨isZ_1, fun z => absurd z one_ne, fun _ => h2 ?_⟩⟩
  · have q8 : ¬ hwn h i = 8 := fun z => q (by rw [z]; rfl)
    rw [e0, if_neg q8] at hK
    have e3 : nI i * 8 + nI (hwn h i) = nI (i * 8 + hwn h i) := by rw [show (8 : Int32) = nI 8 from rfl, pk_mul, nI_add]
    unfold sp_X6_join vc_X6_join f_X6_join_e
    rw [ci, w6, e3, cl_nI (show i * 8 + hwn h i < 2 ^ 31 by omega)]
    have hp : vp_in (nI (i * 8 + hwn h i)) 64 := vp_in_nI (by omega) (by omega)
    refine ⟨hv, hp, hp, hv, hv, hv, ?_⟩
    obtain ⟨τ2, t2⟩ : ∃ z, z = pI (pI σ 4 (i * 8 + hwn h i) (nI j)) 5 (i * 8 + hwn h i) a := ⟨_, rfl⟩
    rw [← t2]
    have e6 : τ2.1 6 = σ.1 6 := by rw [t2, pI_ne _ _ _ (by decide), pI_ne _ _ _ (by decide)]
    have e4 : τ2.1 4 = upd (σ.1 4) (i * 8 + hwn h i) (nI j) := by rw [t2, pI_ne _ _ _ (by decide), pI_upd]
    have e5 : τ2.1 5 = upd (σ.1 5) (i * 8 + hwn h i) a := by rw [t2, pI_upd, pI_ne _ _ _ (by decide)]
    rw [e6, w6, nI_1]
    obtain ⟨τ3, t3⟩ : ∃ z, z = pI τ2 6 i (nI (hwn h i + 1)) := ⟨_, rfl⟩
    rw [← t3]
    have F : Fr [4, 5, 6] σ τ3 := by rw [t3, t2]; exact Fr_pI (Fr_pI (Fr_pI (Fr.refl _ _) (by decide)) (by decide)) (by decide)
    have g6 : τ3.1 6 = upd (σ.1 6) i (nI (hwn h i + 1)) := by rw [t3, pI_upd, e6]
    have g4 : τ3.1 4 = upd (σ.1 4) (i * 8 + hwn h i) (nI j) := by rw [t3, pI_ne _ _ _ (by decide), e4]
    have g5 : τ3.1 5 = upd (σ.1 5) (i * 8 + hwn h i) a := by rw [t3, pI_ne _ _ _ (by decide), e5]
    have e7 : τ3.1 6 i = nI (hwn h i + 1) := by rw [g6]; exact if_pos rfl
    rw [e7]
    have W3 : WT (uN (hwn h) i (hwn h i + 1)) (uN (hwt h) i (uN (hwt h i) (hwn h i) (nI j))) (uN (hwa h) i (uN (hwa h i) (hwn h i) a)) τ3 := by
      intro k hk
      obtain ⟨v6, v45⟩ := hW k hk
      have hk8 := (hC.2.2.2.2.2.2 k hk).1
      rw [g6, g4, g5]
      by_cases e : k = i
      · subst e
        rw [uN_at, uN_at, uN_at]
        refine ⟨if_pos rfl, fun q hq => ?_⟩
        unfold upd
        by_cases eq : q = hwn h k
        · subst eq
          rw [uN_at, uN_at, if_pos rfl, if_pos rfl]
          exact ⟨rfl, rfl⟩
        · rw [uN_ne _ _ eq, uN_ne _ _ eq, if_neg (by omega), if_neg (by omega)]
          exact v45 q (by omega)
      · rw [uN_ne _ _ e, uN_ne _ _ e, uN_ne _ _ e]
        refine ⟨(if_neg e).trans v6, fun q hq => ?_⟩
        unfold upd
        rw [if_neg (by omega), if_neg (by omega)]
        exact v45 q hq
    have smF : ∀ L : List Nat, (∀ a ∈ L, a ∉ [4, 5, 6]) → Sm L σ τ3 := fun L hL => F.sm L hL
    refine hK rfl τ3 ⟨⟨hc_wj hC hi (by omega) (vp_in_nI (by omega) (by omega)), ?_, EvP.sm (h := h) dE (smF _ (by decide)), ⟨?_, fun k x hk hx => ?_⟩, hG.sm (smF _ (by decide)), EL.sm (hb := hhb h) hE (smF _ (by decide)), ?_, W3⟩, d.2.1, fun k hk => ?_, fun k hk => VW.sm (h := h) (d.2.2.2 k hk) (fun a ha _ => F a (by simp only [List.mem_cons, List.not_mem_nil, or_false]; omega))⟩
    · rw [(F 0 (by decide)).1]; exact d0
    · rw [(F 20 (by decide)).1]; exact dH.1
    · rw [F.bt (by decide)]; exact dH.2 k x hk hx
    · rw [(F 7 (by decide)).1]; exact h7
    · rw [(F 2 (by decide)).1]; exact d.2.2.1 k hk
  · have q8 : hwn h i = 8 := (nI_eq (by omega) (by decide)).mp q
    rw [e0, if_pos q8]
/-- an event made, given to a node: the views; the latest events are told apart -/
theorem mkgv_ok {H : Hs} {node : Nat} {c : Nat} {s o : Option Nat} {t : Int64} {k : Nat} {τ : Sg} {K : Int32 → Sg → Prop} (hD : DC H τ) (m : MkOK H c s o k) (hn : node < gn (hg H)) (hV : ∀ i, i < 8 → i ≠ node → VW H i τ) (hVn : τ.1 (45 + 12 * node) 0 = nI node) (hK : ∀ τ', DC (hgv (hmk H c s o t k) (hN H) node) τ' → (∀ i, i < 8 → VW (hgv (hmk H c s o t k) (hN H) node) i τ') → τ'.1 2 = τ.1 2 → K (nI (hN H)) τ') : sp_X7_makeEvent (nI c) (nO s) (nO o) t (nI k) τ (fun r12 u13 => sp_X7_give r12 (nI node) u13 (fun u15 => K r12 u15)) := by
  have hC := hD.1
  refine ⟨H, c, s, o, k, hD, m, rfl, rfl, rfl, rfl, fun τ1 d1 F1 => ?_⟩
  refine give_ok (h := hmk H c s o t k) d1 (Nat.lt_succ_self _) hn (fun τ2 d2 F2 g2 g17 => hK τ2 d2 (fun i hi => ?_) ?_)
  · have hi1 : ∀ a, 45 ≤ a → τ1.1 a = τ.1 a ∧ τ1.2 a = τ.2 a := fun a ha => F1 a (fun q => by
      have : ∀ a ∈ SM, a < 45 := by decide
      have := this a q
      omega)
    by_cases e : i = node
    · subst e
      refine ⟨by rw [g2 0 (by decide), (hi1 _ (by omega)).1]; exact hVn, by rw [g17]; exact isZ_1, fun _ q => ?_⟩
      rw [g17] at q
      exact absurd q (by decide)
    · have w0 := hV i hi e
      have w1 : VW H i τ2 := w0.sm (fun a h1 h2 => by
        have f2 := F2 a (by simp only [List.mem_cons, List.not_mem_nil, or_false]; omega)
        exact ⟨f2.1.trans (hi1 a (by omega)).1, f2.2.trans (hi1 a (by omega)).2⟩)
      obtain ⟨w2, w3, w4⟩ := w1
      refine ⟨w2, w3, fun q1 q2 => ?_⟩
      have v1 := (w4 q1 q2).grow (av_mk (c := c) (s := s) (o := o) (t := t) (k := k) hC i) hC.2.1 (show hN H + 1 ≤ 240 by have := m.1; omega)
      have ev : vp (hgv (hmk H c s o t k) (hN H) node) i = vp (hmk H c s o t k) i := vp_ext (by
        funext y
        show (hhd (hmk H c s o t k) i y || (decide (i = node) && decide (y = hN H))) = hhd (hmk H c s o t k) i y
        rw [decide_eq_false e]
        simp only [Bool.false_and, Bool.or_false]) rfl rfl rfl rfl rfl rfl rfl
      rw [ev]
      exact v1
  · rw [(F2 2 (by simp only [List.mem_cons, List.not_mem_nil, or_false]; omega)).1, (F1 2 (by decide)).1]
theorem imin_nI2 {a b : Nat} (ha : a < 2 ^ 31) (hb : b < 2 ^ 31) : imin (nI a) (nI b) = nI (min a b) := by
  unfold imin
  by_cases q : b < a
  · rw [if_pos (nI_lt q ha), Nat.min_eq_right (by omega)]
  · rw [if_neg (nI_nlt (by omega) hb), Nat.min_eq_left (by omega)]
theorem hc_jn {to fr : Nat} (c : HC h) (ht : to < gn (hg h)) : HC (hjn h to fr) := by
  obtain ⟨c1, c2, c3, c4, c5, c6, c7⟩ := c
  refine ⟨c1, c2, c3, c4, c5, fun k y q => ?_, c7⟩
  have q2 : (hhd h k y || (decide (k = to) && hhd h fr y)) = true := q
  rw [Bool.or_eq_true, Bool.and_eq_true, decide_eq_true_eq] at q2
  rcases q2 with q2 | ⟨rfl, q2⟩
  · exact c6 k y q2
  · exact ⟨(c6 fr y q2).1, ht⟩
theorem g_sync {K : Int32 → Sg → Prop} {x y : Int32} {t : Int64} (d : DI h σ) (hK : (opSync h x y t).1 = 0 → ∀ τ, DI (opSync h x y t).2.2 τ → K (opSync h x y t).2.1 τ) (h1 : (opSync h x y t).1 = 1 → Px xIA σ) (h2 : (opSync h x y t).1 = 2 → Px xIO σ) : sp_X7_sync x y t σ K Px := by
  obtain ⟨n1, n2, n3, n4, n5⟩ := di_n d
  obtain ⟨hC, d0, dE, dH, hG, hE, h7, hW⟩ := id d.1
  refine node_op (by omega) n1 (fun i hi hx hn => ?_) (fun hn => ⟨fun _ => h1 (by unfold opSync; rw [hn]), fun q => absurd rfl q⟩)
  refine ⟨fun q => absurd q one_ne, fun _ => node_op (by omega) n1 (fun j hj hy hn2 => ?_) (fun hn2 => ⟨fun _ => h1 (by unfold opSync; rw [hn, hn2]), fun q => absurd rfl q⟩)⟩
  have e0 : opSync h x y t = if i = j then (1, 0, h) else if hN h = 240 then (2, 0, h) else (0, nI (hN h), hsync h i j t) := by unfold opSync; rw [hn, hn2]
  subst hx hy
  refine ⟨fun q => absurd q one_ne, fun _ => ⟨fun q => ?_, fun q => h1 (by rw [e0, if_pos ((nI_eq (by omega) (by omega)).mp q)])⟩⟩
  have hij : ¬ i = j := fun z => q (by rw [z])
  rw [if_neg hij] at e0
  show f_X2_isFull_e _ σ
  unfold f_X2_isFull_e
  rw [n4]
  refine ⟨fun q => ⟨isZ_0, fun _ => ?_, fun z => absurd rfl z⟩, fun q => ⟨isZ_1, fun z => absurd z one_ne, fun _ => h2 (by rw [e0, if_pos ((nI_eq (by omega) (by decide)).mp q)])⟩⟩
  have hNlt : hN h < 240 := by
    have : hN h ≠ 240 := fun z => q (by rw [z]; rfl)
    omega
  rw [if_neg (by omega)] at e0
  rw [e0] at hK
  have ci : (nI i).toNatClampNeg = i := cl_nI (by omega)
  have cj : (nI j).toNatClampNeg = j := cl_nI (by omega)
  have vi : vp_in (nI i) 8 := vp_in_nI (by omega) (by omega)
  have vj : vp_in (nI j) 8 := vp_in_nI (by omega) (by omega)
  refine ⟨by decide, by decide, j, i, rfl, rfl, by omega, by omega, ?_⟩
  obtain ⟨τ, ht⟩ : ∃ z, z = bjoin σ 20 j 20 i := ⟨_, rfl⟩
  rw [← ht]
  have F : Fr [21] σ τ := by rw [ht]; exact Fr_bjoin σ 20 j 20 i
  have g2 : τ.1 2 = σ.1 2 := (F 2 (by decide)).1
  rw [ci, cj, g2, d.2.2.1 j hj, d.2.2.1 i hi, (F 6 (by decide)).1, (hW j (by omega)).1, show (3 : Int32) = nI 3 from rfl, imin_nI2 (by have := (hC.2.2.2.2.2.2 j (by omega)).1; omega) (by decide)]
  refine ⟨vj, vi, vj, ?_⟩
  have D1 : DC (hjn h j i) τ := by
    refine ⟨hc_jn hC hj, ?_, EvP.sm (h := h) dE (F.sm _ (by decide)), ⟨?_, fun k y hk hy => ?_⟩, hG.sm (F.sm _ (by decide)), EL.sm (hb := hhb h) hE (F.sm _ (by decide)), ?_, WT.sm (wn := hwn h) hW (F.sm _ (by decide))⟩
    · rw [(F 0 (by decide)).1]; exact d0
    · rw [(F 20 (by decide)).1]; exact dH.1
    · rw [ht, bt_join σ 20 j 20 i k y hy]
      show _ = (hhd h k y || (decide (k = j) && hhd h i y))
      by_cases e : k = j
      · subst e
        rw [if_pos rfl, decide_eq_true rfl, Bool.true_and, dH.2 k y hk hy, dH.2 i y (by omega) hy]
      · rw [if_neg e, decide_eq_false e, dH.2 k y hk hy]
        simp only [Bool.false_and, Bool.or_false]
    · rw [(F 7 (by decide)).1]; exact h7
  obtain ⟨l1, l2⟩ := d.2.1 j hj
  obtain ⟨l3, l4⟩ := d.2.1 i hi
  have M : MkOK (hjn h j i) j (some (hlat h j)) (some (hlat h i)) (min (hwn h j) 3) := ⟨hNlt, hj, fun y hy => (by cases hy; exact ⟨l1, l2⟩), fun y hy => (by cases hy; exact l3), fun q => (by cases q), Nat.min_le_right _ _, Nat.min_le_left _ _⟩
  refine mkgv_ok (H := hjn h j i) (node := j) (s := some (hlat h j)) (o := some (hlat h i)) (K := fun r12 u15 => vp_in (nI j) 8 ∧ K r12 (pI u15 2 j r12)) D1 M hj (fun k hk hkj => ?_) ?_ (fun τ' d' v' f2 => ⟨vj, ?_⟩)
  · have w := (d.2.2.2 k hk).sm (τ := τ) (fun a ha _ => F a (by simp only [List.mem_cons, List.not_mem_nil, or_false]; omega))
    obtain ⟨w1, w2, w3⟩ := w
    refine ⟨w1, w2, fun q1 q2 => ?_⟩
    have ev : vp (hjn h j i) k = vp h k := vp_ext (by
      funext y
      show (hhd h k y || (decide (k = j) && hhd h i y)) = hhd h k y
      rw [decide_eq_false hkj]
      simp only [Bool.false_and, Bool.or_false]) rfl rfl rfl rfl rfl rfl rfl
    rw [ev]
    exact w3 q1 q2
  · rw [(F _ (by simp only [List.mem_cons, List.not_mem_nil, or_false]; omega)).1]
    exact (d.2.2.2 j (by omega)).1
  · obtain ⟨τ3, h3⟩ : ∃ z, z = pI τ' 2 j (nI (hN (hjn h j i))) := ⟨_, rfl⟩
    rw [← h3]
    have F3 : Fr [2] τ' τ3 := by rw [h3]; exact Fr_pI (Fr.refl _ _) (by simp)
    refine hK rfl τ3 ⟨?_, fun k hk => ?_, fun k hk => ?_, fun k hk => ?_⟩
    · rw [h3]
      exact dc_lt d'
    · show uN (hlat h) j (hN h) k < hN h + 1 ∧ uN (gc (hg h)) (hN h) j (uN (hlat h) j (hN h) k) = k
      by_cases e : k = j
      · subst e
        rw [uN_at, uN_at]
        exact ⟨Nat.lt_succ_self _, rfl⟩
      · obtain ⟨q1, q2⟩ := d.2.1 k hk
        rw [uN_ne _ _ e, uN_ne _ _ (by omega)]
        exact ⟨by omega, q2⟩
    · show τ3.1 2 k = nI (uN (hlat h) j (hN h) k)
      rw [h3, pI_at]
      by_cases e : k = j
      · subst e
        rw [if_pos ⟨rfl, rfl⟩, uN_at]
        rfl
      · rw [if_neg (fun z => e z.2), uN_ne _ _ e, f2, g2]
        exact d.2.2.1 k hk
    · exact VW.sm (h := hgv (hmk (hjn h j i) j (some (hlat h j)) (some (hlat h i)) t (min (hwn h j) 3)) (hN (hjn h j i)) j) (v' k hk) (fun a ha _ => F3 a (by simp only [List.mem_cons, List.not_mem_nil, or_false]; omega))
end PUB3
