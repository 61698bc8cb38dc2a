theorem wit_none {g : Gr} {x : Nat} (h : gs g x = none) : wit g x = true := by
  unfold wit witF
  rw [h]
theorem wit_some {g : Gr} {x y : Nat} (h : gs g x = some y) : wit g x = decide (rnd g y < rnd g x) := by
  unfold wit witF
  rw [h]
set_option maxHeartbeats 8000000 in
theorem v_X8_make (x1 x2 x3 : Int32) (x4 : Int64) (σ : Sg) (K : Int32 → Sg → Prop) (h : sp_X8_make x1 x2 x3 x4 σ K) : vc_X8_make x1 x2 x3 x4 σ K := by
  obtain ⟨H, c, s, o, k, ⟨hC, hT, hS, hR, hV, h02, hH, hTm, hTx, hpr, hfi⟩, m, rfl, rfl, rfl, hk0, pn4, htx, hK⟩ := h
  obtain ⟨⟨hN240, hP, hO⟩, hn, hE, hA, hF⟩ := id hT
  obtain ⟨m1, m2, m3, m4, m5, m6, m7⟩ := id m
  have hC2 := hc_mk (t := x4) hC m
  have hP2 := pok_mk (t := x4) hC m
  obtain ⟨g2, hg2⟩ : ∃ g2, g2 = hg (hmk H c s o x4 k) := ⟨_, rfl⟩
  obtain ⟨N, eN⟩ : ∃ N, N = hN H := ⟨_, rfl⟩
  have hAg : AG (hg H) g2 N := by rw [hg2, eN]; exact ag_mk
  obtain ⟨n1, n2, n3, n4, n5, n6, n7⟩ := mk_new (h := H) (c := c) (s := s) (o := o) (t := x4) (k := k)
  rw [← hg2, ← eN] at n1 n2 n3
  rw [← eN] at n4 n5 n6 n7
  rw [← hg2, ← eN] at hP2
  rw [← eN] at hN240 hP hO hE hA hF hS hR hV h02 hH hTm hTx pn4 htx hK m1 m3 m4
  have hg8 : gn g2 ≤ 8 := hP2.2.2
  have hgn : gn g2 = gn (hg H) := hAg.1
  rw [← hgn] at hn m2
  have hO2 : ∀ x, x < N + 1 → gc g2 x < gn g2 := fun x hx => by
    by_cases e : x = N
    · subst e; rw [n1]; exact m2
    · rw [(hAg.2 x (by omega)).1, hgn]; exact hO x (by omega)
  have MO2 : MO g2 (N + 1) := ⟨by omega, hP2, hO2⟩
  intro L67 L157 L242 r67 r157 r242
  have cN : (nI N).toNatClampNeg = N := cl_nI (by omega)
  have vN : vp_in (nI N) 240 := v240 m1
  have hcN8 : c < 8 := by omega
  -- once the scalars are set
  have main : ∀ σ1 : Sg, (∀ a, σ1.1 1 a = if a = N then nI c else σ.1 1 a) → (∀ a, σ1.1 2 a = if a = N then nO s else σ.1 2 a) → (∀ a, σ1.1 3 a = if a = N then nO o else σ.1 3 a) → (∀ a, σ1.2 13 a = if a = N then x4 else σ.2 13 a) → σ1.1 4 N = nI k → (∀ a, a ≠ N → σ1.1 4 a = σ.1 4 a) → σ1.1 0 2 = nI (N + 1) → K0 [2, 22, 36] σ σ1 → Fr [0, 1, 2, 3, 4, 13] σ σ1 → f_X8_make_58 (nI c) (nO s) (nO o) x4 L67 L157 L242 K (nI N) σ1 := by
    intro σ1 a1 a2 a3 a13 a4 a4' a02 aK aF
    refine ⟨N, k, s, o, rfl, m1, m6, a4, by rw [a2, if_pos rfl], by rw [a3, if_pos rfl], fun y hy => by have := (m3 y hy).1; omega, fun y hy => by have := m4 y hy; omega, fun j hj => by rw [(aF 30 (by decide)).1]; exact hpr j hj, fun j hj => by rw [(aF 32 (by decide)).1]; exact hfi j hj, fun σ2 b8 bK bF => ?_⟩
    have g8 : σ1.1 8 = σ.1 8 := (aF 8 (by decide)).1
    have hev : evL (σ1.1 1 N) (ph (σ1.1 8) s) (ph (σ1.1 8) o) (σ1.2 13 N) k (fun i => σ1.1 5 (N * 3 + i)) (fun i => σ1.1 6 (N * 3 + i)) = evL (nI c) (phO (hsh H) s) (phO (hsh H) o) x4 k (hwt H c) (hwa H c) := by
      rw [a1, a13, if_pos rfl, if_pos rfl, g8, (aF 5 (by decide)).1, (aF 6 (by decide)).1]
      have pp : ∀ q : Option Nat, (∀ y, q = some y → y < N) → ∀ w, w < 8 → ph (σ.1 8) q w = phO (hsh H) q w := fun q hq w hw => by
        cases q with
        | none => rfl
        | some y => exact hH y w (hq y rfl) hw
      exact evL_congr (pp s (fun y hy => (m3 y hy).1)) (pp o m4) (fun i hi => htx i hi)
    have hnew := hsh_new (t := x4) m
    rw [← eN] at hnew
    rw [hev, ← hnew] at b8
    have F2 : Fr [0, 1, 2, 3, 4, 8, 13, 28, 29, 31] σ σ2 := (aF.mono (by decide)).trans (bF.mono (by decide))
    have E2 : MEv g2 (N + 1) σ2 := fun x hx => by
      rw [(bF 1 (by decide)).1, (bF 2 (by decide)).1, (bF 3 (by decide)).1, a1, a2, a3]
      by_cases e : x = N
      · subst e
        rw [if_pos rfl, if_pos rfl, if_pos rfl, n1, n2, n3]
        exact ⟨rfl, rfl, rfl⟩
      · obtain ⟨o1, o2, o3⟩ := hAg.2 x (by omega)
        rw [if_neg e, if_neg e, if_neg e, o1, o2, o3]
        exact hE x (by omega)
    have hn2 : σ2.1 0 1 = nI (gn g2) := by
      rw [bK 1 (by decide), aK 1 (by decide)]; exact hn
    have anO : ∀ x, x < N → anc g2 x = anc (hg H) x := fun x hx => ag_anc hAg hx
    -- the end
    have done : ∀ τ : Sg, Fr [14, 16, 18] σ2 τ → MA g2 (N + 1) τ → MFk g2 (N + 1) τ → MS g2 (N + 1) τ → ∀ b, b = wit g2 N → K (nI N) (pI (pI (pI τ 7 N (nI (rnd g2 N))) 17 N (bI b)) 0 22 (-1)) := by
      intro τ f tA tF tS b hb
      obtain ⟨φ, hφ⟩ : ∃ z, z = pI (pI (pI τ 7 N (nI (rnd g2 N))) 17 N (bI b)) 0 22 (-1) := ⟨_, rfl⟩
      rw [← hφ]
      have Fφ : Fr [0, 7, 17] τ φ := by rw [hφ]; exact Fr_pI (Fr_pI (Fr_pI (Fr.refl _ _) (by decide)) (by decide)) (by decide)
      have Kφ : K0 [22] τ φ := by rw [hφ]; exact K0_pI (K0_pI2 (K0_pI2 K0.refl (by decide)) (by decide)) (by decide)
      have F3 : Fr [0, 7, 14, 16, 17, 18] σ2 φ := (f.mono (by decide)).trans (Fφ.mono (by decide))
      have K3 : K0 [22] σ2 φ := (K0.of f (by decide)).trans Kφ
      have e7 : φ.1 7 = upd (τ.1 7) N (nI (rnd g2 N)) := by rw [hφ, pI_ne _ _ _ (by decide), pI_ne _ _ _ (by decide), pI_upd]
      have e17 : φ.1 17 = upd (τ.1 17) N (bI b) := by rw [hφ, pI_ne _ _ _ (by decide), pI_upd, pI_ne _ _ _ (by decide)]
      have q2 : ∀ a, a ∉ [0, 7, 14, 16, 17, 18] → a ∉ [0, 8, 28, 29, 31] → φ.1 a = σ1.1 a ∧ φ.2 a = σ1.2 a := fun a h1 h2 => ⟨(F3 a h1).1.trans (bF a h2).1, (F3 a h1).2.trans (bF a h2).2⟩
      have T2 : MT g2 (N + 1) φ := ⟨MO2, by rw [K3 1 (by decide)]; exact hn2, fun x hx => by rw [(F3 1 (by decide)).1, (F3 2 (by decide)).1, (F3 3 (by decide)).1]; exact E2 x hx, fun x y hx hy => by rw [(Fφ 14 (by decide)).1]; exact tA x y hx hy, fun x d hx hd => by rw [(Fφ 16 (by decide)).1]; exact tF x d hx hd⟩
      have H2 : ∀ x w, x < N + 1 → w < 8 → φ.1 8 (x * 8 + w) = hsh (hmk H c s o x4 k) x w := fun x w hx hw => by
        rw [(F3 8 (by decide)).1, b8]
        by_cases e : x = N
        · subst e
          rw [if_pos (by omega), Nat.add_sub_cancel_left]
        · rw [if_neg (by omega), g8, hsh_mk x (by omega)]
          exact hH x w (by omega) hw
      have eN1 : hN (hmk H c s o x4 k) = N + 1 := by rw [eN]; rfl
      have hb2 : ∀ y, y < N → hhb (hmk H c s o x4 k) y = hhb H y := fun y hy => by
        unfold hhb
        rw [hsh_mk y (by omega)]
      refine hK φ ⟨hC2, ?_, ?_, ?_, ?_, ?_, ?_, ?_, ?_, ?_, ?_⟩ (by rw [hφ, pI_at, if_pos ⟨rfl, rfl⟩]) ((aK.trans (bK.mono (by decide))).trans (K3.mono (by decide))) ((F2.mono (by decide)).trans (F3.mono (by decide)))
      · rw [← hg2, eN1]; exact T2
      · rw [← hg2, eN1]; exact tS.sm (Fφ 18 (by decide)).1
      · rw [← hg2, eN1]
        intro x hx
        rw [e7, e17]
        unfold upd
        by_cases e : x = N
        · subst e
          rw [if_pos rfl, if_pos rfl, hb]
          exact ⟨rfl, rfl⟩
        · rw [if_neg e, if_neg e, (f 7 (by decide)).1, (f 17 (by decide)).1, (F2 7 (by decide)).1, (F2 17 (by decide)).1, ag_rnd hAg (by omega), ag_wit hAg hP (by omega)]
          exact hR x (by omega)
      · rw [← hg2, eN1]
        intro y x hy hx
        rw [(F3 19 (by decide)).1, (F2 19 (by decide)).1]
        rcases hV y x hy hx with e | ⟨e1, e2, e3⟩
        · exact Or.inl e
        · refine Or.inr ⟨by omega, by omega, ?_⟩
          rw [e3, ag_vt hAg hP hb2 e2 e1]
      · rw [eN1, K3 2 (by decide), bK 2 (by decide)]
        exact a02
      · rw [eN1]; exact H2
      · rw [eN1]
        intro x hx
        rw [(q2 13 (by decide) (by decide)).2, a13]
        by_cases e : x = N
        · subst e
          rw [if_pos rfl, n4]
        · rw [if_neg e, hTm x (by omega)]
          exact (uN_ne _ _ (by omega)).symm
      · rw [eN1]
        intro x hx
        rw [(q2 4 (by decide) (by decide)).1, (q2 5 (by decide) (by decide)).1, (q2 6 (by decide) (by decide)).1, (aF 5 (by decide)).1, (aF 6 (by decide)).1]
        by_cases e : x = N
        · subst e
          rw [n5, n6, n7]
          exact ⟨a4, htx⟩
        · rw [a4' x e, show htn (hmk H c s o x4 k) x = htn H x from uN_ne _ _ (by omega), show htt (hmk H c s o x4 k) x = htt H x from uN_ne _ _ (by omega), show hta (hmk H c s o x4 k) x = hta H x from uN_ne _ _ (by omega)]
          exact hTx x (by omega)
      · intro j hj
        rw [(F3 30 (by decide)).1, (F2 30 (by decide)).1]; exact hpr j hj
      · intro j hj
        rw [(F3 32 (by decide)).1, (F2 32 (by decide)).1]; exact hfi j hj
    have e317 : ∀ τ : Sg, Fr [14, 16, 18] σ2 τ → MA g2 (N + 1) τ → MFk g2 (N + 1) τ → MS g2 (N + 1) τ → f_X8_make_317 (nI c) (nO s) (nO o) x4 L67 L157 L242 K (nI N) (nI (rnd g2 N)) τ := by
      intro τ f tA tF tS
      have dn := done τ f tA tF tS
      unfold f_X8_make_317 f_X8_make_347 f_X8_make_352
      rw [cN]
      refine ⟨vN, fun q => ⟨vN, isZ_1, dn true ?_⟩, fun q => ?_⟩
      · cases hs : s with
        | none => exact (wit_none (n2.trans hs)).symm
        | some y =>
          rw [hs] at q
          exact absurd q (nI_pos (by have := (m3 y hs).1; omega))
      · cases hs : s with
        | none => rw [hs] at q; exact absurd (by decide) q
        | some y =>
          have hy := (m3 y hs).1
          have cy : (nI y).toNatClampNeg = y := cl_nI (by omega)
          have e7 : (pI τ 7 N (nI (rnd g2 N))).1 7 y = nI (rnd g2 y) := by
            rw [pI_at, if_neg (fun z => by omega), (f 7 (by decide)).1, (F2 7 (by decide)).1, (hR y hy).1, ag_rnd hAg hy]
          have ry := rnd_pos hP2 y (by omega)
          have rN := rnd_pos hP2 N (by omega)
          have hw := wit_some (n2.trans hs)
          show vp_in (nI y) 240 ∧ _
          rw [show (nO (some y)).toNatClampNeg = y from cy, e7]
          refine ⟨v240 (by omega), fun c1 => ⟨vN, isZ_0, dn false ?_⟩, fun c1 => ⟨vN, isZ_1, dn true ?_⟩⟩
          · have : rnd g2 N ≤ rnd g2 y := (nI_leI (by omega) (by omega)).mp c1
            rw [hw]
            exact (decide_eq_false (by omega)).symm
          · have : ¬ rnd g2 N ≤ rnd g2 y := fun z => c1 (nI_le z (by omega))
            rw [hw]
            exact (decide_eq_true (by omega)).symm
    -- the round
    have e242 : ∀ sp, s = some sp → ∀ r, r = max (rnd g2 sp) (oN o (rnd g2)) → ∀ w, w ≤ N → ∀ z : Nat × Sg, (MKb z.1 (fun d => anyN (fun w => witF g2 (rnd g2) w && (decide (rnd g2 w = r) && (str g2 N w && decide (gc g2 w = d)))) w) ∧ Fr [14, 16, 18] σ2 z.2 ∧ MA g2 (N + 1) z.2 ∧ MFk g2 (N + 1) z.2 ∧ MS g2 (N + 1) z.2) → L242 (nI N) (nI r) (nI z.1) (nI w) z.2 := by
      intro sp hsp r hr
      have hr31 : r < 2 ^ 31 := by
        have := (rnd_pos hP2 sp (by have := (m3 sp hsp).1; omega)).2
        have : oN o (rnd g2) ≤ 241 := by
          cases ho : o with
          | none => exact Nat.zero_le _
          | some y =>
            have := (rnd_pos hP2 y (by have := m4 y ho; omega)).2
            have := m4 y ho
            show rnd g2 y ≤ 241
            omega
        have := (m3 sp hsp).1
        omega
      have er := rnd_eq hP2 (show N < N + 1 by omega)
      rw [n2, n3, hsp] at er
      simp only at er
      rw [← hr] at er
      refine lup (S := Nat × Sg) (L := fun w z => L242 (nI N) (nI r) (nI z.1) (nI w) z.2) (fun w z => MKb z.1 (fun d => anyN (fun w => witF g2 (rnd g2) w && (decide (rnd g2 w = r) && (str g2 N w && decide (gc g2 w = d)))) w) ∧ Fr [14, 16, 18] σ2 z.2 ∧ MA g2 (N + 1) z.2 ∧ MFk g2 (N + 1) z.2 ∧ MS g2 (N + 1) z.2) N (fun z ht => ?_) (fun w z hw ht ih => ?_)
      · obtain ⟨b1, b2, b3, b4, b5⟩ := ht
        obtain ⟨mm, τ⟩ := z
        refine r242 _ _ _ _ _ ⟨fun _ => ⟨mm, b1.1, rfl, mmost_ok (g := g2) hg8 ?_ (by have := pop8_le mm; omega) ?_⟩, fun q => absurd (Int32.le_refl _) q⟩
        · rw [(b2 0 (by decide)).1]; exact hn2
        · have em : most g2 (pop8 mm) = most g2 (cnt (rmask g2 (rnd g2) N r) 8) := by
            rw [mk_pop b1]
            rfl
          rw [em]
          refine ⟨fun q => ?_, fun q => ?_⟩
          · rw [bI_0] at q
            rw [if_neg (by rw [q]; decide)] at er
            rw [← er]
            exact e317 τ b2 b3 b4 b5
          · rw [bI_1] at q
            rw [if_pos q] at er
            rw [nI_1, ← er]
            exact e317 τ b2 b3 b4 b5
      · obtain ⟨b1, b2, b3, b4, b5⟩ := ht
        obtain ⟨mm, τ⟩ := z
        have cw : (nI w).toNatClampNeg = w := cl_nI (by omega)
        have rw0 := rnd_pos hP2 w (by omega)
        have g7 : τ.1 7 w = nI (rnd g2 w) := by rw [(b2 7 (by decide)).1, (F2 7 (by decide)).1, (hR w hw).1, ag_rnd hAg hw]
        have g17 : τ.1 17 w = bI (wit g2 w) := by rw [(b2 17 (by decide)).1, (F2 17 (by decide)).1, (hR w hw).2, ag_wit hAg hP hw]
        have skip : ∀ τ2 : Sg, Fr [14, 16, 18] σ2 τ2 → MA g2 (N + 1) τ2 → MFk g2 (N + 1) τ2 → MS g2 (N + 1) τ2 → (∀ d, (witF g2 (rnd g2) w && (decide (rnd g2 w = r) && (str g2 N w && decide (gc g2 w = d)))) = false) → L242 (nI N) (nI r) (nI mm) (nI w + 1) τ2 := fun τ2 c1 c2 c3 c4 e => by
          rw [nI_1]
          refine ih (mm, τ2) ⟨mk_same b1 (fun d _ => ?_), c1, c2, c3, c4⟩
          show (anyN _ w || (witF g2 (rnd g2) w && (decide (rnd g2 w = r) && (str g2 N w && decide (gc g2 w = d))))) = anyN _ w
          rw [e d, Bool.or_false]
        refine r242 _ _ _ _ _ ?_
        unfold f_X8_make_242 f_X8_make_296
        rw [cw, g7, g17]
        refine ⟨fun q => absurd q (nI_ge hw (by omega)), fun _ => ⟨v240 (by omega), fun q => skip τ b2 b3 b4 b5 (fun d => ?_), fun q => ⟨v240 (by omega), fun q2 => skip τ b2 b3 b4 b5 (fun d => ?_), fun q2 => ?_⟩⟩⟩
        · rw [bI_0] at q
          have q' : witF g2 (rnd g2) w = false := q
          rw [q']
          rfl
        · have : ¬ rnd g2 w = r := fun z => q2 (by rw [z])
          rw [decide_eq_false this]
          simp
        · rw [bI_1] at q
          have q' : witF g2 (rnd g2) w = true := q
          have q3 : rnd g2 w = r := (nI_eq (by omega) hr31).mp q2
          have T : MT g2 (N + 1) τ := ⟨MO2, by rw [(b2 0 (by decide)).1]; exact hn2, fun x hx => by rw [(b2 1 (by decide)).1, (b2 2 (by decide)).1, (b2 3 (by decide)).1]; exact E2 x hx, b3, b4⟩
          refine ⟨g2, N + 1, N, w, rfl, rfl, by omega, by omega, T, b5, fun τ1 s1 f1 => ?_⟩
          have c2 : MA g2 (N + 1) τ1 := fun x y hx hy => by rw [(f1 14 (by decide)).1]; exact b3 x y hx hy
          have c3 : MFk g2 (N + 1) τ1 := fun x d hx hd => by rw [(f1 16 (by decide)).1]; exact b4 x d hx hd
          have F4 : Fr [14, 16, 18] σ2 τ1 := b2.trans (f1.mono (by decide))
          refine ⟨fun q4 => skip τ1 F4 c2 c3 s1 (fun d => ?_), fun q4 => ⟨v240 (by omega), ?_⟩⟩
          · rw [bI_0] at q4
            rw [q4]
            simp
          · rw [bI_1] at q4
            have hcw := (hP2.1 w (by omega)).1
            rw [(F4 1 (by decide)).1, (E2 w (by omega)).1, bit_or b1.1 hcw, nI_1]
            refine ih (mm ||| 2 ^ gc g2 w, τ1) ⟨mk_or b1 hcw (fun d _ => ?_), F4, c2, c3, s1⟩
            show (anyN _ w || (witF g2 (rnd g2) w && (decide (rnd g2 w = r) && (str g2 N w && decide (gc g2 w = d))))) = (anyN _ w || _)
            rw [q', q4, decide_eq_true q3]
            rfl
    -- the forks among its ancestors
    have e157 : ∀ τ : Sg, Fr [14] σ2 τ → MA g2 (N + 1) τ → ∀ d, d ≤ gn g2 → ∀ φ : Sg, ((∀ x e, x < N → e < gn g2 → φ.1 16 (x * 8 + e) = bI (forked g2 x e)) ∧ (∀ e, e < d → φ.1 16 (N * 8 + e) = bI (forked g2 N e)) ∧ Fr [16] τ φ) → L157 (nI N) (nI d) φ := by
      intro τ tf tA
      refine lup (L := fun d φ => L157 (nI N) (nI d) φ) (fun d φ => (∀ x e, x < N → e < gn g2 → φ.1 16 (x * 8 + e) = bI (forked g2 x e)) ∧ (∀ e, e < d → φ.1 16 (N * 8 + e) = bI (forked g2 N e)) ∧ Fr [16] τ φ) (gn g2) (fun φ ht => ?_) (fun d φ hd ht ih => ?_)
      · obtain ⟨b1, b2, b3⟩ := ht
        have F4 : Fr [14, 16, 18] σ2 φ := (tf.mono (by decide)).trans (b3.mono (by decide))
        have cA : MA g2 (N + 1) φ := fun x y hx hy => by rw [(b3 14 (by decide)).1]; exact tA x y hx hy
        have cF : MFk g2 (N + 1) φ := fun x e hx he => by
          by_cases ex : x = N
          · subst ex; exact b2 e he
          · exact b1 x e (by omega) he
        have cS : MS g2 (N + 1) φ := fun x y hx hy => by
          rw [(b3 18 (by decide)).1, (tf 18 (by decide)).1, (F2 18 (by decide)).1]
          rcases hS x y hx hy with e | ⟨e1, e2, e3⟩
          · exact Or.inl e
          · exact Or.inr ⟨by omega, by omega, by rw [e3, ag_str hAg e1 e2]⟩
        refine r157 _ _ _ ?_
        unfold f_X8_make_157
        have hn3 : φ.1 0 1 = nI (gn g2) := by rw [(b3 0 (by decide)).1, (tf 0 (by decide)).1]; exact hn2
        rw [hn3]
        refine ⟨fun _ => ⟨fun q => ?_, fun q => ?_⟩, fun q => absurd (Int32.le_refl _) q⟩
        · have hs : s = none := by
            cases hs : s with
            | none => rfl
            | some y => rw [hs] at q; exact absurd q (nI_pos (by have := (m3 y hs).1; omega))
          have er := rnd_eq hP2 (show N < N + 1 by omega)
          rw [n2, hs] at er
          have := e317 φ F4 cA cF cS
          rw [er] at this
          exact this
        · cases hs : s with
          | none => rw [hs] at q; exact absurd (by decide) q
          | some y =>
            have hy := (m3 y hs).1
            have cy : (nO (some y)).toNatClampNeg = y := cl_nI (by omega)
            have g7 : ∀ z, z < N → φ.1 7 z = nI (rnd g2 z) := fun z hz => by rw [(F4 7 (by decide)).1, (F2 7 (by decide)).1, (hR z hz).1, ag_rnd hAg hz]
            have ry := rnd_pos hP2 y (by omega)
            have go242 : ∀ r, r = max (rnd g2 y) (oN o (rnd g2)) → L242 (nI N) (nI r) 0 0 φ := fun r hr => e242 y hs r hr 0 (Nat.zero_le _) (0, φ) ⟨mk_0 (fun _ _ => rfl), F4, cA, cF, cS⟩
            have e228 : rnd g2 y = max (rnd g2 y) (oN o (rnd g2)) → f_X8_make_228 (nI c) (nO (some y)) (nO o) x4 L67 L157 L242 K (nI N) φ := fun hr => by
              unfold f_X8_make_228 f_X8_make_234
              rw [cy, g7 y hy]
              exact ⟨v240 (by omega), go242 _ hr⟩
            refine ⟨fun q2 => e228 ?_, fun q2 => ?_⟩
            · cases ho : o with
              | none => exact (Nat.max_eq_left (Nat.zero_le _)).symm
              | some z => rw [ho] at q2; exact absurd q2 (nI_pos (by have := m4 z ho; omega))
            · cases ho : o with
              | none => rw [ho] at q2; exact absurd (by decide) q2
              | some z =>
                have hz := m4 z ho
                have cz : (nO (some z)).toNatClampNeg = z := cl_nI (by omega)
                have rz := rnd_pos hP2 z (by omega)
                rw [cy, cz, g7 y hy, g7 z hz]
                refine ⟨v240 (by omega), v240 (by omega), fun q3 => ?_, fun q3 => ⟨v240 (by omega), ?_⟩⟩
                · have : rnd g2 z ≤ rnd g2 y := (nI_leI (by omega) (by omega)).mp q3
                  have r1 := e228 (by rw [ho]; exact (Nat.max_eq_left this).symm)
                  rw [ho] at r1
                  exact r1
                · have : ¬ rnd g2 z ≤ rnd g2 y := fun w => q3 (nI_le w (by omega))
                  exact go242 _ (by rw [ho]; exact (Nat.max_eq_right (show rnd g2 y ≤ rnd g2 z by omega)).symm)
      · obtain ⟨b1, b2, b3⟩ := ht
        have hn3 : φ.1 0 1 = nI (gn g2) := by rw [(b3 0 (by decide)).1, (tf 0 (by decide)).1]; exact hn2
        refine r157 _ _ _ ?_
        unfold f_X8_make_157
        rw [hn3]
        refine ⟨fun q => absurd q (nI_ge hd (by omega)), fun _ => ⟨g2, N + 1, N, d, rfl, rfl, by omega, by omega, by omega, hP2, fun x hx => ?_, fun x y hx hy => by rw [(b3 14 (by decide)).1]; exact tA x y hx hy, ?_⟩⟩
        · rw [(b3 1 (by decide)).1, (b3 2 (by decide)).1, (b3 3 (by decide)).1, (tf 1 (by decide)).1, (tf 2 (by decide)).1, (tf 3 (by decide)).1]
          exact E2 x hx
        · rw [mi8, cl_nI (show N * 8 + d < 2 ^ 31 by omega), nI_1]
          refine ⟨v19 m1 (by omega), isZ_bI _, ih _ ⟨fun x e hx he => ?_, fun e he => ?_, Fr_pI b3 (by decide)⟩⟩
          · rw [pI_at, if_neg (fun z => by omega)]
            exact b1 x e hx he
          · rw [pI_at]
            by_cases ee : e = d
            · subst ee; rw [if_pos ⟨rfl, rfl⟩]
            · rw [if_neg (fun z => by omega)]
              exact b2 e (by omega)
    -- its ancestors
    have hA2 : ∀ x y, x < 240 → y < 240 → σ2.1 14 (x * 240 + y) = if x < N then bI (anc (hg H) x y) else 0 := fun x y hx hy => by rw [(F2 14 (by decide)).1]; exact hA x y hx hy
    have e67 : ∀ y, y ≤ N → ∀ φ : Sg, ((∀ a b, a < 240 → b < 240 → a ≠ N → φ.1 14 (a * 240 + b) = σ2.1 14 (a * 240 + b)) ∧ (∀ b, b < 240 → φ.1 14 (N * 240 + b) = if b < y then bI (anc g2 N b) else 0) ∧ Fr [14] σ2 φ) → L67 (nI N) (nI y) φ := by
      refine lup (L := fun y φ => L67 (nI N) (nI y) φ) (fun y φ => (∀ a b, a < 240 → b < 240 → a ≠ N → φ.1 14 (a * 240 + b) = σ2.1 14 (a * 240 + b)) ∧ (∀ b, b < 240 → φ.1 14 (N * 240 + b) = if b < y then bI (anc g2 N b) else 0) ∧ Fr [14] σ2 φ) N (fun φ ht => ?_) (fun y φ hy ht ih => ?_)
      · obtain ⟨b1, b2, b3⟩ := ht
        refine r67 _ _ _ ?_
        unfold f_X8_make_67
        rw [mi240, cl_nI (show N * 240 + N < 2 ^ 31 by omega)]
        refine ⟨fun _ => ⟨v57 m1 m1, ?_⟩, fun q => absurd (Int32.le_refl _) q⟩
        refine e157 _ (Fr_pI b3 (by decide)) (fun x b hx hb => ?_) 0 (Nat.zero_le _) _ ⟨fun x e hx he => ?_, fun e he => absurd he (Nat.not_lt_zero _), Fr.refl _ _⟩
        · rw [pI_at]
          by_cases ex : x = N
          · subst ex
            rw [if_pos (show x < x + 1 by omega)]
            by_cases eb : b = x
            · subst eb
              rw [if_pos ⟨rfl, rfl⟩, anc_self hP2 (by omega)]
              rfl
            · rw [if_neg (fun z => eb (by omega)), b2 b hb]
              by_cases q : b < x
              · rw [if_pos q]
              · rw [if_neg q]
                have : anc g2 x b = false := by
                  cases ea : anc g2 x b
                  · rfl
                  · have := anc_le hP2 x (by omega) b ea; omega
                rw [this]
                rfl
          · rw [if_neg (fun z => by omega), b1 x b hx hb ex, hA2 x b hx hb]
            by_cases q : x < N
            · rw [if_pos q, if_pos (by omega), ag_anc hAg q]
            · rw [if_neg q, if_neg (by omega)]
        · rw [pI_at, if_neg (fun z => absurd z.1 (by decide)), (b3 16 (by decide)).1, (F2 16 (by decide)).1, ag_forked hAg hx]
          exact hF x e hx (by omega)
      · obtain ⟨b1, b2, b3⟩ := ht
        have ea := anc_eq hP2 (show N < N + 1 by omega) y
        rw [n2, n3, decide_eq_false (show ¬ y = N by omega), Bool.false_or] at ea
        have put : ∀ b : Bool, b = anc g2 N y → f_X8_make_132 (nI c) (nO s) (nO o) x4 L67 L157 L242 K (nI N) (nI y) (bI b) (nI (N * 240 + y)) φ := fun b hb => by
          unfold f_X8_make_132
          rw [cl_nI (show N * 240 + y < 2 ^ 31 by omega), nI_1]
          refine ⟨v57 m1 (by omega), isZ_bI _, ih _ ⟨fun a e ha he hne => ?_, fun e he => ?_, Fr_pI b3 (by decide)⟩⟩
          · rw [pI_at, if_neg (fun z => by omega)]
            exact b1 a e ha he hne
          · rw [pI_at]
            by_cases ee : e = y
            · subst ee
              rw [if_pos ⟨rfl, rfl⟩, if_pos (by omega), hb]
            · rw [if_neg (fun z => by omega), b2 e he]
              by_cases q : e < y
              · rw [if_pos q, if_pos (by omega)]
              · rw [if_neg q, if_neg (by omega)]
        have row : ∀ z, z < N → φ.1 14 (z * 240 + y) = bI (anc g2 z y) := fun z hz => by
          rw [b1 z y (by omega) (by omega) (by omega), hA2 z y (by omega) (by omega), if_pos hz, ag_anc hAg hz]
        -- the other parent
        have e107 : oA s (fun s => anc g2 s y) = false → f_X8_make_107 (nI c) (nO s) (nO o) x4 L67 L157 L242 K (nI N) (nI y) (nI (N * 240 + y)) φ := fun hsf => by
          rw [hsf, Bool.false_or] at ea
          unfold f_X8_make_107 f_X8_make_131 f_X8_make_127
          cases ho : o with
          | none =>
            rw [ho] at ea put
            exact ⟨fun _ => put false ea.symm, fun q => absurd (by decide) q⟩
          | some z =>
            have hz := m4 z ho
            rw [ho] at ea put
            have ea2 : anc g2 N y = anc g2 z y := ea
            show (nI z < 0 → _) ∧ (¬ nI z < 0 → vp_in ((240 * nI z) + nI y) 57600 ∧ (φ.1 14 ((240 * nI z) + nI y).toNatClampNeg = 0 → _) ∧ (¬ φ.1 14 ((240 * nI z) + nI y).toNatClampNeg = 0 → _))
            rw [mi240, cl_nI (show z * 240 + y < 2 ^ 31 by omega), row z hz]
            refine ⟨fun q => absurd q (nI_pos (by omega)), fun _ => ⟨v57 (by omega) (by omega), fun q => put false ?_, fun q => put true ?_⟩⟩
            · rw [bI_0] at q; rw [ea2, q]
            · rw [bI_1] at q; rw [ea2, q]
        refine r67 _ _ _ ?_
        unfold f_X8_make_67
        rw [mi240 N y]
        refine ⟨fun q => absurd q (nI_ge hy (by omega)), fun _ => ?_⟩
        cases hs : s with
        | none =>
          have := e107 (by rw [hs]; rfl)
          rw [hs] at this
          exact ⟨fun _ => this, fun q => absurd (by decide) q⟩
        | some z =>
          have hz := (m3 z hs).1
          have e1 := e107
          rw [hs] at e1 ea put
          show (nI z < 0 → _) ∧ (¬ nI z < 0 → vp_in ((240 * nI z) + nI y) 57600 ∧ (¬ φ.1 14 ((240 * nI z) + nI y).toNatClampNeg = 0 → _) ∧ (φ.1 14 ((240 * nI z) + nI y).toNatClampNeg = 0 → _))
          rw [mi240, cl_nI (show z * 240 + y < 2 ^ 31 by omega), row z hz]
          refine ⟨fun q => absurd q (nI_pos (by omega)), fun _ => ⟨v57 (by omega) (by omega), fun q => put true ?_, fun q => e1 ?_⟩⟩
          · rw [bI_1] at q
            rw [ea]
            show true = (anc g2 z y || _)
            rw [q]
            rfl
          · rw [bI_0] at q
            exact q
    refine e67 0 (Nat.zero_le _) σ2 ⟨fun a b _ _ _ => rfl, fun b hb => ?_, Fr.refl _ _⟩
    rw [hA2 N b m1 hb, if_neg (Nat.lt_irrefl _), if_neg (Nat.not_lt_zero _)]
  show f_X8_make_e (nI c) (nO s) (nO o) x4 L67 L157 L242 K σ
  unfold f_X8_make_e
  rw [h02, cN, nI_1]
  refine ⟨vN, vN, vN, vN, fun q => main _ (fun a => ?_) (fun a => ?_) (fun a => ?_) (fun a => ?_) ?_ (fun a ha => ?_) ?_ ?_ ?_, fun q => ⟨vN, main _ (fun a => ?_) (fun a => ?_) (fun a => ?_) (fun a => ?_) ?_ (fun a ha => ?_) ?_ ?_ ?_⟩⟩
  · simp [pI, pJ]
  · simp [pI, pJ]
  · simp [pI, pJ]
  · simp [pI, pJ]
  · have hs : s ≠ none := fun z => by rw [z] at q; exact absurd q (by decide)
    rw [pJ_I, pI_ne _ _ _ (by decide), pI_ne _ _ _ (by decide), pI_ne _ _ _ (by decide), pI_ne _ _ _ (by decide)]
    exact pn4 hs
  · rw [pJ_I, pI_ne _ _ _ (by decide), pI_ne _ _ _ (by decide), pI_ne _ _ _ (by decide), pI_ne _ _ _ (by decide)]
  · simp [pI, pJ]
  · exact fun j hj => by
      have : j ≠ 2 := fun z => hj (by rw [z]; decide)
      simp [pI, pJ, this]
  · exact Fr_pJ (Fr_pI (Fr_pI (Fr_pI (Fr_pI (Fr.refl _ _) (by decide)) (by decide)) (by decide)) (by decide)) (by decide)
  · simp [pI, pJ]
  · simp [pI, pJ]
  · simp [pI, pJ]
  · simp [pI, pJ]
  · have hs : s = none := by
      cases hs : s with
      | none => rfl
      | some y => rw [hs] at q; exact absurd (nI_pos' (by have := (m3 y hs).1; omega)) q
    rw [pI_at, if_pos ⟨rfl, rfl⟩, hk0 hs]
    rfl
  · rw [pI_at, if_neg (fun z => ha z.2), pJ_I, pI_ne _ _ _ (by decide), pI_ne _ _ _ (by decide), pI_ne _ _ _ (by decide), pI_ne _ _ _ (by decide)]
  · simp [pI, pJ]
  · exact fun j hj => by
      have : j ≠ 2 := fun z => hj (by rw [z]; decide)
      simp [pI, pJ, this]
  · exact Fr_pI (Fr_pJ (Fr_pI (Fr_pI (Fr_pI (Fr_pI (Fr.refl _ _) (by decide)) (by decide)) (by decide)) (by decide)) (by decide)) (by decide)
