/-- the low cells, which no view has, are as they were -/
def Lo (σ τ : Sg) : Prop := ∀ a, a < 45 → τ.1 a = σ.1 a ∧ τ.2 a = σ.2 a
theorem Lo.bt {σ τ : Sg} (h : Lo σ τ) {t : Nat} (ht : t + 1 < 45) (r b : Nat) : bt τ t r b = bt σ t r b := bt_congr (h _ ht).2 r b
theorem GT.lo {g : Gr} {N : Nat} {σ τ : Sg} (h : GT g N σ) (hl : Lo σ τ) : GT g N τ := by
  obtain ⟨t1, t2, t3, t4, t5, t6, t7, t8, t9, t10⟩ := h
  have q22 := (hl 22 (by decide)).1
  refine ⟨fun x y hx hy => ?_, fun x y hx hy => ?_, fun x y hx hy => ?_, fun x hx => ?_, fun x hx => ?_, fun c hc => ?_, ?_, ?_, ?_, ?_⟩
  · rw [hl.bt (by decide)]; exact t1 x y hx hy
  · rw [hl.bt (by decide)]; exact t2 x y hx hy
  · rw [hl.bt (by decide)]; exact t3 x y hx hy
  · rw [(hl 31 (by decide)).1]; exact t4 x hx
  · rw [(hl 32 (by decide)).1, (hl 33 (by decide)).1]; exact t5 x hx
  · rw [(hl 34 (by decide)).1]; exact t6 c hc
  · rw [q22]; exact t7
  · rw [q22]; exact t8
  · rw [q22]; exact t9
  · rw [(hl 29 (by decide)).1]; exact t10
theorem EL.lo {g : Gr} {hb : Nat → Bool} {N : Nat} {σ τ : Sg} (h : EL g hb N σ) (hl : Lo σ τ) : EL g hb N τ := by
  obtain ⟨t1, t2, t3, t4, t5, t6⟩ := h
  have q37 := (hl 37 (by decide)).1
  refine ⟨by rw [q37]; exact t1, by rw [q37]; exact t2, fun x hx hw => ?_, fun y b hy hw hb2 => ?_, fun x b hx hw hb2 => ?_, fun x b hx hw hb2 => ?_⟩
  · rw [(hl 38 (by decide)).1]; exact t3 x hx hw
  · rw [hl.bt (by decide)]; exact t4 y b hy hw hb2
  · rw [hl.bt (by decide)]; exact t5 x b hx hw hb2
  · rw [hl.bt (by decide)]; exact t6 x b hx hw hb2
theorem Vb.keep {p : Vp} {v : Nat} {σ τ : Sg} {S : List Nat} (h : Vb p v σ) (hF : Fr S σ τ) (hS : ∀ a ∈ S, v ≤ a) (h0 : τ.1 v 0 = σ.1 v 0) : Vb p v τ := by
  obtain ⟨hv, hP, hN, hE, hH, hTm, hTx, ⟨k, hk, hk0, hkb⟩, hhd, hG, hL, h7⟩ := h
  have hl : Lo σ τ := fun a ha => hF a (fun q => by have := hS a q; omega)
  refine ⟨hv, hP, hN, fun x hx => ?_, fun x w hx hw => ?_, fun x hx => ?_, fun x hx => ?_, ⟨k, hk, by rw [h0]; exact hk0, fun x hx => ?_⟩, hhd, hG.lo hl, hL.lo hl, by rw [(hl 7 (by decide)).1]; exact h7⟩
  · rw [(hl 12 (by decide)).1, (hl 13 (by decide)).1, (hl 14 (by decide)).1]; exact hE x hx
  · rw [(hl 19 (by decide)).1]; exact hH x w hx hw
  · rw [(hl 15 (by decide)).2]; exact hTm x hx
  · rw [(hl 16 (by decide)).1, (hl 17 (by decide)).1, (hl 18 (by decide)).1]; exact hTx x hx
  · rw [hl.bt (by decide)]; exact hkb x hx
/-- a loop over the marked numbers, as one over all -/
theorem wl_loop {S : Type} {L : Nat → S → Prop} (w : Nat → Bool) (N : Nat) (Inv : Nat → S → Prop) (hI : ∀ M s, M < N → w M = false → Inv M s → Inv (M + 1) s) (fin : ∀ s, Inv N s → L (cnt w N) s) (step : ∀ z s, z < N → w z = true → Inv z s → (∀ s', Inv (z + 1) s' → L (cnt w z + 1) s') → L (cnt w z) s) : ∀ s, Inv 0 s → L 0 s := by
  have key : ∀ M, M ≤ N → ∀ s, Inv M s → L (cnt w M) s := by
    refine down N fin (fun M hM ih s hs => ?_)
    have e : cnt w (M + 1) = cnt w M + if w M then 1 else 0 := rfl
    cases hw : w M
    · have := ih s (hI M s hM hw hs)
      rw [e, hw] at this
      exact this
    · refine step M s hM hw hs (fun s' hs' => ?_)
      have := ih s' hs'
      rw [e, hw] at this
      exact this
  exact key 0 (Nat.zero_le _)
theorem holds_ok {p : Vp} {v x : Nat} {σ : Sg} {K : Int32 → Sg → Prop} (h : Vb p v σ) (hx : x < 240) (hK : K (bI (phd p x)) σ) : sp_X5_holds v (nI x) σ K := by
  obtain ⟨-, -, -, -, -, -, -, ⟨k, hk, hk0, hkb⟩, -⟩ := h
  have e := hkb x (by omega)
  unfold sp_X5_holds vc_X5_holds f_X5_holds_e
  rw [hk0]
  refine ⟨by decide, k, x, rfl, rfl, by omega, by omega, ?_⟩
  rw [e]
  exact ⟨isZ_bI _, hK⟩
section VIEW
variable {p : Vp} {v : Nat} {σ : Sg}
theorem bst_skip {x M : Nat} (h : wit (pg p) M = false) : bst p x (M + 1) = bst p x M := by
  have : dcs p x M = false := by unfold dcs; rw [h, Bool.false_and, Bool.and_false]
  show (if dcs p x M && _ then _ else _) = _
  rw [this]
  rfl
theorem bst_at {x b : Nat} : ∀ M, bst p x M = some b → b < M ∧ dcs p x b = true
  | 0, h => by cases h
  | M + 1, h => by
    have h : (if dcs p x M && erl p M (bst p x M) then some M else bst p x M) = some b := h
    by_cases hc : (dcs p x M && erl p M (bst p x M)) = true
    · rw [if_pos hc] at h
      have e := Option.some.inj h
      rw [Bool.and_eq_true] at hc
      rw [← e]
      exact ⟨Nat.lt_succ_self M, hc.1⟩
    · rw [if_neg hc] at h
      have := bst_at M h
      exact ⟨by omega, this.2⟩
theorem v_X5_deciderOf (v : Nat) (_ : IsView v) (x1 : Int32) (σ : Sg) (K : Int32 → Sg → Prop) (h : sp_X5_deciderOf v x1 σ K) : vc_X5_deciderOf v x1 σ K := by
  obtain ⟨p, x, hV, rfl, hx, hwx, hK⟩ := h
  obtain ⟨hv, hP, hN, hE, hH, hTm, hTx, hk, hhd, hG, hL, h7⟩ := id hV
  obtain ⟨e1, e2, e3, e4, e5, e6⟩ := hL
  intro L r
  have hcl : cnt (wit (pg p)) (pN p) ≤ pN p := cnt_le _ _
  have main := wl_loop (L := fun i s => L (nO s) (nI i) σ) (wit (pg p)) (pN p) (fun M s => s = bst p x M) (fun M s hM hw hs => by rw [hs, bst_skip hw]) (fun s hs => ?_) (fun z s hz hw hs ih => ?_)
  · exact main none rfl
  · refine r _ _ _ ⟨fun _ => ?_, fun c => absurd (by rw [e1]; exact Int32.le_refl _) c⟩
    rw [hs]
    exact hK
  · have hci : cnt (wit (pg p)) z < cnt (wit (pg p)) (pN p) := cnt_step hz hw
    have hr := rnd_pos hP z hz
    -- the chosen one
    have J58 : ∀ early : Bool, erl p z (bst p x z) = early → f_X5_deciderOf_58 v (nI x) L K (nO s) (nI (cnt (wit (pg p)) z)) (nI z) (bI early) σ := by
      intro early he
      have hb : bst p x (z + 1) = if dcs p x z && early then some z else bst p x z := by
        rw [← he]
        rfl
      have skip : (dcs p x z && early) = false → L (nO s) (nI (cnt (wit (pg p)) z) + 1) σ := by
        intro hq
        rw [nI_1]
        refine ih s ?_
        rw [hb, hq]
        exact hs
      have b43 : bt σ 43 x z = (vq (pg p) (phb p) (pN p) x z && decide (2 ≤ vt (pg p) (phb p) x z)) := e6 x z hx hwx (by omega)
      have hdc : dcs p x z = (phd p z && bt σ 43 x z) := by
        rw [b43]
        unfold dcs vq
        rw [decide_eq_true hz, hw, Bool.true_and, Bool.true_and]
        cases phd p z <;> cases decide (rnd (pg p) x < rnd (pg p) z) <;> rfl
      refine ⟨fun q => ?_, fun q => ?_⟩
      · rw [bI_0] at q
        exact skip (by rw [q, Bool.and_false])
      · rw [bI_1] at q
        refine ⟨by decide, x, z, rfl, rfl, by omega, by omega, isZ_bI _, fun q2 => ?_, fun q2 => holds_ok hV (by omega) ⟨fun q3 => ?_, fun q3 => ?_⟩⟩
        · rw [bI_0] at q2
          exact skip (by rw [hdc, q2, Bool.and_false, Bool.false_and])
        · rw [bI_0] at q3
          exact skip (by rw [hdc, q3, Bool.false_and, Bool.false_and])
        · rw [bI_1] at q2 q3
          show L (nI z) (nI (cnt (wit (pg p)) z) + 1) σ
          rw [nI_1]
          refine ih (some z) ?_
          rw [hb, hdc, q, q2, q3]
          rfl
    refine r _ _ _ ?_
    unfold f_X5_deciderOf_4
    rw [e1, cl_nI (show cnt (wit (pg p)) z < 2 ^ 31 by omega), e3 z hz hw]
    refine ⟨fun c => absurd c (nI_ge hci (by omega)), fun _ => ⟨v240 (by omega), fun c => ?_, fun c => ?_⟩⟩
    · have hn : s = none := by
        cases s with
        | none => rfl
        | some b => exact absurd c (nO_some (by have := (bst_at z hs.symm).1; omega))
      exact J58 true (by rw [← hs, hn]; rfl)
    · obtain ⟨b, hb⟩ : ∃ b, s = some b := by
        cases s with
        | none => exact absurd rfl c
        | some b => exact ⟨b, rfl⟩
      have hbl := (bst_at z (hs.symm.trans hb)).1
      have hrb := rnd_pos hP b (by omega)
      rw [hb]
      show vp_in (nI z) 240 ∧ vp_in (nI b) 240 ∧ (σ.1 32 (nI b).toNatClampNeg ≤ σ.1 32 (nI z).toNatClampNeg → _) ∧ (¬ (σ.1 32 (nI b).toNatClampNeg ≤ σ.1 32 (nI z).toNatClampNeg) → _)
      rw [cl_nI (show b < 2 ^ 31 by omega), cl_nI (show z < 2 ^ 31 by omega), (hG.2.2.2.2.1 b (by omega)).1, (hG.2.2.2.2.1 z hz).1, nI_leI (by omega) (by omega)]
      refine ⟨v240 (by omega), v240 (by omega), fun q => ?_, fun q => ?_⟩
      · have := J58 false (by rw [← hs, hb]; exact decide_eq_false (by omega))
        rw [hb] at this
        exact this
      · have := J58 true (by rw [← hs, hb]; exact decide_eq_true (by omega))
        rw [hb] at this
        exact this
theorem fam_le (x : Nat) : fam p x ≤ 2 := by
  unfold fam
  split
  · split
    · omega
    · split <;> omega
  · omega
theorem fam_out {x : Nat} (h : phd p x = false) : fam p x = 0 := by
  unfold fam
  rw [h, Bool.and_false]
  rfl
theorem fam_nw {x : Nat} (h : wit (pg p) x = false) : fam p x = 0 := by
  unfold fam
  rw [h, Bool.false_and]
  rfl
theorem v_X5_findFame (v : Nat) (_ : IsView v) (σ : Sg) (K : Sg → Prop) (h : sp_X5_findFame v σ K) : vc_X5_findFame v σ K := by
  obtain ⟨p, hV, hK⟩ := h
  obtain ⟨hv, hP, hN, hE, hH, hTm, hTx, hk, hhd, hG, hL, h7⟩ := id hV
  obtain ⟨e1, e2, e3, e4, e5, e6⟩ := hL
  intro L r
  have hcl : cnt (wit (pg p)) (pN p) ≤ pN p := cnt_le _ _
  have main := wl_loop (L := fun i τ => L (nI i) τ) (wit (pg p)) (pN p) (fun M τ => (∀ y, y < 240 → τ.1 (v + 1) y = nI (if y < M then fam p y else 0)) ∧ Fr [v + 1] σ τ) (fun M τ hM hw hs => ⟨fun y hy => ?_, hs.2⟩) (fun τ hs => ?_) (fun z τ hz hw hs ih => ?_)
  · refine ⟨by omega, main _ ⟨fun y hy => ?_, Fr_pR (Fr.refl _ _) (by simp)⟩⟩
    rw [pR_at, if_pos rfl, if_pos hy]
    rfl
  · rw [hs.1 y hy]
    congr 1
    by_cases e : y = M
    · rw [e, if_neg (Nat.lt_irrefl M), if_pos (Nat.lt_succ_self M), fam_nw hw]
    · by_cases e2 : y < M
      · rw [if_pos e2, if_pos (by omega)]
      · rw [if_neg e2, if_neg (by omega)]
  · refine r _ _ ⟨fun _ => hK τ (fun y hy => ?_) hs.2, fun c => absurd (by rw [(hs.2 37 (by simp; omega)).1, e1]; exact Int32.le_refl _) c⟩
    rw [hs.1 y hy]
    congr 1
    by_cases e : y < pN p
    · rw [if_pos e]
    · rw [if_neg e, fam_out]
      cases hq : phd p y
      · rfl
      · exact absurd (hhd y hq) e
  · obtain ⟨h1, h2⟩ := hs
    have hci : cnt (wit (pg p)) z < cnt (wit (pg p)) (pN p) := cnt_step hz hw
    have hlo : Lo σ τ := fun a ha => h2 a (by simp; omega)
    have hVt : Vb p v τ := hV.keep h2 (by simp) (by rw [(h2 v (by simp)).1])
    have cz : (nI z).toNatClampNeg = z := cl_nI (by omega)
    have fin77 : ∀ τ2 : Sg, τ2 = pI τ (v + 1) z (nI (fam p z)) → L (nI (cnt (wit (pg p)) z) + 1) τ2 := by
      intro τ2 e
      subst e
      rw [nI_1]
      refine ih _ ⟨fun y hy => ?_, Fr_pI h2 (by simp)⟩
      rw [pI_at]
      by_cases e : y = z
      · rw [if_pos ⟨rfl, e⟩, e, if_pos (Nat.lt_succ_self z)]
      · rw [if_neg (fun q => e q.2), h1 y hy]
        congr 1
        by_cases e2 : y < z
        · rw [if_pos e2, if_pos (by omega)]
        · rw [if_neg e2, if_neg (by omega)]
    have fin0 : fam p z = 0 → L (nI (cnt (wit (pg p)) z) + 1) τ := by
      intro hf
      refine fin77 τ ?_
      refine sg_ext (fun a b => ?_) (fun _ _ => rfl)
      rw [pI_at]
      by_cases e : a = v + 1 ∧ b = z
      · rw [if_pos e, e.1, e.2, h1 z (by omega), hf, if_neg (Nat.lt_irrefl z)]
      · rw [if_neg e]
    refine r _ _ ?_
    unfold f_X5_findFame_10
    rw [(hlo 37 (by decide)).1, (hlo 38 (by decide)).1, e1, cl_nI (show cnt (wit (pg p)) z < 2 ^ 31 by omega), e3 z hz hw]
    refine ⟨fun c => absurd c (nI_ge hci (by omega)), fun _ => ⟨v240 (by omega), holds_ok hVt (by omega) ⟨fun q => ?_, fun q => ⟨p, z, hVt, rfl, hz, hw, ?_⟩⟩⟩⟩
    · rw [bI_0] at q
      exact ⟨fun _ => fin0 (fam_out q), fun c => absurd rfl c⟩
    · rw [bI_1] at q
      cases hb : bst p z (pN p) with
      | none =>
        refine ⟨fun _ => fin0 ?_, fun c => absurd rfl c⟩
        unfold fam
        rw [hw, q, hb]
        rfl
      | some b =>
        obtain ⟨hb1, hb2⟩ := bst_at (pN p) hb
        have b41 : bt τ 41 z b = odd (vt (pg p) (phb p) z b) := by
          rw [hlo.bt (by decide), e5 z b hz hw (by omega)]
          unfold dcs at hb2
          simp only [Bool.and_eq_true, decide_eq_true_eq] at hb2
          rw [vq_iff.mpr ⟨hb1, hb2.2.1, hb2.2.2.1⟩, Bool.true_and]
        refine ⟨fun c => absurd c (nO_some (by omega)), fun _ => ⟨by decide, z, b, rfl, rfl, by omega, by omega, isZ_bI _, fun q2 => ?_, fun q2 => ?_⟩⟩
        · rw [b41, bI_0] at q2
          have hf : fam p z = 1 := by
            unfold fam
            rw [hw, q, hb]
            show (if odd (vt (pg p) (phb p) z b) then 2 else 1) = 1
            rw [q2]
            rfl
          refine ⟨v240 (by omega), fin77 _ ?_⟩
          rw [cz, hf]
          rfl
        · rw [b41, bI_1] at q2
          have hf : fam p z = 2 := by
            unfold fam
            rw [hw, q, hb]
            show (if odd (vt (pg p) (phb p) z b) then 2 else 1) = 2
            rw [q2]
            rfl
          refine ⟨v240 (by omega), fin77 _ ?_⟩
          rw [cz, hf]
          rfl
end VIEW
