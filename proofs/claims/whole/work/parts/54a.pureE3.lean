section VIEW3
variable {p : Vp} {v : Nat} {σ : Sg}
theorem VU.keep {τ : Sg} {S : List Nat} (h : VU p v σ) (hF : Fr S σ τ) (h1 : v + 1 ∉ S) (h2 : v + 7 ∉ S) (h3 : v + 8 ∉ S) (h4 : v + 9 ∉ S) : VU p v τ := by
  obtain ⟨a, b, c, d⟩ := h
  exact ⟨fun x hx => by rw [(hF _ h1).1]; exact a x hx, fun r hr => by rw [(hF _ h3).1]; exact b r hr, fun r u hr hu hq => by rw [(hF _ h2).1]; exact c r u hr hu hq, fun r w hr hw => by rw [(hF _ h4).1]; exact d r w hr hw⟩
theorem lot_le : ∀ M, lot p M ≤ 241
  | 0 => Nat.le_refl _
  | M + 1 => by
    show (if opn p M then _ else _) ≤ _
    split
    · exact Nat.le_trans (Nat.min_le_left _ _) (lot_le M)
    · exact lot_le M
theorem v_X5_settleRounds (v : Nat) (_ : IsView v) (σ : Sg) (K : Sg → Prop) (h : sp_X5_settleRounds v σ K) : vc_X5_settleRounds v σ K := by
  obtain ⟨p, hV, hU, hK⟩ := h
  obtain ⟨hv, hP, hN, hE, hH, hTm, hTx, hk, hhd, hG, hL, h7⟩ := id hV
  intro L r
  have hll := lot_le (p := p) (pN p)
  have s1 : ∀ (q : Nat → Bool) M, cnt q (M + 1) = cnt q M + if q M then 1 else 0 := fun q M => rfl
  have key : ∀ i, i ≤ 241 → ∀ τ : Sg, (1 ≤ i ∧ (∀ q, 1 ≤ q → q < i → τ.1 (v + 10) q = bI (stl p q)) ∧ τ.1 v 16 = nI (cnt (stl p) i) ∧ (∀ j, j ≠ 16 → τ.1 v j = σ.1 v j) ∧ Fr [v, v + 10] σ τ) → L (nI (lot p (pN p))) (nI i) τ := by
    refine lup (L := fun i τ => L (nI (lot p (pN p))) (nI i) τ) (fun i τ => 1 ≤ i ∧ (∀ q, 1 ≤ q → q < i → τ.1 (v + 10) q = bI (stl p q)) ∧ τ.1 v 16 = nI (cnt (stl p) i) ∧ (∀ j, j ≠ 16 → τ.1 v j = σ.1 v j) ∧ Fr [v, v + 10] σ τ) 241 (fun τ ht => ?_) (fun i τ hi ht ih => ?_)
    · obtain ⟨-, a1, a2, a3, a4⟩ := ht
      exact r _ _ _ ⟨fun _ => hK τ (fun q h1 h2 => a1 q h1 (by omega)) a2 a3 a4, fun c => absurd (nI_lt (a := 240) (b := 241) (by decide) (by decide)) c⟩
    · obtain ⟨h1, a1, a2, a3, a4⟩ := ht
      have ci : (nI i).toNatClampNeg = i := cl_nI (by omega)
      have hv241 : vp_in (nI i) 241 := vp_in_nI (by omega) (by omega)
      have hucl := uc_le (p := p) hP i
      have J43 : ∀ b : Bool, b = stl p i → f_X5_settleRounds_43 v L K (nI (lot p (pN p))) (nI i) (bI b) (nI i) τ := by
        intro b hb
        unfold f_X5_settleRounds_43
        rw [ci]
        have e10 : (pI τ (v + 10) i (bI b)).1 (v + 10) i = bI b := by rw [pI_at, if_pos ⟨rfl, rfl⟩]
        have e16 : (pI τ (v + 10) i (bI b)).1 v 16 = nI (cnt (stl p) i) := by rw [pI_at, if_neg (fun q => absurd q.1 (by omega))]; exact a2
        rw [e10, e16]
        have fin : ∀ a : Int32, nI (cnt (stl p) i) + a = nI (cnt (stl p) (i + 1)) → f_X5_settleRounds_63 v L K (nI (lot p (pN p))) (nI i) a (nI (cnt (stl p) i)) (pI τ (v + 10) i (bI b)) := by
          intro a ha
          unfold f_X5_settleRounds_63
          rw [ha, nI_1]
          refine ih _ ⟨by omega, fun q hq1 hq2 => ?_, ?_, fun j hj => ?_, Fr_pI (Fr_pI a4 (by simp)) (by simp)⟩
          · rw [pI_at, if_neg (fun z => absurd z.1 (by omega)), pI_at]
            by_cases e : q = i
            · rw [if_pos ⟨rfl, e⟩, e, hb]
            · rw [if_neg (fun z => e z.2)]
              exact a1 q hq1 (by omega)
          · rw [pI_at, if_pos ⟨rfl, rfl⟩]
          · rw [pI_at, if_neg (fun z => hj z.2), pI_at, if_neg (fun z => absurd z.1 (by omega))]
            exact a3 j hj
        refine ⟨hv241, isZ_bI b, hv241, fun q => fin 0 ?_, fun q => fin 1 ?_⟩
        · rw [bI_0] at q
          rw [s1, ← hb, q, show (0 : Int32) = nI 0 from rfl, nI_add]
          rfl
        · rw [bI_1] at q
          rw [s1, ← hb, q, nI_1]
          rfl
      refine r _ _ _ ?_
      unfold f_X5_settleRounds_12
      refine ⟨fun c => absurd c (nI_nlt (a := 240) (b := i) (by omega) (by decide)), fun _ => ⟨fun c => ?_, fun c => ⟨hv241, ?_⟩⟩⟩
      · have := (nI_leI (by omega) (by omega)).mp c
        refine J43 false ?_
        unfold stl
        rw [decide_eq_false (show ¬ i < lot p (pN p) by omega), Bool.false_and, Bool.and_false]
      · have hlt : i < lot p (pN p) := by
          apply Classical.byContradiction
          intro q
          exact c (nI_le (by omega) (by omega))
        have e8 : τ.1 (v + 8) (nI i).toNatClampNeg = nI (uc p i) := by
          rw [ci, (a4 (v + 8) (by simp)).1]
          exact hU.2.1 i (by omega)
        rw [e8]
        refine ⟨fun c2 => J43 false ?_, fun c2 => J43 true ?_⟩
        · have := (nI_leI (b := 0) (by omega) (by omega)).mp c2
          unfold stl
          rw [decide_eq_false (show ¬ 0 < uc p i by omega), Bool.and_false, Bool.and_false]
        · have : 0 < uc p i := by
            apply Classical.byContradiction
            intro q
            exact c2 (nI_le (b := 0) (by omega) (by omega))
          unfold stl
          rw [decide_eq_true h1, decide_eq_true hlt, decide_eq_true this]
          rfl
  refine ⟨p, hV, hU, key 1 (by omega) _ ⟨Nat.le_refl _, fun q a b => by omega, ?_, fun j hj => ?_, Fr_pI (Fr.refl _ _) (by simp)⟩⟩
  · rw [pI_at, if_pos ⟨rfl, rfl⟩]
    have : cnt (stl p) 1 = 0 := by
      show 0 + (if stl p 0 then 1 else 0) = 0
      have : stl p 0 = false := by unfold stl; rfl
      rw [this]
      rfl
    rw [this]
    rfl
  · rw [pI_at, if_neg (fun z => hj z.2)]
theorem v_X5_isBelowAllUniques (v : Nat) (_ : IsView v) (x1 x2 : Int32) (σ : Sg) (K : Int32 → Sg → Prop) (h : sp_X5_isBelowAllUniques v x1 x2 σ K) : vc_X5_isBelowAllUniques v x1 x2 σ K := by
  obtain ⟨p, x, q, hV, hU, rfl, hx, rfl, hq, hK⟩ := h
  obtain ⟨hv, hP, hN, hE, hH, hTm, hTx, hk, hhd, hG, hL, h7⟩ := id hV
  intro L r
  have hucl := uc_le (p := p) hP q
  have hv241 : vp_in (nI q) 241 := vp_in_nI (by omega) (by omega)
  have e8 : σ.1 (v + 8) (nI q).toNatClampNeg = nI (uc p q) := by rw [cl_nI (by omega)]; exact hU.2.1 q hq
  have main := wl_loop (L := fun i (_ : Unit) => L (nI i) σ) (ur p q) (pN p) (fun M _ => anyN (fun u => ur p q u && !anc (pg p) u x) M = false) (fun M s hM hw hs => ?_) (fun s hs => ?_) (fun z s hz hw hs ih => ?_)
  · exact main () rfl
  · show (anyN _ M || (ur p q M && !anc (pg p) M x)) = false
    rw [hs, hw]
    rfl
  · refine r _ _ ?_
    unfold f_X5_isBelowAllUniques_2
    rw [e8]
    refine ⟨hv241, fun _ => ?_, fun c => absurd (Int32.le_refl _) c⟩
    have hb : bel p q x = true := by unfold bel; rw [hs]; rfl
    rw [hb] at hK
    exact hK
  · have hci : cnt (ur p q) z < uc p q := cnt_step hz hw
    have e : (nI q * 8) + nI (cnt (ur p q) z) = nI (q * 8 + cnt (ur p q) z) := by rw [show (8 : Int32) = nI 8 from rfl, pk_mul, nI_add]
    have hb : bt σ 23 z x = anc (pg p) z x := hG.1 z x hz (by omega)
    refine r _ _ ?_
    unfold f_X5_isBelowAllUniques_2
    rw [e8, e, cl_nI (show q * 8 + cnt (ur p q) z < 2 ^ 31 by omega), hU.2.2.1 q z hq hz hw]
    refine ⟨hv241, fun c => absurd c (nI_ge hci (by omega)), fun _ => ⟨vp_in_nI (by omega) (by omega), by decide, z, x, rfl, rfl, by omega, by omega, ?_⟩⟩
    rw [hb]
    refine ⟨fun c => ?_, fun c => ?_⟩
    · rw [bI_1] at c
      show L (nI (cnt (ur p q) z) + 1) σ
      rw [nI_1]
      refine ih () ?_
      show (anyN _ z || (ur p q z && !anc (pg p) z x)) = false
      rw [hs, c, hw]
      rfl
    · rw [bI_0] at c
      have hb : bel p q x = false := by
        unfold bel
        rw [(anyN_iff _ _).mpr ⟨z, hz, by rw [hw, c]; rfl⟩]
        rfl
      rw [hb] at hK
      exact hK
theorem fst1_eq {q : Nat → Bool} {r : Nat} (hr : q r = true) : ∀ k a, a ≤ r → r < a + k → (∀ i, a ≤ i → i < r → q i = false) → fst1 q a k = r
  | 0, a, h1, h2, _ => absurd h2 (by omega)
  | k + 1, a, h1, h2, h3 => by
    show (if q a then a else fst1 q (a + 1) k) = r
    by_cases e : a = r
    · rw [e, hr]
      rfl
    · rw [h3 a (Nat.le_refl a) (by omega)]
      exact fst1_eq hr k (a + 1) (by omega) (by omega) (fun i hi hi2 => h3 i (by omega) hi2)
theorem fst1_0 {q : Nat → Bool} : ∀ k a, (∀ i, a ≤ i → i < a + k → q i = false) → fst1 q a k = 0
  | 0, a, _ => rfl
  | k + 1, a, h => by
    show (if q a then a else fst1 q (a + 1) k) = 0
    rw [h a (Nat.le_refl a) (by omega)]
    exact fst1_0 k (a + 1) (fun i h1 h2 => h i (by omega) (by omega))
theorem rnd_par {g : Gr} {N x : Nat} (h : POK g N) (hx : x < N) : (∀ s, gs g x = some s → rnd g s ≤ rnd g x) ∧ (∀ o, go g x = some o → rnd g o ≤ rnd g x) := by
  have e := rnd_eq h hx
  cases hs : gs g x with
  | none =>
    refine ⟨fun s q => (by cases q), fun o q => ?_⟩
    have := (h.1 x hx).2.2.2 hs
    rw [this] at q
    cases q
  | some s =>
    rw [hs] at e
    have e : rnd g x = if most g (cnt (rmask g (rnd g) x (max (rnd g s) (oN (go g x) (rnd g)))) 8) then max (rnd g s) (oN (go g x) (rnd g)) + 1 else max (rnd g s) (oN (go g x) (rnd g)) := e
    have hm : max (rnd g s) (oN (go g x) (rnd g)) ≤ rnd g x := by
      rw [e]
      split <;> omega
    refine ⟨fun s2 q => (by cases q; omega), fun o q => ?_⟩
    rw [q] at hm
    have : oN (some o) (rnd g) = rnd g o := rfl
    omega
theorem anc_rnd {g : Gr} {N : Nat} (h : POK g N) : ∀ u, u < N → ∀ x, anc g u x = true → rnd g x ≤ rnd g u := by
  intro u
  induction u using Nat.strongRecOn with
  | ind u ih =>
    intro hu x hx
    rcases (anc_iff h hu x).mp hx with rfl | ⟨s, hs, h2⟩ | ⟨s, hs, h2⟩
    · exact Nat.le_refl _
    · have hl := ((h.1 u hu).2.1 s hs).1
      exact Nat.le_trans (ih s hl (by omega) x h2) ((rnd_par h hu).1 s hs)
    · have hl := (h.1 u hu).2.2.1 s hs
      exact Nat.le_trans (ih s hl (by omega) x h2) ((rnd_par h hu).2 s hs)
theorem uc_pos {r : Nat} (h : 0 < uc p r) : ∃ u, u < pN p ∧ ur p r u = true := by
  obtain ⟨u, h1, h2, -⟩ := cnt_at (p := ur p r) (pN p) 0 h
  exact ⟨u, h1, h2⟩
theorem stl_iff {r : Nat} : stl p r = true ↔ 1 ≤ r ∧ r < lot p (pN p) ∧ 0 < uc p r := by
  unfold stl
  simp only [Bool.and_eq_true, decide_eq_true_eq]
theorem v_X5_roundReceiving (v : Nat) (_ : IsView v) (x1 : Int32) (σ : Sg) (K : Int32 → Sg → Prop) (h : sp_X5_roundReceiving v x1 σ K) : vc_X5_roundReceiving v x1 σ K := by
  obtain ⟨p, x, hV, ⟨hU, hS⟩, rfl, hx, hK⟩ := h
  obtain ⟨hv, hP, hN, hE, hH, hTm, hTx, hk, hhd, hG, hL, h7⟩ := id hV
  intro L r
  have hrx := rnd_pos hP x hx
  have hml := mxR_le hP
  have hxm : rnd (pg p) x ≤ mxR (pg p) (pN p) := mx_ge (pN p) x hx rfl
  obtain ⟨q, hq⟩ : ∃ q : Nat → Bool, q = fun r => stl p r && bel p r x := ⟨_, rfl⟩
  rw [← hq] at hK
  have low : ∀ i, i < rnd (pg p) x → q i = false := by
    intro i hi
    cases e : q i
    · rfl
    · rw [hq] at e
      have e : (stl p i && bel p i x) = true := e
      rw [Bool.and_eq_true] at e
      obtain ⟨u, hu, huq⟩ := uc_pos (stl_iff.mp e.1).2.2
      have hb := e.2
      unfold bel at hb
      rw [Bool.not_eq_true'] at hb
      have := (anyN_false _ _).mp hb u hu
      rw [huq, Bool.true_and] at this
      have ha : anc (pg p) u x = true := by
        cases e : anc (pg p) u x
        · rw [e] at this; cases this
        · rfl
      have h1 := anc_rnd hP u hu x ha
      have h2 := (ur_iff.mp huq).2
      omega
  have high : ∀ i, mxR (pg p) (pN p) < i → q i = false := by
    intro i hi
    cases e : q i
    · rfl
    · rw [hq] at e
      have e : (stl p i && bel p i x) = true := e
      rw [Bool.and_eq_true] at e
      obtain ⟨u, hu, huq⟩ := uc_pos (stl_iff.mp e.1).2.2
      have h2 := (ur_iff.mp huq).2
      have h3 : rnd (pg p) u ≤ mxR (pg p) (pN p) := mx_ge (pN p) u hu rfl
      omega
  have key : ∀ i, i ≤ mxR (pg p) (pN p) + 1 → rnd (pg p) x ≤ i → (∀ j, j < i → q j = false) → L (nI i) σ := by
    refine down (mxR (pg p) (pN p) + 1) (fun _ hj => ?_) (fun i hi ih hri hj => ?_)
    · refine r _ _ ⟨fun _ => ?_, fun c => absurd (by rw [hG.2.2.2.2.2.2.2.2.1]; exact nI_lt (Nat.lt_succ_self _) (by omega)) c⟩
      rw [fst1_0 240 1 (fun j h1 h2 => by
        by_cases e : j < mxR (pg p) (pN p) + 1
        · exact hj j e
        · exact high j (by omega))] at hK
      exact hK
    · have hv241 : vp_in (nI i) 241 := vp_in_nI (by omega) (by omega)
      have skip : q i = false → L (nI i + 1) σ := by
        intro he
        rw [nI_1]
        exact ih (by omega) (fun j hji => by
          by_cases e : j = i
          · rw [e]; exact he
          · exact hj j (by omega))
      refine r _ _ ?_
      unfold f_X5_roundReceiving_10
      rw [hG.2.2.2.2.2.2.2.2.1, cl_nI (show i < 2 ^ 31 by omega), hS i (by omega) (by omega)]
      refine ⟨fun c => absurd c (nI_nlt (by omega) (by omega)), fun _ => ⟨hv241, fun c => ?_, fun c => ⟨p, x, i, hV, hU, rfl, hx, rfl, by omega, fun c2 => ?_, fun c2 => ?_⟩⟩⟩
      · rw [bI_0] at c
        exact skip (by rw [hq]; show (stl p i && _) = false; rw [c]; rfl)
      · rw [bI_0] at c2
        exact skip (by rw [hq]; show (_ && bel p i x) = false; rw [c2, Bool.and_false])
      · rw [bI_1] at c c2
        have : q i = true := by rw [hq]; show (stl p i && bel p i x) = true; rw [c, c2]; rfl
        rw [fst1_eq this 240 1 (by omega) (by omega) (fun j _ hji => hj j hji)] at hK
        exact hK
  unfold f_X5_roundReceiving_e
  rw [cl_nI (by omega), (hG.2.2.2.2.1 x hx).1]
  exact ⟨v240 (by omega), key _ (by omega) (Nat.le_refl _) low⟩
theorem fa_eq {g : Gr} {N : Nat} (h : POK g N) (x : Nat) {u : Nat} (hu : u < N) : fa g x u = match gs g u with
  | none => u
  | some s => if anc g s x then fa g x s else u := by
  refine (fx_eq (d := 0) (F := faF g x) u (fun f f2 hf => ?_)).trans rfl
  unfold faF
  cases hs : gs g u with
  | none => rfl
  | some s =>
    show (if anc g s x then f s else u) = (if anc g s x then f2 s else u)
    rw [hf s ((h.1 u hu).2.1 s hs).1]
theorem fa_le {g : Gr} {N : Nat} (h : POK g N) (x : Nat) : ∀ u, u < N → fa g x u ≤ u := by
  intro u
  induction u using Nat.strongRecOn with
  | ind u ih =>
    intro hu
    rw [fa_eq h x hu]
    cases hs : gs g u with
    | none => exact Nat.le_refl _
    | some s =>
      have hl := ((h.1 u hu).2.1 s hs).1
      show (if anc g s x then fa g x s else u) ≤ u
      split
      · have := ih s hl (by omega)
        omega
      · exact Nat.le_refl _
theorem v_X5_firstAbove (v : Nat) (_ : IsView v) (x1 x2 : Int32) (σ : Sg) (K : Int32 → Sg → Prop) (h : sp_X5_firstAbove v x1 x2 σ K) : vc_X5_firstAbove v x1 x2 σ K := by
  obtain ⟨p, x, u, hV, rfl, hx, rfl, hu, hK⟩ := h
  obtain ⟨hv, hP, hN, hE, hH, hTm, hTx, hk, hhd, hG, hL, h7⟩ := id hV
  intro L r
  have key : ∀ z, z < pN p → ∀ i, i + z < 240 → fa (pg p) x z = fa (pg p) x u → L (nI z) (nI i) σ := by
    intro z
    induction z using Nat.strongRecOn with
    | ind z ih =>
      intro hz i hi he
      have hfe := fa_eq hP x hz
      refine r _ _ _ ?_
      unfold f_X5_firstAbove_5
      rw [cl_nI (show z < 2 ^ 31 by omega), (hE z hz).2.1]
      refine ⟨fun c => absurd c (nI_ge (b := 240) (by omega) (by omega)), fun _ => ⟨v240 (by omega), ?_⟩⟩
      cases hs : gs (pg p) z with
      | none =>
        rw [hs] at hfe
        have hfe : fa (pg p) x z = z := hfe
        refine ⟨fun _ => ?_, fun c => absurd rfl c⟩
        rw [← he, hfe] at hK
        exact hK
      | some s =>
        have hl := ((hP.1 z hz).2.1 s hs).1
        rw [hs] at hfe
        have hfe : fa (pg p) x z = if anc (pg p) s x then fa (pg p) x s else z := hfe
        have hb : bt σ 23 s x = anc (pg p) s x := hG.1 s x (by omega) (by omega)
        refine ⟨fun c => absurd c (nO_some (by omega)), fun _ => ⟨by decide, s, x, rfl, rfl, by omega, by omega, ?_⟩⟩
        rw [hb]
        refine ⟨fun c => ?_, fun c => ?_⟩
        · rw [bI_1] at c
          rw [if_pos c] at hfe
          show L (nI s) (nI i + 1) σ
          rw [nI_1]
          exact ih s hl (by omega) (i + 1) (by omega) (hfe.symm.trans he)
        · rw [bI_0] at c
          rw [if_neg (by rw [c]; decide)] at hfe
          rw [← he, hfe] at hK
          exact hK
  exact key u hu 0 (by omega) rfl
theorem insA_congr : ∀ (k : Nat) (f f2 : Nat → Int64) (t : Int64), (∀ j, j < k → f j = f2 j) → ∀ j, j ≤ k → insA f k t j = insA f2 k t j
  | 0, f, f2, t, _, j, hj => by
    have : j = 0 := by omega
    subst this
    show vp_updL f 0 t 0 = vp_updL f2 0 t 0
    rw [pk_uLs, pk_uLs]
  | k + 1, f, f2, t, h, j, hj => by
    show (if f k ≤ t then vp_updL f (k + 1) t else insA (vp_updL f (k + 1) (f k)) k t) j = (if f2 k ≤ t then vp_updL f2 (k + 1) t else insA (vp_updL f2 (k + 1) (f2 k)) k t) j
    rw [h k (Nat.lt_succ_self k)]
    have up : ∀ a i, i ≤ k + 1 → vp_updL f (k + 1) a i = vp_updL f2 (k + 1) a i := by
      intro a i hi
      unfold vp_updL
      by_cases e : i = k + 1
      · rw [if_pos e, if_pos e]
      · rw [if_neg e, if_neg e]
        exact h i (by omega)
    by_cases c : f2 k ≤ t
    · rw [if_pos c, if_pos c]
      exact up t j hj
    · rw [if_neg c, if_neg c]
      by_cases e : j = k + 1
      · have far : ∀ (k2 : Nat) (g : Nat → Int64), k2 < j → insA g k2 t j = g j := by
          intro k2
          induction k2 with
          | zero => intro g hk2; exact pk_uLn (by omega)
          | succ k2 ih2 =>
            intro g hk2
            show (if g k2 ≤ t then vp_updL g (k2 + 1) t else insA (vp_updL g (k2 + 1) (g k2)) k2 t) j = g j
            split
            · exact pk_uLn (by omega)
            · rw [ih2 _ (by omega)]
              exact pk_uLn (by omega)
        rw [far k _ (by omega), far k _ (by omega)]
        exact up _ j hj
      · exact insA_congr k _ _ t (fun i hi => up _ i (by omega)) j (by omega)
theorem v_X5_stampIn (v : Nat) (_ : IsView v) (x1 x2 : Int32) (σ : Sg) (K : Int64 → Sg → Prop) (h : sp_X5_stampIn v x1 x2 σ K) : vc_X5_stampIn v x1 x2 σ K := by
  obtain ⟨p, x, q, hV, hU, rfl, hq, hpos, rfl, hx, hK⟩ := h
  obtain ⟨hv, hP, hN, hE, hH, hTm, hTx, hk, hhd, hG, hL, h7⟩ := id hV
  intro L2 L41 r2 r41
  have hucl := uc_le (p := p) hP q
  have hv241 : vp_in (nI q) 241 := vp_in_nI (by omega) (by omega)
  -- the inner loop
  have inner : ∀ k, k ≤ 7 → ∀ (i : Nat) (t : Int64) (τ : Sg), L2 (nI i + 1) (pS τ (v + 11) (insA (τ.2 (v + 11)) k t)) → L41 (nI i) t (nI k) τ := by
    intro k
    induction k with
    | zero =>
      intro _ i t τ hL2
      refine r41 _ _ _ _ ⟨fun _ => ⟨vp_in_nI (n := 0) (by decide) (by decide), ?_⟩, fun c => absurd (Int32.le_refl _) c⟩
      show L2 (nI i + 1) (pJ τ (v + 11) 0 t)
      rw [pJ_eq]
      exact hL2
    | succ k ih =>
      intro hk8 i t τ hL2
      have hL2 : L2 (nI i + 1) (pS τ (v + 11) (if τ.2 (v + 11) k ≤ t then vp_updL (τ.2 (v + 11)) (k + 1) t else insA (vp_updL (τ.2 (v + 11)) (k + 1) (τ.2 (v + 11) k)) k t)) := hL2
      have e1 : nI (k + 1) - 1 = nI k := nI_pred k
      have ck : (nI k).toNatClampNeg = k := cl_nI (by omega)
      have hvk : vp_in (nI k) 8 := vp_in_nI (by omega) (by omega)
      have hvk1 : vp_in (nI (k + 1)) 8 := vp_in_nI (by omega) (by omega)
      refine r41 _ _ _ _ ?_
      unfold f_X5_stampIn_41
      rw [e1, ck, lg_cmp_le]
      refine ⟨fun c => absurd c (nI_ge (a := 0) (b := k + 1) (by omega) (by omega)), fun _ => ⟨hvk, fun c => ⟨hvk1, ?_⟩, fun c => ⟨hvk, hvk1, ?_⟩⟩⟩
      · rw [if_pos c] at hL2
        rw [cl_nI (by omega), pJ_eq]
        exact hL2
      · rw [if_neg c] at hL2
        rw [pk_m1, cl_nI (by omega), pJ_eq]
        refine ih (by omega) i t _ ?_
        have e : pS (pS τ (v + 11) (vp_updL (τ.2 (v + 11)) (k + 1) (τ.2 (v + 11) k))) (v + 11) (insA ((pS τ (v + 11) (vp_updL (τ.2 (v + 11)) (k + 1) (τ.2 (v + 11) k))).2 (v + 11)) k t) = pS τ (v + 11) (insA (vp_updL (τ.2 (v + 11)) (k + 1) (τ.2 (v + 11) k)) k t) := by
          rw [pS_self]
          refine sg_ext (fun _ _ => rfl) (fun a b => ?_)
          rw [pS_at, pS_at, pS_at]
          by_cases h : a = v + 11
          · rw [if_pos h, if_pos h]
          · rw [if_neg h, if_neg h, if_neg h]
        rw [e]
        exact hL2
  have main := wl_loop (L := fun i τ => L2 (nI i) τ) (ur p q) (pN p) (fun M τ => (∀ j, j < cnt (ur p q) M → τ.2 (v + 11) j = srt p q x M j) ∧ Fr [v + 11] σ τ) (fun M τ hM hw hs => ?_) (fun τ hs => ?_) (fun z τ hz hw hs ih => ?_)
  · exact main σ ⟨fun j hj => absurd hj (Nat.not_lt_zero _), Fr.refl _ _⟩
  · refine ⟨fun j hj => ?_, hs.2⟩
    have e1 : cnt (ur p q) (M + 1) = cnt (ur p q) M + if ur p q M then 1 else 0 := rfl
    have e2 : srt p q x (M + 1) = if ur p q M then insA (srt p q x M) (cnt (ur p q) M) (ptm p (fa (pg p) x M)) else srt p q x M := rfl
    rw [e2, hw]
    rw [e1, hw] at hj
    exact hs.1 j hj
  · have e8 : τ.1 (v + 8) (nI q).toNatClampNeg = nI (uc p q) := by rw [cl_nI (by omega), (hs.2 (v + 8) (by simp)).1]; exact hU.2.1 q hq
    have ed : nI (uc p q) / 2 = nI (uc p q / 2) := pk_div (d := 2) (by omega) (by decide) (by decide)
    refine r2 _ _ ?_
    unfold f_X5_stampIn_2
    rw [e8, ed, cl_nI (show uc p q / 2 < 2 ^ 31 by omega)]
    refine ⟨hv241, fun _ => ⟨hv241, vp_in_nI (by omega) (by omega), ?_⟩, fun c => absurd (Int32.le_refl _) c⟩
    rw [hs.1 (uc p q / 2) (show uc p q / 2 < uc p q by omega)]
    exact hK τ hs.2
  · obtain ⟨a1, a2⟩ := hs
    have hci : cnt (ur p q) z < uc p q := cnt_step hz hw
    have e : (nI q * 8) + nI (cnt (ur p q) z) = nI (q * 8 + cnt (ur p q) z) := by rw [show (8 : Int32) = nI 8 from rfl, pk_mul, nI_add]
    have e8 : τ.1 (v + 8) (nI q).toNatClampNeg = nI (uc p q) := by rw [cl_nI (by omega), (a2 (v + 8) (by simp)).1]; exact hU.2.1 q hq
    have hVt : Vb p v τ := hV.keep a2 (by simp) (by rw [(a2 v (by simp)).1])
    have hfl := fa_le hP x z hz
    refine r2 _ _ ?_
    unfold f_X5_stampIn_2
    rw [e8, e, cl_nI (show q * 8 + cnt (ur p q) z < 2 ^ 31 by omega), (a2 (v + 7) (by simp)).1, hU.2.2.1 q z hq hz hw]
    refine ⟨hv241, fun c => absurd c (nI_ge hci (by omega)), fun _ => ⟨vp_in_nI (by omega) (by omega), p, x, z, hVt, rfl, hx, rfl, hz, v240 (by omega), ?_⟩⟩
    rw [cl_nI (show fa (pg p) x z < 2 ^ 31 by omega), (a2 15 (by simp; omega)).2, hTm _ (by omega)]
    refine inner _ (by omega) _ _ τ ?_
    rw [nI_1]
    refine ih _ ⟨fun j hj => ?_, Fr_pS a2 (by simp)⟩
    have e1 : cnt (ur p q) (z + 1) = cnt (ur p q) z + if ur p q z then 1 else 0 := rfl
    have e2 : srt p q x (z + 1) = if ur p q z then insA (srt p q x z) (cnt (ur p q) z) (ptm p (fa (pg p) x z)) else srt p q x z := rfl
    rw [e1, hw] at hj
    have hj : j < cnt (ur p q) z + 1 := hj
    rw [pS_self, e2, hw]
    exact insA_congr _ _ _ _ a1 j (by omega)
theorem v_X5_findReceived (v : Nat) (_ : IsView v) (σ : Sg) (K : Sg → Prop) (h : sp_X5_findReceived v σ K) : vc_X5_findReceived v σ K := by
  obtain ⟨p, hV, ⟨hU, hS⟩, hK⟩ := h
  obtain ⟨hv, hP, hN, hE, hH, hTm, hTx, hk, hhd, hG, hL, h7⟩ := id hV
  intro L r
  have key : ∀ i, i ≤ pN p → ∀ τ : Sg, ((∀ x, x < 240 → τ.1 (v + 2) x = nI (if x < i then rcv p x else 0)) ∧ (∀ x, x < i → inR p x = true → τ.2 (v + 3) x = stp p x) ∧ Fr [v + 2, v + 3, v + 11] σ τ) → L (nI i) τ := by
    refine lup (L := fun i τ => L (nI i) τ) (fun i τ => (∀ x, x < 240 → τ.1 (v + 2) x = nI (if x < i then rcv p x else 0)) ∧ (∀ x, x < i → inR p x = true → τ.2 (v + 3) x = stp p x) ∧ Fr [v + 2, v + 3, v + 11] σ τ) (pN p) (fun τ ht => ?_) (fun i τ hi ht ih => ?_)
    · obtain ⟨a1, a2, a3⟩ := ht
      refine r _ _ ⟨fun _ => hK τ ⟨fun x hx => ?_, a2⟩ a3, fun c => absurd (by rw [(a3 7 (by simp; omega)).1, h7]; exact Int32.le_refl _) c⟩
      rw [a1 x hx]
      congr 1
      by_cases e : x < pN p
      · rw [if_pos e]
      · rw [if_neg e]
        have : phd p x = false := by
          cases hq : phd p x
          · rfl
          · exact absurd (hhd x hq) e
        unfold rcv
        rw [this]
        rfl
    · obtain ⟨a1, a2, a3⟩ := ht
      have ci : (nI i).toNatClampNeg = i := cl_nI (by omega)
      have hVt : Vb p v τ := hV.keep a3 (by simp) (by rw [(a3 v (by simp)).1])
      have hUt : VU p v τ := hU.keep a3 (by simp) (by simp) (by simp) (by simp)
      have hSt : VS p v τ := ⟨hUt, fun q h1 h2 => by rw [(a3 (v + 10) (by simp)).1]; exact hS q h1 h2⟩
      have J40 : ∀ τ2 : Sg, τ2 = pI τ (v + 2) i (nI (rcv p i)) → f_X5_findReceived_40 v L K (nI i) τ2 := by
        intro τ2 et
        have f2 : Fr [v + 2] τ τ2 := by rw [et]; exact Fr_pI (Fr.refl _ _) (by simp)
        have er : ∀ x, x < 240 → τ2.1 (v + 2) x = nI (if x < i + 1 then rcv p x else 0) := by
          intro x hx
          rw [et, pI_at]
          by_cases e : x = i
          · rw [if_pos ⟨rfl, e⟩, e, if_pos (Nat.lt_succ_self i)]
          · rw [if_neg (fun q => e q.2), a1 x hx]
            congr 1
            by_cases e2 : x < i
            · rw [if_pos e2, if_pos (by omega)]
            · rw [if_neg e2, if_neg (by omega)]
        have hri : rcv p i ≤ 240 ∧ (rcv p i ≠ 0 → 0 < uc p (rcv p i)) := by
          have gen : ∀ k a, fst1 (fun r => stl p r && bel p r i) a k = 0 ∨ (fst1 (fun r => stl p r && bel p r i) a k < a + k ∧ stl p (fst1 (fun r => stl p r && bel p r i) a k) = true) := by
            intro k
            induction k with
            | zero => intro a; exact Or.inl rfl
            | succ k ihk =>
              intro a
              have e : fst1 (fun r => stl p r && bel p r i) a (k + 1) = if (stl p a && bel p a i) then a else fst1 (fun r => stl p r && bel p r i) (a + 1) k := rfl
              rw [e]
              by_cases c : (stl p a && bel p a i) = true
              · rw [if_pos c]
                rw [Bool.and_eq_true] at c
                exact Or.inr ⟨by omega, c.1⟩
              · rw [if_neg c]
                rcases ihk (a + 1) with h | ⟨h1, h2⟩
                · exact Or.inl h
                · exact Or.inr ⟨by omega, h2⟩
          unfold rcv
          split
          · rcases gen 240 1 with h | ⟨h1, h2⟩
            · rw [h]; exact ⟨by omega, fun q => absurd rfl q⟩
            · exact ⟨by omega, fun _ => (stl_iff.mp h2).2.2⟩
          · exact ⟨by omega, fun q => absurd rfl q⟩
        have hR : ∀ x, inR p x = true ↔ rcv p x ≠ 0 := fun x => by unfold inR; simp
        unfold f_X5_findReceived_40
        have e2 : τ2.1 (v + 2) (nI i).toNatClampNeg = nI (rcv p i) := by rw [ci, er i (by omega), if_pos (Nat.lt_succ_self i)]
        rw [e2]
        refine ⟨v240 (by omega), fun c => ?_, fun c => ⟨v240 (by omega), p, i, rcv p i, ?_, ?_, rfl, hri.1, hri.2 (fun q => c (by rw [q]; rfl)), rfl, hi, fun τ3 f3 => ⟨v240 (by omega), ?_⟩⟩⟩
        · have c : rcv p i = 0 := (nI_eq (b := 0) (by omega) (by omega)).mp c
          show L (nI i + 1) τ2
          rw [nI_1]
          refine ih _ ⟨er, fun x hx hin => ?_, a3.trans (f2.mono (by simp))⟩
          have : x ≠ i := fun e => (hR x).mp hin (by rw [e]; exact c)
          rw [(f2 (v + 3) (by simp)).2]
          exact a2 x (by omega) hin
        · exact hVt.keep f2 (by simp) (by rw [(f2 v (by simp)).1])
        · exact hUt.keep f2 (by simp) (by simp) (by simp) (by simp)
        · show L (nI i + 1) (pJ τ3 (v + 3) (nI i).toNatClampNeg (stp p i))
          rw [ci, nI_1]
          refine ih _ ⟨fun x hx => ?_, fun x hx hin => ?_, Fr_pJ ((a3.trans (f2.mono (by simp))).trans (f3.mono (by simp))) (by simp)⟩
          · rw [pJ_I, (f3 (v + 2) (by simp)).1]
            exact er x hx
          · rw [pJ_at]
            by_cases e : x = i
            · rw [if_pos ⟨rfl, e⟩, e]
            · rw [if_neg (fun q => e q.2), (f3 (v + 3) (by simp)).2, (f2 (v + 3) (by simp)).2]
              exact a2 x (by omega) hin
      refine r _ _ ⟨fun c => absurd c (by rw [(a3 7 (by simp; omega)).1, h7]; exact nI_ge hi (by omega)), fun _ => holds_ok hVt (by omega) ⟨fun q => ?_, fun q => ⟨p, i, hVt, hSt, rfl, hi, v240 (by omega), ?_⟩⟩⟩
      · rw [bI_0] at q
        have hr0 : rcv p i = 0 := by unfold rcv; rw [q]; rfl
        refine J40 τ ?_
        refine sg_ext (fun a b => ?_) (fun _ _ => rfl)
        rw [pI_at]
        by_cases e : a = v + 2 ∧ b = i
        · rw [if_pos e, e.1, e.2, a1 i (by omega), hr0, if_neg (Nat.lt_irrefl i)]
        · rw [if_neg e]
      · rw [bI_1] at q
        refine J40 _ ?_
        have : rcv p i = fst1 (fun r => stl p r && bel p r i) 1 240 := by unfold rcv; rw [q]; rfl
        rw [ci, this]
  refine ⟨by omega, key 0 (by omega) _ ⟨fun x hx => ?_, fun x hx => absurd hx (Nat.not_lt_zero _), Fr_pR (Fr.refl _ _) (by simp)⟩⟩
  rw [pR_at, if_pos rfl, if_pos hx]
  rfl
end VIEW3
