/-! ===== rounds ===== -/
theorem rmask_congr {g : Gr} {N x : Nat} (h : POK g N) (hx : x < N) {f f2 : Nat → Nat} (hf : ∀ y, y < x → f y = f2 y) (r c : Nat) : rmask g f x r c = rmask g f2 x r c := by
  unfold rmask
  refine anyN_congr x (fun w hw => ?_)
  have e : witF g f w = witF g f2 w := by
    unfold witF
    cases hs : gs g w with
    | none => rfl
    | some s =>
      have := ((h.1 w (by omega)).2.1 s hs).1
      show decide (f s < f w) = decide (f2 s < f2 w)
      rw [hf s (by omega), hf w hw]
  rw [e, hf w hw]
theorem rnd_eq {g : Gr} {N x : Nat} (h : POK g N) (hx : x < N) : rnd g x = match gs g x with
  | none => 1
  | some s => if most g (cnt (rmask g (rnd g) x (max (rnd g s) (oN (go g x) (rnd g)))) 8) then max (rnd g s) (oN (go g x) (rnd g)) + 1 else max (rnd g s) (oN (go g x) (rnd g)) := by
  refine (fx_eq (d := 0) (F := rnF g) x (fun f f2 hf => ?_)).trans rfl
  unfold rnF
  cases hs : gs g x with
  | none => rfl
  | some s =>
    have e1 : f s = f2 s := hf s ((h.1 x hx).2.1 s hs).1
    have e2 : oN (go g x) f = oN (go g x) f2 := oN_congr (fun o ho => hf o ((h.1 x hx).2.2.1 o ho))
    show (if most g (cnt (rmask g f x (max (f s) (oN (go g x) f))) 8) then _ else _) = (if most g (cnt (rmask g f2 x (max (f2 s) (oN (go g x) f2))) 8) then _ else _)
    rw [e1, e2, cnt_congr 8 (fun c _ => rmask_congr h hx hf _ c)]
theorem rnd_pos {g : Gr} {N : Nat} (h : POK g N) : ∀ x, x < N → 1 ≤ rnd g x ∧ rnd g x ≤ x + 1 := by
  intro x
  induction x using Nat.strongRecOn with
  | ind x ih =>
    intro hx
    rw [rnd_eq h hx]
    cases hs : gs g x with
    | none => exact ⟨Nat.le_refl _, (show 1 ≤ x + 1 by omega)⟩
    | some s =>
      have hl := ((h.1 x hx).2.1 s hs).1
      have h1 := ih s hl (by omega)
      have h2 : oN (go g x) (rnd g) ≤ x := by
        cases ho : go g x with
        | none => exact Nat.zero_le _
        | some o =>
          have hl2 := (h.1 x hx).2.2.1 o ho
          have := ih o hl2 (by omega)
          show rnd g o ≤ x
          omega
      show 1 ≤ (if most g (cnt (rmask g (rnd g) x (max (rnd g s) (oN (go g x) (rnd g)))) 8) then max (rnd g s) (oN (go g x) (rnd g)) + 1 else max (rnd g s) (oN (go g x) (rnd g))) ∧ (if most g (cnt (rmask g (rnd g) x (max (rnd g s) (oN (go g x) (rnd g)))) 8) then max (rnd g s) (oN (go g x) (rnd g)) + 1 else max (rnd g s) (oN (go g x) (rnd g))) ≤ _
      by_cases hc : most g (cnt (rmask g (rnd g) x (max (rnd g s) (oN (go g x) (rnd g)))) 8) = true
      · rw [if_pos hc]
        omega
      · rw [if_neg hc]
        omega
theorem mask_nI (p : Nat → Bool) : ∃ m, m < 256 ∧ ∀ i, m.testBit i = (decide (i < 8) && p i) := by
  refine ⟨(List.range 8).foldl (fun a i => if p i then a ||| 2 ^ i else a) 0, ?_, ?_⟩
  · have : ∀ n, n ≤ 8 → (List.range n).foldl (fun a i => if p i then a ||| 2 ^ i else a) 0 < 2 ^ 8 := by
      intro n
      induction n with
      | zero => intro _; show 0 < 2 ^ 8; decide
      | succ n ih =>
        intro hn
        rw [List.range_succ, List.foldl_append]
        show (if p n then _ else _) < _
        split
        · exact Nat.or_lt_two_pow (ih (by omega)) (Nat.pow_lt_pow_right (by decide) (by omega))
        · exact ih (by omega)
    exact this 8 (Nat.le_refl _)
  · have : ∀ n i, ((List.range n).foldl (fun a i => if p i then a ||| 2 ^ i else a) 0).testBit i = (decide (i < n) && p i) := by
      intro n
      induction n with
      | zero => intro i; simp
      | succ n ih =>
        intro i
        rw [List.range_succ, List.foldl_append]
        show (if p n then _ else _ : Nat).testBit i = _
        by_cases hp : p n = true
        · rw [if_pos hp, Nat.testBit_or, ih, Nat.testBit_two_pow]
          by_cases e : i = n
          · subst e; simp [hp]
          · have : decide (n = i) = false := decide_eq_false (fun q => e q.symm)
            rw [this, Bool.or_false]
            congr 1
            exact decide_eq_decide.mpr (by omega)
        · rw [if_neg hp, ih]
          by_cases e : i = n
          · subst e; simp [hp]
          · congr 1
            exact decide_eq_decide.mpr (by omega)
    exact this 8
theorem bit_or {m c : Nat} (hm : m < 256) (hc : c < 8) : nI m ||| ishl 1 (nI c) = nI (m ||| 2 ^ c) := by
  have e : ishl 1 (nI c) = nI (2 ^ c) := by
    have : ∀ c, c < 8 → ishl 1 (nI c) = nI (2 ^ c) := by decide +kernel
    exact this c hc
  rw [e]
  apply Int32.toBitVec_inj.mp
  rw [Int32.toBitVec_or]
  apply BitVec.eq_of_toNat_eq
  have h2 : m ||| 2 ^ c < 2 ^ 8 := Nat.or_lt_two_pow (by omega) (Nat.pow_lt_pow_right (by decide) hc)
  have h3 : 2 ^ c < 2 ^ 8 := Nat.pow_lt_pow_right (by decide) hc
  rw [BitVec.toNat_or, pk_tn (by omega), pk_tn (by omega), pk_tn (by omega)]
theorem pop8_mask {m : Nat} {p : Nat → Bool} (h : ∀ i, m.testBit i = (decide (i < 8) && p i)) : pop8 m = cnt p 8 := cnt_congr 8 (fun i hi => by rw [h i, decide_eq_true hi, Bool.true_and])
theorem v_X3_stronglySeesMostOf (x1 x2 : Int32) (σ : Sg) (K : Int32 → Sg → Prop) (h : sp_X3_stronglySeesMostOf x1 x2 σ K) : vc_X3_stronglySeesMostOf x1 x2 σ K := by
  obtain ⟨g, x, r, rfl, hx, rfl, hr31, hP, hE, hT, hR, hn, hK⟩ := h
  intro L rr
  have hxx : x < x + 1 := Nat.lt_succ_self x
  obtain ⟨q, hq⟩ : ∃ q : Nat → Nat → Bool, q = fun w c => witF g (rnd g) w && (decide (rnd g w = r) && (str g x w && decide (gc g w = c))) := ⟨_, rfl⟩
  have key : ∀ i, i ≤ x → ∀ m, (m < 256 ∧ ∀ c, m.testBit c = (decide (c < 8) && anyN (fun w => q w c) i)) → L (nI m) (nI i) σ := by
    refine lup (L := fun i m => L (nI m) (nI i) σ) (fun i m => m < 256 ∧ ∀ c, m.testBit c = (decide (c < 8) && anyN (fun w => q w c) i)) x (fun m hm => ?_) (fun i m hi hm ih => ?_)
    · refine rr _ _ _ ⟨fun _ => ⟨m, hm.1, rfl, ?_⟩, fun c => absurd (Int32.le_refl _) c⟩
      show f_X7_isMost_e (nI (pop8 m)) (σ.1 22 11) _ σ
      have e : pop8 m = cnt (rmask g (rnd g) x r) 8 := by
        rw [pop8_mask hm.2]
        refine cnt_congr 8 (fun c _ => ?_)
        rw [hq]
        rfl
      have hl : pop8 m ≤ 8 := pop8_le m
      rw [hn]
      refine ⟨fun c => ⟨isZ_0, isZ_0, ?_⟩, fun c => ⟨isZ_1, isZ_1, ?_⟩⟩
      · have := (most_nI hP.2.2 (by omega)).mp c
        rw [e] at this
        rw [this] at hK
        exact hK
      · have : most g (pop8 m) = true := by
          cases e : most g (pop8 m)
          · exact absurd ((most_nI hP.2.2 (by omega)).mpr e) c
          · rfl
        rw [e] at this
        rw [this] at hK
        exact hK
    · obtain ⟨hm1, hm2⟩ := hm
      have ci : (nI i).toNatClampNeg = i := cl_nI (by omega)
      have skip : (∀ c, c < 8 → q i c = false) → L (nI m) (nI i + 1) σ := by
        intro hs
        rw [nI_1]
        refine ih m ⟨hm1, fun c => ?_⟩
        rw [hm2 c]
        by_cases hc : c < 8
        · congr 1
          show _ = (_ || q i c)
          rw [hs c hc, Bool.or_false]
        · rw [decide_eq_false hc]
          rfl
      have hri := rnd_pos hP i (by omega)
      refine rr _ _ _ ?_
      unfold f_X3_stronglySeesMostOf_5
      rw [ci, (hR i hi).1, (hR i hi).2]
      refine ⟨fun c => absurd c (nI_ge hi (by omega)), fun _ => ⟨v240 (by omega), fun c => ?_, fun c => ⟨v240 (by omega), fun c2 => ?_, fun c2 => ⟨by decide, x, i, rfl, rfl, by omega, by omega, ?_⟩⟩⟩⟩
      · rw [bI_0] at c
        have c : witF g (rnd g) i = false := c
        exact skip (fun d _ => by rw [hq]; show (witF g (rnd g) i && _) = false; rw [c]; rfl)
      · have : ¬ rnd g i = r := fun e => c2 (by rw [e])
        exact skip (fun d _ => by rw [hq]; show (_ && (decide (rnd g i = r) && _)) = false; rw [decide_eq_false this, Bool.false_and, Bool.and_false])
      · have hb : bt σ 27 x i = str g x i := hT x i hxx (by omega)
        rw [hb]
        refine ⟨fun c3 => ?_, fun c3 => ⟨v240 (by omega), ?_⟩⟩
        · rw [bI_0] at c3
          exact skip (fun d _ => by rw [hq]; show (_ && (_ && (str g x i && _))) = false; rw [c3, Bool.false_and, Bool.and_false, Bool.and_false])
        · rw [bI_1] at c3
          rw [bI_1] at c
          have c : witF g (rnd g) i = true := c
          have c2' : rnd g i = r := (nI_eq (by omega) hr31).mp c2
          have hci := (hP.1 i (by omega)).1
          show L (nI m ||| ishl 1 (σ.1 12 i)) (nI i + 1) σ
          rw [(hE i (by omega)).1, bit_or hm1 hci, nI_1]
          refine ih _ ⟨Nat.or_lt_two_pow (show m < 2 ^ 8 by omega) (Nat.pow_lt_pow_right (by decide) hci), fun d => ?_⟩
          rw [Nat.testBit_or, hm2 d, Nat.testBit_two_pow]
          show _ = (_ && (_ || q i d))
          have hqi : q i d = decide (gc g i = d) := by
            rw [hq]
            show (witF g (rnd g) i && (decide (rnd g i = r) && (str g x i && decide (gc g i = d)))) = _
            rw [c, c3, decide_eq_true c2', Bool.true_and, Bool.true_and, Bool.true_and]
          rw [hqi]
          by_cases hd : d < 8
          · rw [decide_eq_true hd, Bool.true_and, Bool.true_and]
          · rw [decide_eq_false hd, decide_eq_false (show ¬ gc g i = d by omega)]
            rfl
  exact key 0 (by omega) 0 ⟨by decide, fun c => by simp [anyN]⟩
theorem mxR_le {g : Gr} {N : Nat} (h : POK g N) : mxR g N ≤ N := mx_le N (fun i hi => by have := rnd_pos h i hi; omega)
theorem v_X3_findRound (x1 : Int32) (σ : Sg) (K : Sg → Prop) (h : sp_X3_findRound x1 σ K) : vc_X3_findRound x1 σ K := by
  obtain ⟨g, x, rfl, hx, hP, hE, hT, hR, hn, hG, hK⟩ := h
  have hxx : x < x + 1 := Nat.lt_succ_self x
  have cx : (nI x).toNatClampNeg = x := cl_nI (by omega)
  have hsl : ∀ s, gs g x = some s → s < x := fun s hs => ((hP.1 x hxx).2.1 s hs).1
  have hol : ∀ s, go g x = some s → s < x := fun s hs => (hP.1 x hxx).2.2.1 s hs
  have hrx := rnd_pos hP x hxx
  have hre := rnd_eq hP hxx
  -- the end
  have J127 : ∀ τ : Sg, τ = pI σ 32 x (nI (rnd g x)) → f_X3_findRound_127 (nI x) K (bI (wit g x)) (nI x) τ := by
    intro τ ht
    unfold f_X3_findRound_127
    rw [cx]
    have hml := mxR_le (hP.mono (Nat.le_succ x))
    refine ⟨v240 hx, isZ_bI _, v240 hx, hK _ (fun y hy => ?_) ?_ (fun j hj => ?_) ?_⟩
    · subst ht
      refine ⟨?_, ?_⟩
      · rw [pI_at, if_neg (fun q => absurd q.1 (by decide)), pI_at, if_neg (fun q => absurd q.1 (by decide)), pI_at]
        by_cases e : y = x
        · rw [if_pos ⟨rfl, e⟩, e]
        · rw [if_neg (fun q => e q.2)]
          exact (hR y (by omega)).1
      · rw [pI_at, if_neg (fun q => absurd q.1 (by decide)), pI_at]
        by_cases e : y = x
        · rw [if_pos ⟨rfl, e⟩, e]
        · rw [if_neg (fun q => e q.2), pI_at, if_neg (fun q => absurd q.1 (by decide))]
          exact (hR y (by omega)).2
    · rw [pI_at, if_pos ⟨rfl, rfl⟩]
      have e1 : (pI τ 33 x (bI (wit g x))).1 22 13 = nI (mxR g x) := by subst ht; exact hG
      have e2 : (pI τ 33 x (bI (wit g x))).1 32 x = nI (rnd g x) := by
        subst ht
        rw [pI_at, if_neg (fun q => absurd q.1 (by decide)), pI_at, if_pos ⟨rfl, rfl⟩]
      rw [e1, e2, imax_nI (by omega) (by omega)]
      rfl
    · rw [pI_at, if_neg (fun q => hj q.2)]
      subst ht
      rfl
    · subst ht
      exact Fr_pI (Fr_pI (Fr_pI (Fr.refl _ _) (by decide)) (by decide)) (by decide)
  have J96 : ∀ τ : Sg, τ = σ → f_X3_findRound_96 (nI x) K (nO (gs g x)) (nI (rnd g x)) (nI x) τ := by
    intro τ ht
    subst ht
    unfold f_X3_findRound_96
    rw [cx]
    refine ⟨v240 hx, ?_⟩
    cases hs : gs g x with
    | none =>
      have hw : wit g x = true := by unfold wit witF; rw [hs]
      have := J127 _ rfl
      rw [hw] at this
      exact ⟨fun _ => this, fun c => absurd rfl c⟩
    | some s =>
      have hl := hsl s hs
      have hrs := rnd_pos hP s (by omega)
      have hw : wit g x = decide (rnd g s < rnd g x) := by
        show witF g (rnd g) x = _
        unfold witF
        rw [hs]
      refine ⟨fun c => absurd c (nO_some (by omega)), fun _ => ⟨v240 (by omega), v240 hx, ?_⟩⟩
      have e1 : (pI τ 32 x (nI (rnd g x))).1 32 x = nI (rnd g x) := by rw [pI_at, if_pos ⟨rfl, rfl⟩]
      have e2 : (pI τ 32 x (nI (rnd g x))).1 32 (nI s).toNatClampNeg = nI (rnd g s) := by
        rw [cl_nI (by omega), pI_at, if_neg (fun q => absurd q.2 (by omega))]
        exact (hR s hl).1
      show ((pI τ 32 x (nI (rnd g x))).1 32 x ≤ (pI τ 32 x (nI (rnd g x))).1 32 (nI s).toNatClampNeg → _) ∧ (¬ ((pI τ 32 x (nI (rnd g x))).1 32 x ≤ (pI τ 32 x (nI (rnd g x))).1 32 (nI s).toNatClampNeg) → _)
      rw [e1, e2, nI_leI (by omega) (by omega)]
      refine ⟨fun c => ?_, fun c => ?_⟩
      · have := J127 _ rfl
        rw [hw, decide_eq_false (by omega)] at this
        exact this
      · have := J127 _ rfl
        rw [hw, decide_eq_true (by omega)] at this
        exact this
  have J75t : ∀ a : Nat, rnd g x = a + 1 → f_X3_findRound_75 (nI x) K (nO (gs g x)) (nI a) 1 σ := by
    intro a ha
    refine ⟨fun c => absurd c (by decide), fun _ => ?_⟩
    rw [nI_1, ← ha]
    exact J96 σ rfl
  have J75f : ∀ a : Nat, rnd g x = a → f_X3_findRound_75 (nI x) K (nO (gs g x)) (nI a) 0 σ := by
    intro a ha
    refine ⟨fun _ => ?_, fun c => absurd rfl c⟩
    rw [← ha]
    exact J96 σ rfl
  have J50 : ∀ a b : Nat, a ≤ 300 → b ≤ 300 → ((gs g x = none ∧ a = 0 ∧ b = 0) ∨ ∃ s, gs g x = some s ∧ a = rnd g s ∧ b = oN (go g x) (rnd g)) → f_X3_findRound_50 (nI x) K (nO (gs g x)) (nI b) (nI a) σ := by
    intro a b ha hb hc
    unfold f_X3_findRound_50
    rw [imax_nI (by omega) (by omega)]
    rcases hc with ⟨hs, rfl, rfl⟩ | ⟨s, hs, ea, eb⟩
    · refine ⟨fun _ => J75t 0 (by rw [hre, hs]), fun c => absurd rfl c⟩
    · have hl := hsl s hs
      have hrs := rnd_pos hP s (by omega)
      have hpos : 0 < max a b := by omega
      refine ⟨fun c => absurd c (nI_ne0 hpos (by omega)), fun _ => ⟨g, x, max a b, rfl, hx, rfl, by omega, hP, hE, hT, hR, hn, ?_⟩⟩
      rw [hs] at hre
      have hre : rnd g x = if most g (cnt (rmask g (rnd g) x (max a b)) 8) then max a b + 1 else max a b := by
        rw [ea, eb]
        exact hre
      refine ⟨fun c => J75f _ ?_, fun c => J75t _ ?_⟩
      · rw [bI_0] at c
        rw [hre, if_neg (by rw [c]; decide)]
      · rw [bI_1] at c
        rw [hre, if_pos c]
  have J35 : ∀ a : Nat, a ≤ 300 → ((gs g x = none ∧ a = 0) ∨ ∃ s, gs g x = some s ∧ a = rnd g s) → f_X3_findRound_35 (nI x) K (nO (gs g x)) (nO (go g x)) (nI a) σ := by
    intro a ha hc
    unfold f_X3_findRound_35
    cases ho : go g x with
    | none =>
      refine ⟨fun c => absurd rfl c, fun _ => J50 a 0 ha (by omega) ?_⟩
      rcases hc with ⟨h1, h2⟩ | ⟨s, h1, h2⟩
      · exact Or.inl ⟨h1, h2, rfl⟩
      · exact Or.inr ⟨s, h1, h2, by rw [ho]; rfl⟩
    | some o =>
      have hl := hol o ho
      have hro := rnd_pos hP o (by omega)
      refine ⟨fun _ => ⟨v240 (by omega), ?_⟩, fun c => absurd c (nO_some (by omega))⟩
      show f_X3_findRound_50 (nI x) K (nO (gs g x)) (σ.1 32 (nI o).toNatClampNeg) (nI a) σ
      rw [cl_nI (by omega), (hR o hl).1]
      refine J50 a (rnd g o) ha (by omega) ?_
      rcases hc with ⟨h1, h2⟩ | ⟨s, h1, h2⟩
      · have := (hP.1 x hxx).2.2.2 h1
        rw [ho] at this
        cases this
      · exact Or.inr ⟨s, h1, h2, by rw [ho]; rfl⟩
  unfold vc_X3_findRound f_X3_findRound_e
  rw [cx, (hE x hxx).2.1, (hE x hxx).2.2]
  refine ⟨v240 hx, v240 hx, ?_⟩
  cases hs : gs g x with
  | none =>
    have := J35 0 (by omega) (Or.inl ⟨hs, rfl⟩)
    rw [hs] at this
    exact ⟨fun c => absurd rfl c, fun _ => this⟩
  | some s =>
    have hl := hsl s hs
    have hrs := rnd_pos hP s (by omega)
    refine ⟨fun _ => ⟨v240 (by omega), ?_⟩, fun c => absurd c (nO_some (by omega))⟩
    have := J35 (rnd g s) (by omega) (Or.inr ⟨s, hs, rfl⟩)
    rw [hs] at this
    show f_X3_findRound_35 (nI x) K (nI s) (nO (go g x)) (σ.1 32 (nI s).toNatClampNeg) σ
    rw [cl_nI (by omega), (hR s hl).1]
    exact this
