theorem v240 {x : Nat} (h : x < 240) : vp_in (nI x) 240 := vp_in_nI h (by omega)
theorem TB.keep {t M : Nat} {p : Nat → Nat → Bool} {σ τ : Sg} {S : List Nat} (h : TB t M p σ) (hF : Fr S σ τ) (ht : t + 1 ∉ S) : TB t M p τ := fun x y hx hy => (hF.bt ht x y).trans (h x y hx hy)
theorem EvA.keep {g : Gr} {M : Nat} {σ τ : Sg} {S : List Nat} (h : EvA g M σ) (hF : Fr S σ τ) (h1 : 12 ∉ S) (h2 : 13 ∉ S) (h3 : 14 ∉ S) : EvA g M τ := fun x hx => by
  rw [(hF 12 h1).1, (hF 13 h2).1, (hF 14 h3).1]
  exact h x hx
theorem EvA.mono {g : Gr} {M N : Nat} {σ : Sg} (h : EvA g M σ) (hN : N ≤ M) : EvA g N σ := fun x hx => h x (by omega)
theorem TB.mono {t M N : Nat} {p : Nat → Nat → Bool} {σ : Sg} (h : TB t M p σ) (hN : N ≤ M) : TB t N p σ := fun x y hx hy => h x y (by omega) hy
theorem TD.keep {g : Gr} {M : Nat} {σ τ : Sg} {S : List Nat} (h : TD g M σ) (hF : Fr S σ τ) (h1 : 31 ∉ S) : TD g M τ := fun x hx => by
  rw [(hF 31 h1).1]
  exact h x hx
theorem TR.keep {g : Gr} {M : Nat} {σ τ : Sg} {S : List Nat} (h : TR g M σ) (hF : Fr S σ τ) (h1 : 32 ∉ S) (h2 : 33 ∉ S) : TR g M τ := fun x hx => by
  rw [(hF 32 h1).1, (hF 33 h2).1]
  exact h x hx
theorem nO_none {p : Option Nat} (hp : ∀ y, p = some y → y < 2 ^ 31) : nO p = -1 ↔ p = none := by
  cases p with
  | none => exact ⟨fun _ => rfl, fun _ => rfl⟩
  | some y => exact ⟨fun h => absurd h (nO_some (hp y rfl)), fun h => by cases h⟩
theorem v_X3_findAncestors (x1 : Int32) (σ : Sg) (K : Sg → Prop) (h : sp_X3_findAncestors x1 σ K) : vc_X3_findAncestors x1 σ K := by
  obtain ⟨g, x, rfl, hx, hP, hE, hT, hD, hK⟩ := h
  have cx : (nI x).toNatClampNeg = x := cl_nI (by omega)
  have hxx : x < x + 1 := Nat.lt_succ_self x
  have hsl : ∀ s, gs g x = some s → s < x := fun s hs => ((hP.1 x hxx).2.1 s hs).1
  have hol : ∀ s, go g x = some s → s < x := fun s hs => (hP.1 x hxx).2.2.1 s hs
  have J95 : ∀ (τ : Sg) (d : Nat), TB 23 (x + 1) (anc g) τ → Fr [24] σ τ → d = dep g x → f_X3_findAncestors_95 (nI x) K (nI d) (nI x) τ := by
    intro τ d hT2 hF hd
    unfold f_X3_findAncestors_95
    rw [cx]
    refine ⟨v240 hx, hK _ (fun r b hr hb => hT2 r b hr hb) (fun y hy => ?_) (Fr_pI (hF.mono (by decide)) (by decide))⟩
    rw [pI_at]
    by_cases e : y = x
    · rw [if_pos ⟨rfl, e⟩, e, hd]
    · rw [if_neg (fun q => e q.2), (hF 31 (by decide)).1]
      exact hD y (by omega)
  have J73 : ∀ τ : Sg, TB 23 (x + 1) (anc g) τ → Fr [24] σ τ → f_X3_findAncestors_73 (nI x) K (nO (gs g x)) τ := by
    intro τ hT2 hF
    unfold f_X3_findAncestors_73
    have hd := dep_eq hP hxx
    cases hs : gs g x with
    | none =>
      rw [hs] at hd
      exact ⟨fun c => absurd rfl c, fun _ => J95 τ 1 hT2 hF hd.symm⟩
    | some s =>
      rw [hs] at hd
      have hl := hsl s hs
      refine ⟨fun _ => ⟨v240 (by omega), ?_⟩, fun c => absurd c (nO_some (by omega))⟩
      show f_X3_findAncestors_95 (nI x) K ((τ.1 31 (nI s).toNatClampNeg) + 1) (nI x) τ
      rw [cl_nI (by omega), (hF 31 (by decide)).1, hD s hl, nI_1]
      exact J95 τ _ hT2 hF hd.symm
  have J55 : ∀ τ : Sg, TB 23 x (anc g) τ → (∀ y, y < 256 → bt τ 23 x y = (decide (y = x) || oA (gs g x) (fun s => anc g s y))) → Fr [24] σ τ → f_X3_findAncestors_55 (nI x) K (nO (gs g x)) (nO (go g x)) τ := by
    intro τ hT2 hr hF
    unfold f_X3_findAncestors_55
    cases ho : go g x with
    | none =>
      refine ⟨fun _ => J73 τ (fun r y hr2 hy => ?_) hF, fun c => absurd rfl c⟩
      by_cases e : r = x
      · subst e
        rw [hr y hy, anc_eq hP hxx, ho]
        show _ = (_ || (_ || false))
        rw [Bool.or_false]
      · exact hT2 r y (by omega) hy
    | some o =>
      have hl := hol o ho
      refine ⟨fun c => absurd c (nO_some (by omega)), fun _ => ⟨by decide, by decide, x, o, rfl, rfl, by omega, by omega, ?_⟩⟩
      refine J73 _ (fun r y hr2 hy => ?_) (hF.trans (Fr_bjoin τ 23 x 23 o))
      rw [bt_join _ _ _ _ _ _ _ hy]
      by_cases e : r = x
      · rw [if_pos e, e, hr y hy, hT2 o y hl hy, anc_eq hP hxx, ho, Bool.or_assoc]
        rfl
      · rw [if_neg e]
        exact hT2 r y (by omega) hy
  have hEx := hE x hxx
  unfold vc_X3_findAncestors f_X3_findAncestors_e
  rw [cx, hEx.2.1, hEx.2.2]
  refine ⟨v240 hx, v240 hx, by decide, x, rfl, by omega, by decide, x, x, rfl, rfl, by omega, by omega, ?_⟩
  obtain ⟨σ2, e2⟩ : ∃ z, z = bput (pS σ (23 + 1) (fun j => if x * 4 ≤ j ∧ j < x * 4 + 4 then 0 else σ.2 (23 + 1) j)) 23 x x := ⟨_, rfl⟩
  have hF2 : Fr [24] σ σ2 := by rw [e2]; exact (Fr_row σ 23 _).trans (Fr_bput _ 23 x x)
  have hb : ∀ r y, y < 256 → bt σ2 23 r y = if r = x then decide (y = x) else bt σ 23 r y := by
    intro r y hy
    rw [e2, bt_put _ _ _ _ _ _ (by omega) hy, bt_clearRow _ _ _ _ _ hy]
    by_cases e : r = x
    · simp [e]
    · simp [e]
  have hT2 : TB 23 x (anc g) σ2 := fun r y hr hy => by rw [hb r y hy, if_neg (by omega)]; exact hT r y hr hy
  show (nO (gs g x) = -1 → f_X3_findAncestors_55 (nI x) K (nO (gs g x)) (nO (go g x)) (bput _ 23 x x)) ∧ _
  rw [← e2]
  cases hs : gs g x with
  | none =>
    refine ⟨fun _ => ?_, fun c => absurd rfl c⟩
    have := J55 σ2 hT2 (fun y hy => by rw [hb x y hy, if_pos rfl, hs]; simp [oA]) hF2
    rw [hs] at this
    exact this
  | some s =>
    have hl := hsl s hs
    refine ⟨fun c => absurd c (nO_some (by omega)), fun _ => ⟨by decide, by decide, x, s, rfl, rfl, by omega, by omega, ?_⟩⟩
    have := J55 (bjoin σ2 23 x 23 s) (fun r y hr hy => by rw [bt_join _ _ _ _ _ _ _ hy, if_neg (by omega)]; exact hT2 r y hr hy) (fun y hy => by
      rw [bt_join _ _ _ _ _ _ _ hy, if_pos rfl, hb x y hy, if_pos rfl, hT2 s y hl hy, hs]
      rfl) (hF2.trans (Fr_bjoin _ 23 x 23 s))
    rw [hs] at this
    exact this
theorem imax_nI {a b : Nat} (ha : a < 2 ^ 31) (hb : b < 2 ^ 31) : imax (nI a) (nI b) = nI (max a b) := by
  unfold imax
  by_cases h : a < b
  · rw [if_pos ((nI_ltI ha hb).mpr h), Nat.max_eq_right (by omega)]
  · rw [if_neg (fun q => h ((nI_ltI ha hb).mp q)), Nat.max_eq_left (by omega)]
theorem imin_nI {a b : Nat} (ha : a < 2 ^ 31) (hb : b < 2 ^ 31) : imin (nI a) (nI b) = nI (min a b) := by
  unfold imin
  by_cases h : b < a
  · rw [if_pos ((nI_ltI hb ha).mpr h), Nat.min_eq_right (by omega)]
  · rw [if_neg (fun q => h ((nI_ltI hb ha).mp q)), Nat.min_eq_left (by omega)]
theorem dep_le {g : Gr} {N x : Nat} (h : POK g N) (hx : x < N) : dep g x ≤ x + 1 := by rw [dep_cnt h x hx]; exact cnt_le _ _
theorem mx_le {p : Nat → Bool} {f : Nat → Nat} {b : Nat} : ∀ n, (∀ i, i < n → f i ≤ b) → mx p f n ≤ b := by
  intro n h
  rcases mx_at (p := p) (f := f) n with e | ⟨i, h1, -, h3⟩
  · omega
  · rw [h3]; exact h i h1
theorem v_X3_countAncestorsByCreator (x1 : Int32) (σ : Sg) (K : Sg → Prop) (h : sp_X3_countAncestorsByCreator x1 σ K) : vc_X3_countAncestorsByCreator x1 σ K := by
  obtain ⟨g, x, rfl, hx, hP, hE, hT, hD, hK⟩ := h
  intro L r
  have key : ∀ i, i ≤ x + 1 → ∀ τ : Sg, ((∀ c, c < 8 → τ.1 35 c = nI (cnt (inA g x c) i) ∧ τ.1 36 c = nI (mx (inA g x c) (dep g) i)) ∧ Fr [35, 36] σ τ) → L (nI i) τ := by
    refine lup (L := fun i τ => L (nI i) τ) (fun i τ => (∀ c, c < 8 → τ.1 35 c = nI (cnt (inA g x c) i) ∧ τ.1 36 c = nI (mx (inA g x c) (dep g) i)) ∧ Fr [35, 36] σ τ) (x + 1) (fun τ ht => ?_) (fun i τ hi ht ih => ?_)
    · exact r _ _ ⟨fun _ => hK τ ht.1 ht.2, fun c => absurd (nI_lt (Nat.lt_succ_self x) (by omega)) c⟩
    · obtain ⟨hc, hF⟩ := ht
      have ci : (nI i).toNatClampNeg = i := cl_nI (by omega)
      refine r _ _ ⟨fun c => absurd c (nI_nlt (by omega) (by omega)), fun _ => ⟨by decide, x, i, rfl, rfl, by omega, by omega, ?_⟩⟩
      have hb : bt τ 23 x i = anc g x i := (hF.bt (by decide) x i).trans (hT x i (by omega) (by omega))
      have hei : τ.1 12 i = nI (gc g i) := by rw [(hF 12 (by decide)).1]; exact (hE i hi).1
      have hci := (hP.1 i hi).1
      have cc : (nI (gc g i)).toNatClampNeg = gc g i := cl_nI (by omega)
      rw [hb]
      refine ⟨fun c => ?_, fun c => ?_⟩
      · rw [bI_0] at c
        show L (nI i + 1) τ
        rw [nI_1]
        refine ih τ ⟨fun d hd => ?_, hF⟩
        have e : inA g x d i = false := by unfold inA; rw [c]; rfl
        have e1 : cnt (inA g x d) (i + 1) = cnt (inA g x d) i := by show _ + _ = _; rw [e]; rfl
        have e2 : mx (inA g x d) (dep g) (i + 1) = mx (inA g x d) (dep g) i := by
          show (if inA g x d i = true then _ else _) = _
          rw [if_neg (by rw [e]; decide)]
        rw [e1, e2]
        exact hc d hd
      · rw [bI_1] at c
        show vp_in (nI i) 240 ∧ vp_in (τ.1 12 (nI i).toNatClampNeg) 8 ∧ vp_in (τ.1 12 (nI i).toNatClampNeg) 8 ∧ vp_in (τ.1 12 (nI i).toNatClampNeg) 8 ∧ vp_in (nI i) 240 ∧ vp_in (τ.1 12 (nI i).toNatClampNeg) 8 ∧ L (nI i + 1) _
        rw [ci, hei, cc, nI_1]
        have hv : vp_in (nI (gc g i)) 8 := vp_in_nI hci (by omega)
        refine ⟨v240 (by omega), hv, hv, hv, v240 (by omega), hv, ih _ ⟨fun d hd => ?_, Fr_pI (Fr_pI hF (by decide)) (by decide)⟩⟩
        obtain ⟨q1, q2⟩ := hc (gc g i) hci
        have hdi : τ.1 31 i = nI (dep g i) := by rw [(hF 31 (by decide)).1]; exact hD i hi
        have hdl := dep_le hP hi
        have hml : mx (inA g x (gc g i)) (dep g) i ≤ i := mx_le i (fun j hj => by have := dep_le hP (show j < x + 1 by omega); omega)
        have w35 : (pI τ 35 (gc g i) (τ.1 35 (gc g i) + 1)).1 36 (gc g i) = nI (mx (inA g x (gc g i)) (dep g) i) := q2
        have w31 : (pI τ 35 (gc g i) (τ.1 35 (gc g i) + 1)).1 31 i = nI (dep g i) := hdi
        by_cases e : d = gc g i
        · have ei : inA g x d i = true := by unfold inA; rw [c, e]; simp
          have e1 : cnt (inA g x d) (i + 1) = cnt (inA g x d) i + 1 := by show _ + _ = _; rw [ei]; rfl
          have e2 : mx (inA g x d) (dep g) (i + 1) = max (mx (inA g x d) (dep g) i) (dep g i) := by
            show (if inA g x d i = true then _ else _) = _
            rw [if_pos ei]
          rw [e1, e2, e]
          refine ⟨?_, ?_⟩
          · rw [pI_at, if_neg (fun q => absurd q.1 (by decide)), pI_at, if_pos ⟨rfl, rfl⟩, q1, nI_1]
          · rw [pI_at, if_pos ⟨rfl, rfl⟩, w35, w31, imax_nI (by omega) (by omega)]
        · have ei : inA g x d i = false := by unfold inA; rw [decide_eq_false (fun q => e q.symm), Bool.and_false]
          have e1 : cnt (inA g x d) (i + 1) = cnt (inA g x d) i := by show _ + _ = _; rw [ei]; rfl
          have e2 : mx (inA g x d) (dep g) (i + 1) = mx (inA g x d) (dep g) i := by
            show (if inA g x d i = true then _ else _) = _
            rw [if_neg (by rw [ei]; decide)]
          rw [e1, e2]
          refine ⟨?_, ?_⟩
          · rw [pI_at, if_neg (fun q => absurd q.1 (by decide)), pI_at, if_neg (fun q => e q.2)]
            exact (hc d hd).1
          · rw [pI_at, if_neg (fun q => e q.2), pI_at, if_neg (fun q => absurd q.1 (by decide))]
            exact (hc d hd).2
  refine ⟨by omega, by omega, key 0 (by omega) _ ⟨fun c hc => ⟨?_, ?_⟩, Fr_pR (Fr_pR (Fr.refl _ _) (by decide)) (by decide)⟩⟩
  · rw [pR_at, if_neg (by decide), pR_at, if_pos rfl, if_pos hc]
    rfl
  · rw [pR_at, if_pos rfl, if_pos hc]
    rfl
