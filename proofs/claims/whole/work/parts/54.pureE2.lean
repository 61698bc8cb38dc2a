theorem cnt_one {q : Nat → Bool} : ∀ n, (∀ i j, i < n → j < n → q i = true → q j = true → i = j) → cnt q n ≤ 1
  | 0, _ => Nat.zero_le _
  | n + 1, h => by
    have ih := cnt_one n (fun i j hi hj => h i j (by omega) (by omega))
    show cnt q n + (if q n then 1 else 0) ≤ 1
    cases hq : q n
    · simp
      exact ih
    · rw [cnt_0 n (fun i hi => by
        cases e : q i
        · rfl
        · have := h i n (by omega) (by omega) e hq
          omega)]
      simp
theorem cnt_color {q : Nat → Bool} {f : Nat → Nat} (n : Nat) : ∀ k, (∀ i, i < n → q i = true → f i < k) → (∀ i j, i < n → j < n → q i = true → q j = true → f i = f j → i = j) → cnt q n ≤ k := by
  intro k
  induction k generalizing q with
  | zero => intro h1 _; rw [cnt_0 n (fun i hi => by
      cases e : q i
      · rfl
      · exact absurd (h1 i hi e) (Nat.not_lt_zero _))]; exact Nat.le_refl _
  | succ k ih =>
    intro h1 h2
    rw [cnt_split q (fun i => decide (f i = k)) n]
    have a : cnt (fun i => q i && decide (f i = k)) n ≤ 1 := cnt_one n (fun i j hi hj qi qj => by
      simp only [Bool.and_eq_true, decide_eq_true_eq] at qi qj
      exact h2 i j hi hj qi.1 qj.1 (qi.2.trans qj.2.symm))
    have b : cnt (fun i => q i && !decide (f i = k)) n ≤ k := ih (fun i hi qi => by
      simp only [Bool.and_eq_true, Bool.not_eq_true', decide_eq_false_iff_not] at qi
      have := h1 i hi qi.1
      omega) (fun i j hi hj qi qj => by
      simp only [Bool.and_eq_true] at qi qj
      exact h2 i j hi hj qi.1 qj.1)
    omega
section VIEW2
variable {p : Vp} {v : Nat} {σ : Sg}
theorem riv_iff {x y : Nat} : riv p x y = true ↔ y ≠ x ∧ 2 ≤ fam p y ∧ rnd (pg p) y = rnd (pg p) x ∧ gc (pg p) y = gc (pg p) x := by
  unfold riv
  simp only [Bool.and_eq_true, decide_eq_true_eq]
theorem ur_iff {r u : Nat} : ur p r u = true ↔ unq p u = true ∧ rnd (pg p) u = r := by
  unfold ur
  simp only [Bool.and_eq_true, decide_eq_true_eq]
theorem unq_iff {u : Nat} : unq p u = true ↔ fam p u = 2 ∧ anyN (riv p u) (pN p) = false := by
  unfold unq
  simp only [Bool.and_eq_true, decide_eq_true_eq, Bool.not_eq_true']
theorem fam_wit {x : Nat} (h : fam p x ≠ 0) : wit (pg p) x = true ∧ phd p x = true := by
  constructor
  · cases e : wit (pg p) x
    · exact absurd (fam_nw e) h
    · rfl
  · cases e : phd p x
    · exact absurd (fam_out e) h
    · rfl
theorem ur_wit {r u : Nat} (h : ur p r u = true) : wit (pg p) u = true ∧ phd p u = true := fam_wit (by rw [(unq_iff.mp (ur_iff.mp h).1).1]; decide)
theorem ur_color {r u1 u2 : Nat} (h1 : u1 < pN p) (h2 : u2 < pN p) (a : ur p r u1 = true) (b : ur p r u2 = true) (hc : gc (pg p) u1 = gc (pg p) u2) : u1 = u2 := by
  apply Classical.byContradiction
  intro hne
  obtain ⟨a1, a2⟩ := ur_iff.mp a
  obtain ⟨b1, b2⟩ := ur_iff.mp b
  have := (anyN_false _ _).mp (unq_iff.mp a1).2 u2 h2
  rw [riv_iff.mpr ⟨fun e => hne e.symm, by rw [(unq_iff.mp b1).1]; exact Nat.le_refl _, b2.trans a2.symm, hc.symm⟩] at this
  cases this
theorem uc_lt (hP : POK (pg p) (pN p)) {r u : Nat} (hu : u < pN p) (h : ur p r u = true) : cnt (ur p r) u < 8 := by
  have h1 : cnt (ur p r) (u + 1) ≤ 8 := cnt_color (f := gc (pg p)) (u + 1) 8 (fun i hi _ => (hP.1 i (by omega)).1) (fun i j hi hj qi qj => ur_color (by omega) (by omega) qi qj)
  have h2 := cnt_step (p := ur p r) (Nat.lt_succ_self u) h
  have h3 : cnt (ur p r) (Nat.succ u) = cnt (ur p r) (u + 1) := rfl
  omega
theorem uc_le (hP : POK (pg p) (pN p)) (r : Nat) : uc p r ≤ 8 := cnt_color (f := gc (pg p)) (pN p) 8 (fun i hi _ => (hP.1 i hi).1) (fun i j hi hj qi qj => ur_color hi hj qi qj)
theorem unq_nw {M : Nat} (h : wit (pg p) M = false) : unq p M = false := by
  cases e : unq p M
  · rfl
  · have := (unq_iff.mp e).1
    rw [fam_nw h] at this
    cases this
theorem v_X5_isOnlyFamousOne (v : Nat) (_ : IsView v) (x1 : Int32) (σ : Sg) (K : Int32 → Sg → Prop) (h : sp_X5_isOnlyFamousOne v x1 σ K) : vc_X5_isOnlyFamousOne v x1 σ K := by
  obtain ⟨p, x, hV, rfl, hx, hf, hK⟩ := h
  obtain ⟨hv, hP, hN, hE, hH, hTm, hTx, hk, hhd, hG, hL, h7⟩ := id hV
  obtain ⟨e1, e2, e3, e4, e5, e6⟩ := hL
  intro L r
  have hcl : cnt (wit (pg p)) (pN p) ≤ pN p := cnt_le _ _
  have main := wl_loop (L := fun i (_ : Unit) => L (nI i) σ) (wit (pg p)) (pN p) (fun M _ => anyN (riv p x) M = false) (fun M s hM hw hs => ?_) (fun s hs => ?_) (fun z s hz hw hs ih => ?_)
  · exact main () rfl
  · show (anyN (riv p x) M || riv p x M) = false
    rw [hs]
    cases e : riv p x M
    · rfl
    · have := (riv_iff.mp e).2.1
      rw [fam_nw hw] at this
      omega
  · refine r _ _ ⟨fun _ => ?_, fun c => absurd (by rw [e1]; exact Int32.le_refl _) c⟩
    have hs : anyN (riv p x) (pN p) = false := hs
    rw [hs] at hK
    exact hK
  · have hci : cnt (wit (pg p)) z < cnt (wit (pg p)) (pN p) := cnt_step hz hw
    obtain ⟨f, hf1, hf3, hf2⟩ := hf z hz
    have hrz := rnd_pos hP z hz
    have hrx := rnd_pos hP x hx
    have hcz := (hP.1 z hz).1
    have hcx := (hP.1 x hx).1
    have skip : riv p x z = false → L (nI (cnt (wit (pg p)) z) + 1) σ := by
      intro hq
      rw [nI_1]
      refine ih () ?_
      show (anyN (riv p x) z || riv p x z) = false
      have hs : anyN (riv p x) z = false := hs
      rw [hs, hq]
      rfl
    have nr : ∀ q : Prop, (riv p x z = true → q) → ¬ q → riv p x z = false := fun q a b => by
      cases e : riv p x z
      · rfl
      · exact absurd (a e) b
    refine r _ _ ?_
    unfold f_X5_isOnlyFamousOne_2
    rw [e1, cl_nI (show cnt (wit (pg p)) z < 2 ^ 31 by omega), e3 z hz hw, cl_nI (show z < 2 ^ 31 by omega), cl_nI (show x < 2 ^ 31 by omega), hf1, (hG.2.2.2.2.1 z hz).1, (hG.2.2.2.2.1 x hx).1, (hE z hz).1, (hE x hx).1]
    refine ⟨fun c => absurd c (nI_ge hci (by omega)), fun _ => ⟨v240 (by omega), fun c => ?_, fun c => ⟨v240 (by omega), fun c2 => ?_, fun c2 => ⟨v240 (by omega), v240 (by omega), fun c3 => ?_, fun c3 => ⟨v240 (by omega), v240 (by omega), fun c4 => ?_, fun c4 => ?_⟩⟩⟩⟩⟩
    · have := (nI_eq (by omega) (by omega)).mp c
      exact skip (nr _ (fun e => (riv_iff.mp e).1) (fun q => q this))
    · have := (nI_ltI (b := 2) (by omega) (by omega)).mp c2
      exact skip (nr _ (fun e => hf2.mpr (riv_iff.mp e).2.1) (by omega))
    · exact skip (nr _ (fun e => (riv_iff.mp e).2.2.1) (fun q => c3 (by rw [q])))
    · exact skip (nr _ (fun e => (riv_iff.mp e).2.2.2) (fun q => c4 (by rw [q])))
    · have hr : riv p x z = true := by
        refine riv_iff.mpr ⟨fun q => c (by rw [q]), hf2.mp ?_, (nI_eq (by omega) (by omega)).mp c3, (nI_eq (by omega) (by omega)).mp c4⟩
        apply Classical.byContradiction
        intro q
        exact c2 (nI_lt (b := 2) (by omega) (by omega))
      rw [(anyN_iff _ _).mpr ⟨z, hz, hr⟩] at hK
      exact hK
theorem v_X5_addUnique (v : Nat) (_ : IsView v) (x1 x2 : Int32) (σ : Sg) (K : Sg → Prop) (h : sp_X5_addUnique v x1 x2 σ K) : vc_X5_addUnique v x1 x2 σ K := by
  obtain ⟨p, x, q, c, hV, rfl, hx, rfl, hq, h8, hc, hK⟩ := h
  obtain ⟨hv, hP, hN, hE, hH, hTm, hTx, hk, hhd, hG, hL, h7⟩ := id hV
  intro L r
  have cq : (nI q).toNatClampNeg = q := cl_nI (by omega)
  have key : ∀ i, i ≤ 8 → ∀ τ : Sg, ((∀ j, τ.1 (v + 7) j = if j = q * 8 + c then nI x else σ.1 (v + 7) j) ∧ (∀ j, τ.1 (v + 8) j = if j = q then nI (c + 1) else σ.1 (v + 8) j) ∧ (∀ a w, w < 8 → τ.1 (v + 9) (a * 8 + w) = if a = q ∧ w < i then σ.1 (v + 9) (a * 8 + w) ^^^ phs p x w else σ.1 (v + 9) (a * 8 + w)) ∧ Fr [v + 7, v + 8, v + 9] σ τ) → L (nI i) τ := by
    refine lup (L := fun i τ => L (nI i) τ) (fun i τ => (∀ j, τ.1 (v + 7) j = if j = q * 8 + c then nI x else σ.1 (v + 7) j) ∧ (∀ j, τ.1 (v + 8) j = if j = q then nI (c + 1) else σ.1 (v + 8) j) ∧ (∀ a w, w < 8 → τ.1 (v + 9) (a * 8 + w) = if a = q ∧ w < i then σ.1 (v + 9) (a * 8 + w) ^^^ phs p x w else σ.1 (v + 9) (a * 8 + w)) ∧ Fr [v + 7, v + 8, v + 9] σ τ) 8 (fun τ ht => ?_) (fun i τ hi ht ih => ?_)
    · obtain ⟨a1, a2, a3, a4⟩ := ht
      refine r _ _ ⟨fun _ => hK τ a1 a2 (fun a w hw => ?_) a4, fun d => absurd (Int32.le_refl _) d⟩
      rw [a3 a w hw]
      by_cases e : a = q
      · rw [if_pos ⟨e, hw⟩, if_pos e]
      · rw [if_neg (fun z => e z.1), if_neg e]
    · obtain ⟨a1, a2, a3, a4⟩ := ht
      have ei : (nI q * 8) + nI i = nI (q * 8 + i) := by rw [show (8 : Int32) = nI 8 from rfl, pk_mul, nI_add]
      have ex : (nI x * 8) + nI i = nI (x * 8 + i) := by rw [show (8 : Int32) = nI 8 from rfl, pk_mul, nI_add]
      have eh : τ.1 19 (x * 8 + i) = phs p x i := by rw [(a4 19 (by simp; omega)).1]; exact hH x i hx hi
      have eq : τ.1 (v + 9) (q * 8 + i) = σ.1 (v + 9) (q * 8 + i) := by rw [a3 q i hi, if_neg (fun z => absurd z.2 (Nat.lt_irrefl i))]
      refine r _ _ ⟨fun d => absurd d (nI_ge (b := 8) hi (by omega)), fun _ => ?_⟩
      rw [ei, cl_nI (show q * 8 + i < 2 ^ 31 by omega)]
      refine ⟨vp_in_nI (by omega) (by omega), ?_⟩
      show vp_in ((nI x * 8) + nI i) 1920 ∧ vp_in (nI (q * 8 + i)) 1928 ∧ L (nI i + 1) (pI τ (v + 9) (q * 8 + i) (τ.1 (v + 9) (q * 8 + i) ^^^ τ.1 19 ((nI x * 8) + nI i).toNatClampNeg))
      rw [ex, cl_nI (show x * 8 + i < 2 ^ 31 by omega), eh, eq, nI_1]
      refine ⟨vp_in_nI (by omega) (by omega), vp_in_nI (by omega) (by omega), ih _ ⟨fun j => ?_, fun j => ?_, fun a w hw => ?_, Fr_pI a4 (by simp)⟩⟩
      · rw [pI_at, if_neg (fun z => absurd z.1 (by omega))]
        exact a1 j
      · rw [pI_at, if_neg (fun z => absurd z.1 (by omega))]
        exact a2 j
      · rw [pI_at]
        by_cases e : a = q ∧ w = i
        · rw [if_pos ⟨rfl, by rw [e.1, e.2]⟩, if_pos ⟨e.1, by omega⟩, e.1, e.2]
        · rw [if_neg (fun z => e ⟨by omega, by omega⟩), a3 a w hw]
          by_cases e2 : a = q ∧ w < i
          · rw [if_pos e2, if_pos ⟨e2.1, by omega⟩]
          · rw [if_neg e2, if_neg (fun z => e2 ⟨z.1, by have : w ≠ i := fun y => e ⟨z.1, y⟩; omega⟩)]
  have e8 : (nI q * 8) + nI c = nI (q * 8 + c) := by rw [show (8 : Int32) = nI 8 from rfl, pk_mul, nI_add]
  have hv241 : vp_in (nI q) 241 := vp_in_nI (by omega) (by omega)
  unfold f_X5_addUnique_e
  rw [cq, h8, e8, cl_nI (show q * 8 + c < 2 ^ 31 by omega)]
  refine ⟨hv241, vp_in_nI (by omega) (by omega), hv241, hv241, key 0 (by omega) _ ⟨fun j => ?_, fun j => ?_, fun a w hw => ?_, Fr_pI (Fr_pI (Fr.refl _ _) (by simp)) (by simp)⟩⟩
  · rw [pI_at, if_neg (fun z => absurd z.1 (by omega)), pI_at]
    by_cases e : j = q * 8 + c
    · rw [if_pos ⟨rfl, e⟩, if_pos e]
    · rw [if_neg (fun z => e z.2), if_neg e]
  · have e9 : (pI σ (v + 7) (q * 8 + c) (nI x)).1 (v + 8) q = nI c := by
      rw [pI_at, if_neg (fun z => absurd z.1 (by omega))]
      exact h8
    rw [e9, nI_1, pI_at]
    by_cases e : j = q
    · rw [if_pos ⟨rfl, e⟩, if_pos e]
    · rw [if_neg (fun z => e z.2), if_neg e, pI_at, if_neg (fun z => absurd z.1 (by omega))]
  · rw [pI_at, if_neg (fun z => absurd z.1 (by omega)), pI_at, if_neg (fun z => absurd z.1 (by omega)), if_neg (fun z => absurd z.2 (Nat.not_lt_zero _))]
theorem f3_of (x : Nat) : (unq p x = true ∧ fam p x = 2 ∧ f3 p x = 3) ∨ (unq p x = false ∧ f3 p x = fam p x) := by
  unfold f3
  cases e : unq p x
  · exact Or.inr ⟨rfl, rfl⟩
  · exact Or.inl ⟨rfl, (unq_iff.mp e).1, rfl⟩
theorem f3_le (x : Nat) : f3 p x ≤ 3 := by
  have := fam_le (p := p) x
  rcases f3_of (p := p) x with h | h <;> omega
theorem v_X5_findUniques (v : Nat) (_ : IsView v) (σ : Sg) (K : Sg → Prop) (h : sp_X5_findUniques v σ K) : vc_X5_findUniques v σ K := by
  obtain ⟨p, hV, hfm, hK⟩ := h
  obtain ⟨hv, hP, hN, hE, hH, hTm, hTx, hk, hhd, hG, hL, h7⟩ := id hV
  obtain ⟨e1, e2, e3, e4, e5, e6⟩ := hL
  intro L r
  have hcl : cnt (wit (pg p)) (pN p) ≤ pN p := cnt_le _ _
  have s1 : ∀ (q : Nat → Bool) M, cnt q (M + 1) = cnt q M + if q M then 1 else 0 := fun q M => rfl
  have main := wl_loop (L := fun i τ => L (nI i) τ) (wit (pg p)) (pN p) (fun M τ => (∀ y, y < 240 → τ.1 (v + 1) y = nI (if y < M then f3 p y else fam p y)) ∧ (∀ q, q ≤ 240 → τ.1 (v + 8) q = nI (cnt (ur p q) M)) ∧ (∀ q u, q ≤ 240 → u < M → ur p q u = true → τ.1 (v + 7) (q * 8 + cnt (ur p q) u) = nI u) ∧ (∀ q w, q ≤ 240 → w < 8 → τ.1 (v + 9) (q * 8 + w) = xrt p q w M) ∧ Fr [v + 1, v + 7, v + 8, v + 9] σ τ) (fun M τ hM hw hs => ?_) (fun τ hs => ?_) (fun z τ hz hw hs ih => ?_)
  · refine ⟨by omega, by omega, main _ ⟨fun y hy => ?_, fun q hq => ?_, fun q u _ hu => absurd hu (Nat.not_lt_zero _), fun q w hq hw => ?_, Fr_pR (Fr_pR (Fr.refl _ _) (by simp)) (by simp)⟩⟩
    · rw [pR_at, if_neg (by omega), pR_at, if_neg (by omega), if_neg (Nat.not_lt_zero _)]
      exact hfm y hy
    · rw [pR_at, if_neg (by omega), pR_at, if_pos rfl, if_pos (by omega)]
      rfl
    · rw [pR_at, if_pos rfl, if_pos (by omega)]
      rfl
  · have hu := unq_nw hw
    have hur : ∀ q, ur p q M = false := fun q => by unfold ur; rw [hu]; rfl
    obtain ⟨a1, a2, a3, a4, a5⟩ := hs
    refine ⟨fun y hy => ?_, fun q hq => ?_, fun q u hq hul hqu => ?_, fun q w hq hw => ?_, a5⟩
    · rw [a1 y hy]
      congr 1
      by_cases e : y = M
      · rw [e, if_neg (Nat.lt_irrefl M), if_pos (Nat.lt_succ_self M)]
        unfold f3
        rw [hu]
        rfl
      · by_cases e2 : y < M
        · rw [if_pos e2, if_pos (by omega)]
        · rw [if_neg e2, if_neg (by omega)]
    · rw [a2 q hq, s1, hur]
      rfl
    · have : u ≠ M := fun e => by rw [e, hur] at hqu; cases hqu
      exact a3 q u hq (by omega) hqu
    · rw [a4 q w hq hw]
      show _ = (if ur p q M then _ else _)
      rw [hur]
      rfl
  · obtain ⟨a1, a2, a3, a4, a5⟩ := hs
    refine r _ _ ⟨fun _ => hK τ ⟨fun x hx => ?_, a2, a3, a4⟩ a5, fun c => absurd (by rw [(a5 37 (by simp; omega)).1, e1]; exact Int32.le_refl _) c⟩
    rw [a1 x hx]
    congr 1
    by_cases e : x < pN p
    · rw [if_pos e]
    · rw [if_neg e]
      have hp : phd p x = false := by
        cases hq : phd p x
        · rfl
        · exact absurd (hhd x hq) e
      have hf := fam_out hp
      rcases f3_of (p := p) x with h | h
      · omega
      · exact h.2.symm
  · obtain ⟨a1, a2, a3, a4, a5⟩ := hs
    have hci : cnt (wit (pg p)) z < cnt (wit (pg p)) (pN p) := cnt_step hz hw
    have hlo : Lo σ τ := fun a ha => a5 a (by simp; omega)
    have hVt : Vb p v τ := hV.keep a5 (by simp) (by rw [(a5 v (by simp)).1])
    have cz : (nI z).toNatClampNeg = z := cl_nI (by omega)
    have hfz : τ.1 (v + 1) z = nI (fam p z) := by rw [a1 z (by omega), if_neg (Nat.lt_irrefl z)]
    have hfl := fam_le (p := p) z
    have hrz := rnd_pos hP z hz
    have skip : unq p z = false → L (nI (cnt (wit (pg p)) z) + 1) τ := by
      intro hu
      have hur : ∀ q, ur p q z = false := fun q => by unfold ur; rw [hu]; rfl
      rw [nI_1]
      refine ih τ ⟨fun y hy => ?_, fun q hq => ?_, fun q u hq hul hqu => ?_, fun q w hq hw => ?_, a5⟩
      · rw [a1 y hy]
        congr 1
        by_cases e : y = z
        · rw [e, if_neg (Nat.lt_irrefl z), if_pos (Nat.lt_succ_self z)]
          unfold f3
          rw [hu]
          rfl
        · by_cases e2 : y < z
          · rw [if_pos e2, if_pos (by omega)]
          · rw [if_neg e2, if_neg (by omega)]
      · rw [a2 q hq, s1, hur]
        rfl
      · have : u ≠ z := fun e => by rw [e, hur] at hqu; cases hqu
        exact a3 q u hq (by omega) hqu
      · rw [a4 q w hq hw]
        show _ = (if ur p q z then _ else _)
        rw [hur]
        rfl
    refine r _ _ ?_
    unfold f_X5_findUniques_18
    rw [(hlo 37 (by decide)).1, (hlo 38 (by decide)).1, e1, cl_nI (show cnt (wit (pg p)) z < 2 ^ 31 by omega), e3 z hz hw, cz, hfz]
    refine ⟨fun c => absurd c (nI_ge hci (by omega)), fun _ => ⟨v240 (by omega), v240 (by omega), fun c => ?_, fun c => ?_⟩⟩
    · refine skip ?_
      cases e : unq p z
      · rfl
      · exact absurd (by rw [(unq_iff.mp e).1]; rfl) c
    · have hf2 : fam p z = 2 := (nI_eq (b := 2) (by omega) (by omega)).mp c
      refine ⟨p, z, hVt, rfl, hz, fun y hy => ⟨_, a1 y (by omega), ?_, ?_⟩, fun q => skip ?_, fun q => ⟨v240 (by omega), v240 (by omega), ?_⟩⟩
      · split
        · exact f3_le y
        · have := fam_le (p := p) y; omega
      · split
        · rcases f3_of (p := p) y with h | h <;> omega
        · exact Iff.rfl
      · rw [bI_0] at q
        unfold unq
        rw [q, Bool.and_false]
      · rw [bI_1] at q
        have hu : unq p z = true := by
          unfold unq
          rw [q, decide_eq_true hf2]
          rfl
        have hur : ur p (rnd (pg p) z) z = true := ur_iff.mpr ⟨hu, rfl⟩
        have hurn : ∀ q, q ≠ rnd (pg p) z → ur p q z = false := fun q hq => by
          cases e : ur p q z
          · rfl
          · exact absurd (ur_iff.mp e).2.symm hq
        obtain ⟨τ1, et⟩ : ∃ t, t = pI τ (v + 1) z 3 := ⟨_, rfl⟩
        show sp_X5_addUnique v (nI z) ((pI τ (v + 1) z 3).1 32 z) (pI τ (v + 1) z 3) _
        have h32 : τ1.1 32 z = nI (rnd (pg p) z) := by
          rw [et, pI_at, if_neg (fun q => absurd q.1 (by omega)), (hlo 32 (by decide)).1]
          exact (hG.2.2.2.2.1 z hz).1
        have f1 : Fr [v + 1] τ τ1 := by rw [et]; exact Fr_pI (Fr.refl _ _) (by simp)
        have h81 : τ1.1 (v + 8) (rnd (pg p) z) = nI (cnt (ur p (rnd (pg p) z)) z) := by
          rw [(f1 (v + 8) (by simp)).1]
          exact a2 _ (by omega)
        rw [← et, h32]
        refine ⟨p, z, rnd (pg p) z, _, hVt.keep f1 (by simp) (by rw [(f1 v (by simp)).1]), rfl, hz, rfl, by omega, h81, uc_lt hP hz hur, fun τ2 b1 b2 b3 b4 => ?_⟩
        show L (nI (cnt (wit (pg p)) z) + 1) τ2
        rw [nI_1]
        refine ih τ2 ⟨fun y hy => ?_, fun q hq => ?_, fun rr u hq hul hqu => ?_, fun q w hq hw => ?_, (a5.trans (f1.mono (by simp))).trans (b4.mono (by simp))⟩
        · rw [(b4 (v + 1) (by simp)).1, et, pI_at]
          by_cases e : y = z
          · rw [if_pos ⟨rfl, e⟩, e, if_pos (Nat.lt_succ_self z)]
            unfold f3
            rw [hu]
            rfl
          · rw [if_neg (fun q => e q.2), a1 y hy]
            congr 1
            by_cases e2 : y < z
            · rw [if_pos e2, if_pos (by omega)]
            · rw [if_neg e2, if_neg (by omega)]
        · rw [b2 q, s1]
          by_cases e : q = rnd (pg p) z
          · rw [if_pos e, e, hur]
            rfl
          · rw [if_neg e, hurn q e, (f1 (v + 8) (by simp)).1]
            exact a2 q hq
        · rw [b1]
          by_cases e : u = z
          · subst e
            have hqr : rr = rnd (pg p) u := (ur_iff.mp hqu).2.symm
            rw [if_pos (by rw [hqr])]
          · have hl : u < z := by omega
            have h8 := uc_lt hP (show u < pN p by omega) hqu
            have h9 := uc_lt hP hz hur
            rw [if_neg ?_, (f1 (v + 7) (by simp)).1]
            · exact a3 rr u hq hl hqu
            · intro eq
              have e1 : rr = rnd (pg p) z := by omega
              have := cnt_step (p := ur p rr) hl hqu
              rw [e1] at this eq
              omega
        · rw [b3 q w hw, (f1 (v + 9) (by simp)).1, a4 q w hq hw]
          show _ = (if ur p q z then _ else _)
          by_cases e : q = rnd (pg p) z
          · rw [if_pos e, e, hur]
            rfl
          · rw [if_neg e, hurn q e]
            rfl
theorem v_X5_leastOpenRound (v : Nat) (_ : IsView v) (σ : Sg) (K : Int32 → Sg → Prop) (h : sp_X5_leastOpenRound v σ K) : vc_X5_leastOpenRound v σ K := by
  obtain ⟨p, hV, hU, hK⟩ := h
  obtain ⟨hv, hP, hN, hE, hH, hTm, hTx, hk, hhd, hG, hL, h7⟩ := id hV
  obtain ⟨e1, e2, e3, e4, e5, e6⟩ := hL
  intro L r
  have hcl : cnt (wit (pg p)) (pN p) ≤ pN p := cnt_le _ _
  have hlot : ∀ M, lot p M ≤ 241 := by
    intro M
    induction M with
    | zero => exact Nat.le_refl _
    | succ M ih =>
      show (if opn p M then _ else _) ≤ _
      split
      · exact Nat.le_trans (Nat.min_le_left _ _) ih
      · exact ih
  have main := wl_loop (L := fun i s => L (nI s) (nI i) σ) (wit (pg p)) (pN p) (fun M s => s = lot p M) (fun M s hM hw hs => ?_) (fun s hs => ?_) (fun z s hz hw hs ih => ?_)
  · exact main 241 rfl
  · rw [hs]
    show _ = (if opn p M then _ else _)
    have : opn p M = false := by unfold opn; rw [hw, Bool.false_and, Bool.and_false]
    rw [this]
    rfl
  · refine r _ _ _ ⟨fun _ => ?_, fun c => absurd (by rw [e1]; exact Int32.le_refl _) c⟩
    rw [hs]
    exact hK
  · have hci : cnt (wit (pg p)) z < cnt (wit (pg p)) (pN p) := cnt_step hz hw
    have cz : (nI z).toNatClampNeg = z := cl_nI (by omega)
    have hrz := rnd_pos hP z hz
    have hsl : s ≤ 241 := by rw [hs]; exact hlot z
    have skip : opn p z = false → L (nI s) (nI (cnt (wit (pg p)) z) + 1) σ := by
      intro hq
      rw [nI_1]
      refine ih s ?_
      rw [hs]
      show _ = (if opn p z then _ else _)
      rw [hq]
      rfl
    refine r _ _ _ ?_
    unfold f_X5_leastOpenRound_6
    rw [e1, cl_nI (show cnt (wit (pg p)) z < 2 ^ 31 by omega), e3 z hz hw, cz]
    refine ⟨fun c => absurd c (nI_ge hci (by omega)), fun _ => ⟨v240 (by omega), holds_ok hV (by omega) ⟨fun q => ?_, fun q => ⟨v240 (by omega), ?_⟩⟩⟩⟩
    · rw [bI_0] at q
      exact skip (by unfold opn; rw [q]; rfl)
    · rw [bI_1] at q
      rw [hU.1 z (by omega)]
      have hfl := fam_le (p := p) z
      have hfl3 := f3_le (p := p) z
      have h0 : nI (f3 p z) = 0 ↔ fam p z = 0 := by
        rw [show (0 : Int32) = nI 0 from rfl, nI_eq (by omega) (by omega)]
        rcases f3_of (p := p) z with h | h <;> omega
      refine ⟨fun c => skip ?_, fun c => ⟨v240 (by omega), ?_⟩⟩
      · unfold opn
        rw [decide_eq_false (fun e => c (h0.mpr e)), Bool.and_false, Bool.and_false]
      · show L (imin (nI s) (σ.1 32 z)) (nI (cnt (wit (pg p)) z) + 1) σ
        rw [(hG.2.2.2.2.1 z hz).1, imin_nI (by omega) (by omega), nI_1]
        refine ih _ ?_
        rw [hs]
        show _ = (if opn p z then _ else _)
        have : opn p z = true := by
          unfold opn
          rw [q, hw, decide_eq_true (h0.mp c)]
          rfl
        rw [this]
        rfl
end VIEW2
