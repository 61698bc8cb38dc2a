/-! ===== the model: comesBefore, receive ===== -/
theorem u64_bv (a : Int32) : (a.toInt64 &&& 4294967295).toBitVec = a.toBitVec.setWidth 64 := by
  show (a.toBitVec.signExtend 64 &&& Int64.toBitVec 4294967295) = _
  apply BitVec.eq_of_getLsbD_eq
  intro i hi
  rw [BitVec.getLsbD_and, BitVec.getLsbD_signExtend, BitVec.getLsbD_setWidth]
  have hm : ∀ j : Nat, j < 64 → (Int64.toBitVec 4294967295).getLsbD j = decide (j < 32) := by decide +kernel
  rw [hm i hi, decide_eq_true hi, Bool.true_and]
  by_cases q : i < 32
  · rw [if_pos q, decide_eq_true q, Bool.and_true, Bool.true_and]
  · rw [decide_eq_false q, Bool.and_false]
    symm
    rw [Bool.true_and]
    exact BitVec.getLsbD_of_ge _ _ (by omega)
theorem u64_i (a : Int32) : (a.toInt64 &&& 4294967295).toInt = (ul a : Int) := by
  have h := ul_lt a
  show (a.toInt64 &&& 4294967295).toBitVec.toInt = _
  rw [u64_bv]
  have e : (a.toBitVec.setWidth 64).toNat = ul a := by
    rw [BitVec.toNat_setWidth]
    exact Nat.mod_eq_of_lt (Nat.lt_trans h (by decide))
  rw [BitVec.toInt_eq_toNat_of_lt (by rw [e]; omega), e]
theorem u64_eq (a b : Int32) : (a.toInt64 &&& 4294967295) = (b.toInt64 &&& 4294967295) ↔ a = b := by
  constructor
  · intro h
    have h2 := congrArg Int64.toInt h
    rw [u64_i, u64_i] at h2
    exact ul_inj (by omega)
  · intro h
    rw [h]
theorem u64_le (a b : Int32) : (b.toInt64 &&& 4294967295) ≤ (a.toInt64 &&& 4294967295) ↔ ul b ≤ ul a := by
  rw [Int64.le_iff_toInt_le, u64_i, u64_i]
  omega
theorem v_X8_comesBefore (x1 x2 : Int32) (σ : Sg) (K : Int32 → Sg → Prop) (h : sp_X8_comesBefore x1 x2 σ K) : vc_X8_comesBefore x1 x2 σ K := by
  obtain ⟨p, x, y, r, rfl, rfl, hx, hy, hN, erx, ery, h26x, h26y, hH, h25, hK⟩ := h
  intro L rr
  have klt := key_lt (p := p) (show x < 256 by omega) (show y < 256 by omega)
  have cx : (nI x).toNatClampNeg = x := cl_nI (by omega)
  have cy : (nI y).toNatClampNeg = y := cl_nI (by omega)
  have er : rcv p x = rcv p y := erx.trans ery.symm
  have hT : key p x < key p y → K 1 σ := fun q => by
    rw [decide_eq_true q] at hK
    exact hK
  have hF : ¬ key p x < key p y → K 0 σ := fun q => by
    rw [decide_eq_false q] at hK
    exact hK
  have main : stp p x = stp p y → ∀ w, w ≤ 8 → (∀ j, j < w → wht p x j = wht p y j) → L (nI w) σ := by
    intro es
    refine down 8 (fun hj => ?_) (fun w hw ih hj => ?_)
    · have ex : ∀ j, 0 ≤ j → j < 0 + 8 → wht p x j = wht p y j := fun j _ h => hj j (by omega)
      have esv := sv_eq_of 8 0 ex
      refine rr _ _ ⟨fun _ => ⟨fun c => ⟨isZ_0, hF ?_⟩, fun c => ⟨isZ_1, hT ?_⟩⟩, fun c => absurd (Int32.le_refl _) c⟩
      · have := (nI_leI (by omega) (by omega)).mp c
        rw [klt]
        rintro (q | ⟨-, q | ⟨-, q | ⟨-, q⟩⟩⟩)
        · omega
        · rw [es] at q
          exact Int64.lt_irrefl q
        · rw [esv] at q
          exact Nat.lt_irrefl _ q
        · omega
      · rw [klt]
        have : x < y := by
          apply Classical.byContradiction
          intro q
          exact c (nI_le (by omega) (by omega))
        exact Or.inr ⟨er, Or.inr ⟨es, Or.inr ⟨esv, this⟩⟩⟩
    · have ax : phs p x w ^^^ xr p r w = wht p x w := by rw [← erx]; rfl
      have ay : phs p y w ^^^ xr p r w = wht p y w := by rw [← ery]; rfl
      have scmp := sv_pre w (8 - w) hj
      rw [show w + (8 - w) = 8 by omega, show 8 - w = (7 - w) + 1 by omega, sv_cmp (wht p x) (wht p y) (7 - w) w] at scmp
      refine rr _ _ ?_
      unfold f_X8_comesBefore_40
      rw [mi8 x w, mi8 y w, cl_nI (show x * 8 + w < 2 ^ 31 by omega), cl_nI (show y * 8 + w < 2 ^ 31 by omega), cl_nI (show w < 2 ^ 31 by omega), hH x w hx hw, hH y w hy hw, h25 w hw, ax, ay, lg_cmp_eq, u64_eq, lg_cmp_ge, u64_le, nI_1]
      refine ⟨fun c => absurd c (nI_ge (b := 8) hw (by omega)), fun _ => ⟨v19 (by omega) hw, vp_in_nI hw (by omega), v19 (by omega) hw, vp_in_nI hw (by omega), fun c => ih (fun j hjw => ?_), fun c => ⟨fun d => ⟨isZ_0, hF ?_⟩, fun d => ⟨isZ_1, hT ?_⟩⟩⟩⟩
      · by_cases e : j = w
        · rw [e]; exact c
        · exact hj j (by omega)
      · rw [klt]
        rintro (q | ⟨-, q | ⟨-, q | ⟨q, -⟩⟩⟩)
        · omega
        · rw [es] at q
          exact Int64.lt_irrefl q
        · rcases scmp.mp q with q | ⟨q, -⟩
          · omega
          · exact c q
        · have n1 : ¬ ul (wht p x w) < ul (wht p y w) := by omega
          have n2 : ul (wht p y w) < ul (wht p x w) := by
            have : ul (wht p x w) ≠ ul (wht p y w) := fun z => c (ul_inj z)
            omega
          have scmp2 := sv_pre (a := wht p y) (b := wht p x) w (8 - w) (fun j hjw => (hj j hjw).symm)
          rw [show w + (8 - w) = 8 by omega, show 8 - w = (7 - w) + 1 by omega, sv_cmp (wht p y) (wht p x) (7 - w) w] at scmp2
          have := scmp2.mpr (Or.inl n2)
          omega
      · rw [klt]
        exact Or.inr ⟨er, Or.inr ⟨es, Or.inl (scmp.mpr (Or.inl (by omega)))⟩⟩
  show f_X8_comesBefore_e (nI x) (nI y) L K σ
  unfold f_X8_comesBefore_e
  rw [cx, cy, h26x, h26y, lg_cmp_eq, lg_cmp_ge]
  have hvx := v240 (show x < 240 by omega)
  have hvy := v240 (show y < 240 by omega)
  refine ⟨hvx, hvy, fun d => main d 0 (by omega) (fun j hj => absurd hj (Nat.not_lt_zero _)), fun d => ⟨hvx, hvy, fun e => ⟨isZ_0, hF ?_⟩, fun e => ⟨isZ_1, hT ?_⟩⟩⟩
  · rw [klt]
    rintro (q | ⟨-, q | ⟨q, -⟩⟩)
    · omega
    · exact absurd e (Int64.not_le.mpr q)
    · exact d q
  · rw [klt]
    exact Or.inr ⟨er, Or.inl (Int64.not_le.mp e)⟩
theorem fst1_le {q : Nat → Bool} {i : Nat} (hi : q i = true) : ∀ k a, a ≤ i → i < a + k → a ≤ fst1 q a k ∧ fst1 q a k ≤ i
  | 0, a, h1, h2 => absurd h2 (by omega)
  | k + 1, a, h1, h2 => by
    show a ≤ (if q a then a else fst1 q (a + 1) k) ∧ (if q a then a else fst1 q (a + 1) k) ≤ i
    by_cases c : q a = true
    · rw [if_pos c]; omega
    · rw [if_neg c]
      have hne : a ≠ i := fun e => c (by rw [e]; exact hi)
      have := fst1_le hi k (a + 1) (by omega) (by omega)
      omega
theorem fst1_ok {q : Nat → Bool} : ∀ k a, fst1 q a k ≠ 0 → q (fst1 q a k) = true
  | 0, a, h => absurd rfl h
  | k + 1, a, h => by
    have e : fst1 q a (k + 1) = if q a then a else fst1 q (a + 1) k := rfl
    rw [e] at h ⊢
    by_cases c : q a = true
    · rw [if_pos c]; exact c
    · rw [if_neg c] at h ⊢
      exact fst1_ok k (a + 1) h
theorem inR_iff {p : Vp} {x : Nat} : inR p x = true ↔ rcv p x ≠ 0 := by unfold inR; simp
theorem rcv_is {p : Vp} {m r : Nat} (hd : phd p m = true) (hs : stl p r = true) (hb : bel p r m = true) (hn : ¬ (inR p m = true ∧ rcv p m < r)) : rcv p m = r := by
  obtain ⟨s1, s2, -⟩ := stl_iff.mp hs
  have := lot_le (p := p) (pN p)
  have e : rcv p m = fst1 (fun r => stl p r && bel p r m) 1 240 := by unfold rcv; rw [hd]; rfl
  have h := fst1_le (q := fun r => stl p r && bel p r m) (i := r) (by rw [hs, hb]; rfl) 240 1 s1 (by omega)
  rw [← e] at h
  have h0 : inR p m = true := inR_iff.mpr (by omega)
  have : ¬ rcv p m < r := fun q => hn ⟨h0, q⟩
  omega
theorem rcv_bel {p : Vp} {m : Nat} (h : inR p m = true) : stl p (rcv p m) = true ∧ bel p (rcv p m) m = true := by
  have hd := inR_hd h
  have e : rcv p m = fst1 (fun r => stl p r && bel p r m) 1 240 := by unfold rcv; rw [hd]; rfl
  have h2 := inR_iff.mp h
  have := fst1_ok (q := fun r => stl p r && bel p r m) 240 1 (by rw [← e]; exact h2)
  rw [← e, Bool.and_eq_true] at this
  exact this
theorem rq_iff {p : Vp} {r m y : Nat} : rq p r m y = true ↔ inR p y = true ∧ (rcv p y < r ∨ (rcv p y = r ∧ y < m)) := by unfold rq; simp
theorem rq_same {p : Vp} {r m : Nat} (h : ¬ (inR p m = true ∧ rcv p m = r)) : rq p r (m + 1) = rq p r m := by
  funext y
  apply bool_ext
  rw [rq_iff, rq_iff]
  constructor
  · rintro ⟨a, b | ⟨c, d⟩⟩
    · exact ⟨a, Or.inl b⟩
    · refine ⟨a, Or.inr ⟨c, ?_⟩⟩
      have : y ≠ m := fun e => h (by rw [← e]; exact ⟨a, c⟩)
      omega
  · rintro ⟨a, b | ⟨c, d⟩⟩
    · exact ⟨a, Or.inl b⟩
    · exact ⟨a, Or.inr ⟨c, by omega⟩⟩
theorem rq_ins {p : Vp} {r m : Nat} (hi : inR p m = true) (hr : rcv p m = r) : rq p r (m + 1) = fun y => rq p r m y || decide (y = m) := by
  funext y
  apply bool_ext
  rw [rq_iff, Bool.or_eq_true, rq_iff, decide_eq_true_eq]
  constructor
  · rintro ⟨a, b | ⟨c, d⟩⟩
    · exact Or.inl ⟨a, Or.inl b⟩
    · by_cases e : y = m
      · exact Or.inr e
      · exact Or.inl ⟨a, Or.inr ⟨c, by omega⟩⟩
  · rintro (⟨a, b | ⟨c, d⟩⟩ | rfl)
    · exact ⟨a, Or.inl b⟩
    · exact ⟨a, Or.inr ⟨c, by omega⟩⟩
    · exact ⟨hi, Or.inr ⟨hr, by omega⟩⟩
theorem cnt_ins {q s : Nat → Bool} {m : Nat} (hq : q m = false) : ∀ N, cnt (fun y => (q y || decide (y = m)) && s y) N = cnt (fun y => q y && s y) N + if (decide (m < N) && s m) = true then 1 else 0
  | 0 => by
    show 0 = 0 + _
    rw [decide_eq_false (Nat.not_lt_zero m), Bool.false_and]
    rfl
  | N + 1 => by
    have ih := cnt_ins (s := s) hq N
    show cnt (fun y => (q y || decide (y = m)) && s y) N + (if ((q N || decide (N = m)) && s N) = true then 1 else 0) = cnt (fun y => q y && s y) N + (if (q N && s N) = true then 1 else 0) + _
    rw [ih]
    by_cases e : N = m
    · subst e
      rw [hq, decide_eq_true rfl, decide_eq_false (Nat.lt_irrefl N), decide_eq_true (Nat.lt_succ_self N), Bool.false_or, Bool.true_and, Bool.false_and]
    · have e2 : decide (m < N + 1) = decide (m < N) := decide_eq_decide.mpr (by omega)
      rw [decide_eq_false e, Bool.or_false, e2]
      omega
theorem rk_ins {p : Vp} {q : Nat → Bool} {m N x : Nat} (hq : q m = false) (hm : m < N) : rk p (fun y => q y || decide (y = m)) N x = rk p q N x + if key p m < key p x then 1 else 0 := by
  unfold rk
  rw [cnt_ins (s := fun z => decide (key p z < key p x)) hq N, decide_eq_true hm, Bool.true_and]
  by_cases c : key p m < key p x
  · rw [if_pos c, if_pos (decide_eq_true c)]
  · rw [if_neg c, if_neg (by rw [decide_eq_false c]; decide)]
theorem cnt_ins1 {q : Nat → Bool} {m N : Nat} (hq : q m = false) (hm : m < N) : cnt (fun y => q y || decide (y = m)) N = cnt q N + 1 := by
  have h := cnt_ins (s := fun _ => true) hq N
  rw [decide_eq_true hm] at h
  have e1 : (fun y => (q y || decide (y = m)) && true) = fun y => q y || decide (y = m) := by funext y; rw [Bool.and_true]
  have e2 : (fun y => q y && true) = q := by funext y; rw [Bool.and_true]
  rw [e1, e2] at h
  exact h
theorem MQ2.fr {p : Vp} {r m : Nat} {σ τ : Sg} {S : List Nat} (h : MQ2 p r m σ) (F : Fr S σ τ) (d : ∀ a ∈ [20, 21, 23, 26], a ∉ S) (k : τ.1 0 23 = σ.1 0 23) : MQ2 p r m τ := by
  obtain ⟨h1, h2, h3, h4, h5⟩ := h
  refine ⟨?_, ?_, ?_, ?_, by rw [k]; exact h5⟩
  · rw [(F 20 (d 20 (by decide))).1]; exact h1
  · rw [(F 21 (d 21 (by decide))).1]; exact h2
  · rw [(F 26 (d 26 (by decide))).2]; exact h3
  · rw [(F 23 (d 23 (by decide))).1]; exact h4
theorem isU_ok {p : Vp} {g : Gr} {r u : Nat} {τ : Sg} {K : Int32 → Sg → Prop} (hg : pg p = g) (hP : POK g (pN p)) (hN : pN p ≤ 240) (hu : u < pN p) (hr : r < 2 ^ 31) (h20 : τ.1 20 u = nI (f3 p u)) (h7 : τ.1 7 u = nI (rnd g u)) (hK : K (bI (ur p r u)) τ) : sp_X8_isUnique (nI u) (nI r) τ K := by
  have cu : (nI u).toNatClampNeg = u := cl_nI (by omega)
  have hl := f3_le (p := p) u
  have hrn := rnd_pos hP u hu
  unfold sp_X8_isUnique vc_X8_isUnique f_X8_isUnique_e
  rw [cu, h20, h7]
  have vu := v240 (show u < 240 by omega)
  have e3 : nI (f3 p u) = 3 ↔ unq p u = true := by
    rw [show (3 : Int32) = nI 3 from rfl, nI_eq (by omega) (by decide)]
    rcases f3_of (p := p) u with ⟨a, b, c⟩ | ⟨a, c⟩
    · rw [c, a]; simp
    · have := fam_le (p := p) u
      rw [c, a]
      constructor
      · intro z; omega
      · intro z; cases z
  have e7 : nI (rnd g u) = nI r ↔ rnd g u = r := nI_eq (by omega) hr
  have eur : ur p r u = (unq p u && decide (rnd g u = r)) := by unfold ur; rw [hg]
  rw [eur] at hK
  refine ⟨vu, fun c => ⟨isZ_0, ?_⟩, fun c => ⟨vu, fun d => ⟨isZ_0, ?_⟩, fun d => ⟨isZ_1, ?_⟩⟩⟩
  · have : unq p u = false := by
      cases z : unq p u
      · rfl
      · exact absurd (e3.mpr z) c
    rw [this] at hK
    exact hK
  · rw [decide_eq_false (fun z => d (e7.mpr z)), Bool.and_false] at hK
    exact hK
  · rw [decide_eq_true (e7.mp d), e3.mp c] at hK
    exact hK
