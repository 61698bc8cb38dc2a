theorem v_J7_fill_53178 (k n : Nat) (_ : kD[k]? = some (0, n, [])) (x1 : Int32) (σ : Sg) (K : Sg → Prop) (h : sp_J7_fill_53178 k n x1 σ K) : vc_J7_fill_53178 k n x1 σ K := by
  obtain ⟨hn, hK⟩ := h
  intro L5 r5
  have key : ∀ i, i ≤ n → L5 (nI i) (nI n) (pR σ k (fun j => if j < i then x1 else σ.1 k j)) := by
    refine down n (r5 _ _ _ ⟨fun _ => hK, fun c => absurd (nI_le (Nat.le_refl n) hn) c⟩) (fun i hi ih => ?_)
    refine r5 _ _ _ ⟨fun c => absurd c (nI_ge hi hn), fun _ => ⟨vp_in_nI hi hn, ?_⟩⟩
    rw [nI_1, nI_clamp (by omega), pI_pR]
    have e : upd (fun j => if j < i then x1 else σ.1 k j) i x1 = (fun j => if j < i + 1 then x1 else σ.1 k j) := by
      funext j
      unfold upd
      by_cases h1 : j = i
      · subst h1; simp
      · by_cases h2 : j < i
        · simp [h1, h2, show j < i + 1 by omega]
        · simp [h1, h2, show ¬ j < i + 1 by omega]
    rw [e]
    exact ih
  have h0 := key 0 (Nat.zero_le _)
  simp only [Nat.not_lt_zero, if_false] at h0
  rw [show (fun j => σ.1 k j) = σ.1 k from rfl, pR_id] at h0
  exact h0
theorem v_J7_fill_d0a16 (k n : Nat) (_ : kD[k]? = some (1, n, [])) (x1 : Int64) (σ : Sg) (K : Sg → Prop) (h : sp_J7_fill_d0a16 k n x1 σ K) : vc_J7_fill_d0a16 k n x1 σ K := by
  obtain ⟨hn, hK⟩ := h
  intro L5 r5
  have key : ∀ i, i ≤ n → L5 (nI i) (nI n) (pS σ k (fun j => if j < i then x1 else σ.2 k j)) := by
    refine down n (r5 _ _ _ ⟨fun _ => hK, fun c => absurd (nI_le (Nat.le_refl n) hn) c⟩) (fun i hi ih => ?_)
    refine r5 _ _ _ ⟨fun c => absurd c (nI_ge hi hn), fun _ => ⟨vp_in_nI hi hn, ?_⟩⟩
    rw [nI_1, nI_clamp (by omega), pJ_pS]
    have e : vp_updL (fun j => if j < i then x1 else σ.2 k j) i x1 = (fun j => if j < i + 1 then x1 else σ.2 k j) := by
      funext j
      unfold vp_updL
      by_cases h1 : j = i
      · subst h1; simp
      · by_cases h2 : j < i
        · simp [h1, h2, show j < i + 1 by omega]
        · simp [h1, h2, show ¬ j < i + 1 by omega]
    rw [e]
    exact ih
  have h0 := key 0 (Nat.zero_le _)
  simp only [Nat.not_lt_zero, if_false] at h0
  rw [show (fun j => σ.2 k j) = σ.2 k from rfl, pS_id] at h0
  exact h0
theorem v_J7_fill_fda19 (k n : Nat) (_ : kD[k]? = some (0, n, [])) (x1 x2 x3 : Int32) (σ : Sg) (K : Sg → Prop) (h : sp_J7_fill_fda19 k n x1 x2 x3 σ K) : vc_J7_fill_fda19 k n x1 x2 x3 σ K := by
  obtain ⟨hn, a, b, rfl, rfl, hab, hb, hK⟩ := h
  intro L5 r5
  have key : ∀ i, i ≤ b → a ≤ i → L5 (nI i) (pR σ k (fun j => if a ≤ j ∧ j < i then x3 else σ.1 k j)) := by
    refine down b (fun _ => r5 _ _ ⟨fun _ => hK, fun c => absurd (nI_le (Nat.le_refl b) (by omega)) c⟩) (fun i hi ih ha => ?_)
    refine r5 _ _ ⟨fun c => absurd c (nI_ge hi (by omega)), fun _ => ⟨vp_in_nI (by omega) hn, ?_⟩⟩
    rw [nI_1, nI_clamp (by omega), pI_pR]
    have e : upd (fun j => if a ≤ j ∧ j < i then x3 else σ.1 k j) i x3 = (fun j => if a ≤ j ∧ j < i + 1 then x3 else σ.1 k j) := by
      funext j
      unfold upd
      by_cases h1 : j = i
      · subst h1; simp [ha]
      · by_cases h2 : a ≤ j ∧ j < i
        · simp [h1, h2, show j < i + 1 by omega]
        · rw [if_neg h1]
          show (if a ≤ j ∧ j < i then x3 else _) = _
          rw [if_neg h2, if_neg (by omega)]
    rw [e]
    exact ih (by omega)
  have h0 := key a hab (Nat.le_refl a)
  rw [show (fun j => if a ≤ j ∧ j < a then x3 else σ.1 k j) = σ.1 k from funext fun j => if_neg (by omega), pR_id] at h0
  exact ⟨fun _ => ⟨fun _ => ⟨fun _ => h0, fun c => absurd (nI_le hb hn) c⟩, fun c => absurd (nI_pos' (by omega)) c⟩, fun c => absurd (nI_le hab (by omega)) c⟩
theorem v_J7_fill_bad5a (k n : Nat) (_ : kD[k]? = some (1, n, [])) (x1 x2 : Int32) (x3 : Int64) (σ : Sg) (K : Sg → Prop) (h : sp_J7_fill_bad5a k n x1 x2 x3 σ K) : vc_J7_fill_bad5a k n x1 x2 x3 σ K := by
  obtain ⟨hn, a, b, rfl, rfl, hab, hb, hK⟩ := h
  intro L5 r5
  have key : ∀ i, i ≤ b → a ≤ i → L5 (nI i) (pS σ k (fun j => if a ≤ j ∧ j < i then x3 else σ.2 k j)) := by
    refine down b (fun _ => r5 _ _ ⟨fun _ => hK, fun c => absurd (nI_le (Nat.le_refl b) (by omega)) c⟩) (fun i hi ih ha => ?_)
    refine r5 _ _ ⟨fun c => absurd c (nI_ge hi (by omega)), fun _ => ⟨vp_in_nI (by omega) hn, ?_⟩⟩
    rw [nI_1, nI_clamp (by omega), pJ_pS]
    have e : vp_updL (fun j => if a ≤ j ∧ j < i then x3 else σ.2 k j) i x3 = (fun j => if a ≤ j ∧ j < i + 1 then x3 else σ.2 k j) := by
      funext j
      unfold vp_updL
      by_cases h1 : j = i
      · subst h1; simp [ha]
      · by_cases h2 : a ≤ j ∧ j < i
        · simp [h1, h2, show j < i + 1 by omega]
        · rw [if_neg h1]
          show (if a ≤ j ∧ j < i then x3 else _) = _
          rw [if_neg h2, if_neg (by omega)]
    rw [e]
    exact ih (by omega)
  have h0 := key a hab (Nat.le_refl a)
  rw [show (fun j => if a ≤ j ∧ j < a then x3 else σ.2 k j) = σ.2 k from funext fun j => if_neg (by omega), pS_id] at h0
  exact ⟨fun _ => ⟨fun _ => ⟨fun _ => h0, fun c => absurd (nI_le hb hn) c⟩, fun c => absurd (nI_pos' (by omega)) c⟩, fun c => absurd (nI_le hab (by omega)) c⟩
theorem v_J6_bitCount_0f7a4 (x0 : Int32) (σ : Sg) (K : Int32 → Sg → Prop) (h : sp_J6_bitCount_0f7a4 x0 σ K) : vc_J6_bitCount_0f7a4 x0 σ K := by
  obtain ⟨m, hm, rfl, hK⟩ := h
  have key : ∀ m, m < 256 → ∀ P : Int32 → Prop, P (nI (pop8 m)) → f_J6_bitCount_0f7a4_e (fun r _ => P r) (nI m) (fun _ _ => 0, fun _ _ => 0) := by
    intro m hm P hP
    unfold f_J6_bitCount_0f7a4_e
    refine Eq.mp (congrArg P ?_) hP
    clear hP
    revert m
    decide +kernel
  exact key m hm (fun r => K r σ) hK

/-- numbers as indices of words and bits -/
theorem ix_word {r b : Nat} (hr : r < 1000) (hb : b < 256) : (nI r * 4) + ishr (nI b) 6 = nI (r * 4 + b / 64) := by
  have e : ishr (nI b) 6 = nI (b / 64) := pk_shrN (by omega) ((6 : Int32) &&& 31) 6 (by decide)
  rw [e, show (4 : Int32) = nI 4 from rfl, pk_mul, nI_add]
theorem ix_and {b : Nat} (hb : b < 256) : nI b &&& 63 = nI (b % 64) := pk_andN (by omega) 6 (by decide)
theorem lush_bv (x : Int64) {k : Nat} (hk : k < 64) : (lush x (nI k)).toBitVec = x.toBitVec >>> k := by
  have h : ∀ k, k < 64 → ((nI k).toInt64.toUInt64 &&& Int64.toUInt64 63).toBitVec.toNat % 64 = k := by decide +kernel
  unfold lush
  show x.toBitVec >>> (((nI k).toInt64.toUInt64 &&& Int64.toUInt64 63).toBitVec % 64#64) = _
  rw [BitVec.ushiftRight_eq']
  congr 1
  rw [BitVec.toNat_umod]
  exact h k hk
theorem lshl1_bv {k : Nat} (hk : k < 64) : (lshl 1 (nI k)).toBitVec = BitVec.twoPow 64 k := by
  revert k
  decide +kernel
theorem bit_and1 (x : Int64) : (x &&& 1) = 0 ↔ x.toBitVec.getLsbD 0 = false := by
  constructor
  · intro h
    have h2 : (x &&& 1).toBitVec.getLsbD 0 = false := by rw [h]; rfl
    rw [Int64.toBitVec_and, BitVec.getLsbD_and] at h2
    simpa using h2
  · intro h
    apply Int64.toBitVec_inj.mp
    apply BitVec.eq_of_getLsbD_eq
    intro i hi
    rw [Int64.toBitVec_and, BitVec.getLsbD_and]
    by_cases h0 : i = 0
    · subst h0; rw [h]; rfl
    · have : (1 : Int64).toBitVec.getLsbD i = false := by
        show (1#64).getLsbD i = false
        rw [BitVec.getLsbD_one]
        simp [h0]
      rw [this]
      simp
theorem v_X0_clear (t n : Nat) (_ : IsBT t n) (σ : Sg) (K : Sg → Prop) (h : sp_X0_clear t n σ K) : vc_X0_clear t n σ K := ⟨by have := h.1; omega, h.2⟩
theorem v_X0_clearRow (t n : Nat) (_ : IsBT t n) (x1 : Int32) (σ : Sg) (K : Sg → Prop) (h : sp_X0_clearRow t n x1 σ K) : vc_X0_clearRow t n x1 σ K := by
  obtain ⟨hn, r, rfl, hr, hK⟩ := h
  refine ⟨by omega, r * 4, r * 4 + 4, ?_, ?_, by omega, by omega, hK⟩
  · rw [show (4 : Int32) = nI 4 from rfl, pk_mul]
  · rw [nI_1, show (4 : Int32) = nI 4 from rfl, pk_mul]
    congr 1
    omega
theorem v_X0_has (t n : Nat) (_ : IsBT t n) (x1 x2 : Int32) (σ : Sg) (K : Int32 → Sg → Prop) (h : sp_X0_has t n x1 x2 σ K) : vc_X0_has t n x1 x2 σ K := by
  obtain ⟨hn, r, b, rfl, rfl, hr, hb, hK⟩ := h
  unfold vc_X0_has f_X0_has_e
  rw [ix_word (by omega) hb, ix_and hb]
  have hk : (nI (r * 4 + b / 64)).toNatClampNeg = r * 4 + b / 64 := nI_clamp (by omega)
  have hm : b % 64 < 64 := Nat.mod_lt _ (by omega)
  refine ⟨vp_in_nI (by omega) (by omega), ?_, ?_⟩
  · intro c
    rw [lg_cmp_eq, bit_and1, lush_bv _ hm, hk, BitVec.getLsbD_ushiftRight, Nat.add_zero] at c
    refine ⟨isZ_0, ?_⟩
    have e : bt σ t r b = false := c
    rw [e] at hK
    exact hK
  · intro c
    rw [lg_cmp_eq, bit_and1, lush_bv _ hm, hk, BitVec.getLsbD_ushiftRight, Nat.add_zero] at c
    refine ⟨isZ_1, ?_⟩
    have e : bt σ t r b = true := by
      have := c
      show (σ.2 (t + 1) (r * 4 + b / 64)).toBitVec.getLsbD (b % 64) = true
      cases hq : (σ.2 (t + 1) (r * 4 + b / 64)).toBitVec.getLsbD (b % 64)
      · exact absurd hq this
      · rfl
    rw [e] at hK
    exact hK
theorem v_X0_put (t n : Nat) (_ : IsBT t n) (x1 x2 : Int32) (σ : Sg) (K : Sg → Prop) (h : sp_X0_put t n x1 x2 σ K) : vc_X0_put t n x1 x2 σ K := by
  obtain ⟨hn, r, b, rfl, rfl, hr, hb, hK⟩ := h
  unfold vc_X0_put f_X0_put_e
  rw [ix_word (by omega) hb, ix_and hb, nI_clamp (by omega)]
  have hi : vp_in (nI (r * 4 + b / 64)) n := vp_in_nI (by omega) (by omega)
  exact ⟨hi, hi, hK⟩
theorem v_X0_join (t n t2 n2 : Nat) (_ : IsBT t n) (_ : IsBT t2 n2) (x1 x3 : Int32) (σ : Sg) (K : Sg → Prop) (h : sp_X0_join t n t2 n2 x1 x3 σ K) : vc_X0_join t n t2 n2 x1 x3 σ K := by
  obtain ⟨hn, hn2, r, r2, rfl, rfl, hr, hr2, hK⟩ := h
  intro L3 r3
  have key : ∀ i, i ≤ 4 → L3 (nI i) (pS σ (t + 1) (fun j => if r * 4 ≤ j ∧ j < r * 4 + i then σ.2 (t + 1) j ||| σ.2 (t2 + 1) (r2 * 4 + (j - r * 4)) else σ.2 (t + 1) j)) := by
    refine down 4 (r3 _ _ ⟨fun _ => hK, fun c => absurd (Int32.le_refl _) c⟩) (fun i hi ih => ?_)
    have e1 : (nI r * 4) + nI i = nI (r * 4 + i) := by rw [show (4 : Int32) = nI 4 from rfl, pk_mul, nI_add]
    have e2 : (nI r2 * 4) + nI i = nI (r2 * 4 + i) := by rw [show (4 : Int32) = nI 4 from rfl, pk_mul, nI_add]
    refine r3 _ _ ⟨fun c => absurd c (nI_ge (b := 4) hi (by omega)), fun _ => ?_⟩
    rw [e1, e2, nI_1, nI_clamp (show r * 4 + i < 2 ^ 31 by omega), nI_clamp (show r2 * 4 + i < 2 ^ 31 by omega)]
    refine ⟨vp_in_nI (by omega) (by omega), vp_in_nI (by omega) (by omega), vp_in_nI (by omega) (by omega), ?_⟩
    rw [pJ_pS]
    have e : ∀ v, v = (σ.2 (t + 1) (r * 4 + i) ||| σ.2 (t2 + 1) (r2 * 4 + i)) → vp_updL (fun j => if r * 4 ≤ j ∧ j < r * 4 + i then σ.2 (t + 1) j ||| σ.2 (t2 + 1) (r2 * 4 + (j - r * 4)) else σ.2 (t + 1) j) (r * 4 + i) v = (fun j => if r * 4 ≤ j ∧ j < r * 4 + (i + 1) then σ.2 (t + 1) j ||| σ.2 (t2 + 1) (r2 * 4 + (j - r * 4)) else σ.2 (t + 1) j) := by
      intro v hv
      funext j
      unfold vp_updL
      by_cases h1 : j = r * 4 + i
      · subst h1
        rw [if_pos rfl, if_pos (by omega), hv, show r * 4 + i - r * 4 = i by omega]
      · rw [if_neg h1]
        show (if r * 4 ≤ j ∧ j < r * 4 + i then _ else _) = _
        by_cases h2 : r * 4 ≤ j ∧ j < r * 4 + i
        · rw [if_pos h2, if_pos (by omega)]
        · rw [if_neg h2, if_neg (by omega)]
    rw [e]
    · exact ih
    · simp only [pS_at]
      congr 1
      · simp
      · by_cases h3 : t2 = t
        · subst h3
          simp only [if_true]
          by_cases h4 : r * 4 ≤ r2 * 4 + i ∧ r2 * 4 + i < r * 4 + i
          · omega
          · rw [if_neg h4]
        · rw [if_neg (by omega)]
  have h0 := key 0 (Nat.zero_le _)
  rw [show (fun j => if r * 4 ≤ j ∧ j < r * 4 + 0 then σ.2 (t + 1) j ||| σ.2 (t2 + 1) (r2 * 4 + (j - r * 4)) else σ.2 (t + 1) j) = σ.2 (t + 1) from funext fun j => if_neg (by omega), pS_id] at h0
  exact h0
