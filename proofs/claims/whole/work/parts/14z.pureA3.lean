theorem bt_word (σ : Sg) (t r i j : Nat) (hj : j < 64) : bt σ t r (64 * i + j) = (σ.2 (t + 1) (r * 4 + i)).toBitVec.getLsbD j := by
  unfold bt
  rw [show (64 * i + j) / 64 = i by omega, show (64 * i + j) % 64 = j by omega]
theorem v_X0_sizeInCommon (t n t2 n2 : Nat) (_ : IsBT t n) (_ : IsBT t2 n2) (x1 x3 : Int32) (σ : Sg) (K : Int32 → Sg → Prop) (h : sp_X0_sizeInCommon t n t2 n2 x1 x3 σ K) : vc_X0_sizeInCommon t n t2 n2 x1 x3 σ K := by
  obtain ⟨hn, hn2, r, r2, rfl, rfl, hr, hr2, hK⟩ := h
  intro L6 r6
  have key : ∀ i, i ≤ 4 → L6 (nI (cnt (fun b => bt σ t r b && bt σ t2 r2 b) (64 * i))) (nI i) σ := by
    refine down 4 (r6 _ _ _ ⟨fun _ => hK, fun c => absurd (Int32.le_refl _) c⟩) (fun i hi ih => ?_)
    have e1 : (nI r * 4) + nI i = nI (r * 4 + i) := by rw [show (4 : Int32) = nI 4 from rfl, pk_mul, nI_add]
    have e2 : (nI r2 * 4) + nI i = nI (r2 * 4 + i) := by rw [show (4 : Int32) = nI 4 from rfl, pk_mul, nI_add]
    refine r6 _ _ _ ⟨fun c => absurd c (nI_ge (b := 4) hi (by omega)), fun _ => ?_⟩
    rw [e1, e2, nI_clamp (show r * 4 + i < 2 ^ 31 by omega), nI_clamp (show r2 * 4 + i < 2 ^ 31 by omega)]
    refine ⟨vp_in_nI (by omega) (by omega), vp_in_nI (by omega) (by omega), ?_⟩
    show L6 (nI (cnt (fun b => bt σ t r b && bt σ t2 r2 b) (64 * i)) + nI (pop (σ.2 (t + 1) (r * 4 + i) &&& σ.2 (t2 + 1) (r2 * 4 + i)))) (nI i + 1) σ
    have e : pop (σ.2 (t + 1) (r * 4 + i) &&& σ.2 (t2 + 1) (r2 * 4 + i)) = cnt (fun j => (fun b => bt σ t r b && bt σ t2 r2 b) (64 * i + j)) 64 := by
      refine cnt_congr 64 (fun j hj => ?_)
      show _ = (bt σ t r (64 * i + j) && bt σ t2 r2 (64 * i + j))
      rw [bt_word _ _ _ _ _ hj, bt_word _ _ _ _ _ hj, Int64.toBitVec_and, BitVec.getLsbD_and]
    rw [nI_1, nI_add, e, ← cnt_add, show 64 * i + 64 = 64 * (i + 1) by omega]
    exact ih
  exact key 0 (Nat.zero_le _)
theorem v_X0_size (t n : Nat) (_ : IsBT t n) (x1 : Int32) (σ : Sg) (K : Int32 → Sg → Prop) (h : sp_X0_size t n x1 σ K) : vc_X0_size t n x1 σ K := by
  obtain ⟨hn, r, rfl, hr, hK⟩ := h
  refine ⟨hn, hn, r, r, rfl, rfl, hr, hr, ?_⟩
  rw [cnt_congr (q := fun b => bt σ t r b) 256 (fun b _ => Bool.and_self _)]
  exact hK
theorem v_X0_rowsWith (t n : Nat) (_ : IsBT t n) (x1 : Int32) (σ : Sg) (K : Int32 → Sg → Prop) (h : sp_X0_rowsWith t n x1 σ K) : vc_X0_rowsWith t n x1 σ K := by
  obtain ⟨hn, R, b, hR, rfl, hRn, hb, hK⟩ := h
  intro L4 r4
  have key : ∀ i, i ≤ R → L4 (nI (cnt (fun r => bt σ t r b) i)) (nI i) σ := by
    refine down R (r4 _ _ _ ⟨fun _ => hK, fun c => absurd (hR ▸ Int32.le_refl _) c⟩) (fun i hi ih => ?_)
    refine r4 _ _ _ ⟨fun c => absurd (hR ▸ c) (nI_ge hi (by omega)), fun _ => ⟨hn, i, b, rfl, rfl, by omega, hb, ?_, ?_⟩⟩
    · intro c
      have e : bt σ t i b = false := by
        cases h : bt σ t i b
        · rfl
        · rw [h] at c; exact absurd c (by decide)
      show L4 (nI (cnt (fun r => bt σ t r b) i) + 0) (nI i + 1) σ
      have e2 : cnt (fun r => bt σ t r b) (i + 1) = cnt (fun r => bt σ t r b) i := by
        show _ + _ = _
        simp [e]
      rw [nI_1, show (0 : Int32) = nI 0 from rfl, nI_add, Nat.add_zero, ← e2]
      exact ih
    · intro c
      have e : bt σ t i b = true := by
        cases h : bt σ t i b
        · rw [h] at c; exact absurd rfl c
        · rfl
      show L4 (nI (cnt (fun r => bt σ t r b) i) + 1) (nI i + 1) σ
      have e2 : cnt (fun r => bt σ t r b) (i + 1) = cnt (fun r => bt σ t r b) i + 1 := by
        show _ + _ = _
        simp [e]
      rw [nI_1, nI_1, ← e2]
      exact ih
  exact key 0 (Nat.zero_le _)
