/-! ===== Events, Waiting ===== -/
theorem oct4_len (w : Int32) : (oct4 w).length = 4 := rfl
theorem hl_len (p : Nat → Int32) : ∀ k, (hl p k).length = 4 * k
  | 0 => rfl
  | k + 1 => by
    show (hl p k ++ oct4 (p k)).length = _
    rw [List.length_append, hl_len p k, oct4_len]
    omega
theorem txl_len (to am : Nat → Int32) : ∀ k, (txl to am k).length = 5 * k
  | 0 => rfl
  | k + 1 => by
    show (txl to am k ++ ((to k &&& 255) :: oct4 (am k))).length = _
    rw [List.length_append, txl_len to am k, List.length_cons, oct4_len]
    omega
theorem nO_some {y : Nat} (h : y < 2 ^ 31) : ¬ nI y = -1 := by
  intro e
  have := congrArg Int32.toInt e
  rw [nI_toInt h] at this
  have h2 : (-1 : Int32).toInt = -1 := by decide
  rw [h2] at this
  omega
theorem v_X2_putParentHash (x1 : Int32) (σ : Sg) (K : Sg → Prop) (h : sp_X2_putParentHash x1 σ K) : vc_X2_putParentHash x1 σ K := by
  obtain ⟨l, p, hM, hlen, rfl, hp, hK⟩ := h
  intro L2 r2
  have key : ∀ i, i ≤ 8 → ∀ τ : Sg, (Msg (l ++ hl (ph (σ.1 19) p) i) τ ∧ Fr [8, 9] σ τ) → L2 (nI i) τ := by
    refine lup (L := fun i τ => L2 (nI i) τ) (fun i τ => Msg (l ++ hl (ph (σ.1 19) p) i) τ ∧ Fr [8, 9] σ τ) 8 (fun τ ht => ?_) (fun i τ hi ht ih => ?_)
    · exact r2 _ _ ⟨fun _ => hK τ ht.1 ht.2, fun c => absurd (Int32.le_refl _) c⟩
    · obtain ⟨hM2, hF⟩ := ht
      refine r2 _ _ ⟨fun c => absurd c (nI_ge (b := 8) hi (by omega)), fun _ => ?_⟩
      have hle : (l ++ hl (ph (σ.1 19) p) i).length + 4 ≤ 128 := by rw [List.length_append, hl_len]; omega
      have fin : ∀ w, w = ph (σ.1 19) p i → sp_X4_putInt w τ (fun u => L2 (nI i + 1) u) := by
        intro w hw
        subst hw
        refine ⟨_, hM2, hle, fun τ2 m2 f2 => ?_⟩
        rw [nI_1]
        refine ih τ2 ⟨?_, hF.trans f2⟩
        show Msg (l ++ (hl (ph (σ.1 19) p) i ++ oct4 (ph (σ.1 19) p i))) τ2
        rw [← List.append_assoc]
        exact m2
      cases hpp : p with
      | none =>
        subst hpp
        exact ⟨fun c => absurd rfl c, fun _ => fin 0 rfl⟩
      | some y =>
        subst hpp
        have hy := hp y rfl
        refine ⟨fun _ => ?_, fun c => absurd c (nO_some (by omega))⟩
        have e : (nI y * 8) + nI i = nI (y * 8 + i) := by rw [show (8 : Int32) = nI 8 from rfl, pk_mul, nI_add]
        show vp_in ((nI y * 8) + nI i) 1920 ∧ sp_X4_putInt (τ.1 19 ((nI y * 8) + nI i).toNatClampNeg) τ (fun u => L2 (nI i + 1) u)
        rw [e, cl_nI (by omega)]
        refine ⟨vp_in_nI (by omega) (by omega), fin _ ?_⟩
        rw [(hF 19 (by decide)).1]
        rfl
  refine key 0 (by omega) σ ⟨?_, Fr.refl _ _⟩
  show Msg (l ++ []) σ
  rw [List.append_nil]
  exact hM
theorem v_X2_close (x1 : Int32) (σ : Sg) (K : Sg → Prop) (h : sp_X2_close x1 σ K) : vc_X2_close x1 σ K := by
  obtain ⟨x, n, p1, p2, rfl, hx, hn, h16, h13, h14, hp1, hp2, hK⟩ := h
  intro L68 r68
  have hv : vp_in (nI x) 240 := vp_in_nI hx (by omega)
  have cx : (nI x).toNatClampNeg = x := cl_nI (by omega)
  obtain ⟨l0, el0⟩ : ∃ l0, l0 = (((σ.1 12 x &&& 255) :: (hl (ph (σ.1 19) p1) 8 ++ (hl (ph (σ.1 19) p2) 8 ++ (oct4 (lush (σ.2 15 x) 32).toInt32 ++ oct4 (σ.2 15 x).toInt32)))) ++ [nI n &&& 255] : List Int32) := ⟨_, rfl⟩
  have hl0 : l0.length = 74 := by
    rw [el0, List.length_append, List.length_cons, List.length_append, List.length_append, List.length_append, hl_len, hl_len, oct4_len, oct4_len]
    rfl
  have key : ∀ i, i ≤ n → ∀ τ : Sg, (Msg (l0 ++ txl (fun i => σ.1 17 (x * 3 + i)) (fun i => σ.1 18 (x * 3 + i)) i) τ ∧ Fr [8, 9] σ τ) → L68 (nI i) τ := by
    refine lup (L := fun i τ => L68 (nI i) τ) (fun i τ => Msg (l0 ++ txl (fun i => σ.1 17 (x * 3 + i)) (fun i => σ.1 18 (x * 3 + i)) i) τ ∧ Fr [8, 9] σ τ) n (fun τ ht => ?_) (fun i τ hi ht ih => ?_)
    · obtain ⟨hM, hF⟩ := ht
      refine r68 _ _ ?_
      unfold f_X2_close_68
      rw [cx, (hF 16 (by decide)).1, h16]
      refine ⟨hv, fun _ => ?_, fun c => absurd (Int32.le_refl _) c⟩
      refine ⟨_, x, hM, ?_, ?_, hx, fun τ2 h2 f2 => hK τ2 (fun j => ?_) ((hF.mono (by decide)).trans f2)⟩
      · rw [List.length_append, hl0, txl_len]; omega
      · rw [show (8 : Int32) = nI 8 from rfl, pk_mul]
      · rw [h2 j, (hF 19 (by decide)).1]
        have e : l0 ++ txl (fun i => σ.1 17 (x * 3 + i)) (fun i => σ.1 18 (x * 3 + i)) n = evL (σ.1 12 x) (ph (σ.1 19) p1) (ph (σ.1 19) p2) (σ.2 15 x) n (fun i => σ.1 17 (x * 3 + i)) (fun i => σ.1 18 (x * 3 + i)) := by
          rw [el0]
          unfold evL
          rw [List.append_assoc]
          rfl
        rw [e]
    · obtain ⟨hM, hF⟩ := ht
      refine r68 _ _ ?_
      unfold f_X2_close_68
      have e : (nI x * 3) + nI i = nI (x * 3 + i) := by rw [show (3 : Int32) = nI 3 from rfl, pk_mul, nI_add]
      rw [cx, (hF 16 (by decide)).1, h16, e, cl_nI (show x * 3 + i < 2 ^ 31 by omega)]
      refine ⟨hv, fun c => absurd c (nI_ge hi (by omega)), fun _ => ⟨vp_in_nI (by omega) (by omega), ?_⟩⟩
      have hle : (l0 ++ txl (fun i => σ.1 17 (x * 3 + i)) (fun i => σ.1 18 (x * 3 + i)) i).length ≤ 84 := by rw [List.length_append, hl0, txl_len]; omega
      refine ⟨_, hM, by omega, fun τ2 m2 f2 => ⟨vp_in_nI (by omega) (by omega), _, m2, by rw [List.length_append]; simp only [List.length_cons, List.length_nil]; omega, fun τ3 m3 f3 => ?_⟩⟩
      rw [nI_1]
      refine ih τ3 ⟨?_, hF.trans (f2.trans f3)⟩
      have e2 : l0 ++ txl (fun i => σ.1 17 (x * 3 + i)) (fun i => σ.1 18 (x * 3 + i)) (i + 1) = l0 ++ txl (fun i => σ.1 17 (x * 3 + i)) (fun i => σ.1 18 (x * 3 + i)) i ++ [τ.1 17 (x * 3 + i) &&& 255] ++ oct4 (τ2.1 18 (x * 3 + i)) := by
        rw [(f2 18 (by decide)).1, (hF 18 (by decide)).1, (hF 17 (by decide)).1]
        show l0 ++ (txl _ _ i ++ ((σ.1 17 (x * 3 + i) &&& 255) :: oct4 (σ.1 18 (x * 3 + i)))) = _
        simp [List.append_assoc]
      rw [e2]
      exact m3
  unfold f_X2_close_e
  rw [cx]
  refine fun τ1 m1 f1 => ⟨hv, ?_⟩
  rw [(f1 12 (by decide)).1]
  refine ⟨_, m1, by decide, fun τ2 m2 f2 => ⟨hv, ?_⟩⟩
  have g2 : Fr [8, 9] σ τ2 := f1.trans f2
  rw [(g2 13 (by decide)).1]
  refine ⟨_, p1, m2, Nat.le_of_ble_eq_true rfl, h13, hp1, fun τ3 m3 f3 => ⟨hv, ?_⟩⟩
  have g3 : Fr [8, 9] σ τ3 := g2.trans f3
  rw [(g2 19 (by decide)).1] at m3
  rw [(g3 14 (by decide)).1]
  refine ⟨_, p2, m3, by rw [List.length_append, hl_len]; exact Nat.le_of_ble_eq_true rfl, h14, hp2, fun τ4 m4 f4 => ⟨hv, ?_⟩⟩
  have g4 : Fr [8, 9] σ τ4 := g3.trans f4
  rw [(g3 19 (by decide)).1] at m4
  rw [(g4 15 (by decide)).2]
  refine ⟨_, m4, by rw [List.length_append, List.length_append, hl_len, hl_len]; exact Nat.le_of_ble_eq_true rfl, fun τ5 m5 f5 => ⟨_, m5, by rw [List.length_append, List.length_append, List.length_append, hl_len, hl_len, oct4_len]; exact Nat.le_of_ble_eq_true rfl, fun τ6 m6 f6 => ⟨hv, ?_⟩⟩⟩
  have g6 : Fr [8, 9] σ τ6 := g4.trans (f5.trans f6)
  rw [(g6 16 (by decide)).1, h16]
  refine ⟨_, m6, by rw [List.length_append, List.length_append, List.length_append, List.length_append, hl_len, hl_len, oct4_len, oct4_len]; exact Nat.le_of_ble_eq_true rfl, fun τ7 m7 f7 => ?_⟩
  refine key 0 (by omega) τ7 ⟨?_, g6.trans f7⟩
  have e : l0 ++ txl (fun i => σ.1 17 (x * 3 + i)) (fun i => σ.1 18 (x * 3 + i)) 0 = [] ++ [σ.1 12 x &&& 255] ++ hl (ph (σ.1 19) p1) 8 ++ hl (ph (σ.1 19) p2) 8 ++ oct4 (lush (σ.2 15 x) 32).toInt32 ++ oct4 (σ.2 15 x).toInt32 ++ [nI n &&& 255] := by
    rw [el0]
    show _ ++ [] = _
    simp [List.append_assoc]
  rw [e]
  exact m7
theorem anyN_iff (p : Nat → Bool) : ∀ n, anyN p n = true ↔ ∃ i, i < n ∧ p i = true
  | 0 => by simp [anyN]
  | n + 1 => by
    unfold anyN
    rw [Bool.or_eq_true, anyN_iff p n]
    constructor
    · rintro (⟨i, h1, h2⟩ | h)
      · exact ⟨i, by omega, h2⟩
      · exact ⟨n, by omega, h⟩
    · rintro ⟨i, h1, h2⟩
      by_cases h : i = n
      · subst h; exact Or.inr h2
      · exact Or.inl ⟨i, by omega, h2⟩
theorem anyN_false (p : Nat → Bool) (n : Nat) : anyN p n = false ↔ ∀ i, i < n → p i = false := by
  rw [← Bool.not_eq_true, anyN_iff]
  constructor
  · intro h i hi
    cases hp : p i
    · rfl
    · exact absurd ⟨i, hi, hp⟩ h
  · rintro h ⟨i, hi, hp⟩
    rw [h i hi] at hp
    cases hp
theorem v_X2_hasOneOf (x1 x2 x3 : Int32) (x4 : Int64) (σ : Sg) (K : Int32 → Sg → Prop) (h : sp_X2_hasOneOf x1 x2 x3 x4 σ K) : vc_X2_hasOneOf x1 x2 x3 x4 σ K := by
  obtain ⟨N, hN, h7, hK⟩ := h
  intro L r
  obtain ⟨p, hp⟩ : ∃ p : Nat → Bool, p = (fun x => decide (σ.1 12 x = x1) && (decide (σ.1 13 x = x2) && (decide (σ.1 14 x = x3) && (decide (σ.2 15 x = x4) && decide (σ.1 16 x = 0))))) := ⟨_, rfl⟩
  rw [← hp] at hK
  have pt : ∀ x, p x = true ↔ σ.1 12 x = x1 ∧ σ.1 13 x = x2 ∧ σ.1 14 x = x3 ∧ σ.2 15 x = x4 ∧ σ.1 16 x = 0 := by
    intro x
    rw [hp]
    simp [Bool.and_eq_true, decide_eq_true_eq]
  have key : ∀ i, i ≤ N → (∀ j, j < i → p j = false) → L (nI i) σ := by
    refine down N (fun hj => r _ _ ⟨fun _ => ?_, fun c => absurd (h7 ▸ Int32.le_refl _) c⟩) (fun i hi ih hj => ?_)
    · rw [(anyN_false p N).mpr hj] at hK
      exact hK
    · have ci : (nI i).toNatClampNeg = i := cl_nI (by omega)
      have hv : vp_in (nI i) 240 := vp_in_nI (by omega) (by omega)
      refine r _ _ ?_
      unfold f_X2_hasOneOf_3
      rw [h7, ci]
      have go : p i = false → f_X2_hasOneOf_70 x1 x2 x3 x4 L K (nI i) σ := by
        intro hf
        show L (nI i + 1) σ
        rw [nI_1]
        exact ih (fun j hji => by
          by_cases e : j = i
          · subst e; exact hf
          · exact hj j (by omega))
      have nf : ¬ (σ.1 12 i = x1 ∧ σ.1 13 i = x2 ∧ σ.1 14 i = x3 ∧ σ.2 15 i = x4 ∧ σ.1 16 i = 0) → p i = false := by
        intro hn
        cases hq : p i
        · rfl
        · exact absurd ((pt i).mp hq) hn
      refine ⟨fun c => absurd c (nI_ge hi (by omega)), fun _ => ⟨hv, fun a => go (nf (fun q => a q.1)), fun a => ⟨hv, fun b => go (nf (fun q => b q.2.1)), fun b => ⟨hv, fun c => go (nf (fun q => c q.2.2.1)), fun c => ⟨hv, fun d => go (nf (fun q => d ((lg_cmp_eq _ _).mpr q.2.2.2.1))), fun d => ⟨hv, fun e => go (nf (fun q => e q.2.2.2.2)), fun e => ?_⟩⟩⟩⟩⟩⟩
      rw [(anyN_iff p N).mpr ⟨i, hi, (pt i).mpr ⟨a, b, c, (lg_cmp_eq _ _).mp d, e⟩⟩] at hK
      exact hK
  exact key 0 (by omega) (fun j hj => absurd hj (Nat.not_lt_zero _))
theorem v_X6_lengthOfAll (σ : Sg) (K : Int32 → Sg → Prop) (h : sp_X6_lengthOfAll σ K) : vc_X6_lengthOfAll σ K := by
  intro L r
  have key : ∀ i, i ≤ 8 → L (sumN (σ.1 6) i) (nI i) σ := by
    refine down 8 (r _ _ _ ⟨fun _ => h, fun c => absurd (Int32.le_refl _) c⟩) (fun i hi ih => ?_)
    refine r _ _ _ ⟨fun c => absurd c (nI_ge (b := 8) hi (by omega)), fun _ => ⟨vp_in_nI hi (by omega), ?_⟩⟩
    rw [cl_nI (by omega), nI_1]
    exact ih
  exact key 0 (by omega)
