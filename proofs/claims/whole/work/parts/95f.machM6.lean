set_option maxRecDepth 100000 in
set_option maxHeartbeats 4000000 in
theorem m_X8_find {l : Launch} {Ω : Wm} (hk : Hk Ω kM) (c_X8_receive : CT_X8_receive l Ω) (c_X8_voteOf : CT_X8_voteOf l Ω) (hv : ∀ (x1 : Int32) (σ : Sg) (K : Sg → Prop), sp_X8_find x1 σ K → vc_X8_find x1 σ K) : CT_X8_find l Ω := by
  intro x1 σ Po hsp
  have hvc := hv x1 σ Po hsp
  refine Ct.of (by decide +kernel) (Nat.le_of_ble_eq_true rfl) (fun Γ C => ?_)
  obtain ⟨L25, gl25⟩ : ∃ L : Int32 → Int32 → Int32 → Sg → Prop, ∀ (x2 : Int32) (x3 : Int32) (x4 : Int32) (σ : Sg), L x2 x3 x4 σ = OK Γ Ω 9 25 [(0, .ref (Ω.2.2.1 0)), (1, .int x1), (2, .int x2), (3, .int x3), (4, .int x4)] [] σ := ⟨fun x2 x3 x4 σ => OK Γ Ω 9 25 [(0, .ref (Ω.2.2.1 0)), (1, .int x1), (2, .int x2), (3, .int x3), (4, .int x4)] [] σ, fun _ _ _ _ => rfl⟩
  obtain ⟨L108, gl108⟩ : ∃ L : Int32 → Int32 → Int32 → Int32 → Int32 → Sg → Prop, ∀ (x2 : Int32) (x3 : Int32) (x4 : Int32) (x5 : Int32) (x6 : Int32) (σ : Sg), L x2 x3 x4 x5 x6 σ = OK Γ Ω 9 108 [(0, .ref (Ω.2.2.1 0)), (1, .int x1), (2, .int x2), (3, .int x3), (4, .int x4), (5, .int x5), (6, .int x6)] [] σ := ⟨fun x2 x3 x4 x5 x6 σ => OK Γ Ω 9 108 [(0, .ref (Ω.2.2.1 0)), (1, .int x1), (2, .int x2), (3, .int x3), (4, .int x4), (5, .int x5), (6, .int x6)] [] σ, fun _ _ _ _ _ _ => rfl⟩
  obtain ⟨L238, gl238⟩ : ∃ L : Int32 → Int32 → Int32 → Sg → Prop, ∀ (x2 : Int32) (x3 : Int32) (x4 : Int32) (σ : Sg), L x2 x3 x4 σ = OK Γ Ω 9 238 [(0, .ref (Ω.2.2.1 0)), (1, .int x1), (2, .int x2), (3, .int x3), (4, .int x4)] [] σ := ⟨fun x2 x3 x4 σ => OK Γ Ω 9 238 [(0, .ref (Ω.2.2.1 0)), (1, .int x1), (2, .int x2), (3, .int x3), (4, .int x4)] [] σ, fun _ _ _ _ => rfl⟩
  obtain ⟨L267, gl267⟩ : ∃ L : Int32 → Int32 → Int32 → Int32 → Int32 → Sg → Prop, ∀ (x2 : Int32) (x3 : Int32) (x4 : Int32) (x5 : Int32) (x6 : Int32) (σ : Sg), L x2 x3 x4 x5 x6 σ = OK Γ Ω 9 267 [(0, .ref (Ω.2.2.1 0)), (1, .int x1), (2, .int x2), (3, .int x3), (4, .int x4), (5, .int x5), (6, .int x6)] [] σ := ⟨fun x2 x3 x4 x5 x6 σ => OK Γ Ω 9 267 [(0, .ref (Ω.2.2.1 0)), (1, .int x1), (2, .int x2), (3, .int x3), (4, .int x4), (5, .int x5), (6, .int x6)] [] σ, fun _ _ _ _ _ _ => rfl⟩
  obtain ⟨L372, gl372⟩ : ∃ L : Int32 → Int32 → Int32 → Int32 → Sg → Prop, ∀ (x2 : Int32) (x3 : Int32) (x4 : Int32) (x5 : Int32) (σ : Sg), L x2 x3 x4 x5 σ = OK Γ Ω 9 372 [(0, .ref (Ω.2.2.1 0)), (1, .int x1), (2, .int x2), (3, .int x3), (4, .int x4), (5, .int x5)] [] σ := ⟨fun x2 x3 x4 x5 σ => OK Γ Ω 9 372 [(0, .ref (Ω.2.2.1 0)), (1, .int x1), (2, .int x2), (3, .int x3), (4, .int x4), (5, .int x5)] [] σ, fun _ _ _ _ _ => rfl⟩
  obtain ⟨L384, gl384⟩ : ∃ L : Int32 → Int32 → Int32 → Int32 → Int32 → Int32 → Sg → Prop, ∀ (x2 : Int32) (x3 : Int32) (x4 : Int32) (x5 : Int32) (x6 : Int32) (x7 : Int32) (σ : Sg), L x2 x3 x4 x5 x6 x7 σ = OK Γ Ω 9 384 [(0, .ref (Ω.2.2.1 0)), (1, .int x1), (2, .int x2), (3, .int x3), (4, .int x4), (5, .int x5), (6, .int x6), (7, .int x7)] [] σ := ⟨fun x2 x3 x4 x5 x6 x7 σ => OK Γ Ω 9 384 [(0, .ref (Ω.2.2.1 0)), (1, .int x1), (2, .int x2), (3, .int x3), (4, .int x4), (5, .int x5), (6, .int x6), (7, .int x7)] [] σ, fun _ _ _ _ _ _ _ => rfl⟩
  obtain ⟨L516, gl516⟩ : ∃ L : Int32 → Sg → Prop, ∀ (x5 : Int32) (σ : Sg), L x5 σ = OK Γ Ω 9 516 [(0, .ref (Ω.2.2.1 0)), (5, .int x5)] [] σ := ⟨fun x5 σ => OK Γ Ω 9 516 [(0, .ref (Ω.2.2.1 0)), (5, .int x5)] [] σ, fun _ _ => rfl⟩
  obtain ⟨L544, gl544⟩ : ∃ L : Int32 → Sg → Prop, ∀ (x5 : Int32) (σ : Sg), L x5 σ = OK Γ Ω 9 544 [(0, .ref (Ω.2.2.1 0)), (5, .int x5)] [] σ := ⟨fun x5 σ => OK Γ Ω 9 544 [(0, .ref (Ω.2.2.1 0)), (5, .int x5)] [] σ, fun _ _ => rfl⟩
  obtain ⟨L574, gl574⟩ : ∃ L : Int32 → Int32 → Int32 → Sg → Prop, ∀ (x5 : Int32) (x6 : Int32) (x7 : Int32) (σ : Sg), L x5 x6 x7 σ = OK Γ Ω 9 574 [(0, .ref (Ω.2.2.1 0)), (5, .int x5), (6, .int x6), (7, .int x7)] [] σ := ⟨fun x5 x6 x7 σ => OK Γ Ω 9 574 [(0, .ref (Ω.2.2.1 0)), (5, .int x5), (6, .int x6), (7, .int x7)] [] σ, fun _ _ _ _ => rfl⟩
  have J659 : ∀ (x5 : Int32) (x6 : Int32) (x7 : Int32) (σ : Sg), f_X8_find_659 x1 L25 L108 L238 L267 L372 L384 L516 L544 L574 Po x5 x6 x7 σ → OK Γ Ω 9 659 [(0, .ref (Ω.2.2.1 0)), (5, .int x5), (6, .int x6), (7, .int x7)] [] σ := by
    intro x5 x6 x7 σ h
    unfold f_X8_find_659 at h
    refine ok_iinc C (v := x7 + 1) (L2 := [(7, .int (x7 + 1)), (0, .ref (Ω.2.2.1 0)), (5, .int x5), (6, .int x6)]) 3 dX8_find_659 rfl rfl (by decide) rfl ?_
    refine ok_goto C 574 dX8_find_662 rfl ?_
    refine ok_sub [1, 2, 3, 0] rfl ?_
    exact Eq.mp (gl574 _ _ _ _) h
  have J507 : ∀ (x2 : Int32) (x3 : Int32) (x4 : Int32) (x5 : Int32) (σ : Sg), f_X8_find_507 x1 L25 L108 L238 L267 L372 L384 L516 L544 L574 Po x2 x3 x4 x5 σ → OK Γ Ω 9 507 [(0, .ref (Ω.2.2.1 0)), (1, .int x1), (2, .int x2), (3, .int x3), (4, .int x4), (5, .int x5)] [] σ := by
    intro x2 x3 x4 x5 σ h
    unfold f_X8_find_507 at h
    refine ok_iinc C (v := x5 + 1) (L2 := [(5, .int (x5 + 1)), (0, .ref (Ω.2.2.1 0)), (1, .int x1), (2, .int x2), (3, .int x3), (4, .int x4)]) 5 dX8_find_507 rfl rfl (by decide) rfl ?_
    refine ok_goto C 372 dX8_find_510 rfl ?_
    refine ok_sub [1, 2, 3, 4, 5, 0] rfl ?_
    exact Eq.mp (gl372 _ _ _ _ _) h
  have J471 : ∀ (x2 : Int32) (x3 : Int32) (x4 : Int32) (x5 : Int32) (x6 : Int32) (x7 : Int32) (σ : Sg), f_X8_find_471 x1 L25 L108 L238 L267 L372 L384 L516 L544 L574 Po x2 x3 x4 x5 x6 x7 σ → OK Γ Ω 9 471 [(0, .ref (Ω.2.2.1 0)), (1, .int x1), (2, .int x2), (3, .int x3), (4, .int x4), (5, .int x5), (6, .int x6), (7, .int x7)] [] σ := by
    intro x2 x3 x4 x5 x6 x7 σ h
    unfold f_X8_find_471 at h
    refine ok_iinc C (v := x7 + 1) (L2 := [(7, .int (x7 + 1)), (0, .ref (Ω.2.2.1 0)), (1, .int x1), (2, .int x2), (3, .int x3), (4, .int x4), (5, .int x5), (6, .int x6)]) 7 dX8_find_471 rfl rfl (by decide) rfl ?_
    refine ok_goto C 384 dX8_find_474 rfl ?_
    refine ok_sub [1, 2, 3, 4, 5, 6, 7, 0] rfl ?_
    exact Eq.mp (gl384 _ _ _ _ _ _ _) h
  have J468 : ∀ (x2 : Int32) (x3 : Int32) (x4 : Int32) (x5 : Int32) (x7 : Int32) (s0 : Int32) (s1 : Int32) (σ : Sg), f_X8_find_468 x1 L25 L108 L238 L267 L372 L384 L516 L544 L574 Po x2 x3 x4 x5 x7 s0 s1 σ → OK Γ Ω 9 468 [(0, .ref (Ω.2.2.1 0)), (1, .int x1), (2, .int x2), (3, .int x3), (4, .int x4), (5, .int x5), (7, .int x7)] [.int s0, .int s1] σ := by
    intro x2 x3 x4 x5 x7 s0 s1 σ h
    unfold f_X8_find_468 at h
    refine ok_ior C dX8_find_468 ?_
    refine ok_istore C (L2 := [(6, .int (s1 ||| s0)), (0, .ref (Ω.2.2.1 0)), (1, .int x1), (2, .int x2), (3, .int x3), (4, .int x4), (5, .int x5), (7, .int x7)]) dX8_find_469 (by decide) rfl ?_
    refine ok_sub [1, 2, 3, 4, 5, 6, 0, 7] rfl ?_
    exact J471 _ _ _ _ _ _ _ h
  have J447 : ∀ (x2 : Int32) (x3 : Int32) (x5 : Int32) (x6 : Int32) (x7 : Int32) (s0 : Int32) (s1 : Int32) (σ : Sg), f_X8_find_447 x1 L25 L108 L238 L267 L372 L384 L516 L544 L574 Po x2 x3 x5 x6 x7 s0 s1 σ → OK Γ Ω 9 447 [(0, .ref (Ω.2.2.1 0)), (1, .int x1), (2, .int x2), (3, .int x3), (5, .int x5), (6, .int x6), (7, .int x7)] [.int s0, .int s1] σ := by
    intro x2 x3 x5 x6 x7 s0 s1 σ h
    unfold f_X8_find_447 at h
    refine ok_iand C dX8_find_447 ?_
    refine ok_istore C (L2 := [(4, .int (s1 &&& s0)), (0, .ref (Ω.2.2.1 0)), (1, .int x1), (2, .int x2), (3, .int x3), (5, .int x5), (6, .int x6), (7, .int x7)]) dX8_find_448 (by decide) rfl ?_
    refine ok_iload C 6 dX8_find_450 rfl ?_
    refine ok_aload_n C 1 dX8_find_452 rfl rfl ?_
    refine ok_getR C (ci := 8) hinX8 (kat hk kM_0) rfl 25 (by decide) W_6_151 (fun _ _ h => h) rfl dX8_find_453 ?_
    refine ok_iload C 7 dX8_find_456 rfl ?_
    obtain ⟨g62, h⟩ := h
    refine ok_iald C (kat hk kM_20) g62 dX8_find_458 ?_
    refine ok_iconst C (v := 3) dX8_find_459 (by decide) ?_
    obtain ⟨h1, h2⟩ := h
    refine ok_icmp_ne C 467 dX8_find_460 rfl (fun c63 => ?_) (fun c63 => ?_)
    · have h := h1 c63
      refine ok_iconst C (v := 0) dX8_find_467 (by decide) ?_
      refine ok_sub [1, 2, 3, 4, 0, 5, 7] rfl ?_
      exact J468 _ _ _ _ _ _ _ _ h
    · have h := h2 c63
      refine ok_iconst C (v := 1) dX8_find_463 (by decide) ?_
      refine ok_goto C 468 dX8_find_464 rfl ?_
      refine ok_sub [1, 2, 3, 4, 0, 5, 7] rfl ?_
      exact J468 _ _ _ _ _ _ _ _ h
  have J350 : ∀ (x2 : Int32) (x3 : Int32) (x4 : Int32) (σ : Sg), f_X8_find_350 x1 L25 L108 L238 L267 L372 L384 L516 L544 L574 Po x2 x3 x4 σ → OK Γ Ω 9 350 [(0, .ref (Ω.2.2.1 0)), (1, .int x1), (2, .int x2), (3, .int x3), (4, .int x4)] [] σ := by
    intro x2 x3 x4 σ h
    unfold f_X8_find_350 at h
    refine ok_iinc C (v := x4 + 1) (L2 := [(4, .int (x4 + 1)), (0, .ref (Ω.2.2.1 0)), (1, .int x1), (2, .int x2), (3, .int x3)]) 4 dX8_find_350 rfl rfl (by decide) rfl ?_
    refine ok_goto C 238 dX8_find_353 rfl ?_
    refine ok_sub [1, 2, 3, 4, 0] rfl ?_
    exact Eq.mp (gl238 _ _ _ _) h
  have J331 : ∀ (x2 : Int32) (x3 : Int32) (x4 : Int32) (x5 : Int32) (x6 : Int32) (σ : Sg), f_X8_find_331 x1 L25 L108 L238 L267 L372 L384 L516 L544 L574 Po x2 x3 x4 x5 x6 σ → OK Γ Ω 9 331 [(0, .ref (Ω.2.2.1 0)), (1, .int x1), (2, .int x2), (3, .int x3), (4, .int x4), (5, .int x5), (6, .int x6)] [] σ := by
    intro x2 x3 x4 x5 x6 σ h
    unfold f_X8_find_331 at h
    refine ok_iinc C (v := x6 + 1) (L2 := [(6, .int (x6 + 1)), (0, .ref (Ω.2.2.1 0)), (1, .int x1), (2, .int x2), (3, .int x3), (4, .int x4), (5, .int x5)]) 6 dX8_find_331 rfl rfl (by decide) rfl ?_
    refine ok_goto C 267 dX8_find_334 rfl ?_
    refine ok_sub [1, 2, 3, 4, 5, 6, 0] rfl ?_
    exact Eq.mp (gl267 _ _ _ _ _ _) h
  have J229 : ∀ (x2 : Int32) (x3 : Int32) (x4 : Int32) (σ : Sg), f_X8_find_229 x1 L25 L108 L238 L267 L372 L384 L516 L544 L574 Po x2 x3 x4 σ → OK Γ Ω 9 229 [(0, .ref (Ω.2.2.1 0)), (1, .int x1), (2, .int x2), (3, .int x3), (4, .int x4)] [] σ := by
    intro x2 x3 x4 σ h
    unfold f_X8_find_229 at h
    refine ok_iinc C (v := x4 + 1) (L2 := [(4, .int (x4 + 1)), (0, .ref (Ω.2.2.1 0)), (1, .int x1), (2, .int x2), (3, .int x3)]) 4 dX8_find_229 rfl rfl (by decide) rfl ?_
    refine ok_goto C 25 dX8_find_232 rfl ?_
    refine ok_sub [1, 2, 3, 4, 0] rfl ?_
    exact Eq.mp (gl25 _ _ _ _) h
  have J228 : ∀ (x2 : Int32) (x3 : Int32) (x4 : Int32) (s0 : Int32) (s1 : Int32) (σ : Sg), f_X8_find_228 x1 L25 L108 L238 L267 L372 L384 L516 L544 L574 Po x2 x3 x4 s0 s1 σ → OK Γ Ω 9 228 [(0, .ref (Ω.2.2.1 0)), (1, .int x1), (2, .int x2), (3, .int x3), (4, .int x4)] [.int s0, .int s1, .ref (Ω.2.2.1 20)] σ := by
    intro x2 x3 x4 s0 s1 σ h
    unfold f_X8_find_228 at h
    obtain ⟨g32, h⟩ := h
    refine ok_iast C (kat hk kM_20) g32 dX8_find_228 ?_
    refine ok_sub [0, 1, 2, 3, 4] rfl ?_
    exact J229 _ _ _ _ h
  have J194 : ∀ (x2 : Int32) (x3 : Int32) (x4 : Int32) (x5 : Int32) (x6 : Int32) (σ : Sg), f_X8_find_194 x1 L25 L108 L238 L267 L372 L384 L516 L544 L574 Po x2 x3 x4 x5 x6 σ → OK Γ Ω 9 194 [(0, .ref (Ω.2.2.1 0)), (1, .int x1), (2, .int x2), (3, .int x3), (4, .int x4), (5, .int x5), (6, .int x6)] [] σ := by
    intro x2 x3 x4 x5 x6 σ h
    unfold f_X8_find_194 at h
    refine ok_iinc C (v := x6 + 1) (L2 := [(6, .int (x6 + 1)), (0, .ref (Ω.2.2.1 0)), (1, .int x1), (2, .int x2), (3, .int x3), (4, .int x4), (5, .int x5)]) 6 dX8_find_194 rfl rfl (by decide) rfl ?_
    refine ok_goto C 108 dX8_find_197 rfl ?_
    refine ok_sub [1, 2, 3, 4, 5, 6, 0] rfl ?_
    exact Eq.mp (gl108 _ _ _ _ _ _) h
  have J190 : ∀ (x2 : Int32) (x3 : Int32) (x4 : Int32) (x6 : Int32) (σ : Sg), f_X8_find_190 x1 L25 L108 L238 L267 L372 L384 L516 L544 L574 Po x2 x3 x4 x6 σ → OK Γ Ω 9 190 [(0, .ref (Ω.2.2.1 0)), (1, .int x1), (2, .int x2), (3, .int x3), (4, .int x4), (6, .int x6)] [] σ := by
    intro x2 x3 x4 x6 σ h
    unfold f_X8_find_190 at h
    refine ok_iload C 5 dX8_find_190 rfl ?_
    refine ok_istore C (L2 := [(5, .int x6), (0, .ref (Ω.2.2.1 0)), (1, .int x1), (2, .int x2), (3, .int x3), (4, .int x4), (6, .int x6)]) dX8_find_192 (by decide) rfl ?_
    refine ok_sub [1, 2, 3, 4, 5, 0, 6] rfl ?_
    exact J194 _ _ _ _ _ _ h
  have J102 : ∀ (x2 : Int32) (x3 : Int32) (x4 : Int32) (σ : Sg), f_X8_find_102 x1 L25 L108 L238 L267 L372 L384 L516 L544 L574 Po x2 x3 x4 σ → OK Γ Ω 9 102 [(0, .ref (Ω.2.2.1 0)), (1, .int x1), (2, .int x2), (3, .int x3), (4, .int x4)] [] σ := by
    intro x2 x3 x4 σ h
    unfold f_X8_find_102 at h
    refine ok_iconst C (v := (-1)) dX8_find_102 (by decide) ?_
    refine ok_istore C (L2 := [(5, .int (-1)), (0, .ref (Ω.2.2.1 0)), (1, .int x1), (2, .int x2), (3, .int x3), (4, .int x4)]) dX8_find_103 (by decide) rfl ?_
    refine ok_iconst C (v := 0) dX8_find_105 (by decide) ?_
    refine ok_istore C (L2 := [(6, .int 0), (5, .int (-1)), (0, .ref (Ω.2.2.1 0)), (1, .int x1), (2, .int x2), (3, .int x3), (4, .int x4)]) dX8_find_106 (by decide) rfl ?_
    refine ok_sub [2, 3, 4, 5, 6, 1, 0] rfl ?_
    exact Eq.mp (gl108 _ _ _ _ _ _) h
  have R25 : ∀ (x2 : Int32) (x3 : Int32) (x4 : Int32) (σ : Sg), f_X8_find_25 x1 L25 L108 L238 L267 L372 L384 L516 L544 L574 Po x2 x3 x4 σ → L25 x2 x3 x4 σ := by
    intro x2 x3 x4 σ h
    unfold f_X8_find_25 at h
    refine Eq.mpr (gl25 _ _ _ _) ?_
    refine ok_iload C 4 dX8_find_25 rfl ?_
    refine ok_aload_n C 0 dX8_find_27 rfl rfl ?_
    refine ok_getI C (ci := 8) hinX8 (kat hk kM_0) rfl 2 (by decide) W_6_128 (fun _ _ h => h) rfl dX8_find_28 ?_
    obtain ⟨h1, h2⟩ := h
    refine ok_icmp_ge C 235 dX8_find_31 rfl (fun c12 => ?_) (fun c12 => ?_)
    · have h := h1 c12
      refine ok_iconst C (v := 0) dX8_find_235 (by decide) ?_
      refine ok_istore C (L2 := [(4, .int 0), (0, .ref (Ω.2.2.1 0)), (1, .int x1), (2, .int x2), (3, .int x3)]) dX8_find_236 (by decide) rfl ?_
      refine ok_sub [1, 2, 3, 4, 0] rfl ?_
      exact Eq.mp (gl238 _ _ _ _) h
    · have h := h2 c12
      refine ok_aload_n C 0 dX8_find_34 rfl rfl ?_
      refine ok_getR C (ci := 8) hinX8 (kat hk kM_0) rfl 25 (by decide) W_6_151 (fun _ _ h => h) rfl dX8_find_35 ?_
      refine ok_iload C 4 dX8_find_38 rfl ?_
      refine ok_iconst C (v := 0) dX8_find_40 (by decide) ?_
      obtain ⟨g2, h⟩ := h
      refine ok_iast C (kat hk kM_20) g2 dX8_find_41 ?_
      refine ok_aload_n C 0 dX8_find_42 rfl rfl ?_
      refine ok_getR C (ci := 8) hinX8 (kat hk kM_0) rfl 26 (by decide) W_6_152 (fun _ _ h => h) rfl dX8_find_43 ?_
      refine ok_iload C 4 dX8_find_46 rfl ?_
      refine ok_iconst C (v := 0) dX8_find_48 (by decide) ?_
      obtain ⟨g3, h⟩ := h
      refine ok_iast C (kat hk kM_21) g3 dX8_find_49 ?_
      refine ok_aload_n C 0 dX8_find_50 rfl rfl ?_
      refine ok_getR C (ci := 8) hinX8 (kat hk kM_0) rfl 27 (by decide) W_6_153 (fun _ _ h => h) rfl dX8_find_51 ?_
      refine ok_iload C 4 dX8_find_54 rfl ?_
      refine ok_iconst C (v := (-1)) dX8_find_56 (by decide) ?_
      obtain ⟨g4, h⟩ := h
      refine ok_iast C (kat hk kM_22) g4 dX8_find_57 ?_
      refine ok_aload_n C 0 dX8_find_58 rfl rfl ?_
      refine ok_getR C (ci := 8) hinX8 (kat hk kM_0) rfl 17 (by decide) W_6_143 (fun _ _ h => h) rfl dX8_find_59 ?_
      refine ok_iload_n C 3 dX8_find_62 rfl rfl ?_
      refine ok_iload C 4 dX8_find_63 rfl ?_
      refine ok_iadd C dX8_find_65 ?_
      obtain ⟨g5, h⟩ := h
      refine ok_zald C (kat hk kM_15) g5 dX8_find_66 ?_
      obtain ⟨h1, h2⟩ := h
      refine ok_if_eq C 229 dX8_find_67 rfl (fun c11 => ?_) (fun c11 => ?_)
      · have h := h1 c11
        refine ok_sub [0, 1, 2, 3, 4] rfl ?_
        exact J229 _ _ _ _ h
      · have h := h2 c11
        refine ok_aload_n C 0 dX8_find_70 rfl rfl ?_
        refine ok_getR C (ci := 8) hinX8 (kat hk kM_0) rfl 19 (by decide) W_6_145 (fun _ _ h => h) rfl dX8_find_71 ?_
        refine ok_iload C 4 dX8_find_74 rfl ?_
        obtain ⟨g6, h⟩ := h
        refine ok_zald C (kat hk kM_17) g6 dX8_find_76 ?_
        obtain ⟨h1, h2⟩ := h
        refine ok_if_ne C 83 dX8_find_77 rfl (fun c10 => ?_) (fun c10 => ?_)
        · have h := h1 c10
          refine ok_aload_n C 0 dX8_find_83 rfl rfl ?_
          refine ok_getR C (ci := 8) hinX8 (kat hk kM_0) rfl 9 (by decide) W_6_135 (fun _ _ h => h) rfl dX8_find_84 ?_
          refine ok_iload C 4 dX8_find_87 rfl ?_
          obtain ⟨g7, h⟩ := h
          refine ok_iald C (kat hk kM_7) g7 dX8_find_89 ?_
          refine ok_iload_n C 2 dX8_find_90 rfl rfl ?_
          obtain ⟨h1, h2⟩ := h
          refine ok_icmp_le C 102 dX8_find_91 rfl (fun c9 => ?_) (fun c9 => ?_)
          · have h := h1 c9
            refine ok_sub [0, 1, 2, 3, 4] rfl ?_
            exact J102 _ _ _ _ h
          · have h := h2 c9
            refine ok_aload_n C 0 dX8_find_94 rfl rfl ?_
            refine ok_getR C (ci := 8) hinX8 (kat hk kM_0) rfl 9 (by decide) W_6_135 (fun _ _ h => h) rfl dX8_find_95 ?_
            refine ok_iload C 4 dX8_find_98 rfl ?_
            obtain ⟨g8, h⟩ := h
            refine ok_iald C (kat hk kM_7) g8 dX8_find_100 ?_
            refine ok_istore_n C (L2 := [(2, .int ((pI (pI (pI σ 20 x4.toNatClampNeg 0) 21 x4.toNatClampNeg 0) 22 x4.toNatClampNeg (-1)).1 7 x4.toNatClampNeg)), (0, .ref (Ω.2.2.1 0)), (1, .int x1), (3, .int x3), (4, .int x4)]) dX8_find_101 rfl (by decide) rfl ?_
            refine ok_sub [1, 2, 0, 3, 4] rfl ?_
            exact J102 _ _ _ _ h
        · have h := h2 c10
          refine ok_goto C 229 dX8_find_80 rfl ?_
          refine ok_sub [0, 1, 2, 3, 4] rfl ?_
          exact J229 _ _ _ _ h
  have R108 : ∀ (x2 : Int32) (x3 : Int32) (x4 : Int32) (x5 : Int32) (x6 : Int32) (σ : Sg), f_X8_find_108 x1 L25 L108 L238 L267 L372 L384 L516 L544 L574 Po x2 x3 x4 x5 x6 σ → L108 x2 x3 x4 x5 x6 σ := by
    intro x2 x3 x4 x5 x6 σ h
    unfold f_X8_find_108 at h
    refine Eq.mpr (gl108 _ _ _ _ _ _) ?_
    refine ok_iload C 6 dX8_find_108 rfl ?_
    refine ok_aload_n C 0 dX8_find_110 rfl rfl ?_
    refine ok_getI C (ci := 8) hinX8 (kat hk kM_0) rfl 2 (by decide) W_6_128 (fun _ _ h => h) rfl dX8_find_111 ?_
    obtain ⟨h1, h2⟩ := h
    refine ok_icmp_ge C 200 dX8_find_114 rfl (fun c31 => ?_) (fun c31 => ?_)
    · have h := h1 c31
      refine ok_iload C 5 dX8_find_200 rfl ?_
      obtain ⟨h1, h2⟩ := h
      refine ok_if_lt C 229 dX8_find_202 rfl (fun c16 => ?_) (fun c16 => ?_)
      · have h := h1 c16
        refine ok_sub [0, 1, 2, 3, 4] rfl ?_
        exact J229 _ _ _ _ h
      · have h := h2 c16
        refine ok_aload_n C 0 dX8_find_205 rfl rfl ?_
        refine ok_getR C (ci := 8) hinX8 (kat hk kM_0) rfl 25 (by decide) W_6_151 (fun _ _ h => h) rfl dX8_find_206 ?_
        refine ok_iload C 4 dX8_find_209 rfl ?_
        refine ok_aload_n C 0 dX8_find_211 rfl rfl ?_
        refine ok_iload C 5 dX8_find_212 rfl ?_
        refine ok_iload C 4 dX8_find_214 rfl ?_
        refine ok_callVi C (As := [.int x5, .int x4]) (rest := [.int x4, .ref (Ω.2.2.1 20)]) (q := 0) (ci := 8) (kat hk kM_0) rfl (c_X8_voteOf  _ _ _ _ h) W_7_60 W_7_62 W_0_56 W_7_63 W_1_28 hd_X8_voteOf rfl ⟨Nat.le_of_ble_eq_true rfl, Nat.le_of_ble_eq_true rfl⟩ (Nat.le_of_ble_eq_true rfl) rfl dX8_find_216 (fun r13 u14 h => ?_)
        refine ok_iconst C (v := 3) dX8_find_219 (by decide) ?_
        obtain ⟨h1, h2⟩ := h
        refine ok_icmp_ne C 227 dX8_find_220 rfl (fun c15 => ?_) (fun c15 => ?_)
        · have h := h1 c15
          refine ok_iconst C (v := 1) dX8_find_227 (by decide) ?_
          refine ok_sub [0, 1, 2, 3, 4] rfl ?_
          exact J228 _ _ _ _ _ _ h
        · have h := h2 c15
          refine ok_iconst C (v := 2) dX8_find_223 (by decide) ?_
          refine ok_goto C 228 dX8_find_224 rfl ?_
          refine ok_sub [0, 1, 2, 3, 4] rfl ?_
          exact J228 _ _ _ _ _ _ h
    · have h := h2 c31
      refine ok_aload_n C 0 dX8_find_117 rfl rfl ?_
      refine ok_getR C (ci := 8) hinX8 (kat hk kM_0) rfl 17 (by decide) W_6_143 (fun _ _ h => h) rfl dX8_find_118 ?_
      refine ok_iload_n C 3 dX8_find_121 rfl rfl ?_
      refine ok_iload C 6 dX8_find_122 rfl ?_
      refine ok_iadd C dX8_find_124 ?_
      obtain ⟨g17, h⟩ := h
      refine ok_zald C (kat hk kM_15) g17 dX8_find_125 ?_
      obtain ⟨h1, h2⟩ := h
      refine ok_if_eq C 194 dX8_find_126 rfl (fun c30 => ?_) (fun c30 => ?_)
      · have h := h1 c30
        refine ok_sub [0, 1, 2, 3, 4, 5, 6] rfl ?_
        exact J194 _ _ _ _ _ _ h
      · have h := h2 c30
        refine ok_aload_n C 0 dX8_find_129 rfl rfl ?_
        refine ok_getR C (ci := 8) hinX8 (kat hk kM_0) rfl 19 (by decide) W_6_145 (fun _ _ h => h) rfl dX8_find_130 ?_
        refine ok_iload C 6 dX8_find_133 rfl ?_
        obtain ⟨g18, h⟩ := h
        refine ok_zald C (kat hk kM_17) g18 dX8_find_135 ?_
        obtain ⟨h1, h2⟩ := h
        refine ok_if_eq C 194 dX8_find_136 rfl (fun c29 => ?_) (fun c29 => ?_)
        · have h := h1 c29
          refine ok_sub [0, 1, 2, 3, 4, 5, 6] rfl ?_
          exact J194 _ _ _ _ _ _ h
        · have h := h2 c29
          refine ok_aload_n C 0 dX8_find_139 rfl rfl ?_
          refine ok_getR C (ci := 8) hinX8 (kat hk kM_0) rfl 9 (by decide) W_6_135 (fun _ _ h => h) rfl dX8_find_140 ?_
          refine ok_iload C 6 dX8_find_143 rfl ?_
          obtain ⟨g19, h⟩ := h
          refine ok_iald C (kat hk kM_7) g19 dX8_find_145 ?_
          refine ok_aload_n C 0 dX8_find_146 rfl rfl ?_
          refine ok_getR C (ci := 8) hinX8 (kat hk kM_0) rfl 9 (by decide) W_6_135 (fun _ _ h => h) rfl dX8_find_147 ?_
          refine ok_iload C 4 dX8_find_150 rfl ?_
          obtain ⟨g20, h⟩ := h
          refine ok_iald C (kat hk kM_7) g20 dX8_find_152 ?_
          obtain ⟨h1, h2⟩ := h
          refine ok_icmp_le C 194 dX8_find_153 rfl (fun c28 => ?_) (fun c28 => ?_)
          · have h := h1 c28
            refine ok_sub [0, 1, 2, 3, 4, 5, 6] rfl ?_
            exact J194 _ _ _ _ _ _ h
          · have h := h2 c28
            refine ok_aload_n C 0 dX8_find_156 rfl rfl ?_
            refine ok_iload C 6 dX8_find_157 rfl ?_
            refine ok_iload C 4 dX8_find_159 rfl ?_
            refine ok_callVi C (As := [.int x6, .int x4]) (rest := []) (q := 0) (ci := 8) (kat hk kM_0) rfl (c_X8_voteOf  _ _ _ _ h) W_7_60 W_7_62 W_0_56 W_7_63 W_1_28 hd_X8_voteOf rfl ⟨Nat.le_of_ble_eq_true rfl, Nat.le_of_ble_eq_true rfl⟩ (Nat.le_of_ble_eq_true rfl) rfl dX8_find_161 (fun r21 u22 h => ?_)
            refine ok_iconst C (v := 1) dX8_find_164 (by decide) ?_
            obtain ⟨h1, h2⟩ := h
            refine ok_icmp_le C 194 dX8_find_165 rfl (fun c27 => ?_) (fun c27 => ?_)
            · have h := h1 c27
              refine ok_sub [0, 1, 2, 3, 4, 5, 6] rfl ?_
              exact J194 _ _ _ _ _ _ h
            · have h := h2 c27
              refine ok_iload C 5 dX8_find_168 rfl ?_
              obtain ⟨h1, h2⟩ := h
              refine ok_if_lt C 190 dX8_find_170 rfl (fun c26 => ?_) (fun c26 => ?_)
              · have h := h1 c26
                refine ok_sub [0, 1, 2, 3, 4, 6] rfl ?_
                exact J190 _ _ _ _ _ h
              · have h := h2 c26
                refine ok_aload_n C 0 dX8_find_173 rfl rfl ?_
                refine ok_getR C (ci := 8) hinX8 (kat hk kM_0) rfl 9 (by decide) W_6_135 (fun _ _ h => h) rfl dX8_find_174 ?_
                refine ok_iload C 6 dX8_find_177 rfl ?_
                obtain ⟨g23, h⟩ := h
                refine ok_iald C (kat hk kM_7) g23 dX8_find_179 ?_
                refine ok_aload_n C 0 dX8_find_180 rfl rfl ?_
                refine ok_getR C (ci := 8) hinX8 (kat hk kM_0) rfl 9 (by decide) W_6_135 (fun _ _ h => h) rfl dX8_find_181 ?_
                refine ok_iload C 5 dX8_find_184 rfl ?_
                obtain ⟨g24, h⟩ := h
                refine ok_iald C (kat hk kM_7) g24 dX8_find_186 ?_
                obtain ⟨h1, h2⟩ := h
                refine ok_icmp_ge C 194 dX8_find_187 rfl (fun c25 => ?_) (fun c25 => ?_)
                · have h := h1 c25
                  refine ok_sub [0, 1, 2, 3, 4, 5, 6] rfl ?_
                  exact J194 _ _ _ _ _ _ h
                · have h := h2 c25
                  refine ok_sub [0, 1, 2, 3, 4, 6] rfl ?_
                  exact J190 _ _ _ _ _ h
  have R238 : ∀ (x2 : Int32) (x3 : Int32) (x4 : Int32) (σ : Sg), f_X8_find_238 x1 L25 L108 L238 L267 L372 L384 L516 L544 L574 Po x2 x3 x4 σ → L238 x2 x3 x4 σ := by
    intro x2 x3 x4 σ h
    unfold f_X8_find_238 at h
    refine Eq.mpr (gl238 _ _ _ _) ?_
    refine ok_iload C 4 dX8_find_238 rfl ?_
    refine ok_aload_n C 0 dX8_find_240 rfl rfl ?_
    refine ok_getI C (ci := 8) hinX8 (kat hk kM_0) rfl 2 (by decide) W_6_128 (fun _ _ h => h) rfl dX8_find_241 ?_
    obtain ⟨h1, h2⟩ := h
    refine ok_icmp_ge C 356 dX8_find_244 rfl (fun c35 => ?_) (fun c35 => ?_)
    · have h := h1 c35
      refine ok_aload_n C 0 dX8_find_356 rfl rfl ?_
      refine ok_iconst C (v := 0) dX8_find_357 (by decide) ?_
      refine ok_putI C (ci := 8) hinX8 (kat hk kM_0) rfl 23 (by decide) W_6_149 (fun _ _ h => h) tyX8 tyX8_ok nmX8 rfl (by decide +kernel) rfl rfl rfl dX8_find_358 ?_
      refine ok_aload_n C 0 dX8_find_361 rfl rfl ?_
      refine ok_iconst C (v := 0) dX8_find_362 (by decide) ?_
      refine ok_putI C (ci := 8) hinX8 (kat hk kM_0) rfl 24 (by decide) W_6_150 (fun _ _ h => h) tyX8 tyX8_ok nmX8 rfl (by decide +kernel) rfl rfl rfl dX8_find_363 ?_
      refine ok_iconst C (v := 1) dX8_find_366 (by decide) ?_
      refine ok_istore C (L2 := [(4, .int 1), (0, .ref (Ω.2.2.1 0)), (1, .int x1), (2, .int x2), (3, .int x3)]) dX8_find_367 (by decide) rfl ?_
      refine ok_iconst C (v := 1) dX8_find_369 (by decide) ?_
      refine ok_istore C (L2 := [(5, .int 1), (4, .int 1), (0, .ref (Ω.2.2.1 0)), (1, .int x1), (2, .int x2), (3, .int x3)]) dX8_find_370 (by decide) rfl ?_
      refine ok_sub [2, 3, 4, 5, 1, 0] rfl ?_
      exact Eq.mp (gl372 _ _ _ _ _) h
    · have h := h2 c35
      refine ok_aload_n C 0 dX8_find_247 rfl rfl ?_
      refine ok_getR C (ci := 8) hinX8 (kat hk kM_0) rfl 25 (by decide) W_6_151 (fun _ _ h => h) rfl dX8_find_248 ?_
      refine ok_iload C 4 dX8_find_251 rfl ?_
      obtain ⟨g33, h⟩ := h
      refine ok_iald C (kat hk kM_20) g33 dX8_find_253 ?_
      refine ok_iconst C (v := 2) dX8_find_254 (by decide) ?_
      obtain ⟨h1, h2⟩ := h
      refine ok_icmp_eq C 261 dX8_find_255 rfl (fun c34 => ?_) (fun c34 => ?_)
      · have h := h1 c34
        refine ok_iconst C (v := 1) dX8_find_261 (by decide) ?_
        refine ok_istore C (L2 := [(5, .int 1), (0, .ref (Ω.2.2.1 0)), (1, .int x1), (2, .int x2), (3, .int x3), (4, .int x4)]) dX8_find_262 (by decide) rfl ?_
        refine ok_iconst C (v := 0) dX8_find_264 (by decide) ?_
        refine ok_istore C (L2 := [(6, .int 0), (5, .int 1), (0, .ref (Ω.2.2.1 0)), (1, .int x1), (2, .int x2), (3, .int x3), (4, .int x4)]) dX8_find_265 (by decide) rfl ?_
        refine ok_sub [2, 3, 4, 5, 6, 1, 0] rfl ?_
        exact Eq.mp (gl267 _ _ _ _ _ _) h
      · have h := h2 c34
        refine ok_goto C 350 dX8_find_258 rfl ?_
        refine ok_sub [0, 1, 2, 3, 4] rfl ?_
        exact J350 _ _ _ _ h
  have R267 : ∀ (x2 : Int32) (x3 : Int32) (x4 : Int32) (x5 : Int32) (x6 : Int32) (σ : Sg), f_X8_find_267 x1 L25 L108 L238 L267 L372 L384 L516 L544 L574 Po x2 x3 x4 x5 x6 σ → L267 x2 x3 x4 x5 x6 σ := by
    intro x2 x3 x4 x5 x6 σ h
    unfold f_X8_find_267 at h
    refine Eq.mpr (gl267 _ _ _ _ _ _) ?_
    refine ok_iload C 6 dX8_find_267 rfl ?_
    refine ok_aload_n C 0 dX8_find_269 rfl rfl ?_
    refine ok_getI C (ci := 8) hinX8 (kat hk kM_0) rfl 2 (by decide) W_6_128 (fun _ _ h => h) rfl dX8_find_270 ?_
    obtain ⟨h1, h2⟩ := h
    refine ok_icmp_ge C 337 dX8_find_273 rfl (fun c47 => ?_) (fun c47 => ?_)
    · have h := h1 c47
      refine ok_iload C 5 dX8_find_337 rfl ?_
      obtain ⟨h1, h2⟩ := h
      refine ok_if_eq C 350 dX8_find_339 rfl (fun c37 => ?_) (fun c37 => ?_)
      · have h := h1 c37
        refine ok_sub [0, 1, 2, 3, 4] rfl ?_
        exact J350 _ _ _ _ h
      · have h := h2 c37
        refine ok_aload_n C 0 dX8_find_342 rfl rfl ?_
        refine ok_getR C (ci := 8) hinX8 (kat hk kM_0) rfl 25 (by decide) W_6_151 (fun _ _ h => h) rfl dX8_find_343 ?_
        refine ok_iload C 4 dX8_find_346 rfl ?_
        refine ok_iconst C (v := 3) dX8_find_348 (by decide) ?_
        obtain ⟨g36, h⟩ := h
        refine ok_iast C (kat hk kM_20) g36 dX8_find_349 ?_
        refine ok_sub [0, 1, 2, 3, 4] rfl ?_
        exact J350 _ _ _ _ h
    · have h := h2 c47
      refine ok_iload C 6 dX8_find_276 rfl ?_
      refine ok_iload C 4 dX8_find_278 rfl ?_
      obtain ⟨h1, h2⟩ := h
      refine ok_icmp_eq C 331 dX8_find_280 rfl (fun c46 => ?_) (fun c46 => ?_)
      · have h := h1 c46
        refine ok_sub [0, 1, 2, 3, 4, 5, 6] rfl ?_
        exact J331 _ _ _ _ _ _ h
      · have h := h2 c46
        refine ok_aload_n C 0 dX8_find_283 rfl rfl ?_
        refine ok_getR C (ci := 8) hinX8 (kat hk kM_0) rfl 25 (by decide) W_6_151 (fun _ _ h => h) rfl dX8_find_284 ?_
        refine ok_iload C 6 dX8_find_287 rfl ?_
        obtain ⟨g38, h⟩ := h
        refine ok_iald C (kat hk kM_20) g38 dX8_find_289 ?_
        refine ok_iconst C (v := 2) dX8_find_290 (by decide) ?_
        obtain ⟨h1, h2⟩ := h
        refine ok_icmp_lt C 331 dX8_find_291 rfl (fun c45 => ?_) (fun c45 => ?_)
        · have h := h1 c45
          refine ok_sub [0, 1, 2, 3, 4, 5, 6] rfl ?_
          exact J331 _ _ _ _ _ _ h
        · have h := h2 c45
          refine ok_aload_n C 0 dX8_find_294 rfl rfl ?_
          refine ok_getR C (ci := 8) hinX8 (kat hk kM_0) rfl 3 (by decide) W_6_129 (fun _ _ h => h) rfl dX8_find_295 ?_
          refine ok_iload C 6 dX8_find_298 rfl ?_
          obtain ⟨g39, h⟩ := h
          refine ok_iald C (kat hk kM_1) g39 dX8_find_300 ?_
          refine ok_aload_n C 0 dX8_find_301 rfl rfl ?_
          refine ok_getR C (ci := 8) hinX8 (kat hk kM_0) rfl 3 (by decide) W_6_129 (fun _ _ h => h) rfl dX8_find_302 ?_
          refine ok_iload C 4 dX8_find_305 rfl ?_
          obtain ⟨g40, h⟩ := h
          refine ok_iald C (kat hk kM_1) g40 dX8_find_307 ?_
          obtain ⟨h1, h2⟩ := h
          refine ok_icmp_ne C 331 dX8_find_308 rfl (fun c44 => ?_) (fun c44 => ?_)
          · have h := h1 c44
            refine ok_sub [0, 1, 2, 3, 4, 5, 6] rfl ?_
            exact J331 _ _ _ _ _ _ h
          · have h := h2 c44
            refine ok_aload_n C 0 dX8_find_311 rfl rfl ?_
            refine ok_getR C (ci := 8) hinX8 (kat hk kM_0) rfl 9 (by decide) W_6_135 (fun _ _ h => h) rfl dX8_find_312 ?_
            refine ok_iload C 6 dX8_find_315 rfl ?_
            obtain ⟨g41, h⟩ := h
            refine ok_iald C (kat hk kM_7) g41 dX8_find_317 ?_
            refine ok_aload_n C 0 dX8_find_318 rfl rfl ?_
            refine ok_getR C (ci := 8) hinX8 (kat hk kM_0) rfl 9 (by decide) W_6_135 (fun _ _ h => h) rfl dX8_find_319 ?_
            refine ok_iload C 4 dX8_find_322 rfl ?_
            obtain ⟨g42, h⟩ := h
            refine ok_iald C (kat hk kM_7) g42 dX8_find_324 ?_
            obtain ⟨h1, h2⟩ := h
            refine ok_icmp_ne C 331 dX8_find_325 rfl (fun c43 => ?_) (fun c43 => ?_)
            · have h := h1 c43
              refine ok_sub [0, 1, 2, 3, 4, 5, 6] rfl ?_
              exact J331 _ _ _ _ _ _ h
            · have h := h2 c43
              refine ok_iconst C (v := 0) dX8_find_328 (by decide) ?_
              refine ok_istore C (L2 := [(5, .int 0), (0, .ref (Ω.2.2.1 0)), (1, .int x1), (2, .int x2), (3, .int x3), (4, .int x4), (6, .int x6)]) dX8_find_329 (by decide) rfl ?_
              refine ok_sub [1, 2, 3, 4, 5, 0, 6] rfl ?_
              exact J331 _ _ _ _ _ _ h
  have R372 : ∀ (x2 : Int32) (x3 : Int32) (x4 : Int32) (x5 : Int32) (σ : Sg), f_X8_find_372 x1 L25 L108 L238 L267 L372 L384 L516 L544 L574 Po x2 x3 x4 x5 σ → L372 x2 x3 x4 x5 σ := by
    intro x2 x3 x4 x5 σ h
    unfold f_X8_find_372 at h
    refine Eq.mpr (gl372 _ _ _ _ _) ?_
    refine ok_iload C 5 dX8_find_372 rfl ?_
    refine ok_iload_n C 2 dX8_find_374 rfl rfl ?_
    obtain ⟨h1, h2⟩ := h
    refine ok_icmp_gt C 513 dX8_find_375 rfl (fun c48 => ?_) (fun c48 => ?_)
    · have h := h1 c48
      refine ok_iconst C (v := 0) dX8_find_513 (by decide) ?_
      refine ok_istore C (L2 := [(5, .int 0), (0, .ref (Ω.2.2.1 0)), (1, .int x1), (2, .int x2), (3, .int x3), (4, .int x4)]) dX8_find_514 (by decide) rfl ?_
      refine ok_sub [1, 0] rfl ?_
      exact Eq.mp (gl516 _ _) h
    · have h := h2 c48
      refine ok_iconst C (v := 0) dX8_find_378 (by decide) ?_
      refine ok_istore C (L2 := [(6, .int 0), (0, .ref (Ω.2.2.1 0)), (1, .int x1), (2, .int x2), (3, .int x3), (4, .int x4), (5, .int x5)]) dX8_find_379 (by decide) rfl ?_
      refine ok_iconst C (v := 0) dX8_find_381 (by decide) ?_
      refine ok_istore C (L2 := [(7, .int 0), (6, .int 0), (0, .ref (Ω.2.2.1 0)), (1, .int x1), (2, .int x2), (3, .int x3), (4, .int x4), (5, .int x5)]) dX8_find_382 (by decide) rfl ?_
      refine ok_sub [2, 3, 4, 5, 6, 7, 1, 0] rfl ?_
      exact Eq.mp (gl384 _ _ _ _ _ _ _) h
  have R384 : ∀ (x2 : Int32) (x3 : Int32) (x4 : Int32) (x5 : Int32) (x6 : Int32) (x7 : Int32) (σ : Sg), f_X8_find_384 x1 L25 L108 L238 L267 L372 L384 L516 L544 L574 Po x2 x3 x4 x5 x6 x7 σ → L384 x2 x3 x4 x5 x6 x7 σ := by
    intro x2 x3 x4 x5 x6 x7 σ h
    unfold f_X8_find_384 at h
    refine Eq.mpr (gl384 _ _ _ _ _ _ _) ?_
    refine ok_iload C 7 dX8_find_384 rfl ?_
    refine ok_aload_n C 0 dX8_find_386 rfl rfl ?_
    refine ok_getI C (ci := 8) hinX8 (kat hk kM_0) rfl 2 (by decide) W_6_128 (fun _ _ h => h) rfl dX8_find_387 ?_
    obtain ⟨h1, h2⟩ := h
    refine ok_icmp_ge C 477 dX8_find_390 rfl (fun c61 => ?_) (fun c61 => ?_)
    · have h := h1 c61
      refine ok_iload C 4 dX8_find_477 rfl ?_
      obtain ⟨h1, h2⟩ := h
      refine ok_if_eq C 507 dX8_find_479 rfl (fun c52 => ?_) (fun c52 => ?_)
      · have h := h1 c52
        refine ok_sub [0, 1, 2, 3, 4, 5] rfl ?_
        exact J507 _ _ _ _ _ h
      · have h := h2 c52
        refine ok_iload C 6 dX8_find_482 rfl ?_
        obtain ⟨h1, h2⟩ := h
        refine ok_if_ne C 490 dX8_find_484 rfl (fun c51 => ?_) (fun c51 => ?_)
        · have h := h1 c51
          refine ok_aload_n C 0 dX8_find_490 rfl rfl ?_
          refine ok_dup C dX8_find_491 rfl ?_
          refine ok_getI C (ci := 8) hinX8 (kat hk kM_0) rfl 24 (by decide) W_6_150 (fun _ _ h => h) rfl dX8_find_492 ?_
          refine ok_iconst C (v := 1) dX8_find_495 (by decide) ?_
          refine ok_iadd C dX8_find_496 ?_
          refine ok_putI C (ci := 8) hinX8 (kat hk kM_0) rfl 24 (by decide) W_6_150 (fun _ _ h => h) tyX8 tyX8_ok nmX8 rfl (by decide +kernel) rfl rfl rfl dX8_find_497 ?_
          refine ok_aload_n C 0 dX8_find_500 rfl rfl ?_
          refine ok_iload_n C 1 dX8_find_501 rfl rfl ?_
          refine ok_iload C 5 dX8_find_502 rfl ?_
          refine ok_callVv C (As := [.int x1, .int x5]) (rest := []) (q := 0) (ci := 8) (kat hk kM_0) rfl (c_X8_receive  _ _ _ _ h) W_7_72 W_7_74 W_0_58 W_7_75 W_1_28 hd_X8_receive rfl ⟨Nat.le_of_ble_eq_true rfl, Nat.le_of_ble_eq_true rfl⟩ (Nat.le_of_ble_eq_true rfl) rfl dX8_find_504 (fun u50 h => ?_)
          refine ok_sub [0, 1, 2, 3, 4, 5] rfl ?_
          exact J507 _ _ _ _ _ h
        · have h := h2 c51
          refine ok_goto C 507 dX8_find_487 rfl ?_
          refine ok_sub [0, 1, 2, 3, 4, 5] rfl ?_
          exact J507 _ _ _ _ _ h
    · have h := h2 c61
      refine ok_aload_n C 0 dX8_find_393 rfl rfl ?_
      refine ok_getR C (ci := 8) hinX8 (kat hk kM_0) rfl 17 (by decide) W_6_143 (fun _ _ h => h) rfl dX8_find_394 ?_
      refine ok_iload_n C 3 dX8_find_397 rfl rfl ?_
      refine ok_iload C 7 dX8_find_398 rfl ?_
      refine ok_iadd C dX8_find_400 ?_
      obtain ⟨g53, h⟩ := h
      refine ok_zald C (kat hk kM_15) g53 dX8_find_401 ?_
      obtain ⟨h1, h2⟩ := h
      refine ok_if_eq C 471 dX8_find_402 rfl (fun c60 => ?_) (fun c60 => ?_)
      · have h := h1 c60
        refine ok_sub [0, 1, 2, 3, 4, 5, 6, 7] rfl ?_
        exact J471 _ _ _ _ _ _ _ h
      · have h := h2 c60
        refine ok_aload_n C 0 dX8_find_405 rfl rfl ?_
        refine ok_getR C (ci := 8) hinX8 (kat hk kM_0) rfl 19 (by decide) W_6_145 (fun _ _ h => h) rfl dX8_find_406 ?_
        refine ok_iload C 7 dX8_find_409 rfl ?_
        obtain ⟨g54, h⟩ := h
        refine ok_zald C (kat hk kM_17) g54 dX8_find_411 ?_
        obtain ⟨h1, h2⟩ := h
        refine ok_if_eq C 471 dX8_find_412 rfl (fun c59 => ?_) (fun c59 => ?_)
        · have h := h1 c59
          refine ok_sub [0, 1, 2, 3, 4, 5, 6, 7] rfl ?_
          exact J471 _ _ _ _ _ _ _ h
        · have h := h2 c59
          refine ok_aload_n C 0 dX8_find_415 rfl rfl ?_
          refine ok_getR C (ci := 8) hinX8 (kat hk kM_0) rfl 9 (by decide) W_6_135 (fun _ _ h => h) rfl dX8_find_416 ?_
          refine ok_iload C 7 dX8_find_419 rfl ?_
          obtain ⟨g55, h⟩ := h
          refine ok_iald C (kat hk kM_7) g55 dX8_find_421 ?_
          refine ok_iload C 5 dX8_find_422 rfl ?_
          obtain ⟨h1, h2⟩ := h
          refine ok_icmp_eq C 430 dX8_find_424 rfl (fun c58 => ?_) (fun c58 => ?_)
          · have h := h1 c58
            refine ok_iload C 4 dX8_find_430 rfl ?_
            refine ok_aload_n C 0 dX8_find_432 rfl rfl ?_
            refine ok_getR C (ci := 8) hinX8 (kat hk kM_0) rfl 25 (by decide) W_6_151 (fun _ _ h => h) rfl dX8_find_433 ?_
            refine ok_iload C 7 dX8_find_436 rfl ?_
            obtain ⟨g56, h⟩ := h
            refine ok_iald C (kat hk kM_20) g56 dX8_find_438 ?_
            obtain ⟨h1, h2⟩ := h
            refine ok_if_eq C 446 dX8_find_439 rfl (fun c57 => ?_) (fun c57 => ?_)
            · have h := h1 c57
              refine ok_iconst C (v := 0) dX8_find_446 (by decide) ?_
              refine ok_sub [0, 1, 2, 3, 5, 6, 7] rfl ?_
              exact J447 _ _ _ _ _ _ _ _ h
            · have h := h2 c57
              refine ok_iconst C (v := 1) dX8_find_442 (by decide) ?_
              refine ok_goto C 447 dX8_find_443 rfl ?_
              refine ok_sub [0, 1, 2, 3, 5, 6, 7] rfl ?_
              exact J447 _ _ _ _ _ _ _ _ h
          · have h := h2 c58
            refine ok_goto C 471 dX8_find_427 rfl ?_
            refine ok_sub [0, 1, 2, 3, 4, 5, 6, 7] rfl ?_
            exact J471 _ _ _ _ _ _ _ h
  have R516 : ∀ (x5 : Int32) (σ : Sg), f_X8_find_516 x1 L25 L108 L238 L267 L372 L384 L516 L544 L574 Po x5 σ → L516 x5 σ := by
    intro x5 σ h
    unfold f_X8_find_516 at h
    refine Eq.mpr (gl516 _ _) ?_
    refine ok_iload C 1 dX8_find_516 rfl ?_
    refine ok_aload_n C 0 dX8_find_518 rfl rfl ?_
    refine ok_getI C (ci := 8) hinX8 (kat hk kM_0) rfl 1 (by decide) W_6_127 (fun _ _ h => h) rfl dX8_find_519 ?_
    obtain ⟨h1, h2⟩ := h
    refine ok_icmp_ge C 541 dX8_find_522 rfl (fun c65 => ?_) (fun c65 => ?_)
    · have h := h1 c65
      refine ok_iconst C (v := 0) dX8_find_541 (by decide) ?_
      refine ok_istore C (L2 := [(5, .int 0), (0, .ref (Ω.2.2.1 0))]) dX8_find_542 (by decide) rfl ?_
      refine ok_sub [1, 0] rfl ?_
      exact Eq.mp (gl544 _ _) h
    · have h := h2 c65
      refine ok_aload_n C 0 dX8_find_525 rfl rfl ?_
      refine ok_getR C (ci := 8) hinX8 (kat hk kM_0) rfl 29 (by decide) W_6_155 (fun _ _ h => h) rfl dX8_find_526 ?_
      refine ok_iload C 1 dX8_find_529 rfl ?_
      refine ok_ldcw C W_7_27 dX8_find_531 ?_
      obtain ⟨g64, h⟩ := h
      refine ok_iast C (kat hk kM_24) g64 dX8_find_534 ?_
      refine ok_iinc C (v := x5 + 1) (L2 := [(5, .int (x5 + 1)), (0, .ref (Ω.2.2.1 0))]) 1 dX8_find_535 rfl rfl (by decide) rfl ?_
      refine ok_goto C 516 dX8_find_538 rfl ?_
      refine ok_sub [1, 0] rfl ?_
      exact Eq.mp (gl516 _ _) h
  have R544 : ∀ (x5 : Int32) (σ : Sg), f_X8_find_544 x1 L25 L108 L238 L267 L372 L384 L516 L544 L574 Po x5 σ → L544 x5 σ := by
    intro x5 σ h
    unfold f_X8_find_544 at h
    refine Eq.mpr (gl544 _ _) ?_
    refine ok_iload C 1 dX8_find_544 rfl ?_
    refine ok_aload_n C 0 dX8_find_546 rfl rfl ?_
    refine ok_getI C (ci := 8) hinX8 (kat hk kM_0) rfl 23 (by decide) W_6_149 (fun _ _ h => h) rfl dX8_find_547 ?_
    obtain ⟨h1, h2⟩ := h
    refine ok_icmp_ge C 671 dX8_find_550 rfl (fun c68 => ?_) (fun c68 => ?_)
    · have h := h1 c68
      exact ok_vret C rfl rfl dX8_find_671 h
    · have h := h2 c68
      refine ok_aload_n C 0 dX8_find_553 rfl rfl ?_
      refine ok_getR C (ci := 8) hinX8 (kat hk kM_0) rfl 28 (by decide) W_6_154 (fun _ _ h => h) rfl dX8_find_554 ?_
      refine ok_iload C 1 dX8_find_557 rfl ?_
      obtain ⟨g66, h⟩ := h
      refine ok_iald C (kat hk kM_23) g66 dX8_find_559 ?_
      refine ok_istore C (L2 := [(6, .int (σ.1 23 x5.toNatClampNeg)), (0, .ref (Ω.2.2.1 0)), (5, .int x5)]) dX8_find_560 (by decide) rfl ?_
      refine ok_aload_n C 1 dX8_find_562 rfl rfl ?_
      refine ok_getR C (ci := 8) hinX8 (kat hk kM_0) rfl 27 (by decide) W_6_153 (fun _ _ h => h) rfl dX8_find_563 ?_
      refine ok_iload C 0 dX8_find_566 rfl ?_
      refine ok_iload C 2 dX8_find_568 rfl ?_
      obtain ⟨g67, h⟩ := h
      refine ok_iast C (kat hk kM_22) g67 dX8_find_570 ?_
      refine ok_iconst C (v := 0) dX8_find_571 (by decide) ?_
      refine ok_istore C (L2 := [(7, .int 0), (6, .int (σ.1 23 x5.toNatClampNeg)), (0, .ref (Ω.2.2.1 0)), (5, .int x5)]) dX8_find_572 (by decide) rfl ?_
      refine ok_sub [2, 3, 1, 0] rfl ?_
      exact Eq.mp (gl574 _ _ _ _) h
  have R574 : ∀ (x5 : Int32) (x6 : Int32) (x7 : Int32) (σ : Sg), f_X8_find_574 x1 L25 L108 L238 L267 L372 L384 L516 L544 L574 Po x5 x6 x7 σ → L574 x5 x6 x7 σ := by
    intro x5 x6 x7 σ h
    unfold f_X8_find_574 at h
    refine Eq.mpr (gl574 _ _ _ _) ?_
    refine ok_iload C 3 dX8_find_574 rfl ?_
    refine ok_aload_n C 0 dX8_find_576 rfl rfl ?_
    refine ok_getR C (ci := 8) hinX8 (kat hk kM_0) rfl 6 (by decide) W_6_132 (fun _ _ h => h) rfl dX8_find_577 ?_
    refine ok_iload C 2 dX8_find_580 rfl ?_
    obtain ⟨g69, h⟩ := h
    refine ok_iald C (kat hk kM_4) g69 dX8_find_582 ?_
    obtain ⟨h1, h2⟩ := h
    refine ok_icmp_ge C 665 dX8_find_583 rfl (fun c80 => ?_) (fun c80 => ?_)
    · have h := h1 c80
      refine ok_iinc C (v := x5 + 1) (L2 := [(5, .int (x5 + 1)), (0, .ref (Ω.2.2.1 0)), (6, .int x6), (7, .int x7)]) 1 dX8_find_665 rfl rfl (by decide) rfl ?_
      refine ok_goto C 544 dX8_find_668 rfl ?_
      refine ok_sub [1, 0] rfl ?_
      exact Eq.mp (gl544 _ _) h
    · have h := h2 c80
      refine ok_aload_n C 0 dX8_find_586 rfl rfl ?_
      refine ok_getR C (ci := 8) hinX8 (kat hk kM_0) rfl 8 (by decide) W_6_134 (fun _ _ h => h) rfl dX8_find_587 ?_
      refine ok_iconst C (v := 3) dX8_find_590 (by decide) ?_
      refine ok_iload C 2 dX8_find_591 rfl ?_
      refine ok_imul C dX8_find_593 ?_
      refine ok_iload C 3 dX8_find_594 rfl ?_
      refine ok_iadd C dX8_find_596 ?_
      obtain ⟨g70, h⟩ := h
      refine ok_iald C (kat hk kM_6) g70 dX8_find_597 ?_
      refine ok_istore C (L2 := [(8, .int (σ.1 6 ((3 * x6) + x7).toNatClampNeg)), (0, .ref (Ω.2.2.1 0)), (5, .int x5), (6, .int x6), (7, .int x7)]) dX8_find_598 (by decide) rfl ?_
      refine ok_aload_n C 1 dX8_find_600 rfl rfl ?_
      refine ok_getR C (ci := 8) hinX8 (kat hk kM_0) rfl 29 (by decide) W_6_155 (fun _ _ h => h) rfl dX8_find_601 ?_
      refine ok_aload_n C 1 dX8_find_604 rfl rfl ?_
      refine ok_getR C (ci := 8) hinX8 (kat hk kM_0) rfl 3 (by decide) W_6_129 (fun _ _ h => h) rfl dX8_find_605 ?_
      refine ok_iload C 3 dX8_find_608 rfl ?_
      obtain ⟨g71, h⟩ := h
      refine ok_iald C (kat hk kM_1) g71 dX8_find_610 ?_
      obtain ⟨g72, h⟩ := h
      refine ok_iald C (kat hk kM_24) g72 dX8_find_611 ?_
      refine ok_iload C 0 dX8_find_612 rfl ?_
      obtain ⟨h1, h2⟩ := h
      refine ok_icmp_ge C 620 dX8_find_614 rfl (fun c79 => ?_) (fun c79 => ?_)
      · have h := h1 c79
        refine ok_aload_n C 1 dX8_find_620 rfl rfl ?_
        refine ok_getR C (ci := 8) hinX8 (kat hk kM_0) rfl 29 (by decide) W_6_155 (fun _ _ h => h) rfl dX8_find_621 ?_
        refine ok_aload_n C 1 dX8_find_624 rfl rfl ?_
        refine ok_getR C (ci := 8) hinX8 (kat hk kM_0) rfl 3 (by decide) W_6_129 (fun _ _ h => h) rfl dX8_find_625 ?_
        refine ok_iload C 3 dX8_find_628 rfl ?_
        obtain ⟨g73, h⟩ := h
        refine ok_iald C (kat hk kM_1) g73 dX8_find_630 ?_
        refine ok_dup2_11 C dX8_find_631 rfl rfl ?_
        obtain ⟨g74, h⟩ := h
        refine ok_iald C (kat hk kM_24) g74 dX8_find_632 ?_
        refine ok_iload C 0 dX8_find_633 rfl ?_
        refine ok_isub C dX8_find_635 ?_
        obtain ⟨g75, h⟩ := h
        refine ok_iast C (kat hk kM_24) g75 dX8_find_636 ?_
        refine ok_aload_n C 1 dX8_find_637 rfl rfl ?_
        refine ok_getR C (ci := 8) hinX8 (kat hk kM_0) rfl 29 (by decide) W_6_155 (fun _ _ h => h) rfl dX8_find_638 ?_
        refine ok_aload_n C 1 dX8_find_641 rfl rfl ?_
        refine ok_getR C (ci := 8) hinX8 (kat hk kM_0) rfl 7 (by decide) W_6_133 (fun _ _ h => h) rfl dX8_find_642 ?_
        refine ok_iconst C (v := 3) dX8_find_645 (by decide) ?_
        refine ok_iload C 3 dX8_find_646 rfl ?_
        refine ok_imul C dX8_find_648 ?_
        refine ok_iload C 4 dX8_find_649 rfl ?_
        refine ok_iadd C dX8_find_651 ?_
        obtain ⟨g76, h⟩ := h
        refine ok_iald C (kat hk kM_5) g76 dX8_find_652 ?_
        refine ok_dup2_11 C dX8_find_653 rfl rfl ?_
        obtain ⟨g77, h⟩ := h
        refine ok_iald C (kat hk kM_24) g77 dX8_find_654 ?_
        refine ok_iload C 0 dX8_find_655 rfl ?_
        refine ok_iadd C dX8_find_657 ?_
        obtain ⟨g78, h⟩ := h
        refine ok_iast C (kat hk kM_24) g78 dX8_find_658 ?_
        refine ok_sub [1, 2, 3, 4] rfl ?_
        exact J659 _ _ _ _ h
      · have h := h2 c79
        refine ok_goto C 659 dX8_find_617 rfl ?_
        refine ok_sub [1, 2, 3, 4] rfl ?_
        exact J659 _ _ _ _ h
  have h : f_X8_find_e x1 L25 L108 L238 L267 L372 L384 L516 L544 L574 Po σ := hvc L25 L108 L238 L267 L372 L384 L516 L544 L574 R25 R108 R238 R267 R372 R384 R516 R544 R574
  unfold f_X8_find_e at h
  refine ok_sub (L2 := [(0, .ref (Ω.2.2.1 0)), (1, .int x1)]) [0, 1] rfl ?_
  refine ok_aload_n C 0 dX8_find_0 rfl rfl ?_
  refine ok_getI C (ci := 8) hinX8 (kat hk kM_0) rfl 22 (by decide) W_6_148 (fun _ _ h => h) rfl dX8_find_1 ?_
  refine ok_iload_n C 1 dX8_find_4 rfl rfl ?_
  obtain ⟨h1, h2⟩ := h
  refine ok_icmp_ne C 9 dX8_find_5 rfl (fun c1 => ?_) (fun c1 => ?_)
  · have h := h1 c1
    refine ok_aload_n C 0 dX8_find_9 rfl rfl ?_
    refine ok_iload_n C 1 dX8_find_10 rfl rfl ?_
    refine ok_putI C (ci := 8) hinX8 (kat hk kM_0) rfl 22 (by decide) W_6_148 (fun _ _ h => h) tyX8 tyX8_ok nmX8 rfl (by decide +kernel) rfl rfl rfl dX8_find_11 ?_
    refine ok_iconst C (v := 0) dX8_find_14 (by decide) ?_
    refine ok_istore_n C (L2 := [(2, .int 0), (0, .ref (Ω.2.2.1 0)), (1, .int x1)]) dX8_find_15 rfl (by decide) rfl ?_
    refine ok_sipush C (v := 240) dX8_find_16 (by decide) ?_
    refine ok_iload_n C 2 dX8_find_19 rfl rfl ?_
    refine ok_imul C dX8_find_20 ?_
    refine ok_istore_n C (L2 := [(3, .int (240 * x1)), (2, .int 0), (0, .ref (Ω.2.2.1 0)), (1, .int x1)]) dX8_find_21 rfl (by decide) rfl ?_
    refine ok_iconst C (v := 0) dX8_find_22 (by decide) ?_
    refine ok_istore C (L2 := [(4, .int 0), (3, .int (240 * x1)), (2, .int 0), (0, .ref (Ω.2.2.1 0)), (1, .int x1)]) dX8_find_23 (by decide) rfl ?_
    refine ok_sub [3, 4, 2, 1, 0] rfl ?_
    exact Eq.mp (gl25 _ _ _ _) h
  · have h := h2 c1
    exact ok_vret C rfl rfl dX8_find_8 h
set_option maxRecDepth 100000 in
set_option maxHeartbeats 4000000 in
theorem m_X8_found {l : Launch} {Ω : Wm} (hk : Hk Ω kM) (c_X8_fails : CT_X8_fails l Ω) (c_X8_find : CT_X8_find l Ω) (c_X8_in : CT_X8_in l Ω) (c_X8_isEvent : CT_X8_isEvent l Ω) (c_X8_isNode : CT_X8_isNode l Ω) (hv : ∀ (x1 : Int32) (x2 : Int32) (x3 : Int32) (σ : Sg) (K : Int32 → Sg → Prop), sp_X8_found x1 x2 x3 σ K → vc_X8_found x1 x2 x3 σ K) : CT_X8_found l Ω := by
  intro x1 x2 x3 σ Po hsp
  have hvc := hv x1 x2 x3 σ Po hsp
  refine Ct.of (by decide +kernel) (Nat.le_of_ble_eq_true rfl) (fun Γ C => ?_)
  have J142 : ∀ (s0 : Int32) (σ : Sg), f_X8_found_142 x1 x2 x3 Po s0 σ → OK Γ Ω 5 142 [] [.int s0] σ := by
    intro s0 σ h
    unfold f_X8_found_142 at h
    exact ok_iret C rfl rfl dX8_found_142 h
  have J102 : ∀ (s0 : Int32) (σ : Sg), f_X8_found_102 x1 x2 x3 Po s0 σ → OK Γ Ω 5 102 [] [.int s0] σ := by
    intro s0 σ h
    unfold f_X8_found_102 at h
    exact ok_iret C rfl rfl dX8_found_102 h
  have J86 : ∀ (s0 : Int32) (σ : Sg), f_X8_found_86 x1 x2 x3 Po s0 σ → OK Γ Ω 5 86 [] [.int s0] σ := by
    intro s0 σ h
    unfold f_X8_found_86 at h
    exact ok_iret C rfl rfl dX8_found_86 h
  have J56 : ∀  (σ : Sg), f_X8_found_56 x1 x2 x3 Po  σ → OK Γ Ω 5 56 [] [] σ := by
    intro  σ h
    unfold f_X8_found_56 at h
    refine ok_iconst C (v := 0) dX8_found_56 (by decide) ?_
    exact ok_iret C rfl rfl dX8_found_57 h
  have J49 : ∀ (s0 : Int32) (σ : Sg), f_X8_found_49 x1 x2 x3 Po s0 σ → OK Γ Ω 5 49 [(0, .ref (Ω.2.2.1 0)), (1, .int x1), (2, .int x2), (3, .int x3)] [.int s0, .ref (Ω.2.2.1 0)] σ := by
    intro s0 σ h
    unfold f_X8_found_49 at h
    refine ok_iconst C (v := 2) dX8_found_49 (by decide) ?_
    refine ok_callVi C (As := [.int s0, .int 2]) (rest := []) (q := 0) (ci := 8) (kat hk kM_0) rfl (c_X8_fails  _ _ _ _ h) W_7_15 W_7_17 W_0_52 W_7_18 W_1_28 hd_X8_fails rfl ⟨Nat.le_of_ble_eq_true rfl, Nat.le_of_ble_eq_true rfl⟩ (Nat.le_of_ble_eq_true rfl) rfl dX8_found_50 (fun r13 u14 h => ?_)
    obtain ⟨h1, h2⟩ := h
    refine ok_if_eq C 58 dX8_found_53 rfl (fun c27 => ?_) (fun c27 => ?_)
    · have h := h1 c27
      refine ok_aload_n C 0 dX8_found_58 rfl rfl ?_
      refine ok_getR C (ci := 8) hinX8 (kat hk kM_0) rfl 17 (by decide) W_6_143 (fun _ _ h => h) rfl dX8_found_59 ?_
      refine ok_sipush C (v := 240) dX8_found_62 (by decide) ?_
      refine ok_iload_n C 1 dX8_found_65 rfl rfl ?_
      refine ok_imul C dX8_found_66 ?_
      refine ok_iload_n C 2 dX8_found_67 rfl rfl ?_
      refine ok_iadd C dX8_found_68 ?_
      obtain ⟨g15, h⟩ := h
      refine ok_zald C (kat hk kM_15) g15 dX8_found_69 ?_
      refine ok_istore C (L2 := [(4, .int (u14.1 15 ((240 * x1) + x2).toNatClampNeg)), (0, .ref (Ω.2.2.1 0)), (1, .int x1), (2, .int x2), (3, .int x3)]) dX8_found_70 (by decide) rfl ?_
      refine ok_iload_n C 4 dX8_found_72 rfl rfl ?_
      obtain ⟨h1, h2⟩ := h
      refine ok_if_ne C 87 dX8_found_73 rfl (fun c26 => ?_) (fun c26 => ?_)
      · have h := h1 c26
        refine ok_iload C 0 dX8_found_87 rfl ?_
        obtain ⟨h1, h2⟩ := h
        refine ok_if_ne C 103 dX8_found_89 rfl (fun c24 => ?_) (fun c24 => ?_)
        · have h := h1 c24
          refine ok_aload_n C 1 dX8_found_103 rfl rfl ?_
          refine ok_iload_n C 2 dX8_found_104 rfl rfl ?_
          refine ok_callVv C (As := [.int x1]) (rest := []) (q := 0) (ci := 8) (kat hk kM_0) rfl (c_X8_find  _ _ _ h) W_7_68 W_7_70 W_0_57 W_7_71 W_1_28 hd_X8_find rfl ⟨Nat.le_of_ble_eq_true rfl, Nat.le_of_ble_eq_true rfl⟩ (Nat.le_of_ble_eq_true rfl) rfl dX8_found_105 (fun u17 h => ?_)
          refine ok_iload_n C 4 dX8_found_108 rfl rfl ?_
          refine ok_iconst C (v := 1) dX8_found_109 (by decide) ?_
          obtain ⟨h1, h2⟩ := h
          refine ok_icmp_ne C 122 dX8_found_110 rfl (fun c22 => ?_) (fun c22 => ?_)
          · have h := h1 c22
            refine ok_iload_n C 4 dX8_found_122 rfl rfl ?_
            refine ok_iconst C (v := 2) dX8_found_123 (by decide) ?_
            obtain ⟨h1, h2⟩ := h
            refine ok_icmp_ne C 136 dX8_found_124 rfl (fun c20 => ?_) (fun c20 => ?_)
            · have h := h1 c20
              refine ok_aload_n C 1 dX8_found_136 rfl rfl ?_
              refine ok_getR C (ci := 8) hinX8 (kat hk kM_0) rfl 27 (by decide) W_6_153 (fun _ _ h => h) rfl dX8_found_137 ?_
              refine ok_iload_n C 3 dX8_found_140 rfl rfl ?_
              obtain ⟨g18, h⟩ := h
              refine ok_iald C (kat hk kM_22) g18 dX8_found_141 ?_
              refine ok_sub [] rfl ?_
              exact J142 _ _ h
            · have h := h2 c20
              refine ok_aload_n C 1 dX8_found_127 rfl rfl ?_
              refine ok_getR C (ci := 8) hinX8 (kat hk kM_0) rfl 26 (by decide) W_6_152 (fun _ _ h => h) rfl dX8_found_128 ?_
              refine ok_iload_n C 3 dX8_found_131 rfl rfl ?_
              obtain ⟨g19, h⟩ := h
              refine ok_iald C (kat hk kM_21) g19 dX8_found_132 ?_
              refine ok_goto C 142 dX8_found_133 rfl ?_
              refine ok_sub [] rfl ?_
              exact J142 _ _ h
          · have h := h2 c22
            refine ok_aload_n C 1 dX8_found_113 rfl rfl ?_
            refine ok_getR C (ci := 8) hinX8 (kat hk kM_0) rfl 25 (by decide) W_6_151 (fun _ _ h => h) rfl dX8_found_114 ?_
            refine ok_iload_n C 3 dX8_found_117 rfl rfl ?_
            obtain ⟨g21, h⟩ := h
            refine ok_iald C (kat hk kM_20) g21 dX8_found_118 ?_
            refine ok_goto C 142 dX8_found_119 rfl ?_
            refine ok_sub [] rfl ?_
            exact J142 _ _ h
        · have h := h2 c24
          refine ok_iload_n C 4 dX8_found_92 rfl rfl ?_
          refine ok_iconst C (v := 3) dX8_found_93 (by decide) ?_
          obtain ⟨h1, h2⟩ := h
          refine ok_icmp_ne C 101 dX8_found_94 rfl (fun c23 => ?_) (fun c23 => ?_)
          · have h := h1 c23
            refine ok_iconst C (v := 0) dX8_found_101 (by decide) ?_
            refine ok_sub [] rfl ?_
            exact J102 _ _ h
          · have h := h2 c23
            refine ok_iconst C (v := (-1)) dX8_found_97 (by decide) ?_
            refine ok_goto C 102 dX8_found_98 rfl ?_
            refine ok_sub [] rfl ?_
            exact J102 _ _ h
      · have h := h2 c26
        refine ok_iload C 0 dX8_found_76 rfl ?_
        obtain ⟨h1, h2⟩ := h
        refine ok_if_eq C 85 dX8_found_78 rfl (fun c25 => ?_) (fun c25 => ?_)
        · have h := h1 c25
          refine ok_iconst C (v := 0) dX8_found_85 (by decide) ?_
          refine ok_sub [] rfl ?_
          exact J86 _ _ h
        · have h := h2 c25
          refine ok_iconst C (v := 1) dX8_found_81 (by decide) ?_
          refine ok_goto C 86 dX8_found_82 rfl ?_
          refine ok_sub [] rfl ?_
          exact J86 _ _ h
    · have h := h2 c27
      refine ok_sub [] rfl ?_
      exact J56  _ h
  have J28 : ∀ (s0 : Int32) (σ : Sg), f_X8_found_28 x1 x2 x3 Po s0 σ → OK Γ Ω 5 28 [(0, .ref (Ω.2.2.1 0)), (1, .int x1), (2, .int x2), (3, .int x3)] [.int s0, .ref (Ω.2.2.1 0)] σ := by
    intro s0 σ h
    unfold f_X8_found_28 at h
    refine ok_iconst C (v := 1) dX8_found_28 (by decide) ?_
    refine ok_callVi C (As := [.int s0, .int 1]) (rest := []) (q := 0) (ci := 8) (kat hk kM_0) rfl (c_X8_fails  _ _ _ _ h) W_7_15 W_7_17 W_0_52 W_7_18 W_1_28 hd_X8_fails rfl ⟨Nat.le_of_ble_eq_true rfl, Nat.le_of_ble_eq_true rfl⟩ (Nat.le_of_ble_eq_true rfl) rfl dX8_found_29 (fun r7 u8 h => ?_)
    obtain ⟨h1, h2⟩ := h
    refine ok_if_ne C 56 dX8_found_32 rfl (fun c12 => ?_) (fun c12 => ?_)
    · have h := h1 c12
      refine ok_sub [] rfl ?_
      exact J56  _ h
    · have h := h2 c12
      refine ok_aload_n C 0 dX8_found_35 rfl rfl ?_
      refine ok_aload_n C 0 dX8_found_36 rfl rfl ?_
      refine ok_iload_n C 2 dX8_found_37 rfl rfl ?_
      refine ok_callVi C (As := [.int x2]) (rest := [.ref (Ω.2.2.1 0)]) (q := 0) (ci := 8) (kat hk kM_0) rfl (c_X8_isEvent  _ _ _ h) W_7_40 W_7_42 W_0_55 W_7_43 W_1_28 hd_X8_isEvent rfl ⟨Nat.le_of_ble_eq_true rfl, Nat.le_of_ble_eq_true rfl⟩ (Nat.le_of_ble_eq_true rfl) rfl dX8_found_38 (fun r9 u10 h => ?_)
      obtain ⟨h1, h2⟩ := h
      refine ok_if_ne C 48 dX8_found_41 rfl (fun c11 => ?_) (fun c11 => ?_)
      · have h := h1 c11
        refine ok_iconst C (v := 0) dX8_found_48 (by decide) ?_
        refine ok_sub [0, 1, 2, 3] rfl ?_
        exact J49 _ _ h
      · have h := h2 c11
        refine ok_iconst C (v := 1) dX8_found_44 (by decide) ?_
        refine ok_goto C 49 dX8_found_45 rfl ?_
        refine ok_sub [0, 1, 2, 3] rfl ?_
        exact J49 _ _ h
  have J23 : ∀  (σ : Sg), f_X8_found_23 x1 x2 x3 Po  σ → OK Γ Ω 5 23 [(0, .ref (Ω.2.2.1 0)), (1, .int x1), (2, .int x2), (3, .int x3)] [.ref (Ω.2.2.1 0)] σ := by
    intro  σ h
    unfold f_X8_found_23 at h
    refine ok_iconst C (v := 1) dX8_found_23 (by decide) ?_
    refine ok_goto C 28 dX8_found_24 rfl ?_
    refine ok_sub [0, 1, 2, 3] rfl ?_
    exact J28 _ _ h
  have h : f_X8_found_e x1 x2 x3 Po σ := hvc  
  unfold f_X8_found_e at h
  refine ok_sub (L2 := [(0, .ref (Ω.2.2.1 0)), (1, .int x1), (2, .int x2), (3, .int x3)]) [0, 1, 2, 3] rfl ?_
  refine ok_aload_n C 0 dX8_found_0 rfl rfl ?_
  refine ok_iconst C (v := 0) dX8_found_1 (by decide) ?_
  refine ok_putI C (ci := 8) hinX8 (kat hk kM_0) rfl 0 (by decide) W_6_126 (fun _ _ h => h) tyX8 tyX8_ok nmX8 rfl (by decide +kernel) rfl rfl rfl dX8_found_2 ?_
  refine ok_aload_n C 0 dX8_found_5 rfl rfl ?_
  refine ok_aload_n C 0 dX8_found_6 rfl rfl ?_
  refine ok_iload_n C 1 dX8_found_7 rfl rfl ?_
  refine ok_callVi C (As := [.int x1]) (rest := [.ref (Ω.2.2.1 0)]) (q := 0) (ci := 8) (kat hk kM_0) rfl (c_X8_isNode  _ _ _ h) W_7_23 W_7_25 W_0_53 W_7_26 W_1_28 hd_X8_isNode rfl ⟨Nat.le_of_ble_eq_true rfl, Nat.le_of_ble_eq_true rfl⟩ (Nat.le_of_ble_eq_true rfl) rfl dX8_found_8 (fun r1 u2 h => ?_)
  obtain ⟨h1, h2⟩ := h
  refine ok_if_eq C 23 dX8_found_11 rfl (fun c6 => ?_) (fun c6 => ?_)
  · have h := h1 c6
    refine ok_sub [0, 1, 2, 3] rfl ?_
    exact J23  _ h
  · have h := h2 c6
    refine ok_iload_n C 3 dX8_found_14 rfl rfl ?_
    refine ok_iconst C (v := 0) dX8_found_15 (by decide) ?_
    refine ok_iconst C (v := 3) dX8_found_16 (by decide) ?_
    refine ok_callSi C (As := [.int x3, .int 0, .int 3]) (rest := [.ref (Ω.2.2.1 0)]) (c_X8_in  _ _ _ _ _ h) W_7_12 W_7_13 W_7_14 W_1_28 hd_X8_in rfl ⟨Nat.le_of_ble_eq_true rfl, Nat.le_of_ble_eq_true rfl⟩ (Nat.le_of_ble_eq_true rfl) rfl dX8_found_17 (fun r3 u4 h => ?_)
    obtain ⟨h1, h2⟩ := h
    refine ok_if_ne C 27 dX8_found_20 rfl (fun c5 => ?_) (fun c5 => ?_)
    · have h := h1 c5
      refine ok_iconst C (v := 0) dX8_found_27 (by decide) ?_
      refine ok_sub [0, 1, 2, 3] rfl ?_
      exact J28 _ _ h
    · have h := h2 c5
      refine ok_sub [0, 1, 2, 3] rfl ?_
      exact J23  _ h
set_option maxRecDepth 100000 in
set_option maxHeartbeats 4000000 in
theorem m_X8_stamp {l : Launch} {Ω : Wm} (hk : Hk Ω kM) (c_X8_fails : CT_X8_fails l Ω) (c_X8_find : CT_X8_find l Ω) (c_X8_isEvent : CT_X8_isEvent l Ω) (c_X8_isNode : CT_X8_isNode l Ω) (hv : ∀ (x1 : Int32) (x2 : Int32) (σ : Sg) (K : Int64 → Sg → Prop), sp_X8_stamp x1 x2 σ K → vc_X8_stamp x1 x2 σ K) : CT_X8_stamp l Ω := by
  intro x1 x2 σ Po hsp
  have hvc := hv x1 x2 σ Po hsp
  refine Ct.of (by decide +kernel) (Nat.le_of_ble_eq_true rfl) (fun Γ C => ?_)
  have J101 : ∀ (s0 : Int64) (σ : Sg), f_X8_stamp_101 x1 x2 Po s0 σ → OK Γ Ω 3 101 [] [.long s0] σ := by
    intro s0 σ h
    unfold f_X8_stamp_101 at h
    exact ok_lret C rfl rfl dX8_stamp_101 h
  have J84 : ∀ (s0 : Int32) (σ : Sg), f_X8_stamp_84 x1 x2 Po s0 σ → OK Γ Ω 3 84 [(0, .ref (Ω.2.2.1 0)), (2, .int x2)] [.int s0, .ref (Ω.2.2.1 0)] σ := by
    intro s0 σ h
    unfold f_X8_stamp_84 at h
    refine ok_iconst C (v := 3) dX8_stamp_84 (by decide) ?_
    refine ok_callVi C (As := [.int s0, .int 3]) (rest := []) (q := 0) (ci := 8) (kat hk kM_0) rfl (c_X8_fails  _ _ _ _ h) W_7_15 W_7_17 W_0_52 W_7_18 W_1_28 hd_X8_fails rfl ⟨Nat.le_of_ble_eq_true rfl, Nat.le_of_ble_eq_true rfl⟩ (Nat.le_of_ble_eq_true rfl) rfl dX8_stamp_85 (fun r19 u20 h => ?_)
    obtain ⟨h1, h2⟩ := h
    refine ok_if_eq C 95 dX8_stamp_88 rfl (fun c22 => ?_) (fun c22 => ?_)
    · have h := h1 c22
      refine ok_aload_n C 0 dX8_stamp_95 rfl rfl ?_
      refine ok_getR C (ci := 8) hinX8 (kat hk kM_0) rfl 31 (by decide) W_6_157 (fun _ _ h => h) rfl dX8_stamp_96 ?_
      refine ok_iload_n C 1 dX8_stamp_99 rfl rfl ?_
      obtain ⟨g21, h⟩ := h
      refine ok_lald C (kat hk kM_26) g21 dX8_stamp_100 ?_
      refine ok_sub [] rfl ?_
      exact J101 _ _ h
    · have h := h2 c22
      refine ok_lconst C (v := 0) dX8_stamp_91 (by decide) ?_
      refine ok_goto C 101 dX8_stamp_92 rfl ?_
      refine ok_sub [] rfl ?_
      exact J101 _ _ h
  have J79 : ∀  (σ : Sg), f_X8_stamp_79 x1 x2 Po  σ → OK Γ Ω 3 79 [(0, .ref (Ω.2.2.1 0)), (2, .int x2)] [.ref (Ω.2.2.1 0)] σ := by
    intro  σ h
    unfold f_X8_stamp_79 at h
    refine ok_iconst C (v := 1) dX8_stamp_79 (by decide) ?_
    refine ok_goto C 84 dX8_stamp_80 rfl ?_
    refine ok_sub [0, 1] rfl ?_
    exact J84 _ _ h
  have J47 : ∀  (σ : Sg), f_X8_stamp_47 x1 x2 Po  σ → OK Γ Ω 3 47 [] [] σ := by
    intro  σ h
    unfold f_X8_stamp_47 at h
    refine ok_lconst C (v := 0) dX8_stamp_47 (by decide) ?_
    exact ok_lret C rfl rfl dX8_stamp_48 h
  have J40 : ∀ (s0 : Int32) (σ : Sg), f_X8_stamp_40 x1 x2 Po s0 σ → OK Γ Ω 3 40 [(0, .ref (Ω.2.2.1 0)), (1, .int x1), (2, .int x2)] [.int s0, .ref (Ω.2.2.1 0)] σ := by
    intro s0 σ h
    unfold f_X8_stamp_40 at h
    refine ok_iconst C (v := 2) dX8_stamp_40 (by decide) ?_
    refine ok_callVi C (As := [.int s0, .int 2]) (rest := []) (q := 0) (ci := 8) (kat hk kM_0) rfl (c_X8_fails  _ _ _ _ h) W_7_15 W_7_17 W_0_52 W_7_18 W_1_28 hd_X8_fails rfl ⟨Nat.le_of_ble_eq_true rfl, Nat.le_of_ble_eq_true rfl⟩ (Nat.le_of_ble_eq_true rfl) rfl dX8_stamp_41 (fun r10 u11 h => ?_)
    obtain ⟨h1, h2⟩ := h
    refine ok_if_eq C 49 dX8_stamp_44 rfl (fun c18 => ?_) (fun c18 => ?_)
    · have h := h1 c18
      refine ok_aload_n C 0 dX8_stamp_49 rfl rfl ?_
      refine ok_iload_n C 1 dX8_stamp_50 rfl rfl ?_
      refine ok_callVv C (As := [.int x1]) (rest := []) (q := 0) (ci := 8) (kat hk kM_0) rfl (c_X8_find  _ _ _ h) W_7_68 W_7_70 W_0_57 W_7_71 W_1_28 hd_X8_find rfl ⟨Nat.le_of_ble_eq_true rfl, Nat.le_of_ble_eq_true rfl⟩ (Nat.le_of_ble_eq_true rfl) rfl dX8_stamp_51 (fun u13 h => ?_)
      refine ok_aload_n C 0 dX8_stamp_54 rfl rfl ?_
      refine ok_aload_n C 0 dX8_stamp_55 rfl rfl ?_
      refine ok_getR C (ci := 8) hinX8 (kat hk kM_0) rfl 17 (by decide) W_6_143 (fun _ _ h => h) rfl dX8_stamp_56 ?_
      refine ok_sipush C (v := 240) dX8_stamp_59 (by decide) ?_
      refine ok_iload_n C 1 dX8_stamp_62 rfl rfl ?_
      refine ok_imul C dX8_stamp_63 ?_
      refine ok_iload_n C 2 dX8_stamp_64 rfl rfl ?_
      refine ok_iadd C dX8_stamp_65 ?_
      obtain ⟨g14, h⟩ := h
      refine ok_zald C (kat hk kM_15) g14 dX8_stamp_66 ?_
      obtain ⟨h1, h2⟩ := h
      refine ok_if_eq C 79 dX8_stamp_67 rfl (fun c17 => ?_) (fun c17 => ?_)
      · have h := h1 c17
        refine ok_sub [0, 2] rfl ?_
        exact J79  _ h
      · have h := h2 c17
        refine ok_aload_n C 0 dX8_stamp_70 rfl rfl ?_
        refine ok_getR C (ci := 8) hinX8 (kat hk kM_0) rfl 26 (by decide) W_6_152 (fun _ _ h => h) rfl dX8_stamp_71 ?_
        refine ok_iload_n C 2 dX8_stamp_74 rfl rfl ?_
        obtain ⟨g15, h⟩ := h
        refine ok_iald C (kat hk kM_21) g15 dX8_stamp_75 ?_
        obtain ⟨h1, h2⟩ := h
        refine ok_if_ne C 83 dX8_stamp_76 rfl (fun c16 => ?_) (fun c16 => ?_)
        · have h := h1 c16
          refine ok_iconst C (v := 0) dX8_stamp_83 (by decide) ?_
          refine ok_sub [0, 2] rfl ?_
          exact J84 _ _ h
        · have h := h2 c16
          refine ok_sub [0, 2] rfl ?_
          exact J79  _ h
    · have h := h2 c18
      refine ok_sub [] rfl ?_
      exact J47  _ h
  have J19 : ∀ (s0 : Int32) (σ : Sg), f_X8_stamp_19 x1 x2 Po s0 σ → OK Γ Ω 3 19 [(0, .ref (Ω.2.2.1 0)), (1, .int x1), (2, .int x2)] [.int s0, .ref (Ω.2.2.1 0)] σ := by
    intro s0 σ h
    unfold f_X8_stamp_19 at h
    refine ok_iconst C (v := 1) dX8_stamp_19 (by decide) ?_
    refine ok_callVi C (As := [.int s0, .int 1]) (rest := []) (q := 0) (ci := 8) (kat hk kM_0) rfl (c_X8_fails  _ _ _ _ h) W_7_15 W_7_17 W_0_52 W_7_18 W_1_28 hd_X8_fails rfl ⟨Nat.le_of_ble_eq_true rfl, Nat.le_of_ble_eq_true rfl⟩ (Nat.le_of_ble_eq_true rfl) rfl dX8_stamp_20 (fun r4 u5 h => ?_)
    obtain ⟨h1, h2⟩ := h
    refine ok_if_ne C 47 dX8_stamp_23 rfl (fun c9 => ?_) (fun c9 => ?_)
    · have h := h1 c9
      refine ok_sub [] rfl ?_
      exact J47  _ h
    · have h := h2 c9
      refine ok_aload_n C 0 dX8_stamp_26 rfl rfl ?_
      refine ok_aload_n C 0 dX8_stamp_27 rfl rfl ?_
      refine ok_iload_n C 2 dX8_stamp_28 rfl rfl ?_
      refine ok_callVi C (As := [.int x2]) (rest := [.ref (Ω.2.2.1 0)]) (q := 0) (ci := 8) (kat hk kM_0) rfl (c_X8_isEvent  _ _ _ h) W_7_40 W_7_42 W_0_55 W_7_43 W_1_28 hd_X8_isEvent rfl ⟨Nat.le_of_ble_eq_true rfl, Nat.le_of_ble_eq_true rfl⟩ (Nat.le_of_ble_eq_true rfl) rfl dX8_stamp_29 (fun r6 u7 h => ?_)
      obtain ⟨h1, h2⟩ := h
      refine ok_if_ne C 39 dX8_stamp_32 rfl (fun c8 => ?_) (fun c8 => ?_)
      · have h := h1 c8
        refine ok_iconst C (v := 0) dX8_stamp_39 (by decide) ?_
        refine ok_sub [0, 1, 2] rfl ?_
        exact J40 _ _ h
      · have h := h2 c8
        refine ok_iconst C (v := 1) dX8_stamp_35 (by decide) ?_
        refine ok_goto C 40 dX8_stamp_36 rfl ?_
        refine ok_sub [0, 1, 2] rfl ?_
        exact J40 _ _ h
  have h : f_X8_stamp_e x1 x2 Po σ := hvc  
  unfold f_X8_stamp_e at h
  refine ok_sub (L2 := [(0, .ref (Ω.2.2.1 0)), (1, .int x1), (2, .int x2)]) [0, 1, 2] rfl ?_
  refine ok_aload_n C 0 dX8_stamp_0 rfl rfl ?_
  refine ok_iconst C (v := 0) dX8_stamp_1 (by decide) ?_
  refine ok_putI C (ci := 8) hinX8 (kat hk kM_0) rfl 0 (by decide) W_6_126 (fun _ _ h => h) tyX8 tyX8_ok nmX8 rfl (by decide +kernel) rfl rfl rfl dX8_stamp_2 ?_
  refine ok_aload_n C 0 dX8_stamp_5 rfl rfl ?_
  refine ok_aload_n C 0 dX8_stamp_6 rfl rfl ?_
  refine ok_iload_n C 1 dX8_stamp_7 rfl rfl ?_
  refine ok_callVi C (As := [.int x1]) (rest := [.ref (Ω.2.2.1 0)]) (q := 0) (ci := 8) (kat hk kM_0) rfl (c_X8_isNode  _ _ _ h) W_7_23 W_7_25 W_0_53 W_7_26 W_1_28 hd_X8_isNode rfl ⟨Nat.le_of_ble_eq_true rfl, Nat.le_of_ble_eq_true rfl⟩ (Nat.le_of_ble_eq_true rfl) rfl dX8_stamp_8 (fun r1 u2 h => ?_)
  obtain ⟨h1, h2⟩ := h
  refine ok_if_ne C 18 dX8_stamp_11 rfl (fun c3 => ?_) (fun c3 => ?_)
  · have h := h1 c3
    refine ok_iconst C (v := 0) dX8_stamp_18 (by decide) ?_
    refine ok_sub [0, 1, 2] rfl ?_
    exact J19 _ _ h
  · have h := h2 c3
    refine ok_iconst C (v := 1) dX8_stamp_14 (by decide) ?_
    refine ok_goto C 19 dX8_stamp_15 rfl ?_
    refine ok_sub [0, 1, 2] rfl ?_
    exact J19 _ _ h
set_option maxRecDepth 100000 in
set_option maxHeartbeats 4000000 in
theorem m_X8_order {l : Launch} {Ω : Wm} (hk : Hk Ω kM) (c_X8_fails : CT_X8_fails l Ω) (c_X8_find : CT_X8_find l Ω) (c_X8_isNode : CT_X8_isNode l Ω) (hv : ∀ (x1 : Int32) (σ : Sg) (K : Int32 → Sg → Prop), sp_X8_order x1 σ K → vc_X8_order x1 σ K) : CT_X8_order l Ω := by
  intro x1 σ Po hsp
  have hvc := hv x1 σ Po hsp
  refine Ct.of (by decide +kernel) (Nat.le_of_ble_eq_true rfl) (fun Γ C => ?_)
  have J19 : ∀ (s0 : Int32) (σ : Sg), f_X8_order_19 x1 Po s0 σ → OK Γ Ω 2 19 [(0, .ref (Ω.2.2.1 0)), (1, .int x1)] [.int s0, .ref (Ω.2.2.1 0)] σ := by
    intro s0 σ h
    unfold f_X8_order_19 at h
    refine ok_iconst C (v := 1) dX8_order_19 (by decide) ?_
    refine ok_callVi C (As := [.int s0, .int 1]) (rest := []) (q := 0) (ci := 8) (kat hk kM_0) rfl (c_X8_fails  _ _ _ _ h) W_7_15 W_7_17 W_0_52 W_7_18 W_1_28 hd_X8_fails rfl ⟨Nat.le_of_ble_eq_true rfl, Nat.le_of_ble_eq_true rfl⟩ (Nat.le_of_ble_eq_true rfl) rfl dX8_order_20 (fun r4 u5 h => ?_)
    obtain ⟨h1, h2⟩ := h
    refine ok_if_eq C 28 dX8_order_23 rfl (fun c8 => ?_) (fun c8 => ?_)
    · have h := h1 c8
      refine ok_aload_n C 0 dX8_order_28 rfl rfl ?_
      refine ok_iload_n C 1 dX8_order_29 rfl rfl ?_
      refine ok_callVv C (As := [.int x1]) (rest := []) (q := 0) (ci := 8) (kat hk kM_0) rfl (c_X8_find  _ _ _ h) W_7_68 W_7_70 W_0_57 W_7_71 W_1_28 hd_X8_find rfl ⟨Nat.le_of_ble_eq_true rfl, Nat.le_of_ble_eq_true rfl⟩ (Nat.le_of_ble_eq_true rfl) rfl dX8_order_30 (fun u7 h => ?_)
      refine ok_aload_n C 0 dX8_order_33 rfl rfl ?_
      refine ok_getI C (ci := 8) hinX8 (kat hk kM_0) rfl 23 (by decide) W_6_149 (fun _ _ h => h) rfl dX8_order_34 ?_
      exact ok_iret C rfl rfl dX8_order_37 h
    · have h := h2 c8
      refine ok_iconst C (v := 0) dX8_order_26 (by decide) ?_
      exact ok_iret C rfl rfl dX8_order_27 h
  have h : f_X8_order_e x1 Po σ := hvc  
  unfold f_X8_order_e at h
  refine ok_sub (L2 := [(0, .ref (Ω.2.2.1 0)), (1, .int x1)]) [0, 1] rfl ?_
  refine ok_aload_n C 0 dX8_order_0 rfl rfl ?_
  refine ok_iconst C (v := 0) dX8_order_1 (by decide) ?_
  refine ok_putI C (ci := 8) hinX8 (kat hk kM_0) rfl 0 (by decide) W_6_126 (fun _ _ h => h) tyX8 tyX8_ok nmX8 rfl (by decide +kernel) rfl rfl rfl dX8_order_2 ?_
  refine ok_aload_n C 0 dX8_order_5 rfl rfl ?_
  refine ok_aload_n C 0 dX8_order_6 rfl rfl ?_
  refine ok_iload_n C 1 dX8_order_7 rfl rfl ?_
  refine ok_callVi C (As := [.int x1]) (rest := [.ref (Ω.2.2.1 0)]) (q := 0) (ci := 8) (kat hk kM_0) rfl (c_X8_isNode  _ _ _ h) W_7_23 W_7_25 W_0_53 W_7_26 W_1_28 hd_X8_isNode rfl ⟨Nat.le_of_ble_eq_true rfl, Nat.le_of_ble_eq_true rfl⟩ (Nat.le_of_ble_eq_true rfl) rfl dX8_order_8 (fun r1 u2 h => ?_)
  obtain ⟨h1, h2⟩ := h
  refine ok_if_ne C 18 dX8_order_11 rfl (fun c3 => ?_) (fun c3 => ?_)
  · have h := h1 c3
    refine ok_iconst C (v := 0) dX8_order_18 (by decide) ?_
    refine ok_sub [0, 1] rfl ?_
    exact J19 _ _ h
  · have h := h2 c3
    refine ok_iconst C (v := 1) dX8_order_14 (by decide) ?_
    refine ok_goto C 19 dX8_order_15 rfl ?_
    refine ok_sub [0, 1] rfl ?_
    exact J19 _ _ h
