set_option maxRecDepth 100000 in
set_option maxHeartbeats 4000000 in
theorem m_X8_at {l : Launch} {Ω : Wm} (hk : Hk Ω kM) (c_X8_fails : CT_X8_fails l Ω) (c_X8_find : CT_X8_find l Ω) (c_X8_in : CT_X8_in l Ω) (c_X8_isNode : CT_X8_isNode l Ω) (hv : ∀ (x1 : Int32) (x2 : Int32) (σ : Sg) (K : Int32 → Sg → Prop), sp_X8_at x1 x2 σ K → vc_X8_at x1 x2 σ K) : CT_X8_at l Ω := by
  intro x1 x2 σ Po hsp
  have hvc := hv x1 x2 σ Po hsp
  refine Ct.of (by decide +kernel) (Nat.le_of_ble_eq_true rfl) (fun Γ C => ?_)
  have J70 : ∀ (s0 : Int32) (σ : Sg), f_X8_at_70 x1 x2 Po s0 σ → OK Γ Ω 3 70 [] [.int s0] σ := by
    intro s0 σ h
    unfold f_X8_at_70 at h
    exact ok_iret C rfl rfl dX8_at_70 h
  have J53 : ∀ (s0 : Int32) (σ : Sg), f_X8_at_53 x1 x2 Po s0 σ → OK Γ Ω 3 53 [(0, .ref (Ω.2.2.1 0)), (2, .int x2)] [.int s0, .ref (Ω.2.2.1 0)] σ := by
    intro s0 σ h
    unfold f_X8_at_53 at h
    refine ok_iconst C (v := 2) dX8_at_53 (by decide) ?_
    refine ok_callVi C (As := [.int s0, .int 2]) (rest := []) (q := 0) (ci := 8) (kat hk kM_0) rfl (c_X8_fails  _ _ _ _ h) W_7_15 W_7_17 W_0_52 W_7_18 W_1_28 hd_X8_fails rfl ⟨Nat.le_of_ble_eq_true rfl, Nat.le_of_ble_eq_true rfl⟩ (Nat.le_of_ble_eq_true rfl) rfl dX8_at_54 (fun r12 u13 h => ?_)
    obtain ⟨h1, h2⟩ := h
    refine ok_if_eq C 64 dX8_at_57 rfl (fun c15 => ?_) (fun c15 => ?_)
    · have h := h1 c15
      refine ok_aload_n C 0 dX8_at_64 rfl rfl ?_
      refine ok_getR C (ci := 8) hinX8 (kat hk kM_0) rfl 28 (by decide) W_6_154 (fun _ _ h => h) rfl dX8_at_65 ?_
      refine ok_iload_n C 1 dX8_at_68 rfl rfl ?_
      obtain ⟨g14, h⟩ := h
      refine ok_iald C (kat hk kM_23) g14 dX8_at_69 ?_
      refine ok_sub [] rfl ?_
      exact J70 _ _ h
    · have h := h2 c15
      refine ok_iconst C (v := 0) dX8_at_60 (by decide) ?_
      refine ok_goto C 70 dX8_at_61 rfl ?_
      refine ok_sub [] rfl ?_
      exact J70 _ _ h
  have J19 : ∀ (s0 : Int32) (σ : Sg), f_X8_at_19 x1 x2 Po s0 σ → OK Γ Ω 3 19 [(0, .ref (Ω.2.2.1 0)), (1, .int x1), (2, .int x2)] [.int s0, .ref (Ω.2.2.1 0)] σ := by
    intro s0 σ h
    unfold f_X8_at_19 at h
    refine ok_iconst C (v := 1) dX8_at_19 (by decide) ?_
    refine ok_callVi C (As := [.int s0, .int 1]) (rest := []) (q := 0) (ci := 8) (kat hk kM_0) rfl (c_X8_fails  _ _ _ _ h) W_7_15 W_7_17 W_0_52 W_7_18 W_1_28 hd_X8_fails rfl ⟨Nat.le_of_ble_eq_true rfl, Nat.le_of_ble_eq_true rfl⟩ (Nat.le_of_ble_eq_true rfl) rfl dX8_at_20 (fun r4 u5 h => ?_)
    obtain ⟨h1, h2⟩ := h
    refine ok_if_eq C 28 dX8_at_23 rfl (fun c11 => ?_) (fun c11 => ?_)
    · have h := h1 c11
      refine ok_aload_n C 0 dX8_at_28 rfl rfl ?_
      refine ok_iload_n C 1 dX8_at_29 rfl rfl ?_
      refine ok_callVv C (As := [.int x1]) (rest := []) (q := 0) (ci := 8) (kat hk kM_0) rfl (c_X8_find  _ _ _ h) W_7_68 W_7_70 W_0_57 W_7_71 W_1_28 hd_X8_find rfl ⟨Nat.le_of_ble_eq_true rfl, Nat.le_of_ble_eq_true rfl⟩ (Nat.le_of_ble_eq_true rfl) rfl dX8_at_30 (fun u7 h => ?_)
      refine ok_aload_n C 0 dX8_at_33 rfl rfl ?_
      refine ok_iload_n C 2 dX8_at_34 rfl rfl ?_
      refine ok_iconst C (v := 0) dX8_at_35 (by decide) ?_
      refine ok_aload_n C 0 dX8_at_36 rfl rfl ?_
      refine ok_getI C (ci := 8) hinX8 (kat hk kM_0) rfl 23 (by decide) W_6_149 (fun _ _ h => h) rfl dX8_at_37 ?_
      refine ok_iconst C (v := 1) dX8_at_40 (by decide) ?_
      refine ok_isub C dX8_at_41 ?_
      refine ok_callSi C (As := [.int x2, .int 0, .int ((u7.1 0 23) - 1)]) (rest := [.ref (Ω.2.2.1 0)]) (c_X8_in  _ _ _ _ _ h) W_7_12 W_7_13 W_7_14 W_1_28 hd_X8_in rfl ⟨Nat.le_of_ble_eq_true rfl, Nat.le_of_ble_eq_true rfl⟩ (Nat.le_of_ble_eq_true rfl) rfl dX8_at_42 (fun r8 u9 h => ?_)
      obtain ⟨h1, h2⟩ := h
      refine ok_if_ne C 52 dX8_at_45 rfl (fun c10 => ?_) (fun c10 => ?_)
      · have h := h1 c10
        refine ok_iconst C (v := 0) dX8_at_52 (by decide) ?_
        refine ok_sub [0, 2] rfl ?_
        exact J53 _ _ h
      · have h := h2 c10
        refine ok_iconst C (v := 1) dX8_at_48 (by decide) ?_
        refine ok_goto C 53 dX8_at_49 rfl ?_
        refine ok_sub [0, 2] rfl ?_
        exact J53 _ _ h
    · have h := h2 c11
      refine ok_iconst C (v := 0) dX8_at_26 (by decide) ?_
      exact ok_iret C rfl rfl dX8_at_27 h
  have h : f_X8_at_e x1 x2 Po σ := hvc  
  unfold f_X8_at_e at h
  refine ok_sub (L2 := [(0, .ref (Ω.2.2.1 0)), (1, .int x1), (2, .int x2)]) [0, 1, 2] rfl ?_
  refine ok_aload_n C 0 dX8_at_0 rfl rfl ?_
  refine ok_iconst C (v := 0) dX8_at_1 (by decide) ?_
  refine ok_putI C (ci := 8) hinX8 (kat hk kM_0) rfl 0 (by decide) W_6_126 (fun _ _ h => h) tyX8 tyX8_ok nmX8 rfl (by decide +kernel) rfl rfl rfl dX8_at_2 ?_
  refine ok_aload_n C 0 dX8_at_5 rfl rfl ?_
  refine ok_aload_n C 0 dX8_at_6 rfl rfl ?_
  refine ok_iload_n C 1 dX8_at_7 rfl rfl ?_
  refine ok_callVi C (As := [.int x1]) (rest := [.ref (Ω.2.2.1 0)]) (q := 0) (ci := 8) (kat hk kM_0) rfl (c_X8_isNode  _ _ _ h) W_7_23 W_7_25 W_0_53 W_7_26 W_1_28 hd_X8_isNode rfl ⟨Nat.le_of_ble_eq_true rfl, Nat.le_of_ble_eq_true rfl⟩ (Nat.le_of_ble_eq_true rfl) rfl dX8_at_8 (fun r1 u2 h => ?_)
  obtain ⟨h1, h2⟩ := h
  refine ok_if_ne C 18 dX8_at_11 rfl (fun c3 => ?_) (fun c3 => ?_)
  · have h := h1 c3
    refine ok_iconst C (v := 0) dX8_at_18 (by decide) ?_
    refine ok_sub [0, 1, 2] rfl ?_
    exact J19 _ _ h
  · have h := h2 c3
    refine ok_iconst C (v := 1) dX8_at_14 (by decide) ?_
    refine ok_goto C 19 dX8_at_15 rfl ?_
    refine ok_sub [0, 1, 2] rfl ?_
    exact J19 _ _ h
set_option maxRecDepth 100000 in
set_option maxHeartbeats 4000000 in
theorem m_X8_balance {l : Launch} {Ω : Wm} (hk : Hk Ω kM) (c_X8_fails : CT_X8_fails l Ω) (c_X8_find : CT_X8_find l Ω) (c_X8_isNode : CT_X8_isNode l Ω) (hv : ∀ (x1 : Int32) (x2 : Int32) (σ : Sg) (K : Int32 → Sg → Prop), sp_X8_balance x1 x2 σ K → vc_X8_balance x1 x2 σ K) : CT_X8_balance l Ω := by
  intro x1 x2 σ Po hsp
  have hvc := hv x1 x2 σ Po hsp
  refine Ct.of (by decide +kernel) (Nat.le_of_ble_eq_true rfl) (fun Γ C => ?_)
  have J27 : ∀ (s0 : Int32) (σ : Sg), f_X8_balance_27 x1 x2 Po s0 σ → OK Γ Ω 3 27 [(0, .ref (Ω.2.2.1 0)), (1, .int x1), (2, .int x2)] [.int s0, .ref (Ω.2.2.1 0)] σ := by
    intro s0 σ h
    unfold f_X8_balance_27 at h
    refine ok_iconst C (v := 1) dX8_balance_27 (by decide) ?_
    refine ok_callVi C (As := [.int s0, .int 1]) (rest := []) (q := 0) (ci := 8) (kat hk kM_0) rfl (c_X8_fails  _ _ _ _ h) W_7_15 W_7_17 W_0_52 W_7_18 W_1_28 hd_X8_fails rfl ⟨Nat.le_of_ble_eq_true rfl, Nat.le_of_ble_eq_true rfl⟩ (Nat.le_of_ble_eq_true rfl) rfl dX8_balance_28 (fun r7 u8 h => ?_)
    obtain ⟨h1, h2⟩ := h
    refine ok_if_eq C 36 dX8_balance_31 rfl (fun c12 => ?_) (fun c12 => ?_)
    · have h := h1 c12
      refine ok_aload_n C 0 dX8_balance_36 rfl rfl ?_
      refine ok_iload_n C 1 dX8_balance_37 rfl rfl ?_
      refine ok_callVv C (As := [.int x1]) (rest := []) (q := 0) (ci := 8) (kat hk kM_0) rfl (c_X8_find  _ _ _ h) W_7_68 W_7_70 W_0_57 W_7_71 W_1_28 hd_X8_find rfl ⟨Nat.le_of_ble_eq_true rfl, Nat.le_of_ble_eq_true rfl⟩ (Nat.le_of_ble_eq_true rfl) rfl dX8_balance_38 (fun u10 h => ?_)
      refine ok_aload_n C 0 dX8_balance_41 rfl rfl ?_
      refine ok_getR C (ci := 8) hinX8 (kat hk kM_0) rfl 29 (by decide) W_6_155 (fun _ _ h => h) rfl dX8_balance_42 ?_
      refine ok_iload_n C 2 dX8_balance_45 rfl rfl ?_
      obtain ⟨g11, h⟩ := h
      refine ok_iald C (kat hk kM_24) g11 dX8_balance_46 ?_
      exact ok_iret C rfl rfl dX8_balance_47 h
    · have h := h2 c12
      refine ok_iconst C (v := 0) dX8_balance_34 (by decide) ?_
      exact ok_iret C rfl rfl dX8_balance_35 h
  have J22 : ∀  (σ : Sg), f_X8_balance_22 x1 x2 Po  σ → OK Γ Ω 3 22 [(0, .ref (Ω.2.2.1 0)), (1, .int x1), (2, .int x2)] [.ref (Ω.2.2.1 0)] σ := by
    intro  σ h
    unfold f_X8_balance_22 at h
    refine ok_iconst C (v := 1) dX8_balance_22 (by decide) ?_
    refine ok_goto C 27 dX8_balance_23 rfl ?_
    refine ok_sub [0, 1, 2] rfl ?_
    exact J27 _ _ h
  have h : f_X8_balance_e x1 x2 Po σ := hvc  
  unfold f_X8_balance_e at h
  refine ok_sub (L2 := [(0, .ref (Ω.2.2.1 0)), (1, .int x1), (2, .int x2)]) [0, 1, 2] rfl ?_
  refine ok_aload_n C 0 dX8_balance_0 rfl rfl ?_
  refine ok_iconst C (v := 0) dX8_balance_1 (by decide) ?_
  refine ok_putI C (ci := 8) hinX8 (kat hk kM_0) rfl 0 (by decide) W_6_126 (fun _ _ h => h) tyX8 tyX8_ok nmX8 rfl (by decide +kernel) rfl rfl rfl dX8_balance_2 ?_
  refine ok_aload_n C 0 dX8_balance_5 rfl rfl ?_
  refine ok_aload_n C 0 dX8_balance_6 rfl rfl ?_
  refine ok_iload_n C 1 dX8_balance_7 rfl rfl ?_
  refine ok_callVi C (As := [.int x1]) (rest := [.ref (Ω.2.2.1 0)]) (q := 0) (ci := 8) (kat hk kM_0) rfl (c_X8_isNode  _ _ _ h) W_7_23 W_7_25 W_0_53 W_7_26 W_1_28 hd_X8_isNode rfl ⟨Nat.le_of_ble_eq_true rfl, Nat.le_of_ble_eq_true rfl⟩ (Nat.le_of_ble_eq_true rfl) rfl dX8_balance_8 (fun r1 u2 h => ?_)
  obtain ⟨h1, h2⟩ := h
  refine ok_if_eq C 22 dX8_balance_11 rfl (fun c6 => ?_) (fun c6 => ?_)
  · have h := h1 c6
    refine ok_sub [0, 1, 2] rfl ?_
    exact J22  _ h
  · have h := h2 c6
    refine ok_aload_n C 0 dX8_balance_14 rfl rfl ?_
    refine ok_iload_n C 2 dX8_balance_15 rfl rfl ?_
    refine ok_callVi C (As := [.int x2]) (rest := [.ref (Ω.2.2.1 0)]) (q := 0) (ci := 8) (kat hk kM_0) rfl (c_X8_isNode  _ _ _ h) W_7_23 W_7_25 W_0_53 W_7_26 W_1_28 hd_X8_isNode rfl ⟨Nat.le_of_ble_eq_true rfl, Nat.le_of_ble_eq_true rfl⟩ (Nat.le_of_ble_eq_true rfl) rfl dX8_balance_16 (fun r3 u4 h => ?_)
    obtain ⟨h1, h2⟩ := h
    refine ok_if_ne C 26 dX8_balance_19 rfl (fun c5 => ?_) (fun c5 => ?_)
    · have h := h1 c5
      refine ok_iconst C (v := 0) dX8_balance_26 (by decide) ?_
      refine ok_sub [0, 1, 2] rfl ?_
      exact J27 _ _ h
    · have h := h2 c5
      refine ok_sub [0, 1, 2] rfl ?_
      exact J22  _ h
set_option maxRecDepth 100000 in
set_option maxHeartbeats 4000000 in
theorem m_X8_count {l : Launch} {Ω : Wm} (hk : Hk Ω kM) (c_X8_fails : CT_X8_fails l Ω) (c_X8_find : CT_X8_find l Ω) (c_X8_in : CT_X8_in l Ω) (c_X8_isFork : CT_X8_isFork l Ω) (hv : ∀ (x1 : Int32) (σ : Sg) (K : Int32 → Sg → Prop), sp_X8_count x1 σ K → vc_X8_count x1 σ K) : CT_X8_count l Ω := by
  intro x1 σ Po hsp
  have hvc := hv x1 σ Po hsp
  refine Ct.of (by decide +kernel) (Nat.le_of_ble_eq_true rfl) (fun Γ C => ?_)
  obtain ⟨L80, gl80⟩ : ∃ L : Int32 → Int32 → Sg → Prop, ∀ (x2 : Int32) (x3 : Int32) (σ : Sg), L x2 x3 σ = OK Γ Ω 5 80 [(0, .ref (Ω.2.2.1 0)), (2, .int x2), (3, .int x3)] [] σ := ⟨fun x2 x3 σ => OK Γ Ω 5 80 [(0, .ref (Ω.2.2.1 0)), (2, .int x2), (3, .int x3)] [] σ, fun _ _ _ => rfl⟩
  obtain ⟨L115, gl115⟩ : ∃ L : Int32 → Int32 → Sg → Prop, ∀ (x2 : Int32) (x3 : Int32) (σ : Sg), L x2 x3 σ = OK Γ Ω 5 115 [(0, .ref (Ω.2.2.1 0)), (2, .int x2), (3, .int x3)] [] σ := ⟨fun x2 x3 σ => OK Γ Ω 5 115 [(0, .ref (Ω.2.2.1 0)), (2, .int x2), (3, .int x3)] [] σ, fun _ _ _ => rfl⟩
  obtain ⟨L126, gl126⟩ : ∃ L : Int32 → Int32 → Int32 → Sg → Prop, ∀ (x2 : Int32) (x3 : Int32) (x4 : Int32) (σ : Sg), L x2 x3 x4 σ = OK Γ Ω 5 126 [(0, .ref (Ω.2.2.1 0)), (2, .int x2), (3, .int x3), (4, .int x4)] [] σ := ⟨fun x2 x3 x4 σ => OK Γ Ω 5 126 [(0, .ref (Ω.2.2.1 0)), (2, .int x2), (3, .int x3), (4, .int x4)] [] σ, fun _ _ _ _ => rfl⟩
  obtain ⟨L171, gl171⟩ : ∃ L : Int32 → Int32 → Sg → Prop, ∀ (x2 : Int32) (x3 : Int32) (σ : Sg), L x2 x3 σ = OK Γ Ω 5 171 [(0, .ref (Ω.2.2.1 0)), (2, .int x2), (3, .int x3)] [] σ := ⟨fun x2 x3 σ => OK Γ Ω 5 171 [(0, .ref (Ω.2.2.1 0)), (2, .int x2), (3, .int x3)] [] σ, fun _ _ _ => rfl⟩
  have J145 : ∀ (x2 : Int32) (x3 : Int32) (x4 : Int32) (σ : Sg), f_X8_count_145 x1 L80 L115 L126 L171 Po x2 x3 x4 σ → OK Γ Ω 5 145 [(0, .ref (Ω.2.2.1 0)), (2, .int x2), (3, .int x3), (4, .int x4)] [] σ := by
    intro x2 x3 x4 σ h
    unfold f_X8_count_145 at h
    refine ok_iinc C (v := x4 + 1) (L2 := [(4, .int (x4 + 1)), (0, .ref (Ω.2.2.1 0)), (2, .int x2), (3, .int x3)]) 3 dX8_count_145 rfl rfl (by decide) rfl ?_
    refine ok_goto C 126 dX8_count_148 rfl ?_
    refine ok_sub [1, 2, 3, 0] rfl ?_
    exact Eq.mp (gl126 _ _ _ _) h
  have J105 : ∀ (x2 : Int32) (x3 : Int32) (σ : Sg), f_X8_count_105 x1 L80 L115 L126 L171 Po x2 x3 σ → OK Γ Ω 5 105 [(0, .ref (Ω.2.2.1 0)), (2, .int x2), (3, .int x3)] [] σ := by
    intro x2 x3 σ h
    unfold f_X8_count_105 at h
    refine ok_iinc C (v := x3 + 1) (L2 := [(3, .int (x3 + 1)), (0, .ref (Ω.2.2.1 0)), (2, .int x2)]) 2 dX8_count_105 rfl rfl (by decide) rfl ?_
    refine ok_goto C 80 dX8_count_108 rfl ?_
    refine ok_sub [1, 2, 0] rfl ?_
    exact Eq.mp (gl80 _ _ _) h
  have J20 : ∀ (s0 : Int32) (σ : Sg), f_X8_count_20 x1 L80 L115 L126 L171 Po s0 σ → OK Γ Ω 5 20 [(0, .ref (Ω.2.2.1 0)), (1, .int x1)] [.int s0, .ref (Ω.2.2.1 0)] σ := by
    intro s0 σ h
    unfold f_X8_count_20 at h
    refine ok_iconst C (v := 1) dX8_count_20 (by decide) ?_
    refine ok_callVi C (As := [.int s0, .int 1]) (rest := []) (q := 0) (ci := 8) (kat hk kM_0) rfl (c_X8_fails  _ _ _ _ h) W_7_15 W_7_17 W_0_52 W_7_18 W_1_28 hd_X8_fails rfl ⟨Nat.le_of_ble_eq_true rfl, Nat.le_of_ble_eq_true rfl⟩ (Nat.le_of_ble_eq_true rfl) rfl dX8_count_21 (fun r4 u5 h => ?_)
    obtain ⟨h1, h2⟩ := h
    refine ok_if_eq C 29 dX8_count_24 rfl (fun c8 => ?_) (fun c8 => ?_)
    · have h := h1 c8
      refine ok_iconst C (v := 0) dX8_count_29 (by decide) ?_
      refine ok_istore_n C (L2 := [(2, .int 0), (0, .ref (Ω.2.2.1 0)), (1, .int x1)]) dX8_count_30 rfl (by decide) rfl ?_
      refine ok_iload_n C 2 dX8_count_31 rfl rfl ?_
      rcases (show (x1.toInt < 0 ∨ 4 < x1.toInt) ∨ x1.toInt = 0 ∨ x1.toInt = 1 ∨ x1.toInt = 2 ∨ x1.toInt = 3 ∨ x1.toInt = 4 by omega) with c | c | c | c | c | c
      · have h := h.1 c
        refine ok_tableOut C 169 dX8_count_32 c rfl ?_
        refine ok_iconst C (v := 0) dX8_count_169 (by decide) ?_
        refine ok_istore_n C (L2 := [(3, .int 0), (2, .int 0), (0, .ref (Ω.2.2.1 0)), (1, .int x1)]) dX8_count_170 rfl (by decide) rfl ?_
        refine ok_sub [2, 1, 0] rfl ?_
        exact Eq.mp (gl171 _ _ _) h
      · have h := h.2.1 c
        refine ok_tableIn C 68 dX8_count_32 (by omega) (by omega) (by rw [c]; rfl) rfl ?_
        refine ok_aload_n C 1 dX8_count_68 rfl rfl ?_
        refine ok_getI C (ci := 8) hinX8 (kat hk kM_0) rfl 1 (by decide) W_6_127 (fun _ _ h => h) rfl dX8_count_69 ?_
        exact ok_iret C rfl rfl dX8_count_72 h
      · have h := h.2.2.1 c
        refine ok_tableIn C 73 dX8_count_32 (by omega) (by omega) (by rw [c]; rfl) rfl ?_
        refine ok_aload_n C 1 dX8_count_73 rfl rfl ?_
        refine ok_getI C (ci := 8) hinX8 (kat hk kM_0) rfl 2 (by decide) W_6_128 (fun _ _ h => h) rfl dX8_count_74 ?_
        exact ok_iret C rfl rfl dX8_count_77 h
      · have h := h.2.2.2.1 c
        refine ok_tableIn C 78 dX8_count_32 (by omega) (by omega) (by rw [c]; rfl) rfl ?_
        refine ok_iconst C (v := 0) dX8_count_78 (by decide) ?_
        refine ok_istore_n C (L2 := [(3, .int 0), (2, .int 0), (0, .ref (Ω.2.2.1 0)), (1, .int x1)]) dX8_count_79 rfl (by decide) rfl ?_
        refine ok_sub [2, 1, 0] rfl ?_
        exact Eq.mp (gl80 _ _ _) h
      · have h := h.2.2.2.2.1 c
        refine ok_tableIn C 113 dX8_count_32 (by omega) (by omega) (by rw [c]; rfl) rfl ?_
        refine ok_iconst C (v := 0) dX8_count_113 (by decide) ?_
        refine ok_istore_n C (L2 := [(3, .int 0), (2, .int 0), (0, .ref (Ω.2.2.1 0)), (1, .int x1)]) dX8_count_114 rfl (by decide) rfl ?_
        refine ok_sub [2, 1, 0] rfl ?_
        exact Eq.mp (gl115 _ _ _) h
      · have h := h.2.2.2.2.2 c
        refine ok_tableIn C 159 dX8_count_32 (by omega) (by omega) (by rw [c]; rfl) rfl ?_
        refine ok_aload_n C 1 dX8_count_159 rfl rfl ?_
        refine ok_iconst C (v := 0) dX8_count_160 (by decide) ?_
        refine ok_callVv C (As := [.int 0]) (rest := []) (q := 0) (ci := 8) (kat hk kM_0) rfl (c_X8_find  _ _ _ h) W_7_68 W_7_70 W_0_57 W_7_71 W_1_28 hd_X8_find rfl ⟨Nat.le_of_ble_eq_true rfl, Nat.le_of_ble_eq_true rfl⟩ (Nat.le_of_ble_eq_true rfl) rfl dX8_count_161 (fun u7 h => ?_)
        refine ok_aload_n C 1 dX8_count_164 rfl rfl ?_
        refine ok_getI C (ci := 8) hinX8 (kat hk kM_0) rfl 24 (by decide) W_6_150 (fun _ _ h => h) rfl dX8_count_165 ?_
        exact ok_iret C rfl rfl dX8_count_168 h
    · have h := h2 c8
      refine ok_iconst C (v := 0) dX8_count_27 (by decide) ?_
      exact ok_iret C rfl rfl dX8_count_28 h
  have R80 : ∀ (x2 : Int32) (x3 : Int32) (σ : Sg), f_X8_count_80 x1 L80 L115 L126 L171 Po x2 x3 σ → L80 x2 x3 σ := by
    intro x2 x3 σ h
    unfold f_X8_count_80 at h
    refine Eq.mpr (gl80 _ _ _) ?_
    refine ok_iload_n C 2 dX8_count_80 rfl rfl ?_
    refine ok_aload_n C 0 dX8_count_81 rfl rfl ?_
    refine ok_getI C (ci := 8) hinX8 (kat hk kM_0) rfl 2 (by decide) W_6_128 (fun _ _ h => h) rfl dX8_count_82 ?_
    obtain ⟨h1, h2⟩ := h
    refine ok_icmp_ge C 111 dX8_count_85 rfl (fun c12 => ?_) (fun c12 => ?_)
    · have h := h1 c12
      refine ok_iload_n C 1 dX8_count_111 rfl rfl ?_
      exact ok_iret C rfl rfl dX8_count_112 h
    · have h := h2 c12
      refine ok_aload_n C 0 dX8_count_88 rfl rfl ?_
      refine ok_getR C (ci := 8) hinX8 (kat hk kM_0) rfl 9 (by decide) W_6_135 (fun _ _ h => h) rfl dX8_count_89 ?_
      refine ok_iload_n C 2 dX8_count_92 rfl rfl ?_
      obtain ⟨g9, h⟩ := h
      refine ok_iald C (kat hk kM_7) g9 dX8_count_93 ?_
      refine ok_iload_n C 1 dX8_count_94 rfl rfl ?_
      obtain ⟨h1, h2⟩ := h
      refine ok_icmp_le C 105 dX8_count_95 rfl (fun c11 => ?_) (fun c11 => ?_)
      · have h := h1 c11
        refine ok_sub [0, 1, 2] rfl ?_
        exact J105 _ _ _ h
      · have h := h2 c11
        refine ok_aload_n C 0 dX8_count_98 rfl rfl ?_
        refine ok_getR C (ci := 8) hinX8 (kat hk kM_0) rfl 9 (by decide) W_6_135 (fun _ _ h => h) rfl dX8_count_99 ?_
        refine ok_iload_n C 2 dX8_count_102 rfl rfl ?_
        obtain ⟨g10, h⟩ := h
        refine ok_iald C (kat hk kM_7) g10 dX8_count_103 ?_
        refine ok_istore_n C (L2 := [(2, .int (σ.1 7 x3.toNatClampNeg)), (0, .ref (Ω.2.2.1 0)), (3, .int x3)]) dX8_count_104 rfl (by decide) rfl ?_
        refine ok_sub [1, 0, 2] rfl ?_
        exact J105 _ _ _ h
  have R115 : ∀ (x2 : Int32) (x3 : Int32) (σ : Sg), f_X8_count_115 x1 L80 L115 L126 L171 Po x2 x3 σ → L115 x2 x3 σ := by
    intro x2 x3 σ h
    unfold f_X8_count_115 at h
    refine Eq.mpr (gl115 _ _ _) ?_
    refine ok_iload_n C 2 dX8_count_115 rfl rfl ?_
    refine ok_aload_n C 0 dX8_count_116 rfl rfl ?_
    refine ok_getI C (ci := 8) hinX8 (kat hk kM_0) rfl 2 (by decide) W_6_128 (fun _ _ h => h) rfl dX8_count_117 ?_
    obtain ⟨h1, h2⟩ := h
    refine ok_icmp_ge C 157 dX8_count_120 rfl (fun c13 => ?_) (fun c13 => ?_)
    · have h := h1 c13
      refine ok_iload_n C 1 dX8_count_157 rfl rfl ?_
      exact ok_iret C rfl rfl dX8_count_158 h
    · have h := h2 c13
      refine ok_iconst C (v := 0) dX8_count_123 (by decide) ?_
      refine ok_istore C (L2 := [(4, .int 0), (0, .ref (Ω.2.2.1 0)), (2, .int x2), (3, .int x3)]) dX8_count_124 (by decide) rfl ?_
      refine ok_sub [1, 2, 3, 0] rfl ?_
      exact Eq.mp (gl126 _ _ _ _) h
  have R126 : ∀ (x2 : Int32) (x3 : Int32) (x4 : Int32) (σ : Sg), f_X8_count_126 x1 L80 L115 L126 L171 Po x2 x3 x4 σ → L126 x2 x3 x4 σ := by
    intro x2 x3 x4 σ h
    unfold f_X8_count_126 at h
    refine Eq.mpr (gl126 _ _ _ _) ?_
    refine ok_iload C 3 dX8_count_126 rfl ?_
    refine ok_iload_n C 2 dX8_count_128 rfl rfl ?_
    obtain ⟨h1, h2⟩ := h
    refine ok_icmp_ge C 151 dX8_count_129 rfl (fun c17 => ?_) (fun c17 => ?_)
    · have h := h1 c17
      refine ok_iinc C (v := x3 + 1) (L2 := [(3, .int (x3 + 1)), (0, .ref (Ω.2.2.1 0)), (2, .int x2), (4, .int x4)]) 2 dX8_count_151 rfl rfl (by decide) rfl ?_
      refine ok_goto C 115 dX8_count_154 rfl ?_
      refine ok_sub [1, 2, 0] rfl ?_
      exact Eq.mp (gl115 _ _ _) h
    · have h := h2 c17
      refine ok_aload_n C 0 dX8_count_132 rfl rfl ?_
      refine ok_iload_n C 2 dX8_count_133 rfl rfl ?_
      refine ok_iload C 3 dX8_count_134 rfl ?_
      refine ok_callVi C (As := [.int x3, .int x4]) (rest := []) (q := 0) (ci := 8) (kat hk kM_0) rfl (c_X8_isFork  _ _ _ _ h) W_6_105 W_6_107 W_0_47 W_6_108 W_1_28 hd_X8_isFork rfl ⟨Nat.le_of_ble_eq_true rfl, Nat.le_of_ble_eq_true rfl⟩ (Nat.le_of_ble_eq_true rfl) rfl dX8_count_136 (fun r14 u15 h => ?_)
      obtain ⟨h1, h2⟩ := h
      refine ok_if_eq C 145 dX8_count_139 rfl (fun c16 => ?_) (fun c16 => ?_)
      · have h := h1 c16
        refine ok_sub [0, 1, 2, 3] rfl ?_
        exact J145 _ _ _ _ h
      · have h := h2 c16
        refine ok_iinc C (v := x2 + 1) (L2 := [(2, .int (x2 + 1)), (0, .ref (Ω.2.2.1 0)), (3, .int x3), (4, .int x4)]) 1 dX8_count_142 rfl rfl (by decide) rfl ?_
        refine ok_sub [1, 0, 2, 3] rfl ?_
        exact J145 _ _ _ _ h
  have R171 : ∀ (x2 : Int32) (x3 : Int32) (σ : Sg), f_X8_count_171 x1 L80 L115 L126 L171 Po x2 x3 σ → L171 x2 x3 σ := by
    intro x2 x3 σ h
    unfold f_X8_count_171 at h
    refine Eq.mpr (gl171 _ _ _) ?_
    refine ok_iload_n C 2 dX8_count_171 rfl rfl ?_
    refine ok_aload_n C 0 dX8_count_172 rfl rfl ?_
    refine ok_getI C (ci := 8) hinX8 (kat hk kM_0) rfl 1 (by decide) W_6_127 (fun _ _ h => h) rfl dX8_count_173 ?_
    obtain ⟨h1, h2⟩ := h
    refine ok_icmp_ge C 194 dX8_count_176 rfl (fun c19 => ?_) (fun c19 => ?_)
    · have h := h1 c19
      refine ok_iload_n C 1 dX8_count_194 rfl rfl ?_
      exact ok_iret C rfl rfl dX8_count_195 h
    · have h := h2 c19
      refine ok_iload_n C 1 dX8_count_179 rfl rfl ?_
      refine ok_aload_n C 0 dX8_count_180 rfl rfl ?_
      refine ok_getR C (ci := 8) hinX8 (kat hk kM_0) rfl 12 (by decide) W_6_138 (fun _ _ h => h) rfl dX8_count_181 ?_
      refine ok_iload_n C 2 dX8_count_184 rfl rfl ?_
      obtain ⟨g18, h⟩ := h
      refine ok_iald C (kat hk kM_10) g18 dX8_count_185 ?_
      refine ok_iadd C dX8_count_186 ?_
      refine ok_istore_n C (L2 := [(2, .int (x2 + (σ.1 10 x3.toNatClampNeg))), (0, .ref (Ω.2.2.1 0)), (3, .int x3)]) dX8_count_187 rfl (by decide) rfl ?_
      refine ok_iinc C (v := x3 + 1) (L2 := [(3, .int (x3 + 1)), (2, .int (x2 + (σ.1 10 x3.toNatClampNeg))), (0, .ref (Ω.2.2.1 0))]) 2 dX8_count_188 rfl rfl (by decide) rfl ?_
      refine ok_goto C 171 dX8_count_191 rfl ?_
      refine ok_sub [2, 1, 0] rfl ?_
      exact Eq.mp (gl171 _ _ _) h
  have h : f_X8_count_e x1 L80 L115 L126 L171 Po σ := hvc L80 L115 L126 L171 R80 R115 R126 R171
  unfold f_X8_count_e at h
  refine ok_sub (L2 := [(0, .ref (Ω.2.2.1 0)), (1, .int x1)]) [0, 1] rfl ?_
  refine ok_aload_n C 0 dX8_count_0 rfl rfl ?_
  refine ok_iconst C (v := 0) dX8_count_1 (by decide) ?_
  refine ok_putI C (ci := 8) hinX8 (kat hk kM_0) rfl 0 (by decide) W_6_126 (fun _ _ h => h) tyX8 tyX8_ok nmX8 rfl (by decide +kernel) rfl rfl rfl dX8_count_2 ?_
  refine ok_aload_n C 0 dX8_count_5 rfl rfl ?_
  refine ok_iload_n C 1 dX8_count_6 rfl rfl ?_
  refine ok_iconst C (v := 0) dX8_count_7 (by decide) ?_
  refine ok_iconst C (v := 5) dX8_count_8 (by decide) ?_
  refine ok_callSi C (As := [.int x1, .int 0, .int 5]) (rest := [.ref (Ω.2.2.1 0)]) (c_X8_in  _ _ _ _ _ h) W_7_12 W_7_13 W_7_14 W_1_28 hd_X8_in rfl ⟨Nat.le_of_ble_eq_true rfl, Nat.le_of_ble_eq_true rfl⟩ (Nat.le_of_ble_eq_true rfl) rfl dX8_count_9 (fun r1 u2 h => ?_)
  obtain ⟨h1, h2⟩ := h
  refine ok_if_ne C 19 dX8_count_12 rfl (fun c3 => ?_) (fun c3 => ?_)
  · have h := h1 c3
    refine ok_iconst C (v := 0) dX8_count_19 (by decide) ?_
    refine ok_sub [0, 1] rfl ?_
    exact J20 _ _ h
  · have h := h2 c3
    refine ok_iconst C (v := 1) dX8_count_15 (by decide) ?_
    refine ok_goto C 20 dX8_count_16 rfl ?_
    refine ok_sub [0, 1] rfl ?_
    exact J20 _ _ h
