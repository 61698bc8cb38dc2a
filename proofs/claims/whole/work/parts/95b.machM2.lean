set_option maxRecDepth 100000 in
set_option maxHeartbeats 4000000 in
theorem m_X8_isSelf {l : Launch} {Ω : Wm} (hk : Hk Ω kM)  (hv : ∀ (x1 : Int32) (x2 : Int32) (σ : Sg) (K : Int32 → Sg → Prop), sp_X8_isSelf x1 x2 σ K → vc_X8_isSelf x1 x2 σ K) : CT_X8_isSelf l Ω := by
  intro x1 x2 σ Po hsp
  have hvc := hv x1 x2 σ Po hsp
  refine Ct.of (by decide +kernel) (Nat.le_of_ble_eq_true rfl) (fun Γ C => ?_)
  obtain ⟨L2, gl2⟩ : ∃ L : Int32 → Sg → Prop, ∀ (x3 : Int32) (σ : Sg), L x3 σ = OK Γ Ω 4 2 [(0, .ref (Ω.2.2.1 0)), (2, .int x2), (3, .int x3)] [] σ := ⟨fun x3 σ => OK Γ Ω 4 2 [(0, .ref (Ω.2.2.1 0)), (2, .int x2), (3, .int x3)] [] σ, fun _ _ => rfl⟩
  have R2 : ∀ (x3 : Int32) (σ : Sg), f_X8_isSelf_2 x1 x2 L2 Po x3 σ → L2 x3 σ := by
    intro x3 σ h
    unfold f_X8_isSelf_2 at h
    refine Eq.mpr (gl2 _ _) ?_
    refine ok_iload_n C 2 dX8_isSelf_2 rfl rfl ?_
    obtain ⟨h1, h2⟩ := h
    refine ok_if_lt C 23 dX8_isSelf_3 rfl (fun c3 => ?_) (fun c3 => ?_)
    · have h := h1 c3
      refine ok_iconst C (v := 0) dX8_isSelf_23 (by decide) ?_
      exact ok_zret C rfl rfl (bz_n isZ_0) dX8_isSelf_24 h
    · have h := h2 c3
      refine ok_iload_n C 2 dX8_isSelf_6 rfl rfl ?_
      refine ok_iload_n C 1 dX8_isSelf_7 rfl rfl ?_
      obtain ⟨h1, h2⟩ := h
      refine ok_icmp_ne C 13 dX8_isSelf_8 rfl (fun c2 => ?_) (fun c2 => ?_)
      · have h := h1 c2
        refine ok_aload_n C 0 dX8_isSelf_13 rfl rfl ?_
        refine ok_getR C (ci := 8) hinX8 (kat hk kM_0) rfl 4 (by decide) W_6_130 (fun _ _ h => h) rfl dX8_isSelf_14 ?_
        refine ok_iload_n C 2 dX8_isSelf_17 rfl rfl ?_
        obtain ⟨g1, h⟩ := h
        refine ok_iald C (kat hk kM_2) g1 dX8_isSelf_18 ?_
        refine ok_istore_n C (L2 := [(3, .int (σ.1 2 x3.toNatClampNeg)), (0, .ref (Ω.2.2.1 0)), (2, .int x2)]) dX8_isSelf_19 rfl (by decide) rfl ?_
        refine ok_goto C 2 dX8_isSelf_20 rfl ?_
        refine ok_sub [1, 2, 0] rfl ?_
        exact Eq.mp (gl2 _ _) h
      · have h := h2 c2
        refine ok_iconst C (v := 1) dX8_isSelf_11 (by decide) ?_
        exact ok_zret C rfl rfl (bz_n isZ_1) dX8_isSelf_12 h
  have h : f_X8_isSelf_e x1 x2 L2 Po σ := hvc L2 R2
  unfold f_X8_isSelf_e at h
  refine ok_sub (L2 := [(0, .ref (Ω.2.2.1 0)), (1, .int x1), (2, .int x2)]) [0, 1, 2] rfl ?_
  refine ok_iload_n C 1 dX8_isSelf_0 rfl rfl ?_
  refine ok_istore_n C (L2 := [(3, .int x1), (0, .ref (Ω.2.2.1 0)), (1, .int x1), (2, .int x2)]) dX8_isSelf_1 rfl (by decide) rfl ?_
  refine ok_sub [1, 3, 0] rfl ?_
  exact Eq.mp (gl2 _ _) h
set_option maxRecDepth 100000 in
set_option maxHeartbeats 4000000 in
theorem m_X8_isFork {l : Launch} {Ω : Wm} (hk : Hk Ω kM) (c_X8_isSelf : CT_X8_isSelf l Ω) (hv : ∀ (x1 : Int32) (x2 : Int32) (σ : Sg) (K : Int32 → Sg → Prop), sp_X8_isFork x1 x2 σ K → vc_X8_isFork x1 x2 σ K) : CT_X8_isFork l Ω := by
  intro x1 x2 σ Po hsp
  have hvc := hv x1 x2 σ Po hsp
  refine Ct.of (by decide +kernel) (Nat.le_of_ble_eq_true rfl) (fun Γ C => ?_)
  have J43 : ∀ (s0 : Int32) (σ : Sg), f_X8_isFork_43 x1 x2 Po s0 σ → OK Γ Ω 3 43 [] [.int s0] σ := by
    intro s0 σ h
    unfold f_X8_isFork_43 at h
    obtain ⟨z11, h⟩ := h
    exact ok_zret C rfl rfl (bz_n z11) dX8_isFork_43 h
  have J42 : ∀  (σ : Sg), f_X8_isFork_42 x1 x2 Po  σ → OK Γ Ω 3 42 [] [] σ := by
    intro  σ h
    unfold f_X8_isFork_42 at h
    refine ok_iconst C (v := 0) dX8_isFork_42 (by decide) ?_
    refine ok_sub [] rfl ?_
    exact J43 _ _ h
  have h : f_X8_isFork_e x1 x2 Po σ := hvc  
  unfold f_X8_isFork_e at h
  refine ok_sub (L2 := [(0, .ref (Ω.2.2.1 0)), (1, .int x1), (2, .int x2)]) [0, 1, 2] rfl ?_
  refine ok_iload_n C 1 dX8_isFork_0 rfl rfl ?_
  refine ok_iload_n C 2 dX8_isFork_1 rfl rfl ?_
  obtain ⟨h1, h2⟩ := h
  refine ok_icmp_eq C 42 dX8_isFork_2 rfl (fun c10 => ?_) (fun c10 => ?_)
  · have h := h1 c10
    refine ok_sub [] rfl ?_
    exact J42  _ h
  · have h := h2 c10
    refine ok_aload_n C 0 dX8_isFork_5 rfl rfl ?_
    refine ok_getR C (ci := 8) hinX8 (kat hk kM_0) rfl 3 (by decide) W_6_129 (fun _ _ h => h) rfl dX8_isFork_6 ?_
    refine ok_iload_n C 1 dX8_isFork_9 rfl rfl ?_
    obtain ⟨g1, h⟩ := h
    refine ok_iald C (kat hk kM_1) g1 dX8_isFork_10 ?_
    refine ok_aload_n C 0 dX8_isFork_11 rfl rfl ?_
    refine ok_getR C (ci := 8) hinX8 (kat hk kM_0) rfl 3 (by decide) W_6_129 (fun _ _ h => h) rfl dX8_isFork_12 ?_
    refine ok_iload_n C 2 dX8_isFork_15 rfl rfl ?_
    obtain ⟨g2, h⟩ := h
    refine ok_iald C (kat hk kM_1) g2 dX8_isFork_16 ?_
    obtain ⟨h1, h2⟩ := h
    refine ok_icmp_ne C 42 dX8_isFork_17 rfl (fun c9 => ?_) (fun c9 => ?_)
    · have h := h1 c9
      refine ok_sub [] rfl ?_
      exact J42  _ h
    · have h := h2 c9
      refine ok_aload_n C 0 dX8_isFork_20 rfl rfl ?_
      refine ok_iload_n C 1 dX8_isFork_21 rfl rfl ?_
      refine ok_iload_n C 2 dX8_isFork_22 rfl rfl ?_
      refine ok_callVi C (As := [.int x1, .int x2]) (rest := []) (q := 0) (ci := 8) (kat hk kM_0) rfl (c_X8_isSelf  _ _ _ _ h) W_6_109 W_6_111 W_0_48 W_6_112 W_1_28 hd_X8_isSelf rfl ⟨Nat.le_of_ble_eq_true rfl, Nat.le_of_ble_eq_true rfl⟩ (Nat.le_of_ble_eq_true rfl) rfl dX8_isFork_23 (fun r3 u4 h => ?_)
      obtain ⟨h1, h2⟩ := h
      refine ok_if_ne C 42 dX8_isFork_26 rfl (fun c8 => ?_) (fun c8 => ?_)
      · have h := h1 c8
        refine ok_sub [] rfl ?_
        exact J42  _ h
      · have h := h2 c8
        refine ok_aload_n C 0 dX8_isFork_29 rfl rfl ?_
        refine ok_iload_n C 2 dX8_isFork_30 rfl rfl ?_
        refine ok_iload_n C 1 dX8_isFork_31 rfl rfl ?_
        refine ok_callVi C (As := [.int x2, .int x1]) (rest := []) (q := 0) (ci := 8) (kat hk kM_0) rfl (c_X8_isSelf  _ _ _ _ h) W_6_109 W_6_111 W_0_48 W_6_112 W_1_28 hd_X8_isSelf rfl ⟨Nat.le_of_ble_eq_true rfl, Nat.le_of_ble_eq_true rfl⟩ (Nat.le_of_ble_eq_true rfl) rfl dX8_isFork_32 (fun r5 u6 h => ?_)
        obtain ⟨h1, h2⟩ := h
        refine ok_if_ne C 42 dX8_isFork_35 rfl (fun c7 => ?_) (fun c7 => ?_)
        · have h := h1 c7
          refine ok_sub [] rfl ?_
          exact J42  _ h
        · have h := h2 c7
          refine ok_iconst C (v := 1) dX8_isFork_38 (by decide) ?_
          refine ok_goto C 43 dX8_isFork_39 rfl ?_
          refine ok_sub [] rfl ?_
          exact J43 _ _ h
set_option maxRecDepth 100000 in
set_option maxHeartbeats 4000000 in
theorem m_X8_isForked {l : Launch} {Ω : Wm} (hk : Hk Ω kM) (c_X8_isFork : CT_X8_isFork l Ω) (hv : ∀ (x1 : Int32) (x2 : Int32) (σ : Sg) (K : Int32 → Sg → Prop), sp_X8_isForked x1 x2 σ K → vc_X8_isForked x1 x2 σ K) : CT_X8_isForked l Ω := by
  intro x1 x2 σ Po hsp
  have hvc := hv x1 x2 σ Po hsp
  refine Ct.of (by decide +kernel) (Nat.le_of_ble_eq_true rfl) (fun Γ C => ?_)
  obtain ⟨L2, gl2⟩ : ∃ L : Int32 → Sg → Prop, ∀ (x3 : Int32) (σ : Sg), L x3 σ = OK Γ Ω 5 2 [(0, .ref (Ω.2.2.1 0)), (1, .int x1), (2, .int x2), (3, .int x3)] [] σ := ⟨fun x3 σ => OK Γ Ω 5 2 [(0, .ref (Ω.2.2.1 0)), (1, .int x1), (2, .int x2), (3, .int x3)] [] σ, fun _ _ => rfl⟩
  obtain ⟨L38, gl38⟩ : ∃ L : Int32 → Int32 → Sg → Prop, ∀ (x3 : Int32) (x4 : Int32) (σ : Sg), L x3 x4 σ = OK Γ Ω 5 38 [(0, .ref (Ω.2.2.1 0)), (1, .int x1), (2, .int x2), (3, .int x3), (4, .int x4)] [] σ := ⟨fun x3 x4 σ => OK Γ Ω 5 38 [(0, .ref (Ω.2.2.1 0)), (1, .int x1), (2, .int x2), (3, .int x3), (4, .int x4)] [] σ, fun _ _ _ => rfl⟩
  have J89 : ∀ (x3 : Int32) (σ : Sg), f_X8_isForked_89 x1 x2 L2 L38 Po x3 σ → OK Γ Ω 5 89 [(0, .ref (Ω.2.2.1 0)), (1, .int x1), (2, .int x2), (3, .int x3)] [] σ := by
    intro x3 σ h
    unfold f_X8_isForked_89 at h
    refine ok_iinc C (v := x3 + 1) (L2 := [(3, .int (x3 + 1)), (0, .ref (Ω.2.2.1 0)), (1, .int x1), (2, .int x2)]) 3 dX8_isForked_89 rfl rfl (by decide) rfl ?_
    refine ok_goto C 2 dX8_isForked_92 rfl ?_
    refine ok_sub [1, 2, 3, 0] rfl ?_
    exact Eq.mp (gl2 _ _) h
  have J83 : ∀ (x3 : Int32) (x4 : Int32) (σ : Sg), f_X8_isForked_83 x1 x2 L2 L38 Po x3 x4 σ → OK Γ Ω 5 83 [(0, .ref (Ω.2.2.1 0)), (1, .int x1), (2, .int x2), (3, .int x3), (4, .int x4)] [] σ := by
    intro x3 x4 σ h
    unfold f_X8_isForked_83 at h
    refine ok_iinc C (v := x4 + 1) (L2 := [(4, .int (x4 + 1)), (0, .ref (Ω.2.2.1 0)), (1, .int x1), (2, .int x2), (3, .int x3)]) 4 dX8_isForked_83 rfl rfl (by decide) rfl ?_
    refine ok_goto C 38 dX8_isForked_86 rfl ?_
    refine ok_sub [1, 2, 3, 4, 0] rfl ?_
    exact Eq.mp (gl38 _ _ _) h
  have R2 : ∀ (x3 : Int32) (σ : Sg), f_X8_isForked_2 x1 x2 L2 L38 Po x3 σ → L2 x3 σ := by
    intro x3 σ h
    unfold f_X8_isForked_2 at h
    refine Eq.mpr (gl2 _ _) ?_
    refine ok_iload_n C 3 dX8_isForked_2 rfl rfl ?_
    refine ok_iload_n C 1 dX8_isForked_3 rfl rfl ?_
    obtain ⟨h1, h2⟩ := h
    refine ok_icmp_gt C 95 dX8_isForked_4 rfl (fun c5 => ?_) (fun c5 => ?_)
    · have h := h1 c5
      refine ok_iconst C (v := 0) dX8_isForked_95 (by decide) ?_
      exact ok_zret C rfl rfl (bz_n isZ_0) dX8_isForked_96 h
    · have h := h2 c5
      refine ok_aload_n C 0 dX8_isForked_7 rfl rfl ?_
      refine ok_getR C (ci := 8) hinX8 (kat hk kM_0) rfl 3 (by decide) W_6_129 (fun _ _ h => h) rfl dX8_isForked_8 ?_
      refine ok_iload_n C 3 dX8_isForked_11 rfl rfl ?_
      obtain ⟨g1, h⟩ := h
      refine ok_iald C (kat hk kM_1) g1 dX8_isForked_12 ?_
      refine ok_iload_n C 2 dX8_isForked_13 rfl rfl ?_
      obtain ⟨h1, h2⟩ := h
      refine ok_icmp_ne C 89 dX8_isForked_14 rfl (fun c4 => ?_) (fun c4 => ?_)
      · have h := h1 c4
        refine ok_sub [0, 1, 2, 3] rfl ?_
        exact J89 _ _ h
      · have h := h2 c4
        refine ok_aload_n C 0 dX8_isForked_17 rfl rfl ?_
        refine ok_getR C (ci := 8) hinX8 (kat hk kM_0) rfl 16 (by decide) W_6_142 (fun _ _ h => h) rfl dX8_isForked_18 ?_
        refine ok_sipush C (v := 240) dX8_isForked_21 (by decide) ?_
        refine ok_iload_n C 1 dX8_isForked_24 rfl rfl ?_
        refine ok_imul C dX8_isForked_25 ?_
        refine ok_iload_n C 3 dX8_isForked_26 rfl rfl ?_
        refine ok_iadd C dX8_isForked_27 ?_
        obtain ⟨g2, h⟩ := h
        refine ok_zald C (kat hk kM_14) g2 dX8_isForked_28 ?_
        obtain ⟨h1, h2⟩ := h
        refine ok_if_ne C 35 dX8_isForked_29 rfl (fun c3 => ?_) (fun c3 => ?_)
        · have h := h1 c3
          refine ok_iconst C (v := 0) dX8_isForked_35 (by decide) ?_
          refine ok_istore C (L2 := [(4, .int 0), (0, .ref (Ω.2.2.1 0)), (1, .int x1), (2, .int x2), (3, .int x3)]) dX8_isForked_36 (by decide) rfl ?_
          refine ok_sub [1, 2, 3, 4, 0] rfl ?_
          exact Eq.mp (gl38 _ _ _) h
        · have h := h2 c3
          refine ok_goto C 89 dX8_isForked_32 rfl ?_
          refine ok_sub [0, 1, 2, 3] rfl ?_
          exact J89 _ _ h
  have R38 : ∀ (x3 : Int32) (x4 : Int32) (σ : Sg), f_X8_isForked_38 x1 x2 L2 L38 Po x3 x4 σ → L38 x3 x4 σ := by
    intro x3 x4 σ h
    unfold f_X8_isForked_38 at h
    refine Eq.mpr (gl38 _ _ _) ?_
    refine ok_iload C 4 dX8_isForked_38 rfl ?_
    refine ok_iload_n C 3 dX8_isForked_40 rfl rfl ?_
    obtain ⟨h1, h2⟩ := h
    refine ok_icmp_ge C 89 dX8_isForked_41 rfl (fun c13 => ?_) (fun c13 => ?_)
    · have h := h1 c13
      refine ok_sub [0, 1, 2, 3] rfl ?_
      exact J89 _ _ h
    · have h := h2 c13
      refine ok_aload_n C 0 dX8_isForked_44 rfl rfl ?_
      refine ok_getR C (ci := 8) hinX8 (kat hk kM_0) rfl 3 (by decide) W_6_129 (fun _ _ h => h) rfl dX8_isForked_45 ?_
      refine ok_iload C 4 dX8_isForked_48 rfl ?_
      obtain ⟨g6, h⟩ := h
      refine ok_iald C (kat hk kM_1) g6 dX8_isForked_50 ?_
      refine ok_iload_n C 2 dX8_isForked_51 rfl rfl ?_
      obtain ⟨h1, h2⟩ := h
      refine ok_icmp_ne C 83 dX8_isForked_52 rfl (fun c12 => ?_) (fun c12 => ?_)
      · have h := h1 c12
        refine ok_sub [0, 1, 2, 3, 4] rfl ?_
        exact J83 _ _ _ h
      · have h := h2 c12
        refine ok_aload_n C 0 dX8_isForked_55 rfl rfl ?_
        refine ok_getR C (ci := 8) hinX8 (kat hk kM_0) rfl 16 (by decide) W_6_142 (fun _ _ h => h) rfl dX8_isForked_56 ?_
        refine ok_sipush C (v := 240) dX8_isForked_59 (by decide) ?_
        refine ok_iload_n C 1 dX8_isForked_62 rfl rfl ?_
        refine ok_imul C dX8_isForked_63 ?_
        refine ok_iload C 4 dX8_isForked_64 rfl ?_
        refine ok_iadd C dX8_isForked_66 ?_
        obtain ⟨g7, h⟩ := h
        refine ok_zald C (kat hk kM_14) g7 dX8_isForked_67 ?_
        obtain ⟨h1, h2⟩ := h
        refine ok_if_eq C 83 dX8_isForked_68 rfl (fun c11 => ?_) (fun c11 => ?_)
        · have h := h1 c11
          refine ok_sub [0, 1, 2, 3, 4] rfl ?_
          exact J83 _ _ _ h
        · have h := h2 c11
          refine ok_aload_n C 0 dX8_isForked_71 rfl rfl ?_
          refine ok_iload_n C 3 dX8_isForked_72 rfl rfl ?_
          refine ok_iload C 4 dX8_isForked_73 rfl ?_
          refine ok_callVi C (As := [.int x3, .int x4]) (rest := []) (q := 0) (ci := 8) (kat hk kM_0) rfl (c_X8_isFork  _ _ _ _ h) W_6_105 W_6_107 W_0_47 W_6_108 W_1_28 hd_X8_isFork rfl ⟨Nat.le_of_ble_eq_true rfl, Nat.le_of_ble_eq_true rfl⟩ (Nat.le_of_ble_eq_true rfl) rfl dX8_isForked_75 (fun r8 u9 h => ?_)
          obtain ⟨h1, h2⟩ := h
          refine ok_if_eq C 83 dX8_isForked_78 rfl (fun c10 => ?_) (fun c10 => ?_)
          · have h := h1 c10
            refine ok_sub [0, 1, 2, 3, 4] rfl ?_
            exact J83 _ _ _ h
          · have h := h2 c10
            refine ok_iconst C (v := 1) dX8_isForked_81 (by decide) ?_
            exact ok_zret C rfl rfl (bz_n isZ_1) dX8_isForked_82 h
  have h : f_X8_isForked_e x1 x2 L2 L38 Po σ := hvc L2 L38 R2 R38
  unfold f_X8_isForked_e at h
  refine ok_sub (L2 := [(0, .ref (Ω.2.2.1 0)), (1, .int x1), (2, .int x2)]) [0, 1, 2] rfl ?_
  refine ok_iconst C (v := 0) dX8_isForked_0 (by decide) ?_
  refine ok_istore_n C (L2 := [(3, .int 0), (0, .ref (Ω.2.2.1 0)), (1, .int x1), (2, .int x2)]) dX8_isForked_1 rfl (by decide) rfl ?_
  refine ok_sub [1, 2, 3, 0] rfl ?_
  exact Eq.mp (gl2 _ _) h
set_option maxRecDepth 100000 in
set_option maxHeartbeats 4000000 in
theorem m_X8_isMost {l : Launch} {Ω : Wm} (hk : Hk Ω kM)  (hv : ∀ (x1 : Int32) (σ : Sg) (K : Int32 → Sg → Prop), sp_X8_isMost x1 σ K → vc_X8_isMost x1 σ K) : CT_X8_isMost l Ω := by
  intro x1 σ Po hsp
  have hvc := hv x1 σ Po hsp
  refine Ct.of (by decide +kernel) (Nat.le_of_ble_eq_true rfl) (fun Γ C => ?_)
  have J17 : ∀ (s0 : Int32) (σ : Sg), f_X8_isMost_17 x1 Po s0 σ → OK Γ Ω 2 17 [] [.int s0] σ := by
    intro s0 σ h
    unfold f_X8_isMost_17 at h
    obtain ⟨z2, h⟩ := h
    exact ok_zret C rfl rfl (bz_n z2) dX8_isMost_17 h
  have h : f_X8_isMost_e x1 Po σ := hvc  
  unfold f_X8_isMost_e at h
  refine ok_sub (L2 := [(0, .ref (Ω.2.2.1 0)), (1, .int x1)]) [0, 1] rfl ?_
  refine ok_iconst C (v := 3) dX8_isMost_0 (by decide) ?_
  refine ok_iload_n C 1 dX8_isMost_1 rfl rfl ?_
  refine ok_imul C dX8_isMost_2 ?_
  refine ok_iconst C (v := 2) dX8_isMost_3 (by decide) ?_
  refine ok_aload_n C 0 dX8_isMost_4 rfl rfl ?_
  refine ok_getI C (ci := 8) hinX8 (kat hk kM_0) rfl 1 (by decide) W_6_127 (fun _ _ h => h) rfl dX8_isMost_5 ?_
  refine ok_imul C dX8_isMost_8 ?_
  obtain ⟨h1, h2⟩ := h
  refine ok_icmp_le C 16 dX8_isMost_9 rfl (fun c1 => ?_) (fun c1 => ?_)
  · have h := h1 c1
    refine ok_iconst C (v := 0) dX8_isMost_16 (by decide) ?_
    refine ok_sub [] rfl ?_
    exact J17 _ _ h
  · have h := h2 c1
    refine ok_iconst C (v := 1) dX8_isMost_12 (by decide) ?_
    refine ok_goto C 17 dX8_isMost_13 rfl ?_
    refine ok_sub [] rfl ?_
    exact J17 _ _ h
set_option maxRecDepth 100000 in
set_option maxHeartbeats 4000000 in
theorem m_X8_sees {l : Launch} {Ω : Wm} (hk : Hk Ω kM)  (hv : ∀ (x1 : Int32) (x2 : Int32) (σ : Sg) (K : Int32 → Sg → Prop), sp_X8_sees x1 x2 σ K → vc_X8_sees x1 x2 σ K) : CT_X8_sees l Ω := by
  intro x1 x2 σ Po hsp
  have hvc := hv x1 x2 σ Po hsp
  refine Ct.of (by decide +kernel) (Nat.le_of_ble_eq_true rfl) (fun Γ C => ?_)
  have J39 : ∀ (s0 : Int32) (σ : Sg), f_X8_sees_39 x1 x2 Po s0 σ → OK Γ Ω 3 39 [] [.int s0] σ := by
    intro s0 σ h
    unfold f_X8_sees_39 at h
    obtain ⟨z6, h⟩ := h
    exact ok_zret C rfl rfl (bz_n z6) dX8_sees_39 h
  have J38 : ∀  (σ : Sg), f_X8_sees_38 x1 x2 Po  σ → OK Γ Ω 3 38 [] [] σ := by
    intro  σ h
    unfold f_X8_sees_38 at h
    refine ok_iconst C (v := 0) dX8_sees_38 (by decide) ?_
    refine ok_sub [] rfl ?_
    exact J39 _ _ h
  have h : f_X8_sees_e x1 x2 Po σ := hvc  
  unfold f_X8_sees_e at h
  refine ok_sub (L2 := [(0, .ref (Ω.2.2.1 0)), (1, .int x1), (2, .int x2)]) [0, 1, 2] rfl ?_
  refine ok_aload_n C 0 dX8_sees_0 rfl rfl ?_
  refine ok_getR C (ci := 8) hinX8 (kat hk kM_0) rfl 16 (by decide) W_6_142 (fun _ _ h => h) rfl dX8_sees_1 ?_
  refine ok_sipush C (v := 240) dX8_sees_4 (by decide) ?_
  refine ok_iload_n C 1 dX8_sees_7 rfl rfl ?_
  refine ok_imul C dX8_sees_8 ?_
  refine ok_iload_n C 2 dX8_sees_9 rfl rfl ?_
  refine ok_iadd C dX8_sees_10 ?_
  obtain ⟨g1, h⟩ := h
  refine ok_zald C (kat hk kM_14) g1 dX8_sees_11 ?_
  obtain ⟨h1, h2⟩ := h
  refine ok_if_eq C 38 dX8_sees_12 rfl (fun c5 => ?_) (fun c5 => ?_)
  · have h := h1 c5
    refine ok_sub [] rfl ?_
    exact J38  _ h
  · have h := h2 c5
    refine ok_aload_n C 0 dX8_sees_15 rfl rfl ?_
    refine ok_getR C (ci := 8) hinX8 (kat hk kM_0) rfl 18 (by decide) W_6_144 (fun _ _ h => h) rfl dX8_sees_16 ?_
    refine ok_bipush C (v := 8) dX8_sees_19 (by decide) ?_
    refine ok_iload_n C 1 dX8_sees_21 rfl rfl ?_
    refine ok_imul C dX8_sees_22 ?_
    refine ok_aload_n C 0 dX8_sees_23 rfl rfl ?_
    refine ok_getR C (ci := 8) hinX8 (kat hk kM_0) rfl 3 (by decide) W_6_129 (fun _ _ h => h) rfl dX8_sees_24 ?_
    refine ok_iload_n C 2 dX8_sees_27 rfl rfl ?_
    obtain ⟨g2, h⟩ := h
    refine ok_iald C (kat hk kM_1) g2 dX8_sees_28 ?_
    refine ok_iadd C dX8_sees_29 ?_
    obtain ⟨g3, h⟩ := h
    refine ok_zald C (kat hk kM_16) g3 dX8_sees_30 ?_
    obtain ⟨h1, h2⟩ := h
    refine ok_if_ne C 38 dX8_sees_31 rfl (fun c4 => ?_) (fun c4 => ?_)
    · have h := h1 c4
      refine ok_sub [] rfl ?_
      exact J38  _ h
    · have h := h2 c4
      refine ok_iconst C (v := 1) dX8_sees_34 (by decide) ?_
      refine ok_goto C 39 dX8_sees_35 rfl ?_
      refine ok_sub [] rfl ?_
      exact J39 _ _ h
set_option maxRecDepth 100000 in
set_option maxHeartbeats 4000000 in
theorem m_X8_strongly {l : Launch} {Ω : Wm} (hk : Hk Ω kM) (c_X8_isMost : CT_X8_isMost l Ω) (c_X8_sees : CT_X8_sees l Ω) (c_J6_bitCount_0f7a4 : CT_J6_bitCount_0f7a4 l Ω) (hv : ∀ (x1 : Int32) (x2 : Int32) (σ : Sg) (K : Int32 → Sg → Prop), sp_X8_strongly x1 x2 σ K → vc_X8_strongly x1 x2 σ K) : CT_X8_strongly l Ω := by
  intro x1 x2 σ Po hsp
  have hvc := hv x1 x2 σ Po hsp
  refine Ct.of (by decide +kernel) (Nat.le_of_ble_eq_true rfl) (fun Γ C => ?_)
  obtain ⟨L23, gl23⟩ : ∃ L : Int32 → Int32 → Int32 → Sg → Prop, ∀ (x3 : Int32) (x4 : Int32) (x5 : Int32) (σ : Sg), L x3 x4 x5 σ = OK Γ Ω 6 23 [(0, .ref (Ω.2.2.1 0)), (1, .int x1), (2, .int x2), (3, .int x3), (4, .int x4), (5, .int x5)] [] σ := ⟨fun x3 x4 x5 σ => OK Γ Ω 6 23 [(0, .ref (Ω.2.2.1 0)), (1, .int x1), (2, .int x2), (3, .int x3), (4, .int x4), (5, .int x5)] [] σ, fun _ _ _ _ => rfl⟩
  have J114 : ∀ (s0 : Int32) (σ : Sg), f_X8_strongly_114 x1 x2 L23 Po s0 σ → OK Γ Ω 6 114 [] [.int s0] σ := by
    intro s0 σ h
    unfold f_X8_strongly_114 at h
    obtain ⟨z20, h⟩ := h
    exact ok_zret C rfl rfl (bz_n z20) dX8_strongly_114 h
  have J99 : ∀ (x3 : Int32) (σ : Sg), f_X8_strongly_99 x1 x2 L23 Po x3 σ → OK Γ Ω 6 99 [(0, .ref (Ω.2.2.1 0)), (3, .int x3)] [] σ := by
    intro x3 σ h
    unfold f_X8_strongly_99 at h
    refine ok_aload_n C 0 dX8_strongly_99 rfl rfl ?_
    refine ok_getR C (ci := 8) hinX8 (kat hk kM_0) rfl 20 (by decide) W_6_146 (fun _ _ h => h) rfl dX8_strongly_100 ?_
    refine ok_iload_n C 1 dX8_strongly_103 rfl rfl ?_
    obtain ⟨g18, h⟩ := h
    refine ok_bald C (kat hk kM_18) g18 dX8_strongly_104 ?_
    refine ok_iconst C (v := 2) dX8_strongly_105 (by decide) ?_
    obtain ⟨h1, h2⟩ := h
    refine ok_icmp_ne C 113 dX8_strongly_106 rfl (fun c19 => ?_) (fun c19 => ?_)
    · have h := h1 c19
      refine ok_iconst C (v := 0) dX8_strongly_113 (by decide) ?_
      refine ok_sub [] rfl ?_
      exact J114 _ _ h
    · have h := h2 c19
      refine ok_iconst C (v := 1) dX8_strongly_109 (by decide) ?_
      refine ok_goto C 114 dX8_strongly_110 rfl ?_
      refine ok_sub [] rfl ?_
      exact J114 _ _ h
  have J97 : ∀ (x3 : Int32) (s0 : Int32) (s1 : Int32) (σ : Sg), f_X8_strongly_97 x1 x2 L23 Po x3 s0 s1 σ → OK Γ Ω 6 97 [(0, .ref (Ω.2.2.1 0)), (3, .int x3)] [.int s0, .int s1, .ref (Ω.2.2.1 18)] σ := by
    intro x3 s0 s1 σ h
    unfold f_X8_strongly_97 at h
    refine ok_i2b C dX8_strongly_97 ?_
    obtain ⟨g17, h⟩ := h
    refine ok_bast C (kat hk kM_18) g17 dX8_strongly_98 ?_
    refine ok_sub [0, 1] rfl ?_
    exact J99 _ _ h
  have J69 : ∀ (x3 : Int32) (x4 : Int32) (x5 : Int32) (σ : Sg), f_X8_strongly_69 x1 x2 L23 Po x3 x4 x5 σ → OK Γ Ω 6 69 [(0, .ref (Ω.2.2.1 0)), (1, .int x1), (2, .int x2), (3, .int x3), (4, .int x4), (5, .int x5)] [] σ := by
    intro x3 x4 x5 σ h
    unfold f_X8_strongly_69 at h
    refine ok_iinc C (v := x5 + 1) (L2 := [(5, .int (x5 + 1)), (0, .ref (Ω.2.2.1 0)), (1, .int x1), (2, .int x2), (3, .int x3), (4, .int x4)]) 5 dX8_strongly_69 rfl rfl (by decide) rfl ?_
    refine ok_goto C 23 dX8_strongly_72 rfl ?_
    refine ok_sub [1, 2, 3, 4, 5, 0] rfl ?_
    exact Eq.mp (gl23 _ _ _ _) h
  have R23 : ∀ (x3 : Int32) (x4 : Int32) (x5 : Int32) (σ : Sg), f_X8_strongly_23 x1 x2 L23 Po x3 x4 x5 σ → L23 x3 x4 x5 σ := by
    intro x3 x4 x5 σ h
    unfold f_X8_strongly_23 at h
    refine Eq.mpr (gl23 _ _ _ _) ?_
    refine ok_iload C 5 dX8_strongly_23 rfl ?_
    refine ok_iload_n C 1 dX8_strongly_25 rfl rfl ?_
    obtain ⟨h1, h2⟩ := h
    refine ok_icmp_gt C 75 dX8_strongly_26 rfl (fun c16 => ?_) (fun c16 => ?_)
    · have h := h1 c16
      refine ok_aload_n C 0 dX8_strongly_75 rfl rfl ?_
      refine ok_getR C (ci := 8) hinX8 (kat hk kM_0) rfl 20 (by decide) W_6_146 (fun _ _ h => h) rfl dX8_strongly_76 ?_
      refine ok_iload_n C 3 dX8_strongly_79 rfl rfl ?_
      refine ok_aload_n C 0 dX8_strongly_80 rfl rfl ?_
      refine ok_iload C 4 dX8_strongly_81 rfl ?_
      refine ok_callSi C (As := [.int x4]) (rest := [.ref (Ω.2.2.1 0), .int x3, .ref (Ω.2.2.1 18)]) (c_J6_bitCount_0f7a4  _ _ _ h) W_6_121 W_4_110 W_4_111 W_1_24 hd_J6_bitCount_0f7a4 rfl ⟨Nat.le_of_ble_eq_true rfl, Nat.le_of_ble_eq_true rfl⟩ (Nat.le_of_ble_eq_true rfl) rfl dX8_strongly_83 (fun r3 u4 h => ?_)
      refine ok_callVi C (As := [.int r3]) (rest := [.int x3, .ref (Ω.2.2.1 18)]) (q := 0) (ci := 8) (kat hk kM_0) rfl (c_X8_isMost  _ _ _ h) W_6_122 W_6_124 W_0_51 W_6_125 W_1_28 hd_X8_isMost rfl ⟨Nat.le_of_ble_eq_true rfl, Nat.le_of_ble_eq_true rfl⟩ (Nat.le_of_ble_eq_true rfl) rfl dX8_strongly_86 (fun r5 u6 h => ?_)
      obtain ⟨h1, h2⟩ := h
      refine ok_if_eq C 96 dX8_strongly_89 rfl (fun c7 => ?_) (fun c7 => ?_)
      · have h := h1 c7
        refine ok_iconst C (v := 1) dX8_strongly_96 (by decide) ?_
        refine ok_sub [0, 3] rfl ?_
        exact J97 _ _ _ _ h
      · have h := h2 c7
        refine ok_iconst C (v := 2) dX8_strongly_92 (by decide) ?_
        refine ok_goto C 97 dX8_strongly_93 rfl ?_
        refine ok_sub [0, 3] rfl ?_
        exact J97 _ _ _ _ h
    · have h := h2 c16
      refine ok_aload_n C 0 dX8_strongly_29 rfl rfl ?_
      refine ok_iload_n C 1 dX8_strongly_30 rfl rfl ?_
      refine ok_iload C 5 dX8_strongly_31 rfl ?_
      refine ok_callVi C (As := [.int x1, .int x5]) (rest := []) (q := 0) (ci := 8) (kat hk kM_0) rfl (c_X8_sees  _ _ _ _ h) W_6_117 W_6_119 W_0_50 W_6_120 W_1_28 hd_X8_sees rfl ⟨Nat.le_of_ble_eq_true rfl, Nat.le_of_ble_eq_true rfl⟩ (Nat.le_of_ble_eq_true rfl) rfl dX8_strongly_33 (fun r8 u9 h => ?_)
      obtain ⟨h1, h2⟩ := h
      refine ok_if_eq C 69 dX8_strongly_36 rfl (fun c15 => ?_) (fun c15 => ?_)
      · have h := h1 c15
        refine ok_sub [0, 1, 2, 3, 4, 5] rfl ?_
        exact J69 _ _ _ _ h
      · have h := h2 c15
        refine ok_iload C 5 dX8_strongly_39 rfl ?_
        refine ok_iload_n C 2 dX8_strongly_41 rfl rfl ?_
        obtain ⟨h1, h2⟩ := h
        refine ok_icmp_lt C 69 dX8_strongly_42 rfl (fun c14 => ?_) (fun c14 => ?_)
        · have h := h1 c14
          refine ok_sub [0, 1, 2, 3, 4, 5] rfl ?_
          exact J69 _ _ _ _ h
        · have h := h2 c14
          refine ok_aload_n C 0 dX8_strongly_45 rfl rfl ?_
          refine ok_iload C 5 dX8_strongly_46 rfl ?_
          refine ok_iload_n C 2 dX8_strongly_48 rfl rfl ?_
          refine ok_callVi C (As := [.int x5, .int x2]) (rest := []) (q := 0) (ci := 8) (kat hk kM_0) rfl (c_X8_sees  _ _ _ _ h) W_6_117 W_6_119 W_0_50 W_6_120 W_1_28 hd_X8_sees rfl ⟨Nat.le_of_ble_eq_true rfl, Nat.le_of_ble_eq_true rfl⟩ (Nat.le_of_ble_eq_true rfl) rfl dX8_strongly_49 (fun r10 u11 h => ?_)
          obtain ⟨h1, h2⟩ := h
          refine ok_if_eq C 69 dX8_strongly_52 rfl (fun c13 => ?_) (fun c13 => ?_)
          · have h := h1 c13
            refine ok_sub [0, 1, 2, 3, 4, 5] rfl ?_
            exact J69 _ _ _ _ h
          · have h := h2 c13
            refine ok_iload C 4 dX8_strongly_55 rfl ?_
            refine ok_iconst C (v := 1) dX8_strongly_57 (by decide) ?_
            refine ok_aload_n C 0 dX8_strongly_58 rfl rfl ?_
            refine ok_getR C (ci := 8) hinX8 (kat hk kM_0) rfl 3 (by decide) W_6_129 (fun _ _ h => h) rfl dX8_strongly_59 ?_
            refine ok_iload C 5 dX8_strongly_62 rfl ?_
            obtain ⟨g12, h⟩ := h
            refine ok_iald C (kat hk kM_1) g12 dX8_strongly_64 ?_
            refine ok_ishl C dX8_strongly_65 ?_
            refine ok_ior C dX8_strongly_66 ?_
            refine ok_istore C (L2 := [(4, .int (x4 ||| (ishl 1 (u11.1 1 x5.toNatClampNeg)))), (0, .ref (Ω.2.2.1 0)), (1, .int x1), (2, .int x2), (3, .int x3), (5, .int x5)]) dX8_strongly_67 (by decide) rfl ?_
            refine ok_sub [1, 2, 3, 4, 0, 5] rfl ?_
            exact J69 _ _ _ _ h
  have h : f_X8_strongly_e x1 x2 L23 Po σ := hvc L23 R23
  unfold f_X8_strongly_e at h
  refine ok_sub (L2 := [(0, .ref (Ω.2.2.1 0)), (1, .int x1), (2, .int x2)]) [0, 1, 2] rfl ?_
  refine ok_sipush C (v := 240) dX8_strongly_0 (by decide) ?_
  refine ok_iload_n C 1 dX8_strongly_3 rfl rfl ?_
  refine ok_imul C dX8_strongly_4 ?_
  refine ok_iload_n C 2 dX8_strongly_5 rfl rfl ?_
  refine ok_iadd C dX8_strongly_6 ?_
  refine ok_istore_n C (L2 := [(3, .int ((240 * x1) + x2)), (0, .ref (Ω.2.2.1 0)), (1, .int x1), (2, .int x2)]) dX8_strongly_7 rfl (by decide) rfl ?_
  refine ok_aload_n C 1 dX8_strongly_8 rfl rfl ?_
  refine ok_getR C (ci := 8) hinX8 (kat hk kM_0) rfl 20 (by decide) W_6_146 (fun _ _ h => h) rfl dX8_strongly_9 ?_
  refine ok_iload_n C 0 dX8_strongly_12 rfl rfl ?_
  obtain ⟨g1, h⟩ := h
  refine ok_bald C (kat hk kM_18) g1 dX8_strongly_13 ?_
  obtain ⟨h1, h2⟩ := h
  refine ok_if_ne C 99 dX8_strongly_14 rfl (fun c2 => ?_) (fun c2 => ?_)
  · have h := h1 c2
    refine ok_sub [1, 0] rfl ?_
    exact J99 _ _ h
  · have h := h2 c2
    refine ok_iconst C (v := 0) dX8_strongly_17 (by decide) ?_
    refine ok_istore C (L2 := [(4, .int 0), (3, .int ((240 * x1) + x2)), (0, .ref (Ω.2.2.1 0)), (1, .int x1), (2, .int x2)]) dX8_strongly_18 (by decide) rfl ?_
    refine ok_iconst C (v := 0) dX8_strongly_20 (by decide) ?_
    refine ok_istore C (L2 := [(5, .int 0), (4, .int 0), (3, .int ((240 * x1) + x2)), (0, .ref (Ω.2.2.1 0)), (1, .int x1), (2, .int x2)]) dX8_strongly_21 (by decide) rfl ?_
    refine ok_sub [3, 4, 5, 2, 1, 0] rfl ?_
    exact Eq.mp (gl23 _ _ _ _) h
set_option maxRecDepth 100000 in
set_option maxHeartbeats 4000000 in
theorem m_X8_make {l : Launch} {Ω : Wm} (hk : Hk Ω kM) (c_X8_hash : CT_X8_hash l Ω) (c_X8_isForked : CT_X8_isForked l Ω) (c_X8_isMost : CT_X8_isMost l Ω) (c_X8_strongly : CT_X8_strongly l Ω) (c_J6_bitCount_0f7a4 : CT_J6_bitCount_0f7a4 l Ω) (hv : ∀ (x1 : Int32) (x2 : Int32) (x3 : Int32) (x4 : Int64) (σ : Sg) (K : Int32 → Sg → Prop), sp_X8_make x1 x2 x3 x4 σ K → vc_X8_make x1 x2 x3 x4 σ K) : CT_X8_make l Ω := by
  intro x1 x2 x3 x4 σ Po hsp
  have hvc := hv x1 x2 x3 x4 σ Po hsp
  refine Ct.of (by decide +kernel) (Nat.le_of_ble_eq_true rfl) (fun Γ C => ?_)
  obtain ⟨L67, gl67⟩ : ∃ L : Int32 → Int32 → Sg → Prop, ∀ (x6 : Int32) (x7 : Int32) (σ : Sg), L x6 x7 σ = OK Γ Ω 10 67 [(0, .ref (Ω.2.2.1 0)), (2, .int x2), (3, .int x3), (6, .int x6), (7, .int x7)] [] σ := ⟨fun x6 x7 σ => OK Γ Ω 10 67 [(0, .ref (Ω.2.2.1 0)), (2, .int x2), (3, .int x3), (6, .int x6), (7, .int x7)] [] σ, fun _ _ _ => rfl⟩
  obtain ⟨L157, gl157⟩ : ∃ L : Int32 → Int32 → Sg → Prop, ∀ (x6 : Int32) (x7 : Int32) (σ : Sg), L x6 x7 σ = OK Γ Ω 10 157 [(0, .ref (Ω.2.2.1 0)), (2, .int x2), (3, .int x3), (6, .int x6), (7, .int x7)] [] σ := ⟨fun x6 x7 σ => OK Γ Ω 10 157 [(0, .ref (Ω.2.2.1 0)), (2, .int x2), (3, .int x3), (6, .int x6), (7, .int x7)] [] σ, fun _ _ _ => rfl⟩
  obtain ⟨L242, gl242⟩ : ∃ L : Int32 → Int32 → Int32 → Int32 → Sg → Prop, ∀ (x6 : Int32) (x7 : Int32) (x8 : Int32) (x9 : Int32) (σ : Sg), L x6 x7 x8 x9 σ = OK Γ Ω 10 242 [(0, .ref (Ω.2.2.1 0)), (2, .int x2), (6, .int x6), (7, .int x7), (8, .int x8), (9, .int x9)] [] σ := ⟨fun x6 x7 x8 x9 σ => OK Γ Ω 10 242 [(0, .ref (Ω.2.2.1 0)), (2, .int x2), (6, .int x6), (7, .int x7), (8, .int x8), (9, .int x9)] [] σ, fun _ _ _ _ _ => rfl⟩
  have J352 : ∀ (x6 : Int32) (s0 : Int32) (s1 : Int32) (σ : Sg), f_X8_make_352 x1 x2 x3 x4 L67 L157 L242 Po x6 s0 s1 σ → OK Γ Ω 10 352 [(0, .ref (Ω.2.2.1 0)), (6, .int x6)] [.int s0, .int s1, .ref (Ω.2.2.1 17)] σ := by
    intro x6 s0 s1 σ h
    unfold f_X8_make_352 at h
    obtain ⟨g49, h⟩ := h
    obtain ⟨z50, h⟩ := h
    refine ok_zast C (kat hk kM_17) g49 dX8_make_352 (bz_s z50 ?_)
    refine ok_aload_n C 0 dX8_make_353 rfl rfl ?_
    refine ok_iconst C (v := (-1)) dX8_make_354 (by decide) ?_
    refine ok_putI C (ci := 8) hinX8 (kat hk kM_0) rfl 22 (by decide) W_6_148 (fun _ _ h => h) tyX8 tyX8_ok nmX8 rfl (by decide +kernel) rfl rfl rfl dX8_make_355 ?_
    refine ok_iload C 1 dX8_make_358 rfl ?_
    exact ok_iret C rfl rfl dX8_make_360 h
  have J347 : ∀ (x6 : Int32) (s0 : Int32) (σ : Sg), f_X8_make_347 x1 x2 x3 x4 L67 L157 L242 Po x6 s0 σ → OK Γ Ω 10 347 [(0, .ref (Ω.2.2.1 0)), (6, .int x6)] [.int s0, .ref (Ω.2.2.1 17)] σ := by
    intro x6 s0 σ h
    unfold f_X8_make_347 at h
    refine ok_iconst C (v := 1) dX8_make_347 (by decide) ?_
    refine ok_goto C 352 dX8_make_348 rfl ?_
    refine ok_sub [0, 1] rfl ?_
    exact J352 _ _ _ _ h
  have J317 : ∀ (x6 : Int32) (x7 : Int32) (σ : Sg), f_X8_make_317 x1 x2 x3 x4 L67 L157 L242 Po x6 x7 σ → OK Γ Ω 10 317 [(0, .ref (Ω.2.2.1 0)), (2, .int x2), (6, .int x6), (7, .int x7)] [] σ := by
    intro x6 x7 σ h
    unfold f_X8_make_317 at h
    refine ok_aload_n C 0 dX8_make_317 rfl rfl ?_
    refine ok_getR C (ci := 8) hinX8 (kat hk kM_0) rfl 9 (by decide) W_6_135 (fun _ _ h => h) rfl dX8_make_318 ?_
    refine ok_iload C 2 dX8_make_321 rfl ?_
    refine ok_iload C 3 dX8_make_323 rfl ?_
    obtain ⟨g45, h⟩ := h
    refine ok_iast C (kat hk kM_7) g45 dX8_make_325 ?_
    refine ok_aload_n C 0 dX8_make_326 rfl rfl ?_
    refine ok_getR C (ci := 8) hinX8 (kat hk kM_0) rfl 19 (by decide) W_6_145 (fun _ _ h => h) rfl dX8_make_327 ?_
    refine ok_iload C 2 dX8_make_330 rfl ?_
    refine ok_iload_n C 1 dX8_make_332 rfl rfl ?_
    obtain ⟨h1, h2⟩ := h
    refine ok_if_lt C 347 dX8_make_333 rfl (fun c48 => ?_) (fun c48 => ?_)
    · have h := h1 c48
      refine ok_sub [0, 2] rfl ?_
      exact J347 _ _ _ h
    · have h := h2 c48
      refine ok_aload_n C 0 dX8_make_336 rfl rfl ?_
      refine ok_getR C (ci := 8) hinX8 (kat hk kM_0) rfl 9 (by decide) W_6_135 (fun _ _ h => h) rfl dX8_make_337 ?_
      refine ok_iload_n C 1 dX8_make_340 rfl rfl ?_
      obtain ⟨g46, h⟩ := h
      refine ok_iald C (kat hk kM_7) g46 dX8_make_341 ?_
      refine ok_iload C 3 dX8_make_342 rfl ?_
      obtain ⟨h1, h2⟩ := h
      refine ok_icmp_ge C 351 dX8_make_344 rfl (fun c47 => ?_) (fun c47 => ?_)
      · have h := h1 c47
        refine ok_iconst C (v := 0) dX8_make_351 (by decide) ?_
        refine ok_sub [0, 2] rfl ?_
        exact J352 _ _ _ _ h
      · have h := h2 c47
        refine ok_sub [0, 2] rfl ?_
        exact J347 _ _ _ h
  have J296 : ∀ (x6 : Int32) (x7 : Int32) (x8 : Int32) (x9 : Int32) (σ : Sg), f_X8_make_296 x1 x2 x3 x4 L67 L157 L242 Po x6 x7 x8 x9 σ → OK Γ Ω 10 296 [(0, .ref (Ω.2.2.1 0)), (2, .int x2), (6, .int x6), (7, .int x7), (8, .int x8), (9, .int x9)] [] σ := by
    intro x6 x7 x8 x9 σ h
    unfold f_X8_make_296 at h
    refine ok_iinc C (v := x9 + 1) (L2 := [(9, .int (x9 + 1)), (0, .ref (Ω.2.2.1 0)), (2, .int x2), (6, .int x6), (7, .int x7), (8, .int x8)]) 5 dX8_make_296 rfl rfl (by decide) rfl ?_
    refine ok_goto C 242 dX8_make_299 rfl ?_
    refine ok_sub [1, 2, 3, 4, 5, 0] rfl ?_
    exact Eq.mp (gl242 _ _ _ _ _) h
  have J234 : ∀ (x6 : Int32) (s0 : Int32) (σ : Sg), f_X8_make_234 x1 x2 x3 x4 L67 L157 L242 Po x6 s0 σ → OK Γ Ω 10 234 [(0, .ref (Ω.2.2.1 0)), (2, .int x2), (6, .int x6)] [.int s0] σ := by
    intro x6 s0 σ h
    unfold f_X8_make_234 at h
    refine ok_istore C (L2 := [(7, .int s0), (0, .ref (Ω.2.2.1 0)), (2, .int x2), (6, .int x6)]) dX8_make_234 (by decide) rfl ?_
    refine ok_iconst C (v := 0) dX8_make_236 (by decide) ?_
    refine ok_istore C (L2 := [(8, .int 0), (7, .int s0), (0, .ref (Ω.2.2.1 0)), (2, .int x2), (6, .int x6)]) dX8_make_237 (by decide) rfl ?_
    refine ok_iconst C (v := 0) dX8_make_239 (by decide) ?_
    refine ok_istore C (L2 := [(9, .int 0), (8, .int 0), (7, .int s0), (0, .ref (Ω.2.2.1 0)), (2, .int x2), (6, .int x6)]) dX8_make_240 (by decide) rfl ?_
    refine ok_sub [3, 4, 5, 2, 1, 0] rfl ?_
    exact Eq.mp (gl242 _ _ _ _ _) h
  have J228 : ∀ (x6 : Int32) (σ : Sg), f_X8_make_228 x1 x2 x3 x4 L67 L157 L242 Po x6 σ → OK Γ Ω 10 228 [(0, .ref (Ω.2.2.1 0)), (2, .int x2), (6, .int x6)] [] σ := by
    intro x6 σ h
    unfold f_X8_make_228 at h
    refine ok_aload_n C 0 dX8_make_228 rfl rfl ?_
    refine ok_getR C (ci := 8) hinX8 (kat hk kM_0) rfl 9 (by decide) W_6_135 (fun _ _ h => h) rfl dX8_make_229 ?_
    refine ok_iload_n C 1 dX8_make_232 rfl rfl ?_
    obtain ⟨g30, h⟩ := h
    refine ok_iald C (kat hk kM_7) g30 dX8_make_233 ?_
    refine ok_sub [0, 1, 2] rfl ?_
    exact J234 _ _ _ h
  have J132 : ∀ (x6 : Int32) (x7 : Int32) (s0 : Int32) (s1 : Int32) (σ : Sg), f_X8_make_132 x1 x2 x3 x4 L67 L157 L242 Po x6 x7 s0 s1 σ → OK Γ Ω 10 132 [(0, .ref (Ω.2.2.1 0)), (2, .int x2), (3, .int x3), (6, .int x6), (7, .int x7)] [.int s0, .int s1, .ref (Ω.2.2.1 14)] σ := by
    intro x6 x7 s0 s1 σ h
    unfold f_X8_make_132 at h
    obtain ⟨g17, h⟩ := h
    obtain ⟨z18, h⟩ := h
    refine ok_zast C (kat hk kM_14) g17 dX8_make_132 (bz_s z18 ?_)
    refine ok_iinc C (v := x7 + 1) (L2 := [(7, .int (x7 + 1)), (0, .ref (Ω.2.2.1 0)), (2, .int x2), (3, .int x3), (6, .int x6)]) 4 dX8_make_133 rfl rfl (by decide) rfl ?_
    refine ok_goto C 67 dX8_make_136 rfl ?_
    refine ok_sub [1, 2, 3, 4, 0] rfl ?_
    exact Eq.mp (gl67 _ _ _) h
  have J131 : ∀ (x6 : Int32) (x7 : Int32) (s0 : Int32) (σ : Sg), f_X8_make_131 x1 x2 x3 x4 L67 L157 L242 Po x6 x7 s0 σ → OK Γ Ω 10 131 [(0, .ref (Ω.2.2.1 0)), (2, .int x2), (3, .int x3), (6, .int x6), (7, .int x7)] [.int s0, .ref (Ω.2.2.1 14)] σ := by
    intro x6 x7 s0 σ h
    unfold f_X8_make_131 at h
    refine ok_iconst C (v := 0) dX8_make_131 (by decide) ?_
    refine ok_sub [0, 1, 2, 3, 4] rfl ?_
    exact J132 _ _ _ _ _ h
  have J127 : ∀ (x6 : Int32) (x7 : Int32) (s0 : Int32) (σ : Sg), f_X8_make_127 x1 x2 x3 x4 L67 L157 L242 Po x6 x7 s0 σ → OK Γ Ω 10 127 [(0, .ref (Ω.2.2.1 0)), (2, .int x2), (3, .int x3), (6, .int x6), (7, .int x7)] [.int s0, .ref (Ω.2.2.1 14)] σ := by
    intro x6 x7 s0 σ h
    unfold f_X8_make_127 at h
    refine ok_iconst C (v := 1) dX8_make_127 (by decide) ?_
    refine ok_goto C 132 dX8_make_128 rfl ?_
    refine ok_sub [0, 1, 2, 3, 4] rfl ?_
    exact J132 _ _ _ _ _ h
  have J107 : ∀ (x6 : Int32) (x7 : Int32) (s0 : Int32) (σ : Sg), f_X8_make_107 x1 x2 x3 x4 L67 L157 L242 Po x6 x7 s0 σ → OK Γ Ω 10 107 [(0, .ref (Ω.2.2.1 0)), (2, .int x2), (3, .int x3), (6, .int x6), (7, .int x7)] [.int s0, .ref (Ω.2.2.1 14)] σ := by
    intro x6 x7 s0 σ h
    unfold f_X8_make_107 at h
    refine ok_iload_n C 2 dX8_make_107 rfl rfl ?_
    obtain ⟨h1, h2⟩ := h
    refine ok_if_lt C 131 dX8_make_108 rfl (fun c16 => ?_) (fun c16 => ?_)
    · have h := h1 c16
      refine ok_sub [0, 1, 2, 3, 4] rfl ?_
      exact J131 _ _ _ _ h
    · have h := h2 c16
      refine ok_aload_n C 0 dX8_make_111 rfl rfl ?_
      refine ok_getR C (ci := 8) hinX8 (kat hk kM_0) rfl 16 (by decide) W_6_142 (fun _ _ h => h) rfl dX8_make_112 ?_
      refine ok_sipush C (v := 240) dX8_make_115 (by decide) ?_
      refine ok_iload_n C 2 dX8_make_118 rfl rfl ?_
      refine ok_imul C dX8_make_119 ?_
      refine ok_iload C 4 dX8_make_120 rfl ?_
      refine ok_iadd C dX8_make_122 ?_
      obtain ⟨g14, h⟩ := h
      refine ok_zald C (kat hk kM_14) g14 dX8_make_123 ?_
      obtain ⟨h1, h2⟩ := h
      refine ok_if_eq C 131 dX8_make_124 rfl (fun c15 => ?_) (fun c15 => ?_)
      · have h := h1 c15
        refine ok_sub [0, 1, 2, 3, 4] rfl ?_
        exact J131 _ _ _ _ h
      · have h := h2 c15
        refine ok_sub [0, 1, 2, 3, 4] rfl ?_
        exact J127 _ _ _ _ h
  have J58 : ∀ (x6 : Int32) (σ : Sg), f_X8_make_58 x1 x2 x3 x4 L67 L157 L242 Po x6 σ → OK Γ Ω 10 58 [(0, .ref (Ω.2.2.1 0)), (2, .int x2), (3, .int x3), (6, .int x6)] [] σ := by
    intro x6 σ h
    unfold f_X8_make_58 at h
    refine ok_aload_n C 0 dX8_make_58 rfl rfl ?_
    refine ok_iload C 3 dX8_make_59 rfl ?_
    refine ok_callVv C (As := [.int x6]) (rest := []) (q := 0) (ci := 8) (kat hk kM_0) rfl (c_X8_hash  _ _ _ h) W_6_82 W_6_84 W_0_42 W_6_85 W_1_28 hd_X8_hash rfl ⟨Nat.le_of_ble_eq_true rfl, Nat.le_of_ble_eq_true rfl⟩ (Nat.le_of_ble_eq_true rfl) rfl dX8_make_61 (fun u8 h => ?_)
    refine ok_iconst C (v := 0) dX8_make_64 (by decide) ?_
    refine ok_istore C (L2 := [(7, .int 0), (0, .ref (Ω.2.2.1 0)), (2, .int x2), (3, .int x3), (6, .int x6)]) dX8_make_65 (by decide) rfl ?_
    refine ok_sub [1, 2, 3, 4, 0] rfl ?_
    exact Eq.mp (gl67 _ _ _) h
  have R67 : ∀ (x6 : Int32) (x7 : Int32) (σ : Sg), f_X8_make_67 x1 x2 x3 x4 L67 L157 L242 Po x6 x7 σ → L67 x6 x7 σ := by
    intro x6 x7 σ h
    unfold f_X8_make_67 at h
    refine Eq.mpr (gl67 _ _ _) ?_
    refine ok_iload C 4 dX8_make_67 rfl ?_
    refine ok_iload C 3 dX8_make_69 rfl ?_
    obtain ⟨h1, h2⟩ := h
    refine ok_icmp_ge C 139 dX8_make_71 rfl (fun c13 => ?_) (fun c13 => ?_)
    · have h := h1 c13
      refine ok_aload_n C 0 dX8_make_139 rfl rfl ?_
      refine ok_getR C (ci := 8) hinX8 (kat hk kM_0) rfl 16 (by decide) W_6_142 (fun _ _ h => h) rfl dX8_make_140 ?_
      refine ok_sipush C (v := 240) dX8_make_143 (by decide) ?_
      refine ok_iload C 3 dX8_make_146 rfl ?_
      refine ok_imul C dX8_make_148 ?_
      refine ok_iload C 3 dX8_make_149 rfl ?_
      refine ok_iadd C dX8_make_151 ?_
      refine ok_iconst C (v := 1) dX8_make_152 (by decide) ?_
      obtain ⟨g9, h⟩ := h
      refine ok_zast C (kat hk kM_14) g9 dX8_make_153 (bz_s isZ_1 ?_)
      refine ok_iconst C (v := 0) dX8_make_154 (by decide) ?_
      refine ok_istore C (L2 := [(7, .int 0), (0, .ref (Ω.2.2.1 0)), (2, .int x2), (3, .int x3), (6, .int x6)]) dX8_make_155 (by decide) rfl ?_
      refine ok_sub [1, 2, 3, 4, 0] rfl ?_
      exact Eq.mp (gl157 _ _ _) h
    · have h := h2 c13
      refine ok_aload_n C 0 dX8_make_74 rfl rfl ?_
      refine ok_getR C (ci := 8) hinX8 (kat hk kM_0) rfl 16 (by decide) W_6_142 (fun _ _ h => h) rfl dX8_make_75 ?_
      refine ok_sipush C (v := 240) dX8_make_78 (by decide) ?_
      refine ok_iload C 3 dX8_make_81 rfl ?_
      refine ok_imul C dX8_make_83 ?_
      refine ok_iload C 4 dX8_make_84 rfl ?_
      refine ok_iadd C dX8_make_86 ?_
      refine ok_iload_n C 1 dX8_make_87 rfl rfl ?_
      obtain ⟨h1, h2⟩ := h
      refine ok_if_lt C 107 dX8_make_88 rfl (fun c12 => ?_) (fun c12 => ?_)
      · have h := h1 c12
        refine ok_sub [0, 1, 2, 3, 4] rfl ?_
        exact J107 _ _ _ _ h
      · have h := h2 c12
        refine ok_aload_n C 0 dX8_make_91 rfl rfl ?_
        refine ok_getR C (ci := 8) hinX8 (kat hk kM_0) rfl 16 (by decide) W_6_142 (fun _ _ h => h) rfl dX8_make_92 ?_
        refine ok_sipush C (v := 240) dX8_make_95 (by decide) ?_
        refine ok_iload_n C 1 dX8_make_98 rfl rfl ?_
        refine ok_imul C dX8_make_99 ?_
        refine ok_iload C 4 dX8_make_100 rfl ?_
        refine ok_iadd C dX8_make_102 ?_
        obtain ⟨g10, h⟩ := h
        refine ok_zald C (kat hk kM_14) g10 dX8_make_103 ?_
        obtain ⟨h1, h2⟩ := h
        refine ok_if_ne C 127 dX8_make_104 rfl (fun c11 => ?_) (fun c11 => ?_)
        · have h := h1 c11
          refine ok_sub [0, 1, 2, 3, 4] rfl ?_
          exact J127 _ _ _ _ h
        · have h := h2 c11
          refine ok_sub [0, 1, 2, 3, 4] rfl ?_
          exact J107 _ _ _ _ h
  have R157 : ∀ (x6 : Int32) (x7 : Int32) (σ : Sg), f_X8_make_157 x1 x2 x3 x4 L67 L157 L242 Po x6 x7 σ → L157 x6 x7 σ := by
    intro x6 x7 σ h
    unfold f_X8_make_157 at h
    refine Eq.mpr (gl157 _ _ _) ?_
    refine ok_iload C 4 dX8_make_157 rfl ?_
    refine ok_aload_n C 0 dX8_make_159 rfl rfl ?_
    refine ok_getI C (ci := 8) hinX8 (kat hk kM_0) rfl 1 (by decide) W_6_127 (fun _ _ h => h) rfl dX8_make_160 ?_
    obtain ⟨h1, h2⟩ := h
    refine ok_icmp_ge C 193 dX8_make_163 rfl (fun c29 => ?_) (fun c29 => ?_)
    · have h := h1 c29
      refine ok_iconst C (v := 1) dX8_make_193 (by decide) ?_
      refine ok_istore C (L2 := [(7, .int 1), (0, .ref (Ω.2.2.1 0)), (2, .int x2), (3, .int x3), (6, .int x6)]) dX8_make_194 (by decide) rfl ?_
      refine ok_iload_n C 2 dX8_make_196 rfl rfl ?_
      obtain ⟨h1, h2⟩ := h
      refine ok_if_lt C 317 dX8_make_197 rfl (fun c24 => ?_) (fun c24 => ?_)
      · have h := h1 c24
        refine ok_sub [1, 2, 4, 0] rfl ?_
        exact J317 _ _ _ h
      · have h := h2 c24
        refine ok_iload_n C 3 dX8_make_200 rfl rfl ?_
        obtain ⟨h1, h2⟩ := h
        refine ok_if_lt C 228 dX8_make_201 rfl (fun c23 => ?_) (fun c23 => ?_)
        · have h := h1 c23
          refine ok_sub [1, 2, 4] rfl ?_
          exact J228 _ _ h
        · have h := h2 c23
          refine ok_aload_n C 1 dX8_make_204 rfl rfl ?_
          refine ok_getR C (ci := 8) hinX8 (kat hk kM_0) rfl 9 (by decide) W_6_135 (fun _ _ h => h) rfl dX8_make_205 ?_
          refine ok_iload_n C 3 dX8_make_208 rfl rfl ?_
          obtain ⟨g19, h⟩ := h
          refine ok_iald C (kat hk kM_7) g19 dX8_make_209 ?_
          refine ok_aload_n C 1 dX8_make_210 rfl rfl ?_
          refine ok_getR C (ci := 8) hinX8 (kat hk kM_0) rfl 9 (by decide) W_6_135 (fun _ _ h => h) rfl dX8_make_211 ?_
          refine ok_iload_n C 2 dX8_make_214 rfl rfl ?_
          obtain ⟨g20, h⟩ := h
          refine ok_iald C (kat hk kM_7) g20 dX8_make_215 ?_
          obtain ⟨h1, h2⟩ := h
          refine ok_icmp_le C 228 dX8_make_216 rfl (fun c22 => ?_) (fun c22 => ?_)
          · have h := h1 c22
            refine ok_sub [1, 2, 4] rfl ?_
            exact J228 _ _ h
          · have h := h2 c22
            refine ok_aload_n C 1 dX8_make_219 rfl rfl ?_
            refine ok_getR C (ci := 8) hinX8 (kat hk kM_0) rfl 9 (by decide) W_6_135 (fun _ _ h => h) rfl dX8_make_220 ?_
            refine ok_iload_n C 3 dX8_make_223 rfl rfl ?_
            obtain ⟨g21, h⟩ := h
            refine ok_iald C (kat hk kM_7) g21 dX8_make_224 ?_
            refine ok_goto C 234 dX8_make_225 rfl ?_
            refine ok_sub [1, 2, 4] rfl ?_
            exact J234 _ _ _ h
    · have h := h2 c29
      refine ok_aload_n C 0 dX8_make_166 rfl rfl ?_
      refine ok_getR C (ci := 8) hinX8 (kat hk kM_0) rfl 18 (by decide) W_6_144 (fun _ _ h => h) rfl dX8_make_167 ?_
      refine ok_bipush C (v := 8) dX8_make_170 (by decide) ?_
      refine ok_iload C 3 dX8_make_172 rfl ?_
      refine ok_imul C dX8_make_174 ?_
      refine ok_iload C 4 dX8_make_175 rfl ?_
      refine ok_iadd C dX8_make_177 ?_
      refine ok_aload_n C 0 dX8_make_178 rfl rfl ?_
      refine ok_iload C 3 dX8_make_179 rfl ?_
      refine ok_iload C 4 dX8_make_181 rfl ?_
      refine ok_callVi C (As := [.int x6, .int x7]) (rest := [.int ((8 * x6) + x7), .ref (Ω.2.2.1 16)]) (q := 0) (ci := 8) (kat hk kM_0) rfl (c_X8_isForked  _ _ _ _ h) W_6_101 W_6_103 W_0_46 W_6_104 W_1_28 hd_X8_isForked rfl ⟨Nat.le_of_ble_eq_true rfl, Nat.le_of_ble_eq_true rfl⟩ (Nat.le_of_ble_eq_true rfl) rfl dX8_make_183 (fun r25 u26 h => ?_)
      obtain ⟨g27, h⟩ := h
      obtain ⟨z28, h⟩ := h
      refine ok_zast C (kat hk kM_16) g27 dX8_make_186 (bz_s z28 ?_)
      refine ok_iinc C (v := x7 + 1) (L2 := [(7, .int (x7 + 1)), (0, .ref (Ω.2.2.1 0)), (2, .int x2), (3, .int x3), (6, .int x6)]) 4 dX8_make_187 rfl rfl (by decide) rfl ?_
      refine ok_goto C 157 dX8_make_190 rfl ?_
      refine ok_sub [1, 2, 3, 4, 0] rfl ?_
      exact Eq.mp (gl157 _ _ _) h
  have R242 : ∀ (x6 : Int32) (x7 : Int32) (x8 : Int32) (x9 : Int32) (σ : Sg), f_X8_make_242 x1 x2 x3 x4 L67 L157 L242 Po x6 x7 x8 x9 σ → L242 x6 x7 x8 x9 σ := by
    intro x6 x7 x8 x9 σ h
    unfold f_X8_make_242 at h
    refine Eq.mpr (gl242 _ _ _ _ _) ?_
    refine ok_iload C 5 dX8_make_242 rfl ?_
    refine ok_iload C 2 dX8_make_244 rfl ?_
    obtain ⟨h1, h2⟩ := h
    refine ok_icmp_ge C 302 dX8_make_246 rfl (fun c44 => ?_) (fun c44 => ?_)
    · have h := h1 c44
      refine ok_aload_n C 0 dX8_make_302 rfl rfl ?_
      refine ok_iload C 4 dX8_make_303 rfl ?_
      refine ok_callSi C (As := [.int x8]) (rest := [.ref (Ω.2.2.1 0)]) (c_J6_bitCount_0f7a4  _ _ _ h) W_6_121 W_4_110 W_4_111 W_1_24 hd_J6_bitCount_0f7a4 rfl ⟨Nat.le_of_ble_eq_true rfl, Nat.le_of_ble_eq_true rfl⟩ (Nat.le_of_ble_eq_true rfl) rfl dX8_make_305 (fun r31 u32 h => ?_)
      refine ok_callVi C (As := [.int r31]) (rest := []) (q := 0) (ci := 8) (kat hk kM_0) rfl (c_X8_isMost  _ _ _ h) W_6_122 W_6_124 W_0_51 W_6_125 W_1_28 hd_X8_isMost rfl ⟨Nat.le_of_ble_eq_true rfl, Nat.le_of_ble_eq_true rfl⟩ (Nat.le_of_ble_eq_true rfl) rfl dX8_make_308 (fun r33 u34 h => ?_)
      obtain ⟨h1, h2⟩ := h
      refine ok_if_eq C 317 dX8_make_311 rfl (fun c35 => ?_) (fun c35 => ?_)
      · have h := h1 c35
        refine ok_sub [0, 1, 2, 3] rfl ?_
        exact J317 _ _ _ h
      · have h := h2 c35
        refine ok_iinc C (v := x7 + 1) (L2 := [(7, .int (x7 + 1)), (0, .ref (Ω.2.2.1 0)), (2, .int x2), (6, .int x6), (8, .int x8), (9, .int x9)]) 3 dX8_make_314 rfl rfl (by decide) rfl ?_
        refine ok_sub [1, 2, 3, 0] rfl ?_
        exact J317 _ _ _ h
    · have h := h2 c44
      refine ok_aload_n C 0 dX8_make_249 rfl rfl ?_
      refine ok_getR C (ci := 8) hinX8 (kat hk kM_0) rfl 19 (by decide) W_6_145 (fun _ _ h => h) rfl dX8_make_250 ?_
      refine ok_iload C 5 dX8_make_253 rfl ?_
      obtain ⟨g36, h⟩ := h
      refine ok_zald C (kat hk kM_17) g36 dX8_make_255 ?_
      obtain ⟨h1, h2⟩ := h
      refine ok_if_eq C 296 dX8_make_256 rfl (fun c43 => ?_) (fun c43 => ?_)
      · have h := h1 c43
        refine ok_sub [0, 1, 2, 3, 4, 5] rfl ?_
        exact J296 _ _ _ _ _ h
      · have h := h2 c43
        refine ok_aload_n C 0 dX8_make_259 rfl rfl ?_
        refine ok_getR C (ci := 8) hinX8 (kat hk kM_0) rfl 9 (by decide) W_6_135 (fun _ _ h => h) rfl dX8_make_260 ?_
        refine ok_iload C 5 dX8_make_263 rfl ?_
        obtain ⟨g37, h⟩ := h
        refine ok_iald C (kat hk kM_7) g37 dX8_make_265 ?_
        refine ok_iload C 3 dX8_make_266 rfl ?_
        obtain ⟨h1, h2⟩ := h
        refine ok_icmp_ne C 296 dX8_make_268 rfl (fun c42 => ?_) (fun c42 => ?_)
        · have h := h1 c42
          refine ok_sub [0, 1, 2, 3, 4, 5] rfl ?_
          exact J296 _ _ _ _ _ h
        · have h := h2 c42
          refine ok_aload_n C 0 dX8_make_271 rfl rfl ?_
          refine ok_iload C 2 dX8_make_272 rfl ?_
          refine ok_iload C 5 dX8_make_274 rfl ?_
          refine ok_callVi C (As := [.int x6, .int x9]) (rest := []) (q := 0) (ci := 8) (kat hk kM_0) rfl (c_X8_strongly  _ _ _ _ h) W_6_113 W_6_115 W_0_49 W_6_116 W_1_28 hd_X8_strongly rfl ⟨Nat.le_of_ble_eq_true rfl, Nat.le_of_ble_eq_true rfl⟩ (Nat.le_of_ble_eq_true rfl) rfl dX8_make_276 (fun r38 u39 h => ?_)
          obtain ⟨h1, h2⟩ := h
          refine ok_if_eq C 296 dX8_make_279 rfl (fun c41 => ?_) (fun c41 => ?_)
          · have h := h1 c41
            refine ok_sub [0, 1, 2, 3, 4, 5] rfl ?_
            exact J296 _ _ _ _ _ h
          · have h := h2 c41
            refine ok_iload C 4 dX8_make_282 rfl ?_
            refine ok_iconst C (v := 1) dX8_make_284 (by decide) ?_
            refine ok_aload_n C 0 dX8_make_285 rfl rfl ?_
            refine ok_getR C (ci := 8) hinX8 (kat hk kM_0) rfl 3 (by decide) W_6_129 (fun _ _ h => h) rfl dX8_make_286 ?_
            refine ok_iload C 5 dX8_make_289 rfl ?_
            obtain ⟨g40, h⟩ := h
            refine ok_iald C (kat hk kM_1) g40 dX8_make_291 ?_
            refine ok_ishl C dX8_make_292 ?_
            refine ok_ior C dX8_make_293 ?_
            refine ok_istore C (L2 := [(8, .int (x8 ||| (ishl 1 (u39.1 1 x9.toNatClampNeg)))), (0, .ref (Ω.2.2.1 0)), (2, .int x2), (6, .int x6), (7, .int x7), (9, .int x9)]) dX8_make_294 (by decide) rfl ?_
            refine ok_sub [1, 2, 3, 4, 0, 5] rfl ?_
            exact J296 _ _ _ _ _ h
  have h : f_X8_make_e x1 x2 x3 x4 L67 L157 L242 Po σ := hvc L67 L157 L242 R67 R157 R242
  unfold f_X8_make_e at h
  refine ok_sub (L2 := [(0, .ref (Ω.2.2.1 0)), (1, .int x1), (2, .int x2), (3, .int x3), (4, .long x4)]) [0, 1, 2, 3, 4] rfl ?_
  refine ok_aload_n C 0 dX8_make_0 rfl rfl ?_
  refine ok_dup C dX8_make_1 rfl ?_
  refine ok_getI C (ci := 8) hinX8 (kat hk kM_0) rfl 2 (by decide) W_6_128 (fun _ _ h => h) rfl dX8_make_2 ?_
  refine ok_dup_x1 C dX8_make_5 rfl rfl ?_
  refine ok_iconst C (v := 1) dX8_make_6 (by decide) ?_
  refine ok_iadd C dX8_make_7 ?_
  refine ok_putI C (ci := 8) hinX8 (kat hk kM_0) rfl 2 (by decide) W_6_128 (fun _ _ h => h) tyX8 tyX8_ok nmX8 rfl (by decide +kernel) rfl rfl rfl dX8_make_8 ?_
  refine ok_istore C (L2 := [(6, .int (σ.1 0 2)), (0, .ref (Ω.2.2.1 0)), (1, .int x1), (2, .int x2), (3, .int x3), (4, .long x4)]) dX8_make_11 (by decide) rfl ?_
  refine ok_aload_n C 1 dX8_make_13 rfl rfl ?_
  refine ok_getR C (ci := 8) hinX8 (kat hk kM_0) rfl 3 (by decide) W_6_129 (fun _ _ h => h) rfl dX8_make_14 ?_
  refine ok_iload C 0 dX8_make_17 rfl ?_
  refine ok_iload_n C 2 dX8_make_19 rfl rfl ?_
  obtain ⟨g1, h⟩ := h
  refine ok_iast C (kat hk kM_1) g1 dX8_make_20 ?_
  refine ok_aload_n C 1 dX8_make_21 rfl rfl ?_
  refine ok_getR C (ci := 8) hinX8 (kat hk kM_0) rfl 4 (by decide) W_6_130 (fun _ _ h => h) rfl dX8_make_22 ?_
  refine ok_iload C 0 dX8_make_25 rfl ?_
  refine ok_iload_n C 3 dX8_make_27 rfl rfl ?_
  obtain ⟨g2, h⟩ := h
  refine ok_iast C (kat hk kM_2) g2 dX8_make_28 ?_
  refine ok_aload_n C 1 dX8_make_29 rfl rfl ?_
  refine ok_getR C (ci := 8) hinX8 (kat hk kM_0) rfl 5 (by decide) W_6_131 (fun _ _ h => h) rfl dX8_make_30 ?_
  refine ok_iload C 0 dX8_make_33 rfl ?_
  refine ok_iload_n C 4 dX8_make_35 rfl rfl ?_
  obtain ⟨g3, h⟩ := h
  refine ok_iast C (kat hk kM_3) g3 dX8_make_36 ?_
  refine ok_aload_n C 1 dX8_make_37 rfl rfl ?_
  refine ok_getR C (ci := 8) hinX8 (kat hk kM_0) rfl 15 (by decide) W_6_141 (fun _ _ h => h) rfl dX8_make_38 ?_
  refine ok_iload C 0 dX8_make_41 rfl ?_
  refine ok_lload C 5 dX8_make_43 rfl ?_
  obtain ⟨g4, h⟩ := h
  refine ok_last C (kat hk kM_13) g4 dX8_make_45 ?_
  refine ok_iload_n C 3 dX8_make_46 rfl rfl ?_
  obtain ⟨h1, h2⟩ := h
  refine ok_if_ge C 58 dX8_make_47 rfl (fun c6 => ?_) (fun c6 => ?_)
  · have h := h1 c6
    refine ok_sub [1, 3, 4, 0] rfl ?_
    exact J58 _ _ h
  · have h := h2 c6
    refine ok_aload_n C 1 dX8_make_50 rfl rfl ?_
    refine ok_getR C (ci := 8) hinX8 (kat hk kM_0) rfl 6 (by decide) W_6_132 (fun _ _ h => h) rfl dX8_make_51 ?_
    refine ok_iload C 0 dX8_make_54 rfl ?_
    refine ok_iconst C (v := 0) dX8_make_56 (by decide) ?_
    obtain ⟨g5, h⟩ := h
    refine ok_iast C (kat hk kM_4) g5 dX8_make_57 ?_
    refine ok_sub [1, 3, 4, 0] rfl ?_
    exact J58 _ _ h
set_option maxRecDepth 100000 in
set_option maxHeartbeats 4000000 in
theorem m_X8_anew {l : Launch} {Ω : Wm} (hk : Hk Ω kM) (c_X8_make : CT_X8_make l Ω) (hv : ∀ (x1 : Int32) (σ : Sg) (K : Sg → Prop), sp_X8_anew x1 σ K → vc_X8_anew x1 σ K) : CT_X8_anew l Ω := by
  intro x1 σ Po hsp
  have hvc := hv x1 σ Po hsp
  refine Ct.of (by decide +kernel) (Nat.le_of_ble_eq_true rfl) (fun Γ C => ?_)
  obtain ⟨L17, gl17⟩ : ∃ L : Int32 → Sg → Prop, ∀ (x2 : Int32) (σ : Sg), L x2 σ = OK Γ Ω 3 17 [(0, .ref (Ω.2.2.1 0)), (2, .int x2)] [] σ := ⟨fun x2 σ => OK Γ Ω 3 17 [(0, .ref (Ω.2.2.1 0)), (2, .int x2)] [] σ, fun _ _ => rfl⟩
  obtain ⟨L39, gl39⟩ : ∃ L : Int32 → Sg → Prop, ∀ (x2 : Int32) (σ : Sg), L x2 σ = OK Γ Ω 3 39 [(0, .ref (Ω.2.2.1 0)), (2, .int x2)] [] σ := ⟨fun x2 σ => OK Γ Ω 3 39 [(0, .ref (Ω.2.2.1 0)), (2, .int x2)] [] σ, fun _ _ => rfl⟩
  obtain ⟨L74, gl74⟩ : ∃ L : Int32 → Sg → Prop, ∀ (x2 : Int32) (σ : Sg), L x2 σ = OK Γ Ω 3 74 [(0, .ref (Ω.2.2.1 0)), (2, .int x2)] [] σ := ⟨fun x2 σ => OK Γ Ω 3 74 [(0, .ref (Ω.2.2.1 0)), (2, .int x2)] [] σ, fun _ _ => rfl⟩
  have R17 : ∀ (x2 : Int32) (σ : Sg), f_X8_anew_17 x1 L17 L39 L74 Po x2 σ → L17 x2 σ := by
    intro x2 σ h
    unfold f_X8_anew_17 at h
    refine Eq.mpr (gl17 _ _) ?_
    refine ok_iload_n C 1 dX8_anew_17 rfl rfl ?_
    refine ok_sipush C (v := 1920) dX8_anew_18 (by decide) ?_
    obtain ⟨h1, h2⟩ := h
    refine ok_icmp_ge C 37 dX8_anew_21 rfl (fun c2 => ?_) (fun c2 => ?_)
    · have h := h1 c2
      refine ok_iconst C (v := 0) dX8_anew_37 (by decide) ?_
      refine ok_istore_n C (L2 := [(2, .int 0), (0, .ref (Ω.2.2.1 0))]) dX8_anew_38 rfl (by decide) rfl ?_
      refine ok_sub [1, 0] rfl ?_
      exact Eq.mp (gl39 _ _) h
    · have h := h2 c2
      refine ok_aload_n C 0 dX8_anew_24 rfl rfl ?_
      refine ok_getR C (ci := 8) hinX8 (kat hk kM_0) rfl 17 (by decide) W_6_143 (fun _ _ h => h) rfl dX8_anew_25 ?_
      refine ok_iload_n C 1 dX8_anew_28 rfl rfl ?_
      refine ok_iconst C (v := 0) dX8_anew_29 (by decide) ?_
      obtain ⟨g1, h⟩ := h
      refine ok_zast C (kat hk kM_15) g1 dX8_anew_30 (bz_s isZ_0 ?_)
      refine ok_iinc C (v := x2 + 1) (L2 := [(2, .int (x2 + 1)), (0, .ref (Ω.2.2.1 0))]) 1 dX8_anew_31 rfl rfl (by decide) rfl ?_
      refine ok_goto C 17 dX8_anew_34 rfl ?_
      refine ok_sub [1, 0] rfl ?_
      exact Eq.mp (gl17 _ _) h
  have R39 : ∀ (x2 : Int32) (σ : Sg), f_X8_anew_39 x1 L17 L39 L74 Po x2 σ → L39 x2 σ := by
    intro x2 σ h
    unfold f_X8_anew_39 at h
    refine Eq.mpr (gl39 _ _) ?_
    refine ok_iload_n C 1 dX8_anew_39 rfl rfl ?_
    refine ok_ldc C W_6_1 dX8_anew_40 ?_
    obtain ⟨h1, h2⟩ := h
    refine ok_icmp_ge C 72 dX8_anew_42 rfl (fun c6 => ?_) (fun c6 => ?_)
    · have h := h1 c6
      refine ok_iconst C (v := 0) dX8_anew_72 (by decide) ?_
      refine ok_istore_n C (L2 := [(2, .int 0), (0, .ref (Ω.2.2.1 0))]) dX8_anew_73 rfl (by decide) rfl ?_
      refine ok_sub [1, 0] rfl ?_
      exact Eq.mp (gl74 _ _) h
    · have h := h2 c6
      refine ok_aload_n C 0 dX8_anew_45 rfl rfl ?_
      refine ok_getR C (ci := 8) hinX8 (kat hk kM_0) rfl 16 (by decide) W_6_142 (fun _ _ h => h) rfl dX8_anew_46 ?_
      refine ok_iload_n C 1 dX8_anew_49 rfl rfl ?_
      refine ok_iconst C (v := 0) dX8_anew_50 (by decide) ?_
      obtain ⟨g3, h⟩ := h
      refine ok_zast C (kat hk kM_14) g3 dX8_anew_51 (bz_s isZ_0 ?_)
      refine ok_aload_n C 0 dX8_anew_52 rfl rfl ?_
      refine ok_getR C (ci := 8) hinX8 (kat hk kM_0) rfl 20 (by decide) W_6_146 (fun _ _ h => h) rfl dX8_anew_53 ?_
      refine ok_iload_n C 1 dX8_anew_56 rfl rfl ?_
      refine ok_iconst C (v := 0) dX8_anew_57 (by decide) ?_
      obtain ⟨g4, h⟩ := h
      refine ok_bast C (kat hk kM_18) g4 dX8_anew_58 ?_
      refine ok_aload_n C 0 dX8_anew_59 rfl rfl ?_
      refine ok_getR C (ci := 8) hinX8 (kat hk kM_0) rfl 21 (by decide) W_6_147 (fun _ _ h => h) rfl dX8_anew_60 ?_
      refine ok_iload_n C 1 dX8_anew_63 rfl rfl ?_
      refine ok_iconst C (v := 0) dX8_anew_64 (by decide) ?_
      obtain ⟨g5, h⟩ := h
      refine ok_bast C (kat hk kM_19) g5 dX8_anew_65 ?_
      refine ok_iinc C (v := x2 + 1) (L2 := [(2, .int (x2 + 1)), (0, .ref (Ω.2.2.1 0))]) 1 dX8_anew_66 rfl rfl (by decide) rfl ?_
      refine ok_goto C 39 dX8_anew_69 rfl ?_
      refine ok_sub [1, 0] rfl ?_
      exact Eq.mp (gl39 _ _) h
  have R74 : ∀ (x2 : Int32) (σ : Sg), f_X8_anew_74 x1 L17 L39 L74 Po x2 σ → L74 x2 σ := by
    intro x2 σ h
    unfold f_X8_anew_74 at h
    refine Eq.mpr (gl74 _ _) ?_
    refine ok_iload_n C 1 dX8_anew_74 rfl rfl ?_
    refine ok_aload_n C 0 dX8_anew_75 rfl rfl ?_
    refine ok_getI C (ci := 8) hinX8 (kat hk kM_0) rfl 1 (by decide) W_6_127 (fun _ _ h => h) rfl dX8_anew_76 ?_
    obtain ⟨h1, h2⟩ := h
    refine ok_icmp_ge C 127 dX8_anew_79 rfl (fun c13 => ?_) (fun c13 => ?_)
    · have h := h1 c13
      exact ok_vret C rfl rfl dX8_anew_127 h
    · have h := h2 c13
      refine ok_aload_n C 0 dX8_anew_82 rfl rfl ?_
      refine ok_getR C (ci := 8) hinX8 (kat hk kM_0) rfl 12 (by decide) W_6_138 (fun _ _ h => h) rfl dX8_anew_83 ?_
      refine ok_iload_n C 1 dX8_anew_86 rfl rfl ?_
      refine ok_iconst C (v := 0) dX8_anew_87 (by decide) ?_
      obtain ⟨g7, h⟩ := h
      refine ok_iast C (kat hk kM_10) g7 dX8_anew_88 ?_
      refine ok_aload_n C 0 dX8_anew_89 rfl rfl ?_
      refine ok_getR C (ci := 8) hinX8 (kat hk kM_0) rfl 11 (by decide) W_6_137 (fun _ _ h => h) rfl dX8_anew_90 ?_
      refine ok_iload_n C 1 dX8_anew_93 rfl rfl ?_
      refine ok_aload_n C 0 dX8_anew_94 rfl rfl ?_
      refine ok_iload_n C 1 dX8_anew_95 rfl rfl ?_
      refine ok_iconst C (v := (-1)) dX8_anew_96 (by decide) ?_
      refine ok_iconst C (v := (-1)) dX8_anew_97 (by decide) ?_
      refine ok_lconst C (v := 0) dX8_anew_98 (by decide) ?_
      refine ok_callVi C (As := [.int x2, .int (-1), .int (-1), .long 0]) (rest := [.int x2, .ref (Ω.2.2.1 9)]) (q := 0) (ci := 8) (kat hk kM_0) rfl (c_X8_make  _ _ _ _ _ _ h) W_6_78 W_6_80 W_0_41 W_6_81 W_1_28 hd_X8_make rfl ⟨Nat.le_of_ble_eq_true rfl, Nat.le_of_ble_eq_true rfl⟩ (Nat.le_of_ble_eq_true rfl) rfl dX8_anew_99 (fun r8 u9 h => ?_)
      obtain ⟨g10, h⟩ := h
      refine ok_iast C (kat hk kM_9) g10 dX8_anew_102 ?_
      refine ok_aload_n C 0 dX8_anew_103 rfl rfl ?_
      refine ok_getR C (ci := 8) hinX8 (kat hk kM_0) rfl 17 (by decide) W_6_143 (fun _ _ h => h) rfl dX8_anew_104 ?_
      refine ok_sipush C (v := 240) dX8_anew_107 (by decide) ?_
      refine ok_iload_n C 1 dX8_anew_110 rfl rfl ?_
      refine ok_imul C dX8_anew_111 ?_
      refine ok_aload_n C 0 dX8_anew_112 rfl rfl ?_
      refine ok_getR C (ci := 8) hinX8 (kat hk kM_0) rfl 11 (by decide) W_6_137 (fun _ _ h => h) rfl dX8_anew_113 ?_
      refine ok_iload_n C 1 dX8_anew_116 rfl rfl ?_
      obtain ⟨g11, h⟩ := h
      refine ok_iald C (kat hk kM_9) g11 dX8_anew_117 ?_
      refine ok_iadd C dX8_anew_118 ?_
      refine ok_iconst C (v := 1) dX8_anew_119 (by decide) ?_
      obtain ⟨g12, h⟩ := h
      refine ok_zast C (kat hk kM_15) g12 dX8_anew_120 (bz_s isZ_1 ?_)
      refine ok_iinc C (v := x2 + 1) (L2 := [(2, .int (x2 + 1)), (0, .ref (Ω.2.2.1 0))]) 1 dX8_anew_121 rfl rfl (by decide) rfl ?_
      refine ok_goto C 74 dX8_anew_124 rfl ?_
      refine ok_sub [1, 0] rfl ?_
      exact Eq.mp (gl74 _ _) h
  have h : f_X8_anew_e x1 L17 L39 L74 Po σ := hvc L17 L39 L74 R17 R39 R74
  unfold f_X8_anew_e at h
  refine ok_sub (L2 := [(0, .ref (Ω.2.2.1 0)), (1, .int x1)]) [0, 1] rfl ?_
  refine ok_aload_n C 0 dX8_anew_0 rfl rfl ?_
  refine ok_iload_n C 1 dX8_anew_1 rfl rfl ?_
  refine ok_putI C (ci := 8) hinX8 (kat hk kM_0) rfl 1 (by decide) W_6_127 (fun _ _ h => h) tyX8 tyX8_ok nmX8 rfl (by decide +kernel) rfl rfl rfl dX8_anew_2 ?_
  refine ok_aload_n C 0 dX8_anew_5 rfl rfl ?_
  refine ok_iconst C (v := 0) dX8_anew_6 (by decide) ?_
  refine ok_putI C (ci := 8) hinX8 (kat hk kM_0) rfl 2 (by decide) W_6_128 (fun _ _ h => h) tyX8 tyX8_ok nmX8 rfl (by decide +kernel) rfl rfl rfl dX8_anew_7 ?_
  refine ok_aload_n C 0 dX8_anew_10 rfl rfl ?_
  refine ok_iconst C (v := (-1)) dX8_anew_11 (by decide) ?_
  refine ok_putI C (ci := 8) hinX8 (kat hk kM_0) rfl 22 (by decide) W_6_148 (fun _ _ h => h) tyX8 tyX8_ok nmX8 rfl (by decide +kernel) rfl rfl rfl dX8_anew_12 ?_
  refine ok_iconst C (v := 0) dX8_anew_15 (by decide) ?_
  refine ok_istore_n C (L2 := [(2, .int 0), (0, .ref (Ω.2.2.1 0)), (1, .int x1)]) dX8_anew_16 rfl (by decide) rfl ?_
  refine ok_sub [1, 0] rfl ?_
  exact Eq.mp (gl17 _ _) h
set_option maxRecDepth 100000 in
set_option maxHeartbeats 4000000 in
theorem m_X8_begin {l : Launch} {Ω : Wm} (hk : Hk Ω kM) (c_X8_anew : CT_X8_anew l Ω) (c_X8_fails : CT_X8_fails l Ω) (c_X8_in : CT_X8_in l Ω) (hv : ∀ (x1 : Int32) (σ : Sg) (K : Sg → Prop), sp_X8_begin x1 σ K → vc_X8_begin x1 σ K) : CT_X8_begin l Ω := by
  intro x1 σ Po hsp
  have hvc := hv x1 σ Po hsp
  refine Ct.of (by decide +kernel) (Nat.le_of_ble_eq_true rfl) (fun Γ C => ?_)
  have J33 : ∀  (σ : Sg), f_X8_begin_33 x1 Po  σ → OK Γ Ω 2 33 [] [] σ := by
    intro  σ h
    unfold f_X8_begin_33 at h
    exact ok_vret C rfl rfl dX8_begin_33 h
  have J21 : ∀ (s0 : Int32) (σ : Sg), f_X8_begin_21 x1 Po s0 σ → OK Γ Ω 2 21 [(0, .ref (Ω.2.2.1 0)), (1, .int x1)] [.int s0, .ref (Ω.2.2.1 0)] σ := by
    intro s0 σ h
    unfold f_X8_begin_21 at h
    refine ok_iconst C (v := 1) dX8_begin_21 (by decide) ?_
    refine ok_callVi C (As := [.int s0, .int 1]) (rest := []) (q := 0) (ci := 8) (kat hk kM_0) rfl (c_X8_fails  _ _ _ _ h) W_7_15 W_7_17 W_0_52 W_7_18 W_1_28 hd_X8_fails rfl ⟨Nat.le_of_ble_eq_true rfl, Nat.le_of_ble_eq_true rfl⟩ (Nat.le_of_ble_eq_true rfl) rfl dX8_begin_22 (fun r4 u5 h => ?_)
    obtain ⟨h1, h2⟩ := h
    refine ok_if_ne C 33 dX8_begin_25 rfl (fun c8 => ?_) (fun c8 => ?_)
    · have h := h1 c8
      refine ok_sub [] rfl ?_
      exact J33  _ h
    · have h := h2 c8
      refine ok_aload_n C 0 dX8_begin_28 rfl rfl ?_
      refine ok_iload_n C 1 dX8_begin_29 rfl rfl ?_
      refine ok_callVv C (As := [.int x1]) (rest := []) (q := 0) (ci := 8) (kat hk kM_0) rfl (c_X8_anew  _ _ _ h) W_6_74 W_6_76 W_0_40 W_6_77 W_1_28 hd_X8_anew rfl ⟨Nat.le_of_ble_eq_true rfl, Nat.le_of_ble_eq_true rfl⟩ (Nat.le_of_ble_eq_true rfl) rfl dX8_begin_30 (fun u7 h => ?_)
      refine ok_sub [] rfl ?_
      exact J33  _ h
  have h : f_X8_begin_e x1 Po σ := hvc  
  unfold f_X8_begin_e at h
  refine ok_sub (L2 := [(0, .ref (Ω.2.2.1 0)), (1, .int x1)]) [0, 1] rfl ?_
  refine ok_aload_n C 0 dX8_begin_0 rfl rfl ?_
  refine ok_iconst C (v := 0) dX8_begin_1 (by decide) ?_
  refine ok_putI C (ci := 8) hinX8 (kat hk kM_0) rfl 0 (by decide) W_6_126 (fun _ _ h => h) tyX8 tyX8_ok nmX8 rfl (by decide +kernel) rfl rfl rfl dX8_begin_2 ?_
  refine ok_aload_n C 0 dX8_begin_5 rfl rfl ?_
  refine ok_iload_n C 1 dX8_begin_6 rfl rfl ?_
  refine ok_iconst C (v := 2) dX8_begin_7 (by decide) ?_
  refine ok_bipush C (v := 8) dX8_begin_8 (by decide) ?_
  refine ok_callSi C (As := [.int x1, .int 2, .int 8]) (rest := [.ref (Ω.2.2.1 0)]) (c_X8_in  _ _ _ _ _ h) W_7_12 W_7_13 W_7_14 W_1_28 hd_X8_in rfl ⟨Nat.le_of_ble_eq_true rfl, Nat.le_of_ble_eq_true rfl⟩ (Nat.le_of_ble_eq_true rfl) rfl dX8_begin_10 (fun r1 u2 h => ?_)
  obtain ⟨h1, h2⟩ := h
  refine ok_if_ne C 20 dX8_begin_13 rfl (fun c3 => ?_) (fun c3 => ?_)
  · have h := h1 c3
    refine ok_iconst C (v := 0) dX8_begin_20 (by decide) ?_
    refine ok_sub [0, 1] rfl ?_
    exact J21 _ _ h
  · have h := h2 c3
    refine ok_iconst C (v := 1) dX8_begin_16 (by decide) ?_
    refine ok_goto C 21 dX8_begin_17 rfl ?_
    refine ok_sub [0, 1] rfl ?_
    exact J21 _ _ h
