set_option maxRecDepth 100000 in
set_option maxHeartbeats 4000000 in
theorem m_X3_clear {l : Launch} {Ω : Wm} (hk : Hk Ω kD) (c_J7_fill_53178 : CT_J7_fill_53178 l Ω) (hv : ∀ (x1 : Int32) (σ : Sg) (K : Sg → Prop), sp_X3_clear x1 σ K → vc_X3_clear x1 σ K) : CT_X3_clear l Ω := by
  intro x1 σ Po hsp
  have hvc := hv x1 σ Po hsp
  refine Ct.of (by decide +kernel) (Nat.le_of_ble_eq_true rfl) (fun Γ C => ?_)
  have h : f_X3_clear_e x1 Po σ := hvc  
  unfold f_X3_clear_e at h
  refine ok_sub (L2 := [(0, .ref (Ω.2.2.1 22)), (1, .int x1)]) [0, 1] rfl ?_
  refine ok_aload_n C 0 dX3_clear_0 rfl rfl ?_
  refine ok_iload_n C 1 dX3_clear_1 rfl rfl ?_
  refine ok_putI C (ci := 3) hinX3 (kat hk kD_22) rfl 11 (by decide) W_1_177 (fun _ _ h => h) tyX3 tyX3_ok nmX3 rfl (by decide +kernel) rfl rfl rfl dX3_clear_2 ?_
  refine ok_aload_n C 0 dX3_clear_5 rfl rfl ?_
  refine ok_iconst C (v := 0) dX3_clear_6 (by decide) ?_
  refine ok_putI C (ci := 3) hinX3 (kat hk kD_22) rfl 12 (by decide) W_1_178 (fun _ _ h => h) tyX3 tyX3_ok nmX3 rfl (by decide +kernel) rfl rfl rfl dX3_clear_7 ?_
  refine ok_aload_n C 0 dX3_clear_10 rfl rfl ?_
  refine ok_iconst C (v := 0) dX3_clear_11 (by decide) ?_
  refine ok_putI C (ci := 3) hinX3 (kat hk kD_22) rfl 13 (by decide) W_1_180 (fun _ _ h => h) tyX3 tyX3_ok nmX3 rfl (by decide +kernel) rfl rfl rfl dX3_clear_12 ?_
  refine ok_aload_n C 0 dX3_clear_15 rfl rfl ?_
  refine ok_getR C (ci := 3) hinX3 (kat hk kD_22) rfl 8 (by decide) W_1_174 (fun _ _ h => h) rfl dX3_clear_16 ?_
  refine ok_iconst C (v := 0) dX3_clear_19 (by decide) ?_
  refine ok_callSv C (As := [.ref (Ω.2.2.1 34), .int 0]) (rest := []) (c_J7_fill_53178 34 8 kD_34 _ _ _ h) W_2_105 W_2_88 W_2_89 W_1_9 hd_J7_fill_53178 rfl ⟨Nat.le_of_ble_eq_true rfl, Nat.le_of_ble_eq_true rfl⟩ (Nat.le_of_ble_eq_true rfl) rfl dX3_clear_20 (fun u2 h => ?_)
  exact ok_vret C rfl rfl dX3_clear_23 h
set_option maxRecDepth 100000 in
set_option maxHeartbeats 4000000 in
theorem m_X3_countForks {l : Launch} {Ω : Wm} (hk : Hk Ω kD)  (hv : ∀ (x1 : Int32) (σ : Sg) (K : Sg → Prop), sp_X3_countForks x1 σ K → vc_X3_countForks x1 σ K) : CT_X3_countForks l Ω := by
  intro x1 σ Po hsp
  have hvc := hv x1 σ Po hsp
  refine Ct.of (by decide +kernel) (Nat.le_of_ble_eq_true rfl) (fun Γ C => ?_)
  have h : f_X3_countForks_e x1 Po σ := hvc  
  unfold f_X3_countForks_e at h
  refine ok_sub (L2 := [(0, .ref (Ω.2.2.1 22)), (1, .int x1)]) [0, 1] rfl ?_
  refine ok_aload_n C 0 dX3_countForks_0 rfl rfl ?_
  refine ok_getR C (ci := 3) hinX3 (kat hk kD_22) rfl 0 (by decide) W_1_155 (fun _ _ h => h) rfl dX3_countForks_1 ?_
  refine ok_getRN C (ci := 2) hinX2 (kat hk kD_7) rfl 1 (by decide) nbf_1 (fun _ _ h => h) rfl dX3_countForks_4 ?_
  refine ok_iload_n C 1 dX3_countForks_7 rfl rfl ?_
  obtain ⟨g1, h⟩ := h
  refine ok_iald C (kat hk kD_12) g1 dX3_countForks_8 ?_
  refine ok_istore_n C (L2 := [(2, .int (σ.1 12 x1.toNatClampNeg)), (0, .ref (Ω.2.2.1 22)), (1, .int x1)]) dX3_countForks_9 rfl (by decide) rfl ?_
  refine ok_aload_n C 1 dX3_countForks_10 rfl rfl ?_
  refine ok_dup C dX3_countForks_11 rfl ?_
  refine ok_getI C (ci := 3) hinX3 (kat hk kD_22) rfl 12 (by decide) W_1_178 (fun _ _ h => h) rfl dX3_countForks_12 ?_
  refine ok_aload_n C 1 dX3_countForks_15 rfl rfl ?_
  refine ok_getR C (ci := 3) hinX3 (kat hk kD_22) rfl 8 (by decide) W_1_174 (fun _ _ h => h) rfl dX3_countForks_16 ?_
  refine ok_iload_n C 0 dX3_countForks_19 rfl rfl ?_
  obtain ⟨g2, h⟩ := h
  refine ok_iald C (kat hk kD_34) g2 dX3_countForks_20 ?_
  refine ok_aload_n C 1 dX3_countForks_21 rfl rfl ?_
  refine ok_getR C (ci := 3) hinX3 (kat hk kD_22) rfl 5 (by decide) W_1_166 (fun _ _ h => h) rfl dX3_countForks_22 ?_
  refine ok_iload_n C 2 dX3_countForks_25 rfl rfl ?_
  obtain ⟨g3, h⟩ := h
  refine ok_iald C (kat hk kD_31) g3 dX3_countForks_26 ?_
  refine ok_iconst C (v := 1) dX3_countForks_27 (by decide) ?_
  refine ok_isub C dX3_countForks_28 ?_
  refine ok_isub C dX3_countForks_29 ?_
  refine ok_iadd C dX3_countForks_30 ?_
  refine ok_putI C (ci := 3) hinX3 (kat hk kD_22) rfl 12 (by decide) W_1_178 (fun _ _ h => h) tyX3 tyX3_ok nmX3 rfl (by decide +kernel) rfl rfl rfl dX3_countForks_31 ?_
  refine ok_aload_n C 1 dX3_countForks_34 rfl rfl ?_
  refine ok_getR C (ci := 3) hinX3 (kat hk kD_22) rfl 8 (by decide) W_1_174 (fun _ _ h => h) rfl dX3_countForks_35 ?_
  refine ok_iload_n C 0 dX3_countForks_38 rfl rfl ?_
  refine ok_dup2_11 C dX3_countForks_39 rfl rfl ?_
  obtain ⟨g4, h⟩ := h
  refine ok_iald C (kat hk kD_34) g4 dX3_countForks_40 ?_
  refine ok_iconst C (v := 1) dX3_countForks_41 (by decide) ?_
  refine ok_iadd C dX3_countForks_42 ?_
  obtain ⟨g5, h⟩ := h
  refine ok_iast C (kat hk kD_34) g5 dX3_countForks_43 ?_
  exact ok_vret C rfl rfl dX3_countForks_44 h
set_option maxRecDepth 100000 in
set_option maxHeartbeats 4000000 in
theorem m_X3_findAncestors {l : Launch} {Ω : Wm} (hk : Hk Ω kD) (c_X0_clearRow : CT_X0_clearRow l Ω) (c_X0_join : CT_X0_join l Ω) (c_X0_put : CT_X0_put l Ω) (hv : ∀ (x1 : Int32) (σ : Sg) (K : Sg → Prop), sp_X3_findAncestors x1 σ K → vc_X3_findAncestors x1 σ K) : CT_X3_findAncestors l Ω := by
  intro x1 σ Po hsp
  have hvc := hv x1 σ Po hsp
  refine Ct.of (by decide +kernel) (Nat.le_of_ble_eq_true rfl) (fun Γ C => ?_)
  have J95 : ∀ (s0 : Int32) (s1 : Int32) (σ : Sg), f_X3_findAncestors_95 x1 Po s0 s1 σ → OK Γ Ω 4 95 [] [.int s0, .int s1, .ref (Ω.2.2.1 31)] σ := by
    intro s0 s1 σ h
    unfold f_X3_findAncestors_95 at h
    obtain ⟨g15, h⟩ := h
    refine ok_iast C (kat hk kD_31) g15 dX3_findAncestors_95 ?_
    exact ok_vret C rfl rfl dX3_findAncestors_96 h
  have J73 : ∀ (x2 : Int32) (σ : Sg), f_X3_findAncestors_73 x1 Po x2 σ → OK Γ Ω 4 73 [(0, .ref (Ω.2.2.1 22)), (1, .int x1), (2, .int x2)] [] σ := by
    intro x2 σ h
    unfold f_X3_findAncestors_73 at h
    refine ok_aload_n C 0 dX3_findAncestors_73 rfl rfl ?_
    refine ok_getR C (ci := 3) hinX3 (kat hk kD_22) rfl 5 (by decide) W_1_166 (fun _ _ h => h) rfl dX3_findAncestors_74 ?_
    refine ok_iload_n C 1 dX3_findAncestors_77 rfl rfl ?_
    refine ok_iload_n C 2 dX3_findAncestors_78 rfl rfl ?_
    refine ok_iconst C (v := (-1)) dX3_findAncestors_79 (by decide) ?_
    obtain ⟨h1, h2⟩ := h
    refine ok_icmp_ne C 87 dX3_findAncestors_80 rfl (fun c14 => ?_) (fun c14 => ?_)
    · have h := h1 c14
      refine ok_aload_n C 0 dX3_findAncestors_87 rfl rfl ?_
      refine ok_getR C (ci := 3) hinX3 (kat hk kD_22) rfl 5 (by decide) W_1_166 (fun _ _ h => h) rfl dX3_findAncestors_88 ?_
      refine ok_iload_n C 2 dX3_findAncestors_91 rfl rfl ?_
      obtain ⟨g13, h⟩ := h
      refine ok_iald C (kat hk kD_31) g13 dX3_findAncestors_92 ?_
      refine ok_iconst C (v := 1) dX3_findAncestors_93 (by decide) ?_
      refine ok_iadd C dX3_findAncestors_94 ?_
      refine ok_sub [] rfl ?_
      exact J95 _ _ _ h
    · have h := h2 c14
      refine ok_iconst C (v := 1) dX3_findAncestors_83 (by decide) ?_
      refine ok_goto C 95 dX3_findAncestors_84 rfl ?_
      refine ok_sub [] rfl ?_
      exact J95 _ _ _ h
  have J55 : ∀ (x2 : Int32) (x3 : Int32) (σ : Sg), f_X3_findAncestors_55 x1 Po x2 x3 σ → OK Γ Ω 4 55 [(0, .ref (Ω.2.2.1 22)), (1, .int x1), (2, .int x2), (3, .int x3)] [] σ := by
    intro x2 x3 σ h
    unfold f_X3_findAncestors_55 at h
    refine ok_iload_n C 3 dX3_findAncestors_55 rfl rfl ?_
    refine ok_iconst C (v := (-1)) dX3_findAncestors_56 (by decide) ?_
    obtain ⟨h1, h2⟩ := h
    refine ok_icmp_eq C 73 dX3_findAncestors_57 rfl (fun c12 => ?_) (fun c12 => ?_)
    · have h := h1 c12
      refine ok_sub [0, 1, 2] rfl ?_
      exact J73 _ _ h
    · have h := h2 c12
      refine ok_aload_n C 0 dX3_findAncestors_60 rfl rfl ?_
      refine ok_getR C (ci := 3) hinX3 (kat hk kD_22) rfl 1 (by decide) W_1_156 (fun _ _ h => h) rfl dX3_findAncestors_61 ?_
      refine ok_iload_n C 1 dX3_findAncestors_64 rfl rfl ?_
      refine ok_aload_n C 0 dX3_findAncestors_65 rfl rfl ?_
      refine ok_getR C (ci := 3) hinX3 (kat hk kD_22) rfl 1 (by decide) W_1_156 (fun _ _ h => h) rfl dX3_findAncestors_66 ?_
      refine ok_iload_n C 3 dX3_findAncestors_69 rfl rfl ?_
      refine ok_callVv C (As := [.int x1, .ref (Ω.2.2.1 23), .int x3]) (rest := []) (q := 23) (ci := 0) (kat hk kD_23) rfl (c_X0_join 23 960 23 960 bt_23 bt_23 _ _ _ _ h) W_4_63 W_4_64 W_4_65 W_4_66 W_1_5 hd_X0_join rfl ⟨Nat.le_of_ble_eq_true rfl, Nat.le_of_ble_eq_true rfl⟩ (Nat.le_of_ble_eq_true rfl) rfl dX3_findAncestors_70 (fun u11 h => ?_)
      refine ok_sub [0, 1, 2] rfl ?_
      exact J73 _ _ h
  have h : f_X3_findAncestors_e x1 Po σ := hvc  
  unfold f_X3_findAncestors_e at h
  refine ok_sub (L2 := [(0, .ref (Ω.2.2.1 22)), (1, .int x1)]) [0, 1] rfl ?_
  refine ok_aload_n C 0 dX3_findAncestors_0 rfl rfl ?_
  refine ok_getR C (ci := 3) hinX3 (kat hk kD_22) rfl 0 (by decide) W_1_155 (fun _ _ h => h) rfl dX3_findAncestors_1 ?_
  refine ok_getRN C (ci := 2) hinX2 (kat hk kD_7) rfl 2 (by decide) nbf_4 (fun _ _ h => h) rfl dX3_findAncestors_4 ?_
  refine ok_iload_n C 1 dX3_findAncestors_7 rfl rfl ?_
  obtain ⟨g1, h⟩ := h
  refine ok_iald C (kat hk kD_13) g1 dX3_findAncestors_8 ?_
  refine ok_istore_n C (L2 := [(2, .int (σ.1 13 x1.toNatClampNeg)), (0, .ref (Ω.2.2.1 22)), (1, .int x1)]) dX3_findAncestors_9 rfl (by decide) rfl ?_
  refine ok_aload_n C 1 dX3_findAncestors_10 rfl rfl ?_
  refine ok_getR C (ci := 3) hinX3 (kat hk kD_22) rfl 0 (by decide) W_1_155 (fun _ _ h => h) rfl dX3_findAncestors_11 ?_
  refine ok_getRN C (ci := 2) hinX2 (kat hk kD_7) rfl 3 (by decide) nbf_7 (fun _ _ h => h) rfl dX3_findAncestors_14 ?_
  refine ok_iload_n C 2 dX3_findAncestors_17 rfl rfl ?_
  obtain ⟨g2, h⟩ := h
  refine ok_iald C (kat hk kD_14) g2 dX3_findAncestors_18 ?_
  refine ok_istore_n C (L2 := [(3, .int (σ.1 14 x1.toNatClampNeg)), (2, .int (σ.1 13 x1.toNatClampNeg)), (0, .ref (Ω.2.2.1 22)), (1, .int x1)]) dX3_findAncestors_19 rfl (by decide) rfl ?_
  refine ok_aload_n C 2 dX3_findAncestors_20 rfl rfl ?_
  refine ok_getR C (ci := 3) hinX3 (kat hk kD_22) rfl 1 (by decide) W_1_156 (fun _ _ h => h) rfl dX3_findAncestors_21 ?_
  refine ok_iload_n C 3 dX3_findAncestors_24 rfl rfl ?_
  refine ok_callVv C (As := [.int x1]) (rest := []) (q := 23) (ci := 0) (kat hk kD_23) rfl (c_X0_clearRow 23 960 bt_23 _ _ _ h) W_2_196 W_2_197 W_2_198 W_2_199 W_1_5 hd_X0_clearRow rfl ⟨Nat.le_of_ble_eq_true rfl, Nat.le_of_ble_eq_true rfl⟩ (Nat.le_of_ble_eq_true rfl) rfl dX3_findAncestors_25 (fun u4 h => ?_)
  refine ok_aload_n C 2 dX3_findAncestors_28 rfl rfl ?_
  refine ok_getR C (ci := 3) hinX3 (kat hk kD_22) rfl 1 (by decide) W_1_156 (fun _ _ h => h) rfl dX3_findAncestors_29 ?_
  refine ok_iload_n C 3 dX3_findAncestors_32 rfl rfl ?_
  refine ok_iload_n C 3 dX3_findAncestors_33 rfl rfl ?_
  refine ok_callVv C (As := [.int x1, .int x1]) (rest := []) (q := 23) (ci := 0) (kat hk kD_23) rfl (c_X0_put 23 960 bt_23 _ _ _ _ h) W_4_59 W_4_60 W_4_61 W_4_62 W_1_5 hd_X0_put rfl ⟨Nat.le_of_ble_eq_true rfl, Nat.le_of_ble_eq_true rfl⟩ (Nat.le_of_ble_eq_true rfl) rfl dX3_findAncestors_34 (fun u6 h => ?_)
  refine ok_iload_n C 1 dX3_findAncestors_37 rfl rfl ?_
  refine ok_iconst C (v := (-1)) dX3_findAncestors_38 (by decide) ?_
  obtain ⟨h1, h2⟩ := h
  refine ok_icmp_eq C 55 dX3_findAncestors_39 rfl (fun c9 => ?_) (fun c9 => ?_)
  · have h := h1 c9
    refine ok_sub [2, 3, 1, 0] rfl ?_
    exact J55 _ _ _ h
  · have h := h2 c9
    refine ok_aload_n C 2 dX3_findAncestors_42 rfl rfl ?_
    refine ok_getR C (ci := 3) hinX3 (kat hk kD_22) rfl 1 (by decide) W_1_156 (fun _ _ h => h) rfl dX3_findAncestors_43 ?_
    refine ok_iload_n C 3 dX3_findAncestors_46 rfl rfl ?_
    refine ok_aload_n C 2 dX3_findAncestors_47 rfl rfl ?_
    refine ok_getR C (ci := 3) hinX3 (kat hk kD_22) rfl 1 (by decide) W_1_156 (fun _ _ h => h) rfl dX3_findAncestors_48 ?_
    refine ok_iload_n C 1 dX3_findAncestors_51 rfl rfl ?_
    refine ok_callVv C (As := [.int x1, .ref (Ω.2.2.1 23), .int (σ.1 13 x1.toNatClampNeg)]) (rest := []) (q := 23) (ci := 0) (kat hk kD_23) rfl (c_X0_join 23 960 23 960 bt_23 bt_23 _ _ _ _ h) W_4_63 W_4_64 W_4_65 W_4_66 W_1_5 hd_X0_join rfl ⟨Nat.le_of_ble_eq_true rfl, Nat.le_of_ble_eq_true rfl⟩ (Nat.le_of_ble_eq_true rfl) rfl dX3_findAncestors_52 (fun u8 h => ?_)
    refine ok_sub [2, 3, 1, 0] rfl ?_
    exact J55 _ _ _ h
set_option maxRecDepth 100000 in
set_option maxHeartbeats 4000000 in
theorem m_X7_isMost {l : Launch} {Ω : Wm} (hk : Hk Ω kD)  (hv : ∀ (x0 : Int32) (x1 : Int32) (σ : Sg) (K : Int32 → Sg → Prop), sp_X7_isMost x0 x1 σ K → vc_X7_isMost x0 x1 σ K) : CT_X7_isMost l Ω := by
  intro x0 x1 σ Po hsp
  have hvc := hv x0 x1 σ Po hsp
  refine Ct.of (by decide +kernel) (Nat.le_of_ble_eq_true rfl) (fun Γ C => ?_)
  have J14 : ∀ (s0 : Int32) (σ : Sg), f_X7_isMost_14 x0 x1 Po s0 σ → OK Γ Ω 2 14 [] [.int s0] σ := by
    intro s0 σ h
    unfold f_X7_isMost_14 at h
    obtain ⟨z2, h⟩ := h
    exact ok_zret C rfl rfl (bz_n z2) dX7_isMost_14 h
  have h : f_X7_isMost_e x0 x1 Po σ := hvc  
  unfold f_X7_isMost_e at h
  refine ok_sub (L2 := [(0, .int x0), (1, .int x1)]) [0, 1] rfl ?_
  refine ok_iconst C (v := 3) dX7_isMost_0 (by decide) ?_
  refine ok_iload_n C 0 dX7_isMost_1 rfl rfl ?_
  refine ok_imul C dX7_isMost_2 ?_
  refine ok_iconst C (v := 2) dX7_isMost_3 (by decide) ?_
  refine ok_iload_n C 1 dX7_isMost_4 rfl rfl ?_
  refine ok_imul C dX7_isMost_5 ?_
  obtain ⟨h1, h2⟩ := h
  refine ok_icmp_le C 13 dX7_isMost_6 rfl (fun c1 => ?_) (fun c1 => ?_)
  · have h := h1 c1
    refine ok_iconst C (v := 0) dX7_isMost_13 (by decide) ?_
    refine ok_sub [] rfl ?_
    exact J14 _ _ h
  · have h := h2 c1
    refine ok_iconst C (v := 1) dX7_isMost_9 (by decide) ?_
    refine ok_goto C 14 dX7_isMost_10 rfl ?_
    refine ok_sub [] rfl ?_
    exact J14 _ _ h
set_option maxRecDepth 100000 in
set_option maxHeartbeats 4000000 in
theorem m_X3_stronglySeesMostOf {l : Launch} {Ω : Wm} (hk : Hk Ω kD) (c_X7_isMost : CT_X7_isMost l Ω) (c_X0_has : CT_X0_has l Ω) (c_J6_bitCount_0f7a4 : CT_J6_bitCount_0f7a4 l Ω) (hv : ∀ (x1 : Int32) (x2 : Int32) (σ : Sg) (K : Int32 → Sg → Prop), sp_X3_stronglySeesMostOf x1 x2 σ K → vc_X3_stronglySeesMostOf x1 x2 σ K) : CT_X3_stronglySeesMostOf l Ω := by
  intro x1 x2 σ Po hsp
  have hvc := hv x1 x2 σ Po hsp
  refine Ct.of (by decide +kernel) (Nat.le_of_ble_eq_true rfl) (fun Γ C => ?_)
  obtain ⟨L5, gl5⟩ : ∃ L : Int32 → Int32 → Sg → Prop, ∀ (x3 : Int32) (x4 : Int32) (σ : Sg), L x3 x4 σ = OK Γ Ω 5 5 [(0, .ref (Ω.2.2.1 22)), (1, .int x1), (2, .int x2), (3, .int x3), (4, .int x4)] [] σ := ⟨fun x3 x4 σ => OK Γ Ω 5 5 [(0, .ref (Ω.2.2.1 22)), (1, .int x1), (2, .int x2), (3, .int x3), (4, .int x4)] [] σ, fun _ _ _ => rfl⟩
  have J60 : ∀ (x3 : Int32) (x4 : Int32) (σ : Sg), f_X3_stronglySeesMostOf_60 x1 x2 L5 Po x3 x4 σ → OK Γ Ω 5 60 [(0, .ref (Ω.2.2.1 22)), (1, .int x1), (2, .int x2), (3, .int x3), (4, .int x4)] [] σ := by
    intro x3 x4 σ h
    unfold f_X3_stronglySeesMostOf_60 at h
    refine ok_iinc C (v := x4 + 1) (L2 := [(4, .int (x4 + 1)), (0, .ref (Ω.2.2.1 22)), (1, .int x1), (2, .int x2), (3, .int x3)]) 4 dX3_stronglySeesMostOf_60 rfl rfl (by decide) rfl ?_
    refine ok_goto C 5 dX3_stronglySeesMostOf_63 rfl ?_
    refine ok_sub [1, 2, 3, 4, 0] rfl ?_
    exact Eq.mp (gl5 _ _ _) h
  have R5 : ∀ (x3 : Int32) (x4 : Int32) (σ : Sg), f_X3_stronglySeesMostOf_5 x1 x2 L5 Po x3 x4 σ → L5 x3 x4 σ := by
    intro x3 x4 σ h
    unfold f_X3_stronglySeesMostOf_5 at h
    refine Eq.mpr (gl5 _ _ _) ?_
    refine ok_iload C 4 dX3_stronglySeesMostOf_5 rfl ?_
    refine ok_iload_n C 1 dX3_stronglySeesMostOf_7 rfl rfl ?_
    obtain ⟨h1, h2⟩ := h
    refine ok_icmp_ge C 66 dX3_stronglySeesMostOf_8 rfl (fun c14 => ?_) (fun c14 => ?_)
    · have h := h1 c14
      refine ok_iload_n C 3 dX3_stronglySeesMostOf_66 rfl rfl ?_
      refine ok_callSi C (As := [.int x3]) (rest := []) (c_J6_bitCount_0f7a4  _ _ _ h) W_4_109 W_4_110 W_4_111 W_1_24 hd_J6_bitCount_0f7a4 rfl ⟨Nat.le_of_ble_eq_true rfl, Nat.le_of_ble_eq_true rfl⟩ (Nat.le_of_ble_eq_true rfl) rfl dX3_stronglySeesMostOf_67 (fun r1 u2 h => ?_)
      refine ok_aload_n C 0 dX3_stronglySeesMostOf_70 rfl rfl ?_
      refine ok_getI C (ci := 3) hinX3 (kat hk kD_22) rfl 11 (by decide) W_1_177 (fun _ _ h => h) rfl dX3_stronglySeesMostOf_71 ?_
      refine ok_callSNi C (As := [.int r1, .int (u2.1 22 11)]) (rest := []) (c_X7_isMost  _ _ _ _ h) nbm_3 W_4_99 W_4_100 W_1_1 hd_X7_isMost rfl ⟨Nat.le_of_ble_eq_true rfl, Nat.le_of_ble_eq_true rfl⟩ (Nat.le_of_ble_eq_true rfl) rfl dX3_stronglySeesMostOf_74 (fun r3 u4 h => ?_)
      obtain ⟨z5, h⟩ := h
      exact ok_zret C rfl rfl (bz_n z5) dX3_stronglySeesMostOf_77 h
    · have h := h2 c14
      refine ok_aload_n C 0 dX3_stronglySeesMostOf_11 rfl rfl ?_
      refine ok_getR C (ci := 3) hinX3 (kat hk kD_22) rfl 7 (by decide) W_1_171 (fun _ _ h => h) rfl dX3_stronglySeesMostOf_12 ?_
      refine ok_iload C 4 dX3_stronglySeesMostOf_15 rfl ?_
      obtain ⟨g6, h⟩ := h
      refine ok_zald C (kat hk kD_33) g6 dX3_stronglySeesMostOf_17 ?_
      obtain ⟨h1, h2⟩ := h
      refine ok_if_eq C 60 dX3_stronglySeesMostOf_18 rfl (fun c13 => ?_) (fun c13 => ?_)
      · have h := h1 c13
        refine ok_sub [0, 1, 2, 3, 4] rfl ?_
        exact J60 _ _ _ h
      · have h := h2 c13
        refine ok_aload_n C 0 dX3_stronglySeesMostOf_21 rfl rfl ?_
        refine ok_getR C (ci := 3) hinX3 (kat hk kD_22) rfl 6 (by decide) W_1_167 (fun _ _ h => h) rfl dX3_stronglySeesMostOf_22 ?_
        refine ok_iload C 4 dX3_stronglySeesMostOf_25 rfl ?_
        obtain ⟨g7, h⟩ := h
        refine ok_iald C (kat hk kD_32) g7 dX3_stronglySeesMostOf_27 ?_
        refine ok_iload_n C 2 dX3_stronglySeesMostOf_28 rfl rfl ?_
        obtain ⟨h1, h2⟩ := h
        refine ok_icmp_ne C 60 dX3_stronglySeesMostOf_29 rfl (fun c12 => ?_) (fun c12 => ?_)
        · have h := h1 c12
          refine ok_sub [0, 1, 2, 3, 4] rfl ?_
          exact J60 _ _ _ h
        · have h := h2 c12
          refine ok_aload_n C 0 dX3_stronglySeesMostOf_32 rfl rfl ?_
          refine ok_getR C (ci := 3) hinX3 (kat hk kD_22) rfl 3 (by decide) W_1_162 (fun _ _ h => h) rfl dX3_stronglySeesMostOf_33 ?_
          refine ok_iload_n C 1 dX3_stronglySeesMostOf_36 rfl rfl ?_
          refine ok_iload C 4 dX3_stronglySeesMostOf_37 rfl ?_
          refine ok_callVi C (As := [.int x1, .int x4]) (rest := []) (q := 27) (ci := 0) (kat hk kD_27) rfl (c_X0_has 27 960 bt_27 _ _ _ _ h) W_4_79 W_4_80 W_4_81 W_4_82 W_1_5 hd_X0_has rfl ⟨Nat.le_of_ble_eq_true rfl, Nat.le_of_ble_eq_true rfl⟩ (Nat.le_of_ble_eq_true rfl) rfl dX3_stronglySeesMostOf_39 (fun r8 u9 h => ?_)
          obtain ⟨h1, h2⟩ := h
          refine ok_if_eq C 60 dX3_stronglySeesMostOf_42 rfl (fun c11 => ?_) (fun c11 => ?_)
          · have h := h1 c11
            refine ok_sub [0, 1, 2, 3, 4] rfl ?_
            exact J60 _ _ _ h
          · have h := h2 c11
            refine ok_iload_n C 3 dX3_stronglySeesMostOf_45 rfl rfl ?_
            refine ok_iconst C (v := 1) dX3_stronglySeesMostOf_46 (by decide) ?_
            refine ok_aload_n C 0 dX3_stronglySeesMostOf_47 rfl rfl ?_
            refine ok_getR C (ci := 3) hinX3 (kat hk kD_22) rfl 0 (by decide) W_1_155 (fun _ _ h => h) rfl dX3_stronglySeesMostOf_48 ?_
            refine ok_getRN C (ci := 2) hinX2 (kat hk kD_7) rfl 1 (by decide) nbf_1 (fun _ _ h => h) rfl dX3_stronglySeesMostOf_51 ?_
            refine ok_iload C 4 dX3_stronglySeesMostOf_54 rfl ?_
            obtain ⟨g10, h⟩ := h
            refine ok_iald C (kat hk kD_12) g10 dX3_stronglySeesMostOf_56 ?_
            refine ok_ishl C dX3_stronglySeesMostOf_57 ?_
            refine ok_ior C dX3_stronglySeesMostOf_58 ?_
            refine ok_istore_n C (L2 := [(3, .int (x3 ||| (ishl 1 (u9.1 12 x4.toNatClampNeg)))), (0, .ref (Ω.2.2.1 22)), (1, .int x1), (2, .int x2), (4, .int x4)]) dX3_stronglySeesMostOf_59 rfl (by decide) rfl ?_
            refine ok_sub [1, 2, 3, 0, 4] rfl ?_
            exact J60 _ _ _ h
  have h : f_X3_stronglySeesMostOf_e x1 x2 L5 Po σ := hvc L5 R5
  unfold f_X3_stronglySeesMostOf_e at h
  refine ok_sub (L2 := [(0, .ref (Ω.2.2.1 22)), (1, .int x1), (2, .int x2)]) [0, 1, 2] rfl ?_
  refine ok_iconst C (v := 0) dX3_stronglySeesMostOf_0 (by decide) ?_
  refine ok_istore_n C (L2 := [(3, .int 0), (0, .ref (Ω.2.2.1 22)), (1, .int x1), (2, .int x2)]) dX3_stronglySeesMostOf_1 rfl (by decide) rfl ?_
  refine ok_iconst C (v := 0) dX3_stronglySeesMostOf_2 (by decide) ?_
  refine ok_istore C (L2 := [(4, .int 0), (3, .int 0), (0, .ref (Ω.2.2.1 22)), (1, .int x1), (2, .int x2)]) dX3_stronglySeesMostOf_3 (by decide) rfl ?_
  refine ok_sub [2, 3, 4, 1, 0] rfl ?_
  exact Eq.mp (gl5 _ _ _) h
set_option maxRecDepth 100000 in
set_option maxHeartbeats 4000000 in
theorem m_X3_findRound {l : Launch} {Ω : Wm} (hk : Hk Ω kD) (c_X3_stronglySeesMostOf : CT_X3_stronglySeesMostOf l Ω) (hv : ∀ (x1 : Int32) (σ : Sg) (K : Sg → Prop), sp_X3_findRound x1 σ K → vc_X3_findRound x1 σ K) : CT_X3_findRound l Ω := by
  intro x1 σ Po hsp
  have hvc := hv x1 σ Po hsp
  refine Ct.of (by decide +kernel) (Nat.le_of_ble_eq_true rfl) (fun Γ C => ?_)
  have J127 : ∀ (s0 : Int32) (s1 : Int32) (σ : Sg), f_X3_findRound_127 x1 Po s0 s1 σ → OK Γ Ω 6 127 [(0, .ref (Ω.2.2.1 22)), (1, .int x1)] [.int s0, .int s1, .ref (Ω.2.2.1 33)] σ := by
    intro s0 s1 σ h
    unfold f_X3_findRound_127 at h
    obtain ⟨g17, h⟩ := h
    obtain ⟨z18, h⟩ := h
    refine ok_zast C (kat hk kD_33) g17 dX3_findRound_127 (bz_s z18 ?_)
    refine ok_aload_n C 0 dX3_findRound_128 rfl rfl ?_
    refine ok_aload_n C 0 dX3_findRound_129 rfl rfl ?_
    refine ok_getI C (ci := 3) hinX3 (kat hk kD_22) rfl 13 (by decide) W_1_180 (fun _ _ h => h) rfl dX3_findRound_130 ?_
    refine ok_aload_n C 0 dX3_findRound_133 rfl rfl ?_
    refine ok_getR C (ci := 3) hinX3 (kat hk kD_22) rfl 6 (by decide) W_1_167 (fun _ _ h => h) rfl dX3_findRound_134 ?_
    refine ok_iload_n C 1 dX3_findRound_137 rfl rfl ?_
    obtain ⟨g19, h⟩ := h
    refine ok_iald C (kat hk kD_32) g19 dX3_findRound_138 ?_
    refine ok_mmax C W_4_83 W_3_65 W_1_20 W_3_66 (Nat.le_of_ble_eq_true rfl) (Nat.le_of_ble_eq_true rfl) dX3_findRound_139 ?_
    refine ok_putI C (ci := 3) hinX3 (kat hk kD_22) rfl 13 (by decide) W_1_180 (fun _ _ h => h) tyX3 tyX3_ok nmX3 rfl (by decide +kernel) rfl rfl rfl dX3_findRound_142 ?_
    exact ok_vret C rfl rfl dX3_findRound_145 h
  have J122 : ∀ (s0 : Int32) (σ : Sg), f_X3_findRound_122 x1 Po s0 σ → OK Γ Ω 6 122 [(0, .ref (Ω.2.2.1 22)), (1, .int x1)] [.int s0, .ref (Ω.2.2.1 33)] σ := by
    intro s0 σ h
    unfold f_X3_findRound_122 at h
    refine ok_iconst C (v := 1) dX3_findRound_122 (by decide) ?_
    refine ok_goto C 127 dX3_findRound_123 rfl ?_
    refine ok_sub [0, 1] rfl ?_
    exact J127 _ _ _ h
  have J96 : ∀ (x2 : Int32) (s0 : Int32) (s1 : Int32) (σ : Sg), f_X3_findRound_96 x1 Po x2 s0 s1 σ → OK Γ Ω 6 96 [(0, .ref (Ω.2.2.1 22)), (1, .int x1), (2, .int x2)] [.int s0, .int s1, .ref (Ω.2.2.1 32)] σ := by
    intro x2 s0 s1 σ h
    unfold f_X3_findRound_96 at h
    obtain ⟨g12, h⟩ := h
    refine ok_iast C (kat hk kD_32) g12 dX3_findRound_96 ?_
    refine ok_aload_n C 0 dX3_findRound_97 rfl rfl ?_
    refine ok_getR C (ci := 3) hinX3 (kat hk kD_22) rfl 7 (by decide) W_1_171 (fun _ _ h => h) rfl dX3_findRound_98 ?_
    refine ok_iload_n C 1 dX3_findRound_101 rfl rfl ?_
    refine ok_iload_n C 2 dX3_findRound_102 rfl rfl ?_
    refine ok_iconst C (v := (-1)) dX3_findRound_103 (by decide) ?_
    obtain ⟨h1, h2⟩ := h
    refine ok_icmp_eq C 122 dX3_findRound_104 rfl (fun c16 => ?_) (fun c16 => ?_)
    · have h := h1 c16
      refine ok_sub [0, 1] rfl ?_
      exact J122 _ _ h
    · have h := h2 c16
      refine ok_aload_n C 0 dX3_findRound_107 rfl rfl ?_
      refine ok_getR C (ci := 3) hinX3 (kat hk kD_22) rfl 6 (by decide) W_1_167 (fun _ _ h => h) rfl dX3_findRound_108 ?_
      refine ok_iload_n C 2 dX3_findRound_111 rfl rfl ?_
      obtain ⟨g13, h⟩ := h
      refine ok_iald C (kat hk kD_32) g13 dX3_findRound_112 ?_
      refine ok_aload_n C 0 dX3_findRound_113 rfl rfl ?_
      refine ok_getR C (ci := 3) hinX3 (kat hk kD_22) rfl 6 (by decide) W_1_167 (fun _ _ h => h) rfl dX3_findRound_114 ?_
      refine ok_iload_n C 1 dX3_findRound_117 rfl rfl ?_
      obtain ⟨g14, h⟩ := h
      refine ok_iald C (kat hk kD_32) g14 dX3_findRound_118 ?_
      obtain ⟨h1, h2⟩ := h
      refine ok_icmp_ge C 126 dX3_findRound_119 rfl (fun c15 => ?_) (fun c15 => ?_)
      · have h := h1 c15
        refine ok_iconst C (v := 0) dX3_findRound_126 (by decide) ?_
        refine ok_sub [0, 1] rfl ?_
        exact J127 _ _ _ h
      · have h := h2 c15
        refine ok_sub [0, 1] rfl ?_
        exact J122 _ _ h
  have J75 : ∀ (x2 : Int32) (x4 : Int32) (s0 : Int32) (σ : Sg), f_X3_findRound_75 x1 Po x2 x4 s0 σ → OK Γ Ω 6 75 [(0, .ref (Ω.2.2.1 22)), (1, .int x1), (2, .int x2), (4, .int x4)] [.int s0] σ := by
    intro x2 x4 s0 σ h
    unfold f_X3_findRound_75 at h
    refine ok_istore C (L2 := [(5, .int s0), (0, .ref (Ω.2.2.1 22)), (1, .int x1), (2, .int x2), (4, .int x4)]) dX3_findRound_75 (by decide) rfl ?_
    refine ok_aload_n C 1 dX3_findRound_77 rfl rfl ?_
    refine ok_getR C (ci := 3) hinX3 (kat hk kD_22) rfl 6 (by decide) W_1_167 (fun _ _ h => h) rfl dX3_findRound_78 ?_
    refine ok_iload_n C 2 dX3_findRound_81 rfl rfl ?_
    refine ok_iload C 0 dX3_findRound_82 rfl ?_
    obtain ⟨h1, h2⟩ := h
    refine ok_if_eq C 94 dX3_findRound_84 rfl (fun c11 => ?_) (fun c11 => ?_)
    · have h := h1 c11
      refine ok_iload C 4 dX3_findRound_94 rfl ?_
      refine ok_sub [1, 2, 3] rfl ?_
      exact J96 _ _ _ _ h
    · have h := h2 c11
      refine ok_iload C 4 dX3_findRound_87 rfl ?_
      refine ok_iconst C (v := 1) dX3_findRound_89 (by decide) ?_
      refine ok_iadd C dX3_findRound_90 ?_
      refine ok_goto C 96 dX3_findRound_91 rfl ?_
      refine ok_sub [1, 2, 3] rfl ?_
      exact J96 _ _ _ _ h
  have J70 : ∀ (x2 : Int32) (x4 : Int32) (σ : Sg), f_X3_findRound_70 x1 Po x2 x4 σ → OK Γ Ω 6 70 [(0, .ref (Ω.2.2.1 22)), (1, .int x1), (2, .int x2), (4, .int x4)] [] σ := by
    intro x2 x4 σ h
    unfold f_X3_findRound_70 at h
    refine ok_iconst C (v := 1) dX3_findRound_70 (by decide) ?_
    refine ok_goto C 75 dX3_findRound_71 rfl ?_
    refine ok_sub [0, 1, 2, 3] rfl ?_
    exact J75 _ _ _ _ h
  have J50 : ∀ (x2 : Int32) (s0 : Int32) (s1 : Int32) (σ : Sg), f_X3_findRound_50 x1 Po x2 s0 s1 σ → OK Γ Ω 6 50 [(0, .ref (Ω.2.2.1 22)), (1, .int x1), (2, .int x2)] [.int s0, .int s1] σ := by
    intro x2 s0 s1 σ h
    unfold f_X3_findRound_50 at h
    refine ok_mmax C W_4_83 W_3_65 W_1_20 W_3_66 (Nat.le_of_ble_eq_true rfl) (Nat.le_of_ble_eq_true rfl) dX3_findRound_50 ?_
    refine ok_istore C (L2 := [(4, .int (imax s1 s0)), (0, .ref (Ω.2.2.1 22)), (1, .int x1), (2, .int x2)]) dX3_findRound_53 (by decide) rfl ?_
    refine ok_iload C 0 dX3_findRound_55 rfl ?_
    obtain ⟨h1, h2⟩ := h
    refine ok_if_eq C 70 dX3_findRound_57 rfl (fun c10 => ?_) (fun c10 => ?_)
    · have h := h1 c10
      refine ok_sub [1, 2, 3, 0] rfl ?_
      exact J70 _ _ _ h
    · have h := h2 c10
      refine ok_aload_n C 1 dX3_findRound_60 rfl rfl ?_
      refine ok_iload_n C 2 dX3_findRound_61 rfl rfl ?_
      refine ok_iload C 0 dX3_findRound_62 rfl ?_
      refine ok_callVi C (As := [.int x1, .int (imax s1 s0)]) (rest := []) (q := 22) (ci := 3) (kat hk kD_22) rfl (c_X3_stronglySeesMostOf  _ _ _ _ h) W_4_105 W_4_107 W_0_13 W_4_108 W_1_6 hd_X3_stronglySeesMostOf rfl ⟨Nat.le_of_ble_eq_true rfl, Nat.le_of_ble_eq_true rfl⟩ (Nat.le_of_ble_eq_true rfl) rfl dX3_findRound_64 (fun r7 u8 h => ?_)
      obtain ⟨h1, h2⟩ := h
      refine ok_if_eq C 74 dX3_findRound_67 rfl (fun c9 => ?_) (fun c9 => ?_)
      · have h := h1 c9
        refine ok_iconst C (v := 0) dX3_findRound_74 (by decide) ?_
        refine ok_sub [1, 2, 3, 0] rfl ?_
        exact J75 _ _ _ _ h
      · have h := h2 c9
        refine ok_sub [1, 2, 3, 0] rfl ?_
        exact J70 _ _ _ h
  have J35 : ∀ (x2 : Int32) (x3 : Int32) (s0 : Int32) (σ : Sg), f_X3_findRound_35 x1 Po x2 x3 s0 σ → OK Γ Ω 6 35 [(0, .ref (Ω.2.2.1 22)), (1, .int x1), (2, .int x2), (3, .int x3)] [.int s0] σ := by
    intro x2 x3 s0 σ h
    unfold f_X3_findRound_35 at h
    refine ok_iload_n C 3 dX3_findRound_35 rfl rfl ?_
    refine ok_iconst C (v := (-1)) dX3_findRound_36 (by decide) ?_
    obtain ⟨h1, h2⟩ := h
    refine ok_icmp_ne C 44 dX3_findRound_37 rfl (fun c6 => ?_) (fun c6 => ?_)
    · have h := h1 c6
      refine ok_aload_n C 0 dX3_findRound_44 rfl rfl ?_
      refine ok_getR C (ci := 3) hinX3 (kat hk kD_22) rfl 6 (by decide) W_1_167 (fun _ _ h => h) rfl dX3_findRound_45 ?_
      refine ok_iload_n C 3 dX3_findRound_48 rfl rfl ?_
      obtain ⟨g5, h⟩ := h
      refine ok_iald C (kat hk kD_32) g5 dX3_findRound_49 ?_
      refine ok_sub [0, 1, 2] rfl ?_
      exact J50 _ _ _ _ h
    · have h := h2 c6
      refine ok_iconst C (v := 0) dX3_findRound_40 (by decide) ?_
      refine ok_goto C 50 dX3_findRound_41 rfl ?_
      refine ok_sub [0, 1, 2] rfl ?_
      exact J50 _ _ _ _ h
  have h : f_X3_findRound_e x1 Po σ := hvc  
  unfold f_X3_findRound_e at h
  refine ok_sub (L2 := [(0, .ref (Ω.2.2.1 22)), (1, .int x1)]) [0, 1] rfl ?_
  refine ok_aload_n C 0 dX3_findRound_0 rfl rfl ?_
  refine ok_getR C (ci := 3) hinX3 (kat hk kD_22) rfl 0 (by decide) W_1_155 (fun _ _ h => h) rfl dX3_findRound_1 ?_
  refine ok_getRN C (ci := 2) hinX2 (kat hk kD_7) rfl 2 (by decide) nbf_4 (fun _ _ h => h) rfl dX3_findRound_4 ?_
  refine ok_iload_n C 1 dX3_findRound_7 rfl rfl ?_
  obtain ⟨g1, h⟩ := h
  refine ok_iald C (kat hk kD_13) g1 dX3_findRound_8 ?_
  refine ok_istore_n C (L2 := [(2, .int (σ.1 13 x1.toNatClampNeg)), (0, .ref (Ω.2.2.1 22)), (1, .int x1)]) dX3_findRound_9 rfl (by decide) rfl ?_
  refine ok_aload_n C 1 dX3_findRound_10 rfl rfl ?_
  refine ok_getR C (ci := 3) hinX3 (kat hk kD_22) rfl 0 (by decide) W_1_155 (fun _ _ h => h) rfl dX3_findRound_11 ?_
  refine ok_getRN C (ci := 2) hinX2 (kat hk kD_7) rfl 3 (by decide) nbf_7 (fun _ _ h => h) rfl dX3_findRound_14 ?_
  refine ok_iload_n C 2 dX3_findRound_17 rfl rfl ?_
  obtain ⟨g2, h⟩ := h
  refine ok_iald C (kat hk kD_14) g2 dX3_findRound_18 ?_
  refine ok_istore_n C (L2 := [(3, .int (σ.1 14 x1.toNatClampNeg)), (2, .int (σ.1 13 x1.toNatClampNeg)), (0, .ref (Ω.2.2.1 22)), (1, .int x1)]) dX3_findRound_19 rfl (by decide) rfl ?_
  refine ok_iload_n C 1 dX3_findRound_20 rfl rfl ?_
  refine ok_iconst C (v := (-1)) dX3_findRound_21 (by decide) ?_
  obtain ⟨h1, h2⟩ := h
  refine ok_icmp_ne C 29 dX3_findRound_22 rfl (fun c4 => ?_) (fun c4 => ?_)
  · have h := h1 c4
    refine ok_aload_n C 2 dX3_findRound_29 rfl rfl ?_
    refine ok_getR C (ci := 3) hinX3 (kat hk kD_22) rfl 6 (by decide) W_1_167 (fun _ _ h => h) rfl dX3_findRound_30 ?_
    refine ok_iload_n C 1 dX3_findRound_33 rfl rfl ?_
    obtain ⟨g3, h⟩ := h
    refine ok_iald C (kat hk kD_32) g3 dX3_findRound_34 ?_
    refine ok_sub [2, 3, 1, 0] rfl ?_
    exact J35 _ _ _ _ h
  · have h := h2 c4
    refine ok_iconst C (v := 0) dX3_findRound_25 (by decide) ?_
    refine ok_goto C 35 dX3_findRound_26 rfl ?_
    refine ok_sub [2, 3, 1, 0] rfl ?_
    exact J35 _ _ _ _ h
set_option maxRecDepth 100000 in
set_option maxHeartbeats 4000000 in
theorem m_X3_countAncestorsByCreator {l : Launch} {Ω : Wm} (hk : Hk Ω kD) (c_X0_has : CT_X0_has l Ω) (c_J7_fill_53178 : CT_J7_fill_53178 l Ω) (hv : ∀ (x1 : Int32) (σ : Sg) (K : Sg → Prop), sp_X3_countAncestorsByCreator x1 σ K → vc_X3_countAncestorsByCreator x1 σ K) : CT_X3_countAncestorsByCreator l Ω := by
  intro x1 σ Po hsp
  have hvc := hv x1 σ Po hsp
  refine Ct.of (by decide +kernel) (Nat.le_of_ble_eq_true rfl) (fun Γ C => ?_)
  obtain ⟨L18, gl18⟩ : ∃ L : Int32 → Sg → Prop, ∀ (x2 : Int32) (σ : Sg), L x2 σ = OK Γ Ω 4 18 [(0, .ref (Ω.2.2.1 22)), (1, .int x1), (2, .int x2)] [] σ := ⟨fun x2 σ => OK Γ Ω 4 18 [(0, .ref (Ω.2.2.1 22)), (1, .int x1), (2, .int x2)] [] σ, fun _ _ => rfl⟩
  have J76 : ∀ (x2 : Int32) (σ : Sg), f_X3_countAncestorsByCreator_76 x1 L18 Po x2 σ → OK Γ Ω 4 76 [(0, .ref (Ω.2.2.1 22)), (1, .int x1), (2, .int x2)] [] σ := by
    intro x2 σ h
    unfold f_X3_countAncestorsByCreator_76 at h
    refine ok_iinc C (v := x2 + 1) (L2 := [(2, .int (x2 + 1)), (0, .ref (Ω.2.2.1 22)), (1, .int x1)]) 2 dX3_countAncestorsByCreator_76 rfl rfl (by decide) rfl ?_
    refine ok_goto C 18 dX3_countAncestorsByCreator_79 rfl ?_
    refine ok_sub [1, 2, 0] rfl ?_
    exact Eq.mp (gl18 _ _) h
  have R18 : ∀ (x2 : Int32) (σ : Sg), f_X3_countAncestorsByCreator_18 x1 L18 Po x2 σ → L18 x2 σ := by
    intro x2 σ h
    unfold f_X3_countAncestorsByCreator_18 at h
    refine Eq.mpr (gl18 _ _) ?_
    refine ok_iload_n C 2 dX3_countAncestorsByCreator_18 rfl rfl ?_
    refine ok_iload_n C 1 dX3_countAncestorsByCreator_19 rfl rfl ?_
    obtain ⟨h1, h2⟩ := h
    refine ok_icmp_gt C 82 dX3_countAncestorsByCreator_20 rfl (fun c14 => ?_) (fun c14 => ?_)
    · have h := h1 c14
      exact ok_vret C rfl rfl dX3_countAncestorsByCreator_82 h
    · have h := h2 c14
      refine ok_aload_n C 0 dX3_countAncestorsByCreator_23 rfl rfl ?_
      refine ok_getR C (ci := 3) hinX3 (kat hk kD_22) rfl 1 (by decide) W_1_156 (fun _ _ h => h) rfl dX3_countAncestorsByCreator_24 ?_
      refine ok_iload_n C 1 dX3_countAncestorsByCreator_27 rfl rfl ?_
      refine ok_iload_n C 2 dX3_countAncestorsByCreator_28 rfl rfl ?_
      refine ok_callVi C (As := [.int x1, .int x2]) (rest := []) (q := 23) (ci := 0) (kat hk kD_23) rfl (c_X0_has 23 960 bt_23 _ _ _ _ h) W_4_79 W_4_80 W_4_81 W_4_82 W_1_5 hd_X0_has rfl ⟨Nat.le_of_ble_eq_true rfl, Nat.le_of_ble_eq_true rfl⟩ (Nat.le_of_ble_eq_true rfl) rfl dX3_countAncestorsByCreator_29 (fun r5 u6 h => ?_)
      obtain ⟨h1, h2⟩ := h
      refine ok_if_eq C 76 dX3_countAncestorsByCreator_32 rfl (fun c13 => ?_) (fun c13 => ?_)
      · have h := h1 c13
        refine ok_sub [0, 1, 2] rfl ?_
        exact J76 _ _ h
      · have h := h2 c13
        refine ok_aload_n C 0 dX3_countAncestorsByCreator_35 rfl rfl ?_
        refine ok_getR C (ci := 3) hinX3 (kat hk kD_22) rfl 0 (by decide) W_1_155 (fun _ _ h => h) rfl dX3_countAncestorsByCreator_36 ?_
        refine ok_getRN C (ci := 2) hinX2 (kat hk kD_7) rfl 1 (by decide) nbf_1 (fun _ _ h => h) rfl dX3_countAncestorsByCreator_39 ?_
        refine ok_iload_n C 2 dX3_countAncestorsByCreator_42 rfl rfl ?_
        obtain ⟨g7, h⟩ := h
        refine ok_iald C (kat hk kD_12) g7 dX3_countAncestorsByCreator_43 ?_
        refine ok_istore_n C (L2 := [(3, .int (u6.1 12 x2.toNatClampNeg)), (0, .ref (Ω.2.2.1 22)), (1, .int x1), (2, .int x2)]) dX3_countAncestorsByCreator_44 rfl (by decide) rfl ?_
        refine ok_aload_n C 1 dX3_countAncestorsByCreator_45 rfl rfl ?_
        refine ok_getR C (ci := 3) hinX3 (kat hk kD_22) rfl 9 (by decide) W_1_175 (fun _ _ h => h) rfl dX3_countAncestorsByCreator_46 ?_
        refine ok_iload_n C 0 dX3_countAncestorsByCreator_49 rfl rfl ?_
        refine ok_dup2_11 C dX3_countAncestorsByCreator_50 rfl rfl ?_
        obtain ⟨g8, h⟩ := h
        refine ok_iald C (kat hk kD_35) g8 dX3_countAncestorsByCreator_51 ?_
        refine ok_iconst C (v := 1) dX3_countAncestorsByCreator_52 (by decide) ?_
        refine ok_iadd C dX3_countAncestorsByCreator_53 ?_
        obtain ⟨g9, h⟩ := h
        refine ok_iast C (kat hk kD_35) g9 dX3_countAncestorsByCreator_54 ?_
        refine ok_aload_n C 1 dX3_countAncestorsByCreator_55 rfl rfl ?_
        refine ok_getR C (ci := 3) hinX3 (kat hk kD_22) rfl 10 (by decide) W_1_176 (fun _ _ h => h) rfl dX3_countAncestorsByCreator_56 ?_
        refine ok_iload_n C 0 dX3_countAncestorsByCreator_59 rfl rfl ?_
        refine ok_aload_n C 1 dX3_countAncestorsByCreator_60 rfl rfl ?_
        refine ok_getR C (ci := 3) hinX3 (kat hk kD_22) rfl 10 (by decide) W_1_176 (fun _ _ h => h) rfl dX3_countAncestorsByCreator_61 ?_
        refine ok_iload_n C 0 dX3_countAncestorsByCreator_64 rfl rfl ?_
        obtain ⟨g10, h⟩ := h
        refine ok_iald C (kat hk kD_36) g10 dX3_countAncestorsByCreator_65 ?_
        refine ok_aload_n C 1 dX3_countAncestorsByCreator_66 rfl rfl ?_
        refine ok_getR C (ci := 3) hinX3 (kat hk kD_22) rfl 5 (by decide) W_1_166 (fun _ _ h => h) rfl dX3_countAncestorsByCreator_67 ?_
        refine ok_iload_n C 3 dX3_countAncestorsByCreator_70 rfl rfl ?_
        obtain ⟨g11, h⟩ := h
        refine ok_iald C (kat hk kD_31) g11 dX3_countAncestorsByCreator_71 ?_
        refine ok_mmax C W_4_83 W_3_65 W_1_20 W_3_66 (Nat.le_of_ble_eq_true rfl) (Nat.le_of_ble_eq_true rfl) dX3_countAncestorsByCreator_72 ?_
        obtain ⟨g12, h⟩ := h
        refine ok_iast C (kat hk kD_36) g12 dX3_countAncestorsByCreator_75 ?_
        refine ok_sub [1, 2, 3] rfl ?_
        exact J76 _ _ h
  have h : f_X3_countAncestorsByCreator_e x1 L18 Po σ := hvc L18 R18
  unfold f_X3_countAncestorsByCreator_e at h
  refine ok_sub (L2 := [(0, .ref (Ω.2.2.1 22)), (1, .int x1)]) [0, 1] rfl ?_
  refine ok_aload_n C 0 dX3_countAncestorsByCreator_0 rfl rfl ?_
  refine ok_getR C (ci := 3) hinX3 (kat hk kD_22) rfl 9 (by decide) W_1_175 (fun _ _ h => h) rfl dX3_countAncestorsByCreator_1 ?_
  refine ok_iconst C (v := 0) dX3_countAncestorsByCreator_4 (by decide) ?_
  refine ok_callSv C (As := [.ref (Ω.2.2.1 35), .int 0]) (rest := []) (c_J7_fill_53178 35 8 kD_35 _ _ _ h) W_2_105 W_2_88 W_2_89 W_1_9 hd_J7_fill_53178 rfl ⟨Nat.le_of_ble_eq_true rfl, Nat.le_of_ble_eq_true rfl⟩ (Nat.le_of_ble_eq_true rfl) rfl dX3_countAncestorsByCreator_5 (fun u2 h => ?_)
  refine ok_aload_n C 0 dX3_countAncestorsByCreator_8 rfl rfl ?_
  refine ok_getR C (ci := 3) hinX3 (kat hk kD_22) rfl 10 (by decide) W_1_176 (fun _ _ h => h) rfl dX3_countAncestorsByCreator_9 ?_
  refine ok_iconst C (v := 0) dX3_countAncestorsByCreator_12 (by decide) ?_
  refine ok_callSv C (As := [.ref (Ω.2.2.1 36), .int 0]) (rest := []) (c_J7_fill_53178 36 8 kD_36 _ _ _ h) W_2_105 W_2_88 W_2_89 W_1_9 hd_J7_fill_53178 rfl ⟨Nat.le_of_ble_eq_true rfl, Nat.le_of_ble_eq_true rfl⟩ (Nat.le_of_ble_eq_true rfl) rfl dX3_countAncestorsByCreator_13 (fun u4 h => ?_)
  refine ok_iconst C (v := 0) dX3_countAncestorsByCreator_16 (by decide) ?_
  refine ok_istore_n C (L2 := [(2, .int 0), (0, .ref (Ω.2.2.1 22)), (1, .int x1)]) dX3_countAncestorsByCreator_17 rfl (by decide) rfl ?_
  refine ok_sub [1, 2, 0] rfl ?_
  exact Eq.mp (gl18 _ _) h
set_option maxRecDepth 100000 in
set_option maxHeartbeats 4000000 in
theorem m_X3_isForker {l : Launch} {Ω : Wm} (hk : Hk Ω kD)  (hv : ∀ (x1 : Int32) (σ : Sg) (K : Int32 → Sg → Prop), sp_X3_isForker x1 σ K → vc_X3_isForker x1 σ K) : CT_X3_isForker l Ω := by
  intro x1 σ Po hsp
  have hvc := hv x1 σ Po hsp
  refine Ct.of (by decide +kernel) (Nat.le_of_ble_eq_true rfl) (fun Γ C => ?_)
  have J20 : ∀ (s0 : Int32) (σ : Sg), f_X3_isForker_20 x1 Po s0 σ → OK Γ Ω 2 20 [] [.int s0] σ := by
    intro s0 σ h
    unfold f_X3_isForker_20 at h
    obtain ⟨z4, h⟩ := h
    exact ok_zret C rfl rfl (bz_n z4) dX3_isForker_20 h
  have h : f_X3_isForker_e x1 Po σ := hvc  
  unfold f_X3_isForker_e at h
  refine ok_sub (L2 := [(0, .ref (Ω.2.2.1 22)), (1, .int x1)]) [0, 1] rfl ?_
  refine ok_aload_n C 0 dX3_isForker_0 rfl rfl ?_
  refine ok_getR C (ci := 3) hinX3 (kat hk kD_22) rfl 9 (by decide) W_1_175 (fun _ _ h => h) rfl dX3_isForker_1 ?_
  refine ok_iload_n C 1 dX3_isForker_4 rfl rfl ?_
  obtain ⟨g1, h⟩ := h
  refine ok_iald C (kat hk kD_35) g1 dX3_isForker_5 ?_
  refine ok_aload_n C 0 dX3_isForker_6 rfl rfl ?_
  refine ok_getR C (ci := 3) hinX3 (kat hk kD_22) rfl 10 (by decide) W_1_176 (fun _ _ h => h) rfl dX3_isForker_7 ?_
  refine ok_iload_n C 1 dX3_isForker_10 rfl rfl ?_
  obtain ⟨g2, h⟩ := h
  refine ok_iald C (kat hk kD_36) g2 dX3_isForker_11 ?_
  obtain ⟨h1, h2⟩ := h
  refine ok_icmp_le C 19 dX3_isForker_12 rfl (fun c3 => ?_) (fun c3 => ?_)
  · have h := h1 c3
    refine ok_iconst C (v := 0) dX3_isForker_19 (by decide) ?_
    refine ok_sub [] rfl ?_
    exact J20 _ _ h
  · have h := h2 c3
    refine ok_iconst C (v := 1) dX3_isForker_15 (by decide) ?_
    refine ok_goto C 20 dX3_isForker_16 rfl ?_
    refine ok_sub [] rfl ?_
    exact J20 _ _ h
set_option maxRecDepth 100000 in
set_option maxHeartbeats 4000000 in
theorem m_X3_findSeen {l : Launch} {Ω : Wm} (hk : Hk Ω kD) (c_X0_clearRow : CT_X0_clearRow l Ω) (c_X0_has : CT_X0_has l Ω) (c_X0_put : CT_X0_put l Ω) (c_X3_countAncestorsByCreator : CT_X3_countAncestorsByCreator l Ω) (c_X3_isForker : CT_X3_isForker l Ω) (hv : ∀ (x1 : Int32) (σ : Sg) (K : Sg → Prop), sp_X3_findSeen x1 σ K → vc_X3_findSeen x1 σ K) : CT_X3_findSeen l Ω := by
  intro x1 σ Po hsp
  have hvc := hv x1 σ Po hsp
  refine Ct.of (by decide +kernel) (Nat.le_of_ble_eq_true rfl) (fun Γ C => ?_)
  obtain ⟨L15, gl15⟩ : ∃ L : Int32 → Sg → Prop, ∀ (x2 : Int32) (σ : Sg), L x2 σ = OK Γ Ω 3 15 [(0, .ref (Ω.2.2.1 22)), (1, .int x1), (2, .int x2)] [] σ := ⟨fun x2 σ => OK Γ Ω 3 15 [(0, .ref (Ω.2.2.1 22)), (1, .int x1), (2, .int x2)] [] σ, fun _ _ => rfl⟩
  have J57 : ∀ (x2 : Int32) (σ : Sg), f_X3_findSeen_57 x1 L15 Po x2 σ → OK Γ Ω 3 57 [(0, .ref (Ω.2.2.1 22)), (1, .int x1), (2, .int x2)] [] σ := by
    intro x2 σ h
    unfold f_X3_findSeen_57 at h
    refine ok_iinc C (v := x2 + 1) (L2 := [(2, .int (x2 + 1)), (0, .ref (Ω.2.2.1 22)), (1, .int x1)]) 2 dX3_findSeen_57 rfl rfl (by decide) rfl ?_
    refine ok_goto C 15 dX3_findSeen_60 rfl ?_
    refine ok_sub [1, 2, 0] rfl ?_
    exact Eq.mp (gl15 _ _) h
  have R15 : ∀ (x2 : Int32) (σ : Sg), f_X3_findSeen_15 x1 L15 Po x2 σ → L15 x2 σ := by
    intro x2 σ h
    unfold f_X3_findSeen_15 at h
    refine Eq.mpr (gl15 _ _) ?_
    refine ok_iload_n C 2 dX3_findSeen_15 rfl rfl ?_
    refine ok_iload_n C 1 dX3_findSeen_16 rfl rfl ?_
    obtain ⟨h1, h2⟩ := h
    refine ok_icmp_gt C 63 dX3_findSeen_17 rfl (fun c14 => ?_) (fun c14 => ?_)
    · have h := h1 c14
      exact ok_vret C rfl rfl dX3_findSeen_63 h
    · have h := h2 c14
      refine ok_aload_n C 0 dX3_findSeen_20 rfl rfl ?_
      refine ok_getR C (ci := 3) hinX3 (kat hk kD_22) rfl 1 (by decide) W_1_156 (fun _ _ h => h) rfl dX3_findSeen_21 ?_
      refine ok_iload_n C 1 dX3_findSeen_24 rfl rfl ?_
      refine ok_iload_n C 2 dX3_findSeen_25 rfl rfl ?_
      refine ok_callVi C (As := [.int x1, .int x2]) (rest := []) (q := 23) (ci := 0) (kat hk kD_23) rfl (c_X0_has 23 960 bt_23 _ _ _ _ h) W_4_79 W_4_80 W_4_81 W_4_82 W_1_5 hd_X0_has rfl ⟨Nat.le_of_ble_eq_true rfl, Nat.le_of_ble_eq_true rfl⟩ (Nat.le_of_ble_eq_true rfl) rfl dX3_findSeen_26 (fun r5 u6 h => ?_)
      obtain ⟨h1, h2⟩ := h
      refine ok_if_eq C 57 dX3_findSeen_29 rfl (fun c13 => ?_) (fun c13 => ?_)
      · have h := h1 c13
        refine ok_sub [0, 1, 2] rfl ?_
        exact J57 _ _ h
      · have h := h2 c13
        refine ok_aload_n C 0 dX3_findSeen_32 rfl rfl ?_
        refine ok_aload_n C 0 dX3_findSeen_33 rfl rfl ?_
        refine ok_getR C (ci := 3) hinX3 (kat hk kD_22) rfl 0 (by decide) W_1_155 (fun _ _ h => h) rfl dX3_findSeen_34 ?_
        refine ok_getRN C (ci := 2) hinX2 (kat hk kD_7) rfl 1 (by decide) nbf_1 (fun _ _ h => h) rfl dX3_findSeen_37 ?_
        refine ok_iload_n C 2 dX3_findSeen_40 rfl rfl ?_
        obtain ⟨g7, h⟩ := h
        refine ok_iald C (kat hk kD_12) g7 dX3_findSeen_41 ?_
        refine ok_callVi C (As := [.int (u6.1 12 x2.toNatClampNeg)]) (rest := []) (q := 22) (ci := 3) (kat hk kD_22) rfl (c_X3_isForker  _ _ _ h) W_4_84 W_4_86 W_0_10 W_4_87 W_1_6 hd_X3_isForker rfl ⟨Nat.le_of_ble_eq_true rfl, Nat.le_of_ble_eq_true rfl⟩ (Nat.le_of_ble_eq_true rfl) rfl dX3_findSeen_42 (fun r8 u9 h => ?_)
        obtain ⟨h1, h2⟩ := h
        refine ok_if_ne C 57 dX3_findSeen_45 rfl (fun c12 => ?_) (fun c12 => ?_)
        · have h := h1 c12
          refine ok_sub [0, 1, 2] rfl ?_
          exact J57 _ _ h
        · have h := h2 c12
          refine ok_aload_n C 0 dX3_findSeen_48 rfl rfl ?_
          refine ok_getR C (ci := 3) hinX3 (kat hk kD_22) rfl 2 (by decide) W_1_159 (fun _ _ h => h) rfl dX3_findSeen_49 ?_
          refine ok_iload_n C 1 dX3_findSeen_52 rfl rfl ?_
          refine ok_iload_n C 2 dX3_findSeen_53 rfl rfl ?_
          refine ok_callVv C (As := [.int x1, .int x2]) (rest := []) (q := 25) (ci := 0) (kat hk kD_25) rfl (c_X0_put 25 960 bt_25 _ _ _ _ h) W_4_59 W_4_60 W_4_61 W_4_62 W_1_5 hd_X0_put rfl ⟨Nat.le_of_ble_eq_true rfl, Nat.le_of_ble_eq_true rfl⟩ (Nat.le_of_ble_eq_true rfl) rfl dX3_findSeen_54 (fun u11 h => ?_)
          refine ok_sub [0, 1, 2] rfl ?_
          exact J57 _ _ h
  have h : f_X3_findSeen_e x1 L15 Po σ := hvc L15 R15
  unfold f_X3_findSeen_e at h
  refine ok_sub (L2 := [(0, .ref (Ω.2.2.1 22)), (1, .int x1)]) [0, 1] rfl ?_
  refine ok_aload_n C 0 dX3_findSeen_0 rfl rfl ?_
  refine ok_iload_n C 1 dX3_findSeen_1 rfl rfl ?_
  refine ok_callVv C (As := [.int x1]) (rest := []) (q := 22) (ci := 3) (kat hk kD_22) rfl (c_X3_countAncestorsByCreator  _ _ _ h) W_4_75 W_4_77 W_0_9 W_4_78 W_1_6 hd_X3_countAncestorsByCreator rfl ⟨Nat.le_of_ble_eq_true rfl, Nat.le_of_ble_eq_true rfl⟩ (Nat.le_of_ble_eq_true rfl) rfl dX3_findSeen_2 (fun u2 h => ?_)
  refine ok_aload_n C 0 dX3_findSeen_5 rfl rfl ?_
  refine ok_getR C (ci := 3) hinX3 (kat hk kD_22) rfl 2 (by decide) W_1_159 (fun _ _ h => h) rfl dX3_findSeen_6 ?_
  refine ok_iload_n C 1 dX3_findSeen_9 rfl rfl ?_
  refine ok_callVv C (As := [.int x1]) (rest := []) (q := 25) (ci := 0) (kat hk kD_25) rfl (c_X0_clearRow 25 960 bt_25 _ _ _ h) W_2_196 W_2_197 W_2_198 W_2_199 W_1_5 hd_X0_clearRow rfl ⟨Nat.le_of_ble_eq_true rfl, Nat.le_of_ble_eq_true rfl⟩ (Nat.le_of_ble_eq_true rfl) rfl dX3_findSeen_10 (fun u4 h => ?_)
  refine ok_iconst C (v := 0) dX3_findSeen_13 (by decide) ?_
  refine ok_istore_n C (L2 := [(2, .int 0), (0, .ref (Ω.2.2.1 22)), (1, .int x1)]) dX3_findSeen_14 rfl (by decide) rfl ?_
  refine ok_sub [1, 2, 0] rfl ?_
  exact Eq.mp (gl15 _ _) h
set_option maxRecDepth 100000 in
set_option maxHeartbeats 4000000 in
theorem m_X3_findStronglySeen {l : Launch} {Ω : Wm} (hk : Hk Ω kD) (c_X7_isMost : CT_X7_isMost l Ω) (c_X0_clear : CT_X0_clear l Ω) (c_X0_clearRow : CT_X0_clearRow l Ω) (c_X0_has : CT_X0_has l Ω) (c_X0_join : CT_X0_join l Ω) (c_X0_put : CT_X0_put l Ω) (c_X0_rowsWith : CT_X0_rowsWith l Ω) (hv : ∀ (x1 : Int32) (σ : Sg) (K : Sg → Prop), sp_X3_findStronglySeen x1 σ K → vc_X3_findStronglySeen x1 σ K) : CT_X3_findStronglySeen l Ω := by
  intro x1 σ Po hsp
  have hvc := hv x1 σ Po hsp
  refine Ct.of (by decide +kernel) (Nat.le_of_ble_eq_true rfl) (fun Γ C => ?_)
  obtain ⟨L9, gl9⟩ : ∃ L : Int32 → Sg → Prop, ∀ (x2 : Int32) (σ : Sg), L x2 σ = OK Γ Ω 3 9 [(0, .ref (Ω.2.2.1 22)), (1, .int x1), (2, .int x2)] [] σ := ⟨fun x2 σ => OK Γ Ω 3 9 [(0, .ref (Ω.2.2.1 22)), (1, .int x1), (2, .int x2)] [] σ, fun _ _ => rfl⟩
  obtain ⟨L63, gl63⟩ : ∃ L : Int32 → Sg → Prop, ∀ (x2 : Int32) (σ : Sg), L x2 σ = OK Γ Ω 3 63 [(0, .ref (Ω.2.2.1 22)), (1, .int x1), (2, .int x2)] [] σ := ⟨fun x2 σ => OK Γ Ω 3 63 [(0, .ref (Ω.2.2.1 22)), (1, .int x1), (2, .int x2)] [] σ, fun _ _ => rfl⟩
  have J95 : ∀ (x2 : Int32) (σ : Sg), f_X3_findStronglySeen_95 x1 L9 L63 Po x2 σ → OK Γ Ω 3 95 [(0, .ref (Ω.2.2.1 22)), (1, .int x1), (2, .int x2)] [] σ := by
    intro x2 σ h
    unfold f_X3_findStronglySeen_95 at h
    refine ok_iinc C (v := x2 + 1) (L2 := [(2, .int (x2 + 1)), (0, .ref (Ω.2.2.1 22)), (1, .int x1)]) 2 dX3_findStronglySeen_95 rfl rfl (by decide) rfl ?_
    refine ok_goto C 63 dX3_findStronglySeen_98 rfl ?_
    refine ok_sub [1, 2, 0] rfl ?_
    exact Eq.mp (gl63 _ _) h
  have J47 : ∀ (x2 : Int32) (σ : Sg), f_X3_findStronglySeen_47 x1 L9 L63 Po x2 σ → OK Γ Ω 3 47 [(0, .ref (Ω.2.2.1 22)), (1, .int x1), (2, .int x2)] [] σ := by
    intro x2 σ h
    unfold f_X3_findStronglySeen_47 at h
    refine ok_iinc C (v := x2 + 1) (L2 := [(2, .int (x2 + 1)), (0, .ref (Ω.2.2.1 22)), (1, .int x1)]) 2 dX3_findStronglySeen_47 rfl rfl (by decide) rfl ?_
    refine ok_goto C 9 dX3_findStronglySeen_50 rfl ?_
    refine ok_sub [1, 2, 0] rfl ?_
    exact Eq.mp (gl9 _ _) h
  have R9 : ∀ (x2 : Int32) (σ : Sg), f_X3_findStronglySeen_9 x1 L9 L63 Po x2 σ → L9 x2 σ := by
    intro x2 σ h
    unfold f_X3_findStronglySeen_9 at h
    refine Eq.mpr (gl9 _ _) ?_
    refine ok_iload_n C 2 dX3_findStronglySeen_9 rfl rfl ?_
    refine ok_iload_n C 1 dX3_findStronglySeen_10 rfl rfl ?_
    obtain ⟨h1, h2⟩ := h
    refine ok_icmp_gt C 53 dX3_findStronglySeen_11 rfl (fun c11 => ?_) (fun c11 => ?_)
    · have h := h1 c11
      refine ok_aload_n C 0 dX3_findStronglySeen_53 rfl rfl ?_
      refine ok_getR C (ci := 3) hinX3 (kat hk kD_22) rfl 3 (by decide) W_1_162 (fun _ _ h => h) rfl dX3_findStronglySeen_54 ?_
      refine ok_iload_n C 1 dX3_findStronglySeen_57 rfl rfl ?_
      refine ok_callVv C (As := [.int x1]) (rest := []) (q := 27) (ci := 0) (kat hk kD_27) rfl (c_X0_clearRow 27 960 bt_27 _ _ _ h) W_2_196 W_2_197 W_2_198 W_2_199 W_1_5 hd_X0_clearRow rfl ⟨Nat.le_of_ble_eq_true rfl, Nat.le_of_ble_eq_true rfl⟩ (Nat.le_of_ble_eq_true rfl) rfl dX3_findStronglySeen_58 (fun u4 h => ?_)
      refine ok_iconst C (v := 0) dX3_findStronglySeen_61 (by decide) ?_
      refine ok_istore_n C (L2 := [(2, .int 0), (0, .ref (Ω.2.2.1 22)), (1, .int x1)]) dX3_findStronglySeen_62 rfl (by decide) rfl ?_
      refine ok_sub [1, 2, 0] rfl ?_
      exact Eq.mp (gl63 _ _) h
    · have h := h2 c11
      refine ok_aload_n C 0 dX3_findStronglySeen_14 rfl rfl ?_
      refine ok_getR C (ci := 3) hinX3 (kat hk kD_22) rfl 2 (by decide) W_1_159 (fun _ _ h => h) rfl dX3_findStronglySeen_15 ?_
      refine ok_iload_n C 1 dX3_findStronglySeen_18 rfl rfl ?_
      refine ok_iload_n C 2 dX3_findStronglySeen_19 rfl rfl ?_
      refine ok_callVi C (As := [.int x1, .int x2]) (rest := []) (q := 25) (ci := 0) (kat hk kD_25) rfl (c_X0_has 25 960 bt_25 _ _ _ _ h) W_4_79 W_4_80 W_4_81 W_4_82 W_1_5 hd_X0_has rfl ⟨Nat.le_of_ble_eq_true rfl, Nat.le_of_ble_eq_true rfl⟩ (Nat.le_of_ble_eq_true rfl) rfl dX3_findStronglySeen_20 (fun r5 u6 h => ?_)
      obtain ⟨h1, h2⟩ := h
      refine ok_if_eq C 47 dX3_findStronglySeen_23 rfl (fun c10 => ?_) (fun c10 => ?_)
      · have h := h1 c10
        refine ok_sub [0, 1, 2] rfl ?_
        exact J47 _ _ h
      · have h := h2 c10
        refine ok_aload_n C 0 dX3_findStronglySeen_26 rfl rfl ?_
        refine ok_getR C (ci := 3) hinX3 (kat hk kD_22) rfl 4 (by decide) W_1_165 (fun _ _ h => h) rfl dX3_findStronglySeen_27 ?_
        refine ok_aload_n C 0 dX3_findStronglySeen_30 rfl rfl ?_
        refine ok_getR C (ci := 3) hinX3 (kat hk kD_22) rfl 0 (by decide) W_1_155 (fun _ _ h => h) rfl dX3_findStronglySeen_31 ?_
        refine ok_getRN C (ci := 2) hinX2 (kat hk kD_7) rfl 1 (by decide) nbf_1 (fun _ _ h => h) rfl dX3_findStronglySeen_34 ?_
        refine ok_iload_n C 2 dX3_findStronglySeen_37 rfl rfl ?_
        obtain ⟨g7, h⟩ := h
        refine ok_iald C (kat hk kD_12) g7 dX3_findStronglySeen_38 ?_
        refine ok_aload_n C 0 dX3_findStronglySeen_39 rfl rfl ?_
        refine ok_getR C (ci := 3) hinX3 (kat hk kD_22) rfl 2 (by decide) W_1_159 (fun _ _ h => h) rfl dX3_findStronglySeen_40 ?_
        refine ok_iload_n C 2 dX3_findStronglySeen_43 rfl rfl ?_
        refine ok_callVv C (As := [.int (u6.1 12 x2.toNatClampNeg), .ref (Ω.2.2.1 25), .int x2]) (rest := []) (q := 29) (ci := 0) (kat hk kD_29) rfl (c_X0_join 29 32 25 960 bt_29 bt_25 _ _ _ _ h) W_4_63 W_4_64 W_4_65 W_4_66 W_1_5 hd_X0_join rfl ⟨Nat.le_of_ble_eq_true rfl, Nat.le_of_ble_eq_true rfl⟩ (Nat.le_of_ble_eq_true rfl) rfl dX3_findStronglySeen_44 (fun u9 h => ?_)
        refine ok_sub [0, 1, 2] rfl ?_
        exact J47 _ _ h
  have R63 : ∀ (x2 : Int32) (σ : Sg), f_X3_findStronglySeen_63 x1 L9 L63 Po x2 σ → L63 x2 σ := by
    intro x2 σ h
    unfold f_X3_findStronglySeen_63 at h
    refine Eq.mpr (gl63 _ _) ?_
    refine ok_iload_n C 2 dX3_findStronglySeen_63 rfl rfl ?_
    refine ok_iload_n C 1 dX3_findStronglySeen_64 rfl rfl ?_
    obtain ⟨h1, h2⟩ := h
    refine ok_icmp_gt C 101 dX3_findStronglySeen_65 rfl (fun c19 => ?_) (fun c19 => ?_)
    · have h := h1 c19
      exact ok_vret C rfl rfl dX3_findStronglySeen_101 h
    · have h := h2 c19
      refine ok_aload_n C 0 dX3_findStronglySeen_68 rfl rfl ?_
      refine ok_getR C (ci := 3) hinX3 (kat hk kD_22) rfl 4 (by decide) W_1_165 (fun _ _ h => h) rfl dX3_findStronglySeen_69 ?_
      refine ok_iload_n C 2 dX3_findStronglySeen_72 rfl rfl ?_
      refine ok_callVi C (As := [.int x2]) (rest := []) (q := 29) (ci := 0) (kat hk kD_29) rfl (c_X0_rowsWith 29 32 bt_29 _ _ _ h) W_4_93 W_4_94 W_4_95 W_4_96 W_1_5 hd_X0_rowsWith rfl ⟨Nat.le_of_ble_eq_true rfl, Nat.le_of_ble_eq_true rfl⟩ (Nat.le_of_ble_eq_true rfl) rfl dX3_findStronglySeen_73 (fun r12 u13 h => ?_)
      refine ok_aload_n C 0 dX3_findStronglySeen_76 rfl rfl ?_
      refine ok_getI C (ci := 3) hinX3 (kat hk kD_22) rfl 11 (by decide) W_1_177 (fun _ _ h => h) rfl dX3_findStronglySeen_77 ?_
      refine ok_callSNi C (As := [.int r12, .int (u13.1 22 11)]) (rest := []) (c_X7_isMost  _ _ _ _ h) nbm_3 W_4_99 W_4_100 W_1_1 hd_X7_isMost rfl ⟨Nat.le_of_ble_eq_true rfl, Nat.le_of_ble_eq_true rfl⟩ (Nat.le_of_ble_eq_true rfl) rfl dX3_findStronglySeen_80 (fun r14 u15 h => ?_)
      obtain ⟨h1, h2⟩ := h
      refine ok_if_eq C 95 dX3_findStronglySeen_83 rfl (fun c18 => ?_) (fun c18 => ?_)
      · have h := h1 c18
        refine ok_sub [0, 1, 2] rfl ?_
        exact J95 _ _ h
      · have h := h2 c18
        refine ok_aload_n C 0 dX3_findStronglySeen_86 rfl rfl ?_
        refine ok_getR C (ci := 3) hinX3 (kat hk kD_22) rfl 3 (by decide) W_1_162 (fun _ _ h => h) rfl dX3_findStronglySeen_87 ?_
        refine ok_iload_n C 1 dX3_findStronglySeen_90 rfl rfl ?_
        refine ok_iload_n C 2 dX3_findStronglySeen_91 rfl rfl ?_
        refine ok_callVv C (As := [.int x1, .int x2]) (rest := []) (q := 27) (ci := 0) (kat hk kD_27) rfl (c_X0_put 27 960 bt_27 _ _ _ _ h) W_4_59 W_4_60 W_4_61 W_4_62 W_1_5 hd_X0_put rfl ⟨Nat.le_of_ble_eq_true rfl, Nat.le_of_ble_eq_true rfl⟩ (Nat.le_of_ble_eq_true rfl) rfl dX3_findStronglySeen_92 (fun u17 h => ?_)
        refine ok_sub [0, 1, 2] rfl ?_
        exact J95 _ _ h
  have h : f_X3_findStronglySeen_e x1 L9 L63 Po σ := hvc L9 L63 R9 R63
  unfold f_X3_findStronglySeen_e at h
  refine ok_sub (L2 := [(0, .ref (Ω.2.2.1 22)), (1, .int x1)]) [0, 1] rfl ?_
  refine ok_aload_n C 0 dX3_findStronglySeen_0 rfl rfl ?_
  refine ok_getR C (ci := 3) hinX3 (kat hk kD_22) rfl 4 (by decide) W_1_165 (fun _ _ h => h) rfl dX3_findStronglySeen_1 ?_
  refine ok_callVv C (As := []) (rest := []) (q := 29) (ci := 0) (kat hk kD_29) rfl (c_X0_clear 29 32 bt_29  _ _ h) W_4_92 W_2_95 W_2_96 W_2_97 W_1_5 hd_X0_clear rfl ⟨Nat.le_of_ble_eq_true rfl, Nat.le_of_ble_eq_true rfl⟩ (Nat.le_of_ble_eq_true rfl) rfl dX3_findStronglySeen_4 (fun u2 h => ?_)
  refine ok_iconst C (v := 0) dX3_findStronglySeen_7 (by decide) ?_
  refine ok_istore_n C (L2 := [(2, .int 0), (0, .ref (Ω.2.2.1 22)), (1, .int x1)]) dX3_findStronglySeen_8 rfl (by decide) rfl ?_
  refine ok_sub [1, 2, 0] rfl ?_
  exact Eq.mp (gl9 _ _) h
set_option maxRecDepth 100000 in
set_option maxHeartbeats 4000000 in
theorem m_X3_take {l : Launch} {Ω : Wm} (hk : Hk Ω kD) (c_X3_countForks : CT_X3_countForks l Ω) (c_X3_findAncestors : CT_X3_findAncestors l Ω) (c_X3_findRound : CT_X3_findRound l Ω) (c_X3_findSeen : CT_X3_findSeen l Ω) (c_X3_findStronglySeen : CT_X3_findStronglySeen l Ω) (hv : ∀ (x1 : Int32) (σ : Sg) (K : Sg → Prop), sp_X3_take x1 σ K → vc_X3_take x1 σ K) : CT_X3_take l Ω := by
  intro x1 σ Po hsp
  have hvc := hv x1 σ Po hsp
  refine Ct.of (by decide +kernel) (Nat.le_of_ble_eq_true rfl) (fun Γ C => ?_)
  have h : f_X3_take_e x1 Po σ := hvc  
  unfold f_X3_take_e at h
  refine ok_sub (L2 := [(0, .ref (Ω.2.2.1 22)), (1, .int x1)]) [0, 1] rfl ?_
  refine ok_aload_n C 0 dX3_take_0 rfl rfl ?_
  refine ok_iload_n C 1 dX3_take_1 rfl rfl ?_
  refine ok_callVv C (As := [.int x1]) (rest := []) (q := 22) (ci := 3) (kat hk kD_22) rfl (c_X3_findAncestors  _ _ _ h) W_2_192 W_2_194 W_0_5 W_2_195 W_1_6 hd_X3_findAncestors rfl ⟨Nat.le_of_ble_eq_true rfl, Nat.le_of_ble_eq_true rfl⟩ (Nat.le_of_ble_eq_true rfl) rfl dX3_take_2 (fun u2 h => ?_)
  refine ok_aload_n C 0 dX3_take_5 rfl rfl ?_
  refine ok_iload_n C 1 dX3_take_6 rfl rfl ?_
  refine ok_callVv C (As := [.int x1]) (rest := []) (q := 22) (ci := 3) (kat hk kD_22) rfl (c_X3_countForks  _ _ _ h) W_4_67 W_4_69 W_0_7 W_4_70 W_1_6 hd_X3_countForks rfl ⟨Nat.le_of_ble_eq_true rfl, Nat.le_of_ble_eq_true rfl⟩ (Nat.le_of_ble_eq_true rfl) rfl dX3_take_7 (fun u4 h => ?_)
  refine ok_aload_n C 0 dX3_take_10 rfl rfl ?_
  refine ok_iload_n C 1 dX3_take_11 rfl rfl ?_
  refine ok_callVv C (As := [.int x1]) (rest := []) (q := 22) (ci := 3) (kat hk kD_22) rfl (c_X3_findSeen  _ _ _ h) W_4_71 W_4_73 W_0_8 W_4_74 W_1_6 hd_X3_findSeen rfl ⟨Nat.le_of_ble_eq_true rfl, Nat.le_of_ble_eq_true rfl⟩ (Nat.le_of_ble_eq_true rfl) rfl dX3_take_12 (fun u6 h => ?_)
  refine ok_aload_n C 0 dX3_take_15 rfl rfl ?_
  refine ok_iload_n C 1 dX3_take_16 rfl rfl ?_
  refine ok_callVv C (As := [.int x1]) (rest := []) (q := 22) (ci := 3) (kat hk kD_22) rfl (c_X3_findStronglySeen  _ _ _ h) W_4_88 W_4_90 W_0_11 W_4_91 W_1_6 hd_X3_findStronglySeen rfl ⟨Nat.le_of_ble_eq_true rfl, Nat.le_of_ble_eq_true rfl⟩ (Nat.le_of_ble_eq_true rfl) rfl dX3_take_17 (fun u8 h => ?_)
  refine ok_aload_n C 0 dX3_take_20 rfl rfl ?_
  refine ok_iload_n C 1 dX3_take_21 rfl rfl ?_
  refine ok_callVv C (As := [.int x1]) (rest := []) (q := 22) (ci := 3) (kat hk kD_22) rfl (c_X3_findRound  _ _ _ h) W_4_101 W_4_103 W_0_12 W_4_104 W_1_6 hd_X3_findRound rfl ⟨Nat.le_of_ble_eq_true rfl, Nat.le_of_ble_eq_true rfl⟩ (Nat.le_of_ble_eq_true rfl) rfl dX3_take_22 (fun u10 h => ?_)
  exact ok_vret C rfl rfl dX3_take_25 h
