set_option maxRecDepth 100000 in
set_option maxHeartbeats 4000000 in
theorem m_X4_start {l : Launch} {Ω : Wm} (hk : Hk Ω kD) (c_J7_fill_53178 : CT_J7_fill_53178 l Ω) (hv : ∀ (σ : Sg) (K : Sg → Prop), sp_X4_start  σ K → vc_X4_start  σ K) : CT_X4_start l Ω := by
  intro  σ Po hsp
  have hvc := hv  σ Po hsp
  refine Ct.of (by decide +kernel) (Nat.le_of_ble_eq_true rfl) (fun Γ C => ?_)
  have h : f_X4_start_e Po σ := hvc  
  unfold f_X4_start_e at h
  refine ok_sub (L2 := [(0, .ref (Ω.2.2.1 8))]) [0] rfl ?_
  refine ok_aload_n C 0 dX4_start_0 rfl rfl ?_
  refine ok_getR C (ci := 4) hinX4 (kat hk kD_8) rfl 0 (by decide) W_1_69 (fun _ _ h => h) rfl dX4_start_1 ?_
  refine ok_iconst C (v := 0) dX4_start_4 (by decide) ?_
  refine ok_callSv C (As := [.ref (Ω.2.2.1 9), .int 0]) (rest := []) (c_J7_fill_53178 9 32 kD_9 _ _ _ h) W_2_145 W_2_88 W_2_89 W_1_9 hd_J7_fill_53178 rfl ⟨Nat.le_of_ble_eq_true rfl, Nat.le_of_ble_eq_true rfl⟩ (Nat.le_of_ble_eq_true rfl) rfl dX4_start_5 (fun u2 h => ?_)
  refine ok_aload_n C 0 dX4_start_8 rfl rfl ?_
  refine ok_iconst C (v := 0) dX4_start_9 (by decide) ?_
  refine ok_putI C (ci := 4) hinX4 (kat hk kD_8) rfl 3 (by decide) W_1_72 (fun _ _ h => h) tyX4 tyX4_ok nmX4 rfl (by decide +kernel) rfl rfl rfl dX4_start_10 ?_
  exact ok_vret C rfl rfl dX4_start_13 h
set_option maxRecDepth 100000 in
set_option maxHeartbeats 4000000 in
theorem m_X4_putOctet {l : Launch} {Ω : Wm} (hk : Hk Ω kD)  (hv : ∀ (x1 : Int32) (σ : Sg) (K : Sg → Prop), sp_X4_putOctet x1 σ K → vc_X4_putOctet x1 σ K) : CT_X4_putOctet l Ω := by
  intro x1 σ Po hsp
  have hvc := hv x1 σ Po hsp
  refine Ct.of (by decide +kernel) (Nat.le_of_ble_eq_true rfl) (fun Γ C => ?_)
  have h : f_X4_putOctet_e x1 Po σ := hvc  
  unfold f_X4_putOctet_e at h
  refine ok_sub (L2 := [(0, .ref (Ω.2.2.1 8)), (1, .int x1)]) [0, 1] rfl ?_
  refine ok_aload_n C 0 dX4_putOctet_0 rfl rfl ?_
  refine ok_getR C (ci := 4) hinX4 (kat hk kD_8) rfl 0 (by decide) W_1_69 (fun _ _ h => h) rfl dX4_putOctet_1 ?_
  refine ok_aload_n C 0 dX4_putOctet_4 rfl rfl ?_
  refine ok_getI C (ci := 4) hinX4 (kat hk kD_8) rfl 3 (by decide) W_1_72 (fun _ _ h => h) rfl dX4_putOctet_5 ?_
  refine ok_iconst C (v := 2) dX4_putOctet_8 (by decide) ?_
  refine ok_ishr C dX4_putOctet_9 ?_
  refine ok_dup2_11 C dX4_putOctet_10 rfl rfl ?_
  obtain ⟨g1, h⟩ := h
  refine ok_iald C (kat hk kD_9) g1 dX4_putOctet_11 ?_
  refine ok_iload_n C 1 dX4_putOctet_12 rfl rfl ?_
  refine ok_sipush C (v := 255) dX4_putOctet_13 (by decide) ?_
  refine ok_iand C dX4_putOctet_16 ?_
  refine ok_bipush C (v := 24) dX4_putOctet_17 (by decide) ?_
  refine ok_bipush C (v := 8) dX4_putOctet_19 (by decide) ?_
  refine ok_aload_n C 0 dX4_putOctet_21 rfl rfl ?_
  refine ok_getI C (ci := 4) hinX4 (kat hk kD_8) rfl 3 (by decide) W_1_72 (fun _ _ h => h) rfl dX4_putOctet_22 ?_
  refine ok_iconst C (v := 3) dX4_putOctet_25 (by decide) ?_
  refine ok_iand C dX4_putOctet_26 ?_
  refine ok_imul C dX4_putOctet_27 ?_
  refine ok_isub C dX4_putOctet_28 ?_
  refine ok_ishl C dX4_putOctet_29 ?_
  refine ok_ior C dX4_putOctet_30 ?_
  obtain ⟨g2, h⟩ := h
  refine ok_iast C (kat hk kD_9) g2 dX4_putOctet_31 ?_
  refine ok_aload_n C 0 dX4_putOctet_32 rfl rfl ?_
  refine ok_dup C dX4_putOctet_33 rfl ?_
  refine ok_getI C (ci := 4) hinX4 (kat hk kD_8) rfl 3 (by decide) W_1_72 (fun _ _ h => h) rfl dX4_putOctet_34 ?_
  refine ok_iconst C (v := 1) dX4_putOctet_37 (by decide) ?_
  refine ok_iadd C dX4_putOctet_38 ?_
  refine ok_putI C (ci := 4) hinX4 (kat hk kD_8) rfl 3 (by decide) W_1_72 (fun _ _ h => h) tyX4 tyX4_ok nmX4 rfl (by decide +kernel) rfl rfl rfl dX4_putOctet_39 ?_
  exact ok_vret C rfl rfl dX4_putOctet_42 h
set_option maxRecDepth 100000 in
set_option maxHeartbeats 4000000 in
theorem m_X4_putInt {l : Launch} {Ω : Wm} (hk : Hk Ω kD) (c_X4_putOctet : CT_X4_putOctet l Ω) (hv : ∀ (x1 : Int32) (σ : Sg) (K : Sg → Prop), sp_X4_putInt x1 σ K → vc_X4_putInt x1 σ K) : CT_X4_putInt l Ω := by
  intro x1 σ Po hsp
  have hvc := hv x1 σ Po hsp
  refine Ct.of (by decide +kernel) (Nat.le_of_ble_eq_true rfl) (fun Γ C => ?_)
  obtain ⟨L3, gl3⟩ : ∃ L : Int32 → Sg → Prop, ∀ (x2 : Int32) (σ : Sg), L x2 σ = OK Γ Ω 3 3 [(0, .ref (Ω.2.2.1 8)), (1, .int x1), (2, .int x2)] [] σ := ⟨fun x2 σ => OK Γ Ω 3 3 [(0, .ref (Ω.2.2.1 8)), (1, .int x1), (2, .int x2)] [] σ, fun _ _ => rfl⟩
  have R3 : ∀ (x2 : Int32) (σ : Sg), f_X4_putInt_3 x1 L3 Po x2 σ → L3 x2 σ := by
    intro x2 σ h
    unfold f_X4_putInt_3 at h
    refine Eq.mpr (gl3 _ _) ?_
    refine ok_iload_n C 2 dX4_putInt_3 rfl rfl ?_
    obtain ⟨h1, h2⟩ := h
    refine ok_if_lt C 20 dX4_putInt_4 rfl (fun c3 => ?_) (fun c3 => ?_)
    · have h := h1 c3
      exact ok_vret C rfl rfl dX4_putInt_20 h
    · have h := h2 c3
      refine ok_aload_n C 0 dX4_putInt_7 rfl rfl ?_
      refine ok_iload_n C 1 dX4_putInt_8 rfl rfl ?_
      refine ok_iload_n C 2 dX4_putInt_9 rfl rfl ?_
      refine ok_iushr C dX4_putInt_10 ?_
      refine ok_callVv C (As := [.int (iush x1 x2)]) (rest := []) (q := 8) (ci := 4) (kat hk kD_8) rfl (c_X4_putOctet  _ _ _ h) W_2_162 W_2_147 W_2_148 W_2_149 W_1_4 hd_X4_putOctet rfl ⟨Nat.le_of_ble_eq_true rfl, Nat.le_of_ble_eq_true rfl⟩ (Nat.le_of_ble_eq_true rfl) rfl dX4_putInt_11 (fun u2 h => ?_)
      refine ok_iinc C (v := x2 + (-8)) (L2 := [(2, .int (x2 + (-8))), (0, .ref (Ω.2.2.1 8)), (1, .int x1)]) 2 dX4_putInt_14 rfl rfl (by decide) rfl ?_
      refine ok_goto C 3 dX4_putInt_17 rfl ?_
      refine ok_sub [1, 2, 0] rfl ?_
      exact Eq.mp (gl3 _ _) h
  have h : f_X4_putInt_e x1 L3 Po σ := hvc L3 R3
  unfold f_X4_putInt_e at h
  refine ok_sub (L2 := [(0, .ref (Ω.2.2.1 8)), (1, .int x1)]) [0, 1] rfl ?_
  refine ok_bipush C (v := 24) dX4_putInt_0 (by decide) ?_
  refine ok_istore_n C (L2 := [(2, .int 24), (0, .ref (Ω.2.2.1 8)), (1, .int x1)]) dX4_putInt_2 rfl (by decide) rfl ?_
  refine ok_sub [1, 2, 0] rfl ?_
  exact Eq.mp (gl3 _ _) h
set_option maxRecDepth 100000 in
set_option maxHeartbeats 4000000 in
theorem m_X4_putLong {l : Launch} {Ω : Wm} (hk : Hk Ω kD) (c_X4_putInt : CT_X4_putInt l Ω) (hv : ∀ (x1 : Int64) (σ : Sg) (K : Sg → Prop), sp_X4_putLong x1 σ K → vc_X4_putLong x1 σ K) : CT_X4_putLong l Ω := by
  intro x1 σ Po hsp
  have hvc := hv x1 σ Po hsp
  refine Ct.of (by decide +kernel) (Nat.le_of_ble_eq_true rfl) (fun Γ C => ?_)
  have h : f_X4_putLong_e x1 Po σ := hvc  
  unfold f_X4_putLong_e at h
  refine ok_sub (L2 := [(0, .ref (Ω.2.2.1 8)), (1, .long x1)]) [0, 1] rfl ?_
  refine ok_aload_n C 0 dX4_putLong_0 rfl rfl ?_
  refine ok_lload_n C 1 dX4_putLong_1 rfl rfl ?_
  refine ok_bipush C (v := 32) dX4_putLong_2 (by decide) ?_
  refine ok_lushr C dX4_putLong_4 ?_
  refine ok_l2i C dX4_putLong_5 ?_
  refine ok_callVv C (As := [.int ((lush x1 32).toInt32)]) (rest := []) (q := 8) (ci := 4) (kat hk kD_8) rfl (c_X4_putInt  _ _ _ h) W_2_167 W_2_159 W_2_160 W_2_161 W_1_4 hd_X4_putInt rfl ⟨Nat.le_of_ble_eq_true rfl, Nat.le_of_ble_eq_true rfl⟩ (Nat.le_of_ble_eq_true rfl) rfl dX4_putLong_6 (fun u2 h => ?_)
  refine ok_aload_n C 0 dX4_putLong_9 rfl rfl ?_
  refine ok_lload_n C 1 dX4_putLong_10 rfl rfl ?_
  refine ok_l2i C dX4_putLong_11 ?_
  refine ok_callVv C (As := [.int (x1.toInt32)]) (rest := []) (q := 8) (ci := 4) (kat hk kD_8) rfl (c_X4_putInt  _ _ _ h) W_2_167 W_2_159 W_2_160 W_2_161 W_1_4 hd_X4_putInt rfl ⟨Nat.le_of_ble_eq_true rfl, Nat.le_of_ble_eq_true rfl⟩ (Nat.le_of_ble_eq_true rfl) rfl dX4_putLong_12 (fun u4 h => ?_)
  exact ok_vret C rfl rfl dX4_putLong_15 h
set_option maxRecDepth 100000 in
set_option maxHeartbeats 4000000 in
theorem m_X4_turned {l : Launch} {Ω : Wm} (hk : Hk Ω kD)  (hv : ∀ (x0 : Int32) (x1 : Int32) (σ : Sg) (K : Int32 → Sg → Prop), sp_X4_turned x0 x1 σ K → vc_X4_turned x0 x1 σ K) : CT_X4_turned l Ω := by
  intro x0 x1 σ Po hsp
  have hvc := hv x0 x1 σ Po hsp
  refine Ct.of (by decide +kernel) (Nat.le_of_ble_eq_true rfl) (fun Γ C => ?_)
  have h : f_X4_turned_e x0 x1 Po σ := hvc  
  unfold f_X4_turned_e at h
  refine ok_sub (L2 := [(0, .int x0), (1, .int x1)]) [0, 1] rfl ?_
  refine ok_iload_n C 0 dX4_turned_0 rfl rfl ?_
  refine ok_iload_n C 1 dX4_turned_1 rfl rfl ?_
  refine ok_iushr C dX4_turned_2 ?_
  refine ok_iload_n C 0 dX4_turned_3 rfl rfl ?_
  refine ok_bipush C (v := 32) dX4_turned_4 (by decide) ?_
  refine ok_iload_n C 1 dX4_turned_6 rfl rfl ?_
  refine ok_isub C dX4_turned_7 ?_
  refine ok_ishl C dX4_turned_8 ?_
  refine ok_ior C dX4_turned_9 ?_
  exact ok_iret C rfl rfl dX4_turned_10 h
set_option maxRecDepth 100000 in
set_option maxHeartbeats 4000000 in
theorem m_X4_fillSchedule {l : Launch} {Ω : Wm} (hk : Hk Ω kD) (c_X4_turned : CT_X4_turned l Ω) (hv : ∀ (x1 : Int32) (σ : Sg) (K : Sg → Prop), sp_X4_fillSchedule x1 σ K → vc_X4_fillSchedule x1 σ K) : CT_X4_fillSchedule l Ω := by
  intro x1 σ Po hsp
  have hvc := hv x1 σ Po hsp
  refine Ct.of (by decide +kernel) (Nat.le_of_ble_eq_true rfl) (fun Γ C => ?_)
  obtain ⟨L18, gl18⟩ : ∃ L : Int32 → Sg → Prop, ∀ (x2 : Int32) (σ : Sg), L x2 σ = OK Γ Ω 7 18 [(0, .ref (Ω.2.2.1 8)), (2, .int x2)] [] σ := ⟨fun x2 σ => OK Γ Ω 7 18 [(0, .ref (Ω.2.2.1 8)), (2, .int x2)] [] σ, fun _ _ => rfl⟩
  have R18 : ∀ (x2 : Int32) (σ : Sg), f_X4_fillSchedule_18 x1 L18 Po x2 σ → L18 x2 σ := by
    intro x2 σ h
    unfold f_X4_fillSchedule_18 at h
    refine Eq.mpr (gl18 _ _) ?_
    refine ok_iload_n C 1 dX4_fillSchedule_18 rfl rfl ?_
    refine ok_bipush C (v := 64) dX4_fillSchedule_19 (by decide) ?_
    obtain ⟨h1, h2⟩ := h
    refine ok_icmp_ge C 123 dX4_fillSchedule_21 rfl (fun c19 => ?_) (fun c19 => ?_)
    · have h := h1 c19
      exact ok_vret C rfl rfl dX4_fillSchedule_123 h
    · have h := h2 c19
      refine ok_aload_n C 0 dX4_fillSchedule_24 rfl rfl ?_
      refine ok_getR C (ci := 4) hinX4 (kat hk kD_8) rfl 1 (by decide) W_1_70 (fun _ _ h => h) rfl dX4_fillSchedule_25 ?_
      refine ok_iload_n C 1 dX4_fillSchedule_28 rfl rfl ?_
      refine ok_bipush C (v := 15) dX4_fillSchedule_29 (by decide) ?_
      refine ok_isub C dX4_fillSchedule_31 ?_
      obtain ⟨g6, h⟩ := h
      refine ok_iald C (kat hk kD_10) g6 dX4_fillSchedule_32 ?_
      refine ok_istore_n C (L2 := [(3, .int (σ.1 10 (x2 - 15).toNatClampNeg)), (0, .ref (Ω.2.2.1 8)), (2, .int x2)]) dX4_fillSchedule_33 rfl (by decide) rfl ?_
      refine ok_aload_n C 1 dX4_fillSchedule_34 rfl rfl ?_
      refine ok_getR C (ci := 4) hinX4 (kat hk kD_8) rfl 1 (by decide) W_1_70 (fun _ _ h => h) rfl dX4_fillSchedule_35 ?_
      refine ok_iload_n C 2 dX4_fillSchedule_38 rfl rfl ?_
      refine ok_iconst C (v := 2) dX4_fillSchedule_39 (by decide) ?_
      refine ok_isub C dX4_fillSchedule_40 ?_
      obtain ⟨g7, h⟩ := h
      refine ok_iald C (kat hk kD_10) g7 dX4_fillSchedule_41 ?_
      refine ok_istore C (L2 := [(4, .int (σ.1 10 (x2 - 2).toNatClampNeg)), (3, .int (σ.1 10 (x2 - 15).toNatClampNeg)), (0, .ref (Ω.2.2.1 8)), (2, .int x2)]) dX4_fillSchedule_42 (by decide) rfl ?_
      refine ok_iload_n C 1 dX4_fillSchedule_44 rfl rfl ?_
      refine ok_bipush C (v := 7) dX4_fillSchedule_45 (by decide) ?_
      refine ok_callSi C (As := [.int (σ.1 10 (x2 - 15).toNatClampNeg), .int 7]) (rest := []) (c_X4_turned  _ _ _ _ h) W_2_179 W_2_180 W_2_181 W_1_4 hd_X4_turned rfl ⟨Nat.le_of_ble_eq_true rfl, Nat.le_of_ble_eq_true rfl⟩ (Nat.le_of_ble_eq_true rfl) rfl dX4_fillSchedule_47 (fun r8 u9 h => ?_)
      refine ok_iload_n C 1 dX4_fillSchedule_50 rfl rfl ?_
      refine ok_bipush C (v := 18) dX4_fillSchedule_51 (by decide) ?_
      refine ok_callSi C (As := [.int (σ.1 10 (x2 - 15).toNatClampNeg), .int 18]) (rest := [.int r8]) (c_X4_turned  _ _ _ _ h) W_2_179 W_2_180 W_2_181 W_1_4 hd_X4_turned rfl ⟨Nat.le_of_ble_eq_true rfl, Nat.le_of_ble_eq_true rfl⟩ (Nat.le_of_ble_eq_true rfl) rfl dX4_fillSchedule_53 (fun r10 u11 h => ?_)
      refine ok_ixor C dX4_fillSchedule_56 ?_
      refine ok_iload_n C 1 dX4_fillSchedule_57 rfl rfl ?_
      refine ok_iconst C (v := 3) dX4_fillSchedule_58 (by decide) ?_
      refine ok_iushr C dX4_fillSchedule_59 ?_
      refine ok_ixor C dX4_fillSchedule_60 ?_
      refine ok_istore C (L2 := [(5, .int ((r8 ^^^ r10) ^^^ (iush (σ.1 10 (x2 - 15).toNatClampNeg) 3))), (4, .int (σ.1 10 (x2 - 2).toNatClampNeg)), (3, .int (σ.1 10 (x2 - 15).toNatClampNeg)), (0, .ref (Ω.2.2.1 8)), (2, .int x2)]) dX4_fillSchedule_61 (by decide) rfl ?_
      refine ok_iload C 1 dX4_fillSchedule_63 rfl ?_
      refine ok_bipush C (v := 17) dX4_fillSchedule_65 (by decide) ?_
      refine ok_callSi C (As := [.int (σ.1 10 (x2 - 2).toNatClampNeg), .int 17]) (rest := []) (c_X4_turned  _ _ _ _ h) W_2_179 W_2_180 W_2_181 W_1_4 hd_X4_turned rfl ⟨Nat.le_of_ble_eq_true rfl, Nat.le_of_ble_eq_true rfl⟩ (Nat.le_of_ble_eq_true rfl) rfl dX4_fillSchedule_67 (fun r12 u13 h => ?_)
      refine ok_iload C 1 dX4_fillSchedule_70 rfl ?_
      refine ok_bipush C (v := 19) dX4_fillSchedule_72 (by decide) ?_
      refine ok_callSi C (As := [.int (σ.1 10 (x2 - 2).toNatClampNeg), .int 19]) (rest := [.int r12]) (c_X4_turned  _ _ _ _ h) W_2_179 W_2_180 W_2_181 W_1_4 hd_X4_turned rfl ⟨Nat.le_of_ble_eq_true rfl, Nat.le_of_ble_eq_true rfl⟩ (Nat.le_of_ble_eq_true rfl) rfl dX4_fillSchedule_74 (fun r14 u15 h => ?_)
      refine ok_ixor C dX4_fillSchedule_77 ?_
      refine ok_iload C 1 dX4_fillSchedule_78 rfl ?_
      refine ok_bipush C (v := 10) dX4_fillSchedule_80 (by decide) ?_
      refine ok_iushr C dX4_fillSchedule_82 ?_
      refine ok_ixor C dX4_fillSchedule_83 ?_
      refine ok_istore C (L2 := [(6, .int ((r12 ^^^ r14) ^^^ (iush (σ.1 10 (x2 - 2).toNatClampNeg) 10))), (5, .int ((r8 ^^^ r10) ^^^ (iush (σ.1 10 (x2 - 15).toNatClampNeg) 3))), (4, .int (σ.1 10 (x2 - 2).toNatClampNeg)), (3, .int (σ.1 10 (x2 - 15).toNatClampNeg)), (0, .ref (Ω.2.2.1 8)), (2, .int x2)]) dX4_fillSchedule_84 (by decide) rfl ?_
      refine ok_aload_n C 4 dX4_fillSchedule_86 rfl rfl ?_
      refine ok_getR C (ci := 4) hinX4 (kat hk kD_8) rfl 1 (by decide) W_1_70 (fun _ _ h => h) rfl dX4_fillSchedule_87 ?_
      refine ok_iload_n C 5 dX4_fillSchedule_90 rfl rfl ?_
      refine ok_aload_n C 4 dX4_fillSchedule_91 rfl rfl ?_
      refine ok_getR C (ci := 4) hinX4 (kat hk kD_8) rfl 1 (by decide) W_1_70 (fun _ _ h => h) rfl dX4_fillSchedule_92 ?_
      refine ok_iload_n C 5 dX4_fillSchedule_95 rfl rfl ?_
      refine ok_bipush C (v := 16) dX4_fillSchedule_96 (by decide) ?_
      refine ok_isub C dX4_fillSchedule_98 ?_
      obtain ⟨g16, h⟩ := h
      refine ok_iald C (kat hk kD_10) g16 dX4_fillSchedule_99 ?_
      refine ok_iload C 1 dX4_fillSchedule_100 rfl ?_
      refine ok_iadd C dX4_fillSchedule_102 ?_
      refine ok_aload_n C 4 dX4_fillSchedule_103 rfl rfl ?_
      refine ok_getR C (ci := 4) hinX4 (kat hk kD_8) rfl 1 (by decide) W_1_70 (fun _ _ h => h) rfl dX4_fillSchedule_104 ?_
      refine ok_iload_n C 5 dX4_fillSchedule_107 rfl rfl ?_
      refine ok_bipush C (v := 7) dX4_fillSchedule_108 (by decide) ?_
      refine ok_isub C dX4_fillSchedule_110 ?_
      obtain ⟨g17, h⟩ := h
      refine ok_iald C (kat hk kD_10) g17 dX4_fillSchedule_111 ?_
      refine ok_iadd C dX4_fillSchedule_112 ?_
      refine ok_iload C 0 dX4_fillSchedule_113 rfl ?_
      refine ok_iadd C dX4_fillSchedule_115 ?_
      obtain ⟨g18, h⟩ := h
      refine ok_iast C (kat hk kD_10) g18 dX4_fillSchedule_116 ?_
      refine ok_iinc C (v := x2 + 1) (L2 := [(2, .int (x2 + 1)), (6, .int ((r12 ^^^ r14) ^^^ (iush (σ.1 10 (x2 - 2).toNatClampNeg) 10))), (5, .int ((r8 ^^^ r10) ^^^ (iush (σ.1 10 (x2 - 15).toNatClampNeg) 3))), (4, .int (σ.1 10 (x2 - 2).toNatClampNeg)), (3, .int (σ.1 10 (x2 - 15).toNatClampNeg)), (0, .ref (Ω.2.2.1 8))]) 5 dX4_fillSchedule_117 rfl rfl (by decide) rfl ?_
      refine ok_goto C 18 dX4_fillSchedule_120 rfl ?_
      refine ok_sub [5, 0] rfl ?_
      exact Eq.mp (gl18 _ _) h
  have h : f_X4_fillSchedule_e x1 L18 Po σ := hvc L18 R18
  unfold f_X4_fillSchedule_e at h
  refine ok_sub (L2 := [(0, .ref (Ω.2.2.1 8)), (1, .int x1)]) [0, 1] rfl ?_
  refine ok_aload_n C 0 dX4_fillSchedule_0 rfl rfl ?_
  refine ok_getR C (ci := 4) hinX4 (kat hk kD_8) rfl 0 (by decide) W_1_69 (fun _ _ h => h) rfl dX4_fillSchedule_1 ?_
  refine ok_iload_n C 1 dX4_fillSchedule_4 rfl rfl ?_
  refine ok_aload_n C 0 dX4_fillSchedule_5 rfl rfl ?_
  refine ok_getR C (ci := 4) hinX4 (kat hk kD_8) rfl 1 (by decide) W_1_70 (fun _ _ h => h) rfl dX4_fillSchedule_6 ?_
  refine ok_iconst C (v := 0) dX4_fillSchedule_9 (by decide) ?_
  refine ok_bipush C (v := 16) dX4_fillSchedule_10 (by decide) ?_
  obtain ⟨g1, g2, g3, g4, g5, h⟩ := h
  refine ok_copyi C W_2_174 W_2_136 W_2_135 W_1_10 (kat hk kD_9) (kat hk kD_10) g1 g2 g3 g4 g5 (Nat.le_of_ble_eq_true rfl) (by decide +kernel) dX4_fillSchedule_12 ?_
  refine ok_bipush C (v := 16) dX4_fillSchedule_15 (by decide) ?_
  refine ok_istore_n C (L2 := [(2, .int 16), (0, .ref (Ω.2.2.1 8)), (1, .int x1)]) dX4_fillSchedule_17 rfl (by decide) rfl ?_
  refine ok_sub [1, 0] rfl ?_
  exact Eq.mp (gl18 _ _) h
set_option maxRecDepth 100000 in
set_option maxHeartbeats 4000000 in
theorem m_X4_mixSchedule {l : Launch} {Ω : Wm} (hk : Hk Ω kD) (c_X4_turned : CT_X4_turned l Ω) (hv : ∀ (σ : Sg) (K : Sg → Prop), sp_X4_mixSchedule  σ K → vc_X4_mixSchedule  σ K) : CT_X4_mixSchedule l Ω := by
  intro  σ Po hsp
  have hvc := hv  σ Po hsp
  refine Ct.of (by decide +kernel) (Nat.le_of_ble_eq_true rfl) (fun Γ C => ?_)
  obtain ⟨L66, gl66⟩ : ∃ L : Int32 → Int32 → Int32 → Int32 → Int32 → Int32 → Int32 → Int32 → Int32 → Sg → Prop, ∀ (x1 : Int32) (x2 : Int32) (x3 : Int32) (x4 : Int32) (x5 : Int32) (x6 : Int32) (x7 : Int32) (x8 : Int32) (x9 : Int32) (σ : Sg), L x1 x2 x3 x4 x5 x6 x7 x8 x9 σ = OK Γ Ω 15 66 [(0, .ref (Ω.2.2.1 8)), (1, .int x1), (2, .int x2), (3, .int x3), (4, .int x4), (5, .int x5), (6, .int x6), (7, .int x7), (8, .int x8), (9, .int x9)] [] σ := ⟨fun x1 x2 x3 x4 x5 x6 x7 x8 x9 σ => OK Γ Ω 15 66 [(0, .ref (Ω.2.2.1 8)), (1, .int x1), (2, .int x2), (3, .int x3), (4, .int x4), (5, .int x5), (6, .int x6), (7, .int x7), (8, .int x8), (9, .int x9)] [] σ, fun _ _ _ _ _ _ _ _ _ _ => rfl⟩
  have R66 : ∀ (x1 : Int32) (x2 : Int32) (x3 : Int32) (x4 : Int32) (x5 : Int32) (x6 : Int32) (x7 : Int32) (x8 : Int32) (x9 : Int32) (σ : Sg), f_X4_mixSchedule_66 L66 Po x1 x2 x3 x4 x5 x6 x7 x8 x9 σ → L66 x1 x2 x3 x4 x5 x6 x7 x8 x9 σ := by
    intro x1 x2 x3 x4 x5 x6 x7 x8 x9 σ h
    unfold f_X4_mixSchedule_66 at h
    refine Eq.mpr (gl66 _ _ _ _ _ _ _ _ _ _) ?_
    refine ok_iload C 9 dX4_mixSchedule_66 rfl ?_
    refine ok_bipush C (v := 64) dX4_mixSchedule_68 (by decide) ?_
    obtain ⟨h1, h2⟩ := h
    refine ok_icmp_ge C 213 dX4_mixSchedule_70 rfl (fun c40 => ?_) (fun c40 => ?_)
    · have h := h1 c40
      refine ok_aload_n C 0 dX4_mixSchedule_213 rfl rfl ?_
      refine ok_getR C (ci := 4) hinX4 (kat hk kD_8) rfl 2 (by decide) W_1_71 (fun _ _ h => h) rfl dX4_mixSchedule_214 ?_
      refine ok_iconst C (v := 0) dX4_mixSchedule_217 (by decide) ?_
      refine ok_dup2_11 C dX4_mixSchedule_218 rfl rfl ?_
      obtain ⟨g9, h⟩ := h
      refine ok_iald C (kat hk kD_11) g9 dX4_mixSchedule_219 ?_
      refine ok_iload_n C 1 dX4_mixSchedule_220 rfl rfl ?_
      refine ok_iadd C dX4_mixSchedule_221 ?_
      obtain ⟨g10, h⟩ := h
      refine ok_iast C (kat hk kD_11) g10 dX4_mixSchedule_222 ?_
      refine ok_aload_n C 0 dX4_mixSchedule_223 rfl rfl ?_
      refine ok_getR C (ci := 4) hinX4 (kat hk kD_8) rfl 2 (by decide) W_1_71 (fun _ _ h => h) rfl dX4_mixSchedule_224 ?_
      refine ok_iconst C (v := 1) dX4_mixSchedule_227 (by decide) ?_
      refine ok_dup2_11 C dX4_mixSchedule_228 rfl rfl ?_
      obtain ⟨g11, h⟩ := h
      refine ok_iald C (kat hk kD_11) g11 dX4_mixSchedule_229 ?_
      refine ok_iload_n C 2 dX4_mixSchedule_230 rfl rfl ?_
      refine ok_iadd C dX4_mixSchedule_231 ?_
      obtain ⟨g12, h⟩ := h
      refine ok_iast C (kat hk kD_11) g12 dX4_mixSchedule_232 ?_
      refine ok_aload_n C 0 dX4_mixSchedule_233 rfl rfl ?_
      refine ok_getR C (ci := 4) hinX4 (kat hk kD_8) rfl 2 (by decide) W_1_71 (fun _ _ h => h) rfl dX4_mixSchedule_234 ?_
      refine ok_iconst C (v := 2) dX4_mixSchedule_237 (by decide) ?_
      refine ok_dup2_11 C dX4_mixSchedule_238 rfl rfl ?_
      obtain ⟨g13, h⟩ := h
      refine ok_iald C (kat hk kD_11) g13 dX4_mixSchedule_239 ?_
      refine ok_iload_n C 3 dX4_mixSchedule_240 rfl rfl ?_
      refine ok_iadd C dX4_mixSchedule_241 ?_
      obtain ⟨g14, h⟩ := h
      refine ok_iast C (kat hk kD_11) g14 dX4_mixSchedule_242 ?_
      refine ok_aload_n C 0 dX4_mixSchedule_243 rfl rfl ?_
      refine ok_getR C (ci := 4) hinX4 (kat hk kD_8) rfl 2 (by decide) W_1_71 (fun _ _ h => h) rfl dX4_mixSchedule_244 ?_
      refine ok_iconst C (v := 3) dX4_mixSchedule_247 (by decide) ?_
      refine ok_dup2_11 C dX4_mixSchedule_248 rfl rfl ?_
      obtain ⟨g15, h⟩ := h
      refine ok_iald C (kat hk kD_11) g15 dX4_mixSchedule_249 ?_
      refine ok_iload C 4 dX4_mixSchedule_250 rfl ?_
      refine ok_iadd C dX4_mixSchedule_252 ?_
      obtain ⟨g16, h⟩ := h
      refine ok_iast C (kat hk kD_11) g16 dX4_mixSchedule_253 ?_
      refine ok_aload_n C 0 dX4_mixSchedule_254 rfl rfl ?_
      refine ok_getR C (ci := 4) hinX4 (kat hk kD_8) rfl 2 (by decide) W_1_71 (fun _ _ h => h) rfl dX4_mixSchedule_255 ?_
      refine ok_iconst C (v := 4) dX4_mixSchedule_258 (by decide) ?_
      refine ok_dup2_11 C dX4_mixSchedule_259 rfl rfl ?_
      obtain ⟨g17, h⟩ := h
      refine ok_iald C (kat hk kD_11) g17 dX4_mixSchedule_260 ?_
      refine ok_iload C 5 dX4_mixSchedule_261 rfl ?_
      refine ok_iadd C dX4_mixSchedule_263 ?_
      obtain ⟨g18, h⟩ := h
      refine ok_iast C (kat hk kD_11) g18 dX4_mixSchedule_264 ?_
      refine ok_aload_n C 0 dX4_mixSchedule_265 rfl rfl ?_
      refine ok_getR C (ci := 4) hinX4 (kat hk kD_8) rfl 2 (by decide) W_1_71 (fun _ _ h => h) rfl dX4_mixSchedule_266 ?_
      refine ok_iconst C (v := 5) dX4_mixSchedule_269 (by decide) ?_
      refine ok_dup2_11 C dX4_mixSchedule_270 rfl rfl ?_
      obtain ⟨g19, h⟩ := h
      refine ok_iald C (kat hk kD_11) g19 dX4_mixSchedule_271 ?_
      refine ok_iload C 6 dX4_mixSchedule_272 rfl ?_
      refine ok_iadd C dX4_mixSchedule_274 ?_
      obtain ⟨g20, h⟩ := h
      refine ok_iast C (kat hk kD_11) g20 dX4_mixSchedule_275 ?_
      refine ok_aload_n C 0 dX4_mixSchedule_276 rfl rfl ?_
      refine ok_getR C (ci := 4) hinX4 (kat hk kD_8) rfl 2 (by decide) W_1_71 (fun _ _ h => h) rfl dX4_mixSchedule_277 ?_
      refine ok_bipush C (v := 6) dX4_mixSchedule_280 (by decide) ?_
      refine ok_dup2_11 C dX4_mixSchedule_282 rfl rfl ?_
      obtain ⟨g21, h⟩ := h
      refine ok_iald C (kat hk kD_11) g21 dX4_mixSchedule_283 ?_
      refine ok_iload C 7 dX4_mixSchedule_284 rfl ?_
      refine ok_iadd C dX4_mixSchedule_286 ?_
      obtain ⟨g22, h⟩ := h
      refine ok_iast C (kat hk kD_11) g22 dX4_mixSchedule_287 ?_
      refine ok_aload_n C 0 dX4_mixSchedule_288 rfl rfl ?_
      refine ok_getR C (ci := 4) hinX4 (kat hk kD_8) rfl 2 (by decide) W_1_71 (fun _ _ h => h) rfl dX4_mixSchedule_289 ?_
      refine ok_bipush C (v := 7) dX4_mixSchedule_292 (by decide) ?_
      refine ok_dup2_11 C dX4_mixSchedule_294 rfl rfl ?_
      obtain ⟨g23, h⟩ := h
      refine ok_iald C (kat hk kD_11) g23 dX4_mixSchedule_295 ?_
      refine ok_iload C 8 dX4_mixSchedule_296 rfl ?_
      refine ok_iadd C dX4_mixSchedule_298 ?_
      obtain ⟨g24, h⟩ := h
      refine ok_iast C (kat hk kD_11) g24 dX4_mixSchedule_299 ?_
      exact ok_vret C rfl rfl dX4_mixSchedule_300 h
    · have h := h2 c40
      refine ok_iload C 5 dX4_mixSchedule_73 rfl ?_
      refine ok_bipush C (v := 6) dX4_mixSchedule_75 (by decide) ?_
      refine ok_callSi C (As := [.int x5, .int 6]) (rest := []) (c_X4_turned  _ _ _ _ h) W_2_179 W_2_180 W_2_181 W_1_4 hd_X4_turned rfl ⟨Nat.le_of_ble_eq_true rfl, Nat.le_of_ble_eq_true rfl⟩ (Nat.le_of_ble_eq_true rfl) rfl dX4_mixSchedule_77 (fun r25 u26 h => ?_)
      refine ok_iload C 5 dX4_mixSchedule_80 rfl ?_
      refine ok_bipush C (v := 11) dX4_mixSchedule_82 (by decide) ?_
      refine ok_callSi C (As := [.int x5, .int 11]) (rest := [.int r25]) (c_X4_turned  _ _ _ _ h) W_2_179 W_2_180 W_2_181 W_1_4 hd_X4_turned rfl ⟨Nat.le_of_ble_eq_true rfl, Nat.le_of_ble_eq_true rfl⟩ (Nat.le_of_ble_eq_true rfl) rfl dX4_mixSchedule_84 (fun r27 u28 h => ?_)
      refine ok_ixor C dX4_mixSchedule_87 ?_
      refine ok_iload C 5 dX4_mixSchedule_88 rfl ?_
      refine ok_bipush C (v := 25) dX4_mixSchedule_90 (by decide) ?_
      refine ok_callSi C (As := [.int x5, .int 25]) (rest := [.int (r25 ^^^ r27)]) (c_X4_turned  _ _ _ _ h) W_2_179 W_2_180 W_2_181 W_1_4 hd_X4_turned rfl ⟨Nat.le_of_ble_eq_true rfl, Nat.le_of_ble_eq_true rfl⟩ (Nat.le_of_ble_eq_true rfl) rfl dX4_mixSchedule_92 (fun r29 u30 h => ?_)
      refine ok_ixor C dX4_mixSchedule_95 ?_
      refine ok_istore C (L2 := [(10, .int ((r25 ^^^ r27) ^^^ r29)), (0, .ref (Ω.2.2.1 8)), (1, .int x1), (2, .int x2), (3, .int x3), (4, .int x4), (5, .int x5), (6, .int x6), (7, .int x7), (8, .int x8), (9, .int x9)]) dX4_mixSchedule_96 (by decide) rfl ?_
      refine ok_iload C 6 dX4_mixSchedule_98 rfl ?_
      refine ok_iload C 7 dX4_mixSchedule_100 rfl ?_
      refine ok_iand C dX4_mixSchedule_102 ?_
      refine ok_iload C 6 dX4_mixSchedule_103 rfl ?_
      refine ok_iconst C (v := (-1)) dX4_mixSchedule_105 (by decide) ?_
      refine ok_ixor C dX4_mixSchedule_106 ?_
      refine ok_iload C 8 dX4_mixSchedule_107 rfl ?_
      refine ok_iand C dX4_mixSchedule_109 ?_
      refine ok_ixor C dX4_mixSchedule_110 ?_
      refine ok_istore C (L2 := [(11, .int ((x5 &&& x6) ^^^ ((x5 ^^^ (-1)) &&& x7))), (10, .int ((r25 ^^^ r27) ^^^ r29)), (0, .ref (Ω.2.2.1 8)), (1, .int x1), (2, .int x2), (3, .int x3), (4, .int x4), (5, .int x5), (6, .int x6), (7, .int x7), (8, .int x8), (9, .int x9)]) dX4_mixSchedule_111 (by decide) rfl ?_
      refine ok_iload C 10 dX4_mixSchedule_113 rfl ?_
      refine ok_iload C 1 dX4_mixSchedule_115 rfl ?_
      refine ok_iadd C dX4_mixSchedule_117 ?_
      refine ok_iload C 0 dX4_mixSchedule_118 rfl ?_
      refine ok_iadd C dX4_mixSchedule_120 ?_
      refine ok_gets1 C W_2_186 dX4_mixSchedule_121 (fun t31 ht31 => ?_)
      refine ok_iload C 11 dX4_mixSchedule_124 rfl ?_
      obtain ⟨g32, h⟩ := h
      refine ok_iald1 C ht31 g32 dX4_mixSchedule_126 ?_
      refine ok_iadd C dX4_mixSchedule_127 ?_
      refine ok_aload_n C 2 dX4_mixSchedule_128 rfl rfl ?_
      refine ok_getR C (ci := 4) hinX4 (kat hk kD_8) rfl 1 (by decide) W_1_70 (fun _ _ h => h) rfl dX4_mixSchedule_129 ?_
      refine ok_iload C 11 dX4_mixSchedule_132 rfl ?_
      obtain ⟨g33, h⟩ := h
      refine ok_iald C (kat hk kD_10) g33 dX4_mixSchedule_134 ?_
      refine ok_iadd C dX4_mixSchedule_135 ?_
      refine ok_istore C (L2 := [(12, .int ((((x8 + ((r25 ^^^ r27) ^^^ r29)) + ((x5 &&& x6) ^^^ ((x5 ^^^ (-1)) &&& x7))) + (K64 x9.toNatClampNeg)) + (u30.1 10 x9.toNatClampNeg))), (11, .int ((x5 &&& x6) ^^^ ((x5 ^^^ (-1)) &&& x7))), (10, .int ((r25 ^^^ r27) ^^^ r29)), (0, .ref (Ω.2.2.1 8)), (1, .int x1), (2, .int x2), (3, .int x3), (4, .int x4), (5, .int x5), (6, .int x6), (7, .int x7), (8, .int x8), (9, .int x9)]) dX4_mixSchedule_136 (by decide) rfl ?_
      refine ok_iload_n C 4 dX4_mixSchedule_138 rfl rfl ?_
      refine ok_iconst C (v := 2) dX4_mixSchedule_139 (by decide) ?_
      refine ok_callSi C (As := [.int x1, .int 2]) (rest := []) (c_X4_turned  _ _ _ _ h) W_2_179 W_2_180 W_2_181 W_1_4 hd_X4_turned rfl ⟨Nat.le_of_ble_eq_true rfl, Nat.le_of_ble_eq_true rfl⟩ (Nat.le_of_ble_eq_true rfl) rfl dX4_mixSchedule_140 (fun r34 u35 h => ?_)
      refine ok_iload_n C 4 dX4_mixSchedule_143 rfl rfl ?_
      refine ok_bipush C (v := 13) dX4_mixSchedule_144 (by decide) ?_
      refine ok_callSi C (As := [.int x1, .int 13]) (rest := [.int r34]) (c_X4_turned  _ _ _ _ h) W_2_179 W_2_180 W_2_181 W_1_4 hd_X4_turned rfl ⟨Nat.le_of_ble_eq_true rfl, Nat.le_of_ble_eq_true rfl⟩ (Nat.le_of_ble_eq_true rfl) rfl dX4_mixSchedule_146 (fun r36 u37 h => ?_)
      refine ok_ixor C dX4_mixSchedule_149 ?_
      refine ok_iload_n C 4 dX4_mixSchedule_150 rfl rfl ?_
      refine ok_bipush C (v := 22) dX4_mixSchedule_151 (by decide) ?_
      refine ok_callSi C (As := [.int x1, .int 22]) (rest := [.int (r34 ^^^ r36)]) (c_X4_turned  _ _ _ _ h) W_2_179 W_2_180 W_2_181 W_1_4 hd_X4_turned rfl ⟨Nat.le_of_ble_eq_true rfl, Nat.le_of_ble_eq_true rfl⟩ (Nat.le_of_ble_eq_true rfl) rfl dX4_mixSchedule_153 (fun r38 u39 h => ?_)
      refine ok_ixor C dX4_mixSchedule_156 ?_
      refine ok_istore C (L2 := [(13, .int ((r34 ^^^ r36) ^^^ r38)), (12, .int ((((x8 + ((r25 ^^^ r27) ^^^ r29)) + ((x5 &&& x6) ^^^ ((x5 ^^^ (-1)) &&& x7))) + (K64 x9.toNatClampNeg)) + (u30.1 10 x9.toNatClampNeg))), (11, .int ((x5 &&& x6) ^^^ ((x5 ^^^ (-1)) &&& x7))), (10, .int ((r25 ^^^ r27) ^^^ r29)), (0, .ref (Ω.2.2.1 8)), (1, .int x1), (2, .int x2), (3, .int x3), (4, .int x4), (5, .int x5), (6, .int x6), (7, .int x7), (8, .int x8), (9, .int x9)]) dX4_mixSchedule_157 (by decide) rfl ?_
      refine ok_iload_n C 5 dX4_mixSchedule_159 rfl rfl ?_
      refine ok_iload_n C 6 dX4_mixSchedule_160 rfl rfl ?_
      refine ok_iand C dX4_mixSchedule_161 ?_
      refine ok_iload_n C 5 dX4_mixSchedule_162 rfl rfl ?_
      refine ok_iload_n C 7 dX4_mixSchedule_163 rfl rfl ?_
      refine ok_iand C dX4_mixSchedule_164 ?_
      refine ok_ixor C dX4_mixSchedule_165 ?_
      refine ok_iload_n C 6 dX4_mixSchedule_166 rfl rfl ?_
      refine ok_iload_n C 7 dX4_mixSchedule_167 rfl rfl ?_
      refine ok_iand C dX4_mixSchedule_168 ?_
      refine ok_ixor C dX4_mixSchedule_169 ?_
      refine ok_istore C (L2 := [(14, .int (((x1 &&& x2) ^^^ (x1 &&& x3)) ^^^ (x2 &&& x3))), (13, .int ((r34 ^^^ r36) ^^^ r38)), (12, .int ((((x8 + ((r25 ^^^ r27) ^^^ r29)) + ((x5 &&& x6) ^^^ ((x5 ^^^ (-1)) &&& x7))) + (K64 x9.toNatClampNeg)) + (u30.1 10 x9.toNatClampNeg))), (11, .int ((x5 &&& x6) ^^^ ((x5 ^^^ (-1)) &&& x7))), (10, .int ((r25 ^^^ r27) ^^^ r29)), (0, .ref (Ω.2.2.1 8)), (1, .int x1), (2, .int x2), (3, .int x3), (4, .int x4), (5, .int x5), (6, .int x6), (7, .int x7), (8, .int x8), (9, .int x9)]) dX4_mixSchedule_170 (by decide) rfl ?_
      refine ok_iload C 12 dX4_mixSchedule_172 rfl ?_
      refine ok_istore C (L2 := [(8, .int x7), (14, .int (((x1 &&& x2) ^^^ (x1 &&& x3)) ^^^ (x2 &&& x3))), (13, .int ((r34 ^^^ r36) ^^^ r38)), (12, .int ((((x8 + ((r25 ^^^ r27) ^^^ r29)) + ((x5 &&& x6) ^^^ ((x5 ^^^ (-1)) &&& x7))) + (K64 x9.toNatClampNeg)) + (u30.1 10 x9.toNatClampNeg))), (11, .int ((x5 &&& x6) ^^^ ((x5 ^^^ (-1)) &&& x7))), (10, .int ((r25 ^^^ r27) ^^^ r29)), (0, .ref (Ω.2.2.1 8)), (1, .int x1), (2, .int x2), (3, .int x3), (4, .int x4), (5, .int x5), (6, .int x6), (7, .int x7), (9, .int x9)]) dX4_mixSchedule_174 (by decide) rfl ?_
      refine ok_iload C 12 dX4_mixSchedule_176 rfl ?_
      refine ok_istore C (L2 := [(7, .int x6), (8, .int x7), (14, .int (((x1 &&& x2) ^^^ (x1 &&& x3)) ^^^ (x2 &&& x3))), (13, .int ((r34 ^^^ r36) ^^^ r38)), (12, .int ((((x8 + ((r25 ^^^ r27) ^^^ r29)) + ((x5 &&& x6) ^^^ ((x5 ^^^ (-1)) &&& x7))) + (K64 x9.toNatClampNeg)) + (u30.1 10 x9.toNatClampNeg))), (11, .int ((x5 &&& x6) ^^^ ((x5 ^^^ (-1)) &&& x7))), (10, .int ((r25 ^^^ r27) ^^^ r29)), (0, .ref (Ω.2.2.1 8)), (1, .int x1), (2, .int x2), (3, .int x3), (4, .int x4), (5, .int x5), (6, .int x6), (9, .int x9)]) dX4_mixSchedule_178 (by decide) rfl ?_
      refine ok_iload C 12 dX4_mixSchedule_180 rfl ?_
      refine ok_istore C (L2 := [(6, .int x5), (7, .int x6), (8, .int x7), (14, .int (((x1 &&& x2) ^^^ (x1 &&& x3)) ^^^ (x2 &&& x3))), (13, .int ((r34 ^^^ r36) ^^^ r38)), (12, .int ((((x8 + ((r25 ^^^ r27) ^^^ r29)) + ((x5 &&& x6) ^^^ ((x5 ^^^ (-1)) &&& x7))) + (K64 x9.toNatClampNeg)) + (u30.1 10 x9.toNatClampNeg))), (11, .int ((x5 &&& x6) ^^^ ((x5 ^^^ (-1)) &&& x7))), (10, .int ((r25 ^^^ r27) ^^^ r29)), (0, .ref (Ω.2.2.1 8)), (1, .int x1), (2, .int x2), (3, .int x3), (4, .int x4), (5, .int x5), (9, .int x9)]) dX4_mixSchedule_182 (by decide) rfl ?_
      refine ok_iload C 12 dX4_mixSchedule_184 rfl ?_
      refine ok_iload C 5 dX4_mixSchedule_186 rfl ?_
      refine ok_iadd C dX4_mixSchedule_188 ?_
      refine ok_istore C (L2 := [(5, .int (x4 + ((((x8 + ((r25 ^^^ r27) ^^^ r29)) + ((x5 &&& x6) ^^^ ((x5 ^^^ (-1)) &&& x7))) + (K64 x9.toNatClampNeg)) + (u30.1 10 x9.toNatClampNeg)))), (6, .int x5), (7, .int x6), (8, .int x7), (14, .int (((x1 &&& x2) ^^^ (x1 &&& x3)) ^^^ (x2 &&& x3))), (13, .int ((r34 ^^^ r36) ^^^ r38)), (12, .int ((((x8 + ((r25 ^^^ r27) ^^^ r29)) + ((x5 &&& x6) ^^^ ((x5 ^^^ (-1)) &&& x7))) + (K64 x9.toNatClampNeg)) + (u30.1 10 x9.toNatClampNeg))), (11, .int ((x5 &&& x6) ^^^ ((x5 ^^^ (-1)) &&& x7))), (10, .int ((r25 ^^^ r27) ^^^ r29)), (0, .ref (Ω.2.2.1 8)), (1, .int x1), (2, .int x2), (3, .int x3), (4, .int x4), (9, .int x9)]) dX4_mixSchedule_189 (by decide) rfl ?_
      refine ok_iload_n C 12 dX4_mixSchedule_191 rfl rfl ?_
      refine ok_istore C (L2 := [(4, .int x3), (5, .int (x4 + ((((x8 + ((r25 ^^^ r27) ^^^ r29)) + ((x5 &&& x6) ^^^ ((x5 ^^^ (-1)) &&& x7))) + (K64 x9.toNatClampNeg)) + (u30.1 10 x9.toNatClampNeg)))), (6, .int x5), (7, .int x6), (8, .int x7), (14, .int (((x1 &&& x2) ^^^ (x1 &&& x3)) ^^^ (x2 &&& x3))), (13, .int ((r34 ^^^ r36) ^^^ r38)), (12, .int ((((x8 + ((r25 ^^^ r27) ^^^ r29)) + ((x5 &&& x6) ^^^ ((x5 ^^^ (-1)) &&& x7))) + (K64 x9.toNatClampNeg)) + (u30.1 10 x9.toNatClampNeg))), (11, .int ((x5 &&& x6) ^^^ ((x5 ^^^ (-1)) &&& x7))), (10, .int ((r25 ^^^ r27) ^^^ r29)), (0, .ref (Ω.2.2.1 8)), (1, .int x1), (2, .int x2), (3, .int x3), (9, .int x9)]) dX4_mixSchedule_192 (by decide) rfl ?_
      refine ok_iload_n C 12 dX4_mixSchedule_194 rfl rfl ?_
      refine ok_istore_n C (L2 := [(3, .int x2), (4, .int x3), (5, .int (x4 + ((((x8 + ((r25 ^^^ r27) ^^^ r29)) + ((x5 &&& x6) ^^^ ((x5 ^^^ (-1)) &&& x7))) + (K64 x9.toNatClampNeg)) + (u30.1 10 x9.toNatClampNeg)))), (6, .int x5), (7, .int x6), (8, .int x7), (14, .int (((x1 &&& x2) ^^^ (x1 &&& x3)) ^^^ (x2 &&& x3))), (13, .int ((r34 ^^^ r36) ^^^ r38)), (12, .int ((((x8 + ((r25 ^^^ r27) ^^^ r29)) + ((x5 &&& x6) ^^^ ((x5 ^^^ (-1)) &&& x7))) + (K64 x9.toNatClampNeg)) + (u30.1 10 x9.toNatClampNeg))), (11, .int ((x5 &&& x6) ^^^ ((x5 ^^^ (-1)) &&& x7))), (10, .int ((r25 ^^^ r27) ^^^ r29)), (0, .ref (Ω.2.2.1 8)), (1, .int x1), (2, .int x2), (9, .int x9)]) dX4_mixSchedule_195 rfl (by decide) rfl ?_
      refine ok_iload_n C 12 dX4_mixSchedule_196 rfl rfl ?_
      refine ok_istore_n C (L2 := [(2, .int x1), (3, .int x2), (4, .int x3), (5, .int (x4 + ((((x8 + ((r25 ^^^ r27) ^^^ r29)) + ((x5 &&& x6) ^^^ ((x5 ^^^ (-1)) &&& x7))) + (K64 x9.toNatClampNeg)) + (u30.1 10 x9.toNatClampNeg)))), (6, .int x5), (7, .int x6), (8, .int x7), (14, .int (((x1 &&& x2) ^^^ (x1 &&& x3)) ^^^ (x2 &&& x3))), (13, .int ((r34 ^^^ r36) ^^^ r38)), (12, .int ((((x8 + ((r25 ^^^ r27) ^^^ r29)) + ((x5 &&& x6) ^^^ ((x5 ^^^ (-1)) &&& x7))) + (K64 x9.toNatClampNeg)) + (u30.1 10 x9.toNatClampNeg))), (11, .int ((x5 &&& x6) ^^^ ((x5 ^^^ (-1)) &&& x7))), (10, .int ((r25 ^^^ r27) ^^^ r29)), (0, .ref (Ω.2.2.1 8)), (1, .int x1), (9, .int x9)]) dX4_mixSchedule_197 rfl (by decide) rfl ?_
      refine ok_iload C 9 dX4_mixSchedule_198 rfl ?_
      refine ok_iload C 8 dX4_mixSchedule_200 rfl ?_
      refine ok_iadd C dX4_mixSchedule_202 ?_
      refine ok_iload C 7 dX4_mixSchedule_203 rfl ?_
      refine ok_iadd C dX4_mixSchedule_205 ?_
      refine ok_istore_n C (L2 := [(1, .int ((((((x8 + ((r25 ^^^ r27) ^^^ r29)) + ((x5 &&& x6) ^^^ ((x5 ^^^ (-1)) &&& x7))) + (K64 x9.toNatClampNeg)) + (u30.1 10 x9.toNatClampNeg)) + ((r34 ^^^ r36) ^^^ r38)) + (((x1 &&& x2) ^^^ (x1 &&& x3)) ^^^ (x2 &&& x3)))), (2, .int x1), (3, .int x2), (4, .int x3), (5, .int (x4 + ((((x8 + ((r25 ^^^ r27) ^^^ r29)) + ((x5 &&& x6) ^^^ ((x5 ^^^ (-1)) &&& x7))) + (K64 x9.toNatClampNeg)) + (u30.1 10 x9.toNatClampNeg)))), (6, .int x5), (7, .int x6), (8, .int x7), (14, .int (((x1 &&& x2) ^^^ (x1 &&& x3)) ^^^ (x2 &&& x3))), (13, .int ((r34 ^^^ r36) ^^^ r38)), (12, .int ((((x8 + ((r25 ^^^ r27) ^^^ r29)) + ((x5 &&& x6) ^^^ ((x5 ^^^ (-1)) &&& x7))) + (K64 x9.toNatClampNeg)) + (u30.1 10 x9.toNatClampNeg))), (11, .int ((x5 &&& x6) ^^^ ((x5 ^^^ (-1)) &&& x7))), (10, .int ((r25 ^^^ r27) ^^^ r29)), (0, .ref (Ω.2.2.1 8)), (9, .int x9)]) dX4_mixSchedule_206 rfl (by decide) rfl ?_
      refine ok_iinc C (v := x9 + 1) (L2 := [(9, .int (x9 + 1)), (1, .int ((((((x8 + ((r25 ^^^ r27) ^^^ r29)) + ((x5 &&& x6) ^^^ ((x5 ^^^ (-1)) &&& x7))) + (K64 x9.toNatClampNeg)) + (u30.1 10 x9.toNatClampNeg)) + ((r34 ^^^ r36) ^^^ r38)) + (((x1 &&& x2) ^^^ (x1 &&& x3)) ^^^ (x2 &&& x3)))), (2, .int x1), (3, .int x2), (4, .int x3), (5, .int (x4 + ((((x8 + ((r25 ^^^ r27) ^^^ r29)) + ((x5 &&& x6) ^^^ ((x5 ^^^ (-1)) &&& x7))) + (K64 x9.toNatClampNeg)) + (u30.1 10 x9.toNatClampNeg)))), (6, .int x5), (7, .int x6), (8, .int x7), (14, .int (((x1 &&& x2) ^^^ (x1 &&& x3)) ^^^ (x2 &&& x3))), (13, .int ((r34 ^^^ r36) ^^^ r38)), (12, .int ((((x8 + ((r25 ^^^ r27) ^^^ r29)) + ((x5 &&& x6) ^^^ ((x5 ^^^ (-1)) &&& x7))) + (K64 x9.toNatClampNeg)) + (u30.1 10 x9.toNatClampNeg))), (11, .int ((x5 &&& x6) ^^^ ((x5 ^^^ (-1)) &&& x7))), (10, .int ((r25 ^^^ r27) ^^^ r29)), (0, .ref (Ω.2.2.1 8))]) 14 dX4_mixSchedule_207 rfl rfl (by decide) rfl ?_
      refine ok_goto C 66 dX4_mixSchedule_210 rfl ?_
      refine ok_sub [14, 1, 2, 3, 4, 5, 6, 7, 8, 0] rfl ?_
      exact Eq.mp (gl66 _ _ _ _ _ _ _ _ _ _) h
  have h : f_X4_mixSchedule_e L66 Po σ := hvc L66 R66
  unfold f_X4_mixSchedule_e at h
  refine ok_sub (L2 := [(0, .ref (Ω.2.2.1 8))]) [0] rfl ?_
  refine ok_aload_n C 0 dX4_mixSchedule_0 rfl rfl ?_
  refine ok_getR C (ci := 4) hinX4 (kat hk kD_8) rfl 2 (by decide) W_1_71 (fun _ _ h => h) rfl dX4_mixSchedule_1 ?_
  refine ok_iconst C (v := 0) dX4_mixSchedule_4 (by decide) ?_
  obtain ⟨g1, h⟩ := h
  refine ok_iald C (kat hk kD_11) g1 dX4_mixSchedule_5 ?_
  refine ok_istore_n C (L2 := [(1, .int (σ.1 11 (0 : Int32).toNatClampNeg)), (0, .ref (Ω.2.2.1 8))]) dX4_mixSchedule_6 rfl (by decide) rfl ?_
  refine ok_aload_n C 1 dX4_mixSchedule_7 rfl rfl ?_
  refine ok_getR C (ci := 4) hinX4 (kat hk kD_8) rfl 2 (by decide) W_1_71 (fun _ _ h => h) rfl dX4_mixSchedule_8 ?_
  refine ok_iconst C (v := 1) dX4_mixSchedule_11 (by decide) ?_
  obtain ⟨g2, h⟩ := h
  refine ok_iald C (kat hk kD_11) g2 dX4_mixSchedule_12 ?_
  refine ok_istore_n C (L2 := [(2, .int (σ.1 11 (1 : Int32).toNatClampNeg)), (1, .int (σ.1 11 (0 : Int32).toNatClampNeg)), (0, .ref (Ω.2.2.1 8))]) dX4_mixSchedule_13 rfl (by decide) rfl ?_
  refine ok_aload_n C 2 dX4_mixSchedule_14 rfl rfl ?_
  refine ok_getR C (ci := 4) hinX4 (kat hk kD_8) rfl 2 (by decide) W_1_71 (fun _ _ h => h) rfl dX4_mixSchedule_15 ?_
  refine ok_iconst C (v := 2) dX4_mixSchedule_18 (by decide) ?_
  obtain ⟨g3, h⟩ := h
  refine ok_iald C (kat hk kD_11) g3 dX4_mixSchedule_19 ?_
  refine ok_istore_n C (L2 := [(3, .int (σ.1 11 (2 : Int32).toNatClampNeg)), (2, .int (σ.1 11 (1 : Int32).toNatClampNeg)), (1, .int (σ.1 11 (0 : Int32).toNatClampNeg)), (0, .ref (Ω.2.2.1 8))]) dX4_mixSchedule_20 rfl (by decide) rfl ?_
  refine ok_aload_n C 3 dX4_mixSchedule_21 rfl rfl ?_
  refine ok_getR C (ci := 4) hinX4 (kat hk kD_8) rfl 2 (by decide) W_1_71 (fun _ _ h => h) rfl dX4_mixSchedule_22 ?_
  refine ok_iconst C (v := 3) dX4_mixSchedule_25 (by decide) ?_
  obtain ⟨g4, h⟩ := h
  refine ok_iald C (kat hk kD_11) g4 dX4_mixSchedule_26 ?_
  refine ok_istore C (L2 := [(4, .int (σ.1 11 (3 : Int32).toNatClampNeg)), (3, .int (σ.1 11 (2 : Int32).toNatClampNeg)), (2, .int (σ.1 11 (1 : Int32).toNatClampNeg)), (1, .int (σ.1 11 (0 : Int32).toNatClampNeg)), (0, .ref (Ω.2.2.1 8))]) dX4_mixSchedule_27 (by decide) rfl ?_
  refine ok_aload_n C 4 dX4_mixSchedule_29 rfl rfl ?_
  refine ok_getR C (ci := 4) hinX4 (kat hk kD_8) rfl 2 (by decide) W_1_71 (fun _ _ h => h) rfl dX4_mixSchedule_30 ?_
  refine ok_iconst C (v := 4) dX4_mixSchedule_33 (by decide) ?_
  obtain ⟨g5, h⟩ := h
  refine ok_iald C (kat hk kD_11) g5 dX4_mixSchedule_34 ?_
  refine ok_istore C (L2 := [(5, .int (σ.1 11 (4 : Int32).toNatClampNeg)), (4, .int (σ.1 11 (3 : Int32).toNatClampNeg)), (3, .int (σ.1 11 (2 : Int32).toNatClampNeg)), (2, .int (σ.1 11 (1 : Int32).toNatClampNeg)), (1, .int (σ.1 11 (0 : Int32).toNatClampNeg)), (0, .ref (Ω.2.2.1 8))]) dX4_mixSchedule_35 (by decide) rfl ?_
  refine ok_aload_n C 5 dX4_mixSchedule_37 rfl rfl ?_
  refine ok_getR C (ci := 4) hinX4 (kat hk kD_8) rfl 2 (by decide) W_1_71 (fun _ _ h => h) rfl dX4_mixSchedule_38 ?_
  refine ok_iconst C (v := 5) dX4_mixSchedule_41 (by decide) ?_
  obtain ⟨g6, h⟩ := h
  refine ok_iald C (kat hk kD_11) g6 dX4_mixSchedule_42 ?_
  refine ok_istore C (L2 := [(6, .int (σ.1 11 (5 : Int32).toNatClampNeg)), (5, .int (σ.1 11 (4 : Int32).toNatClampNeg)), (4, .int (σ.1 11 (3 : Int32).toNatClampNeg)), (3, .int (σ.1 11 (2 : Int32).toNatClampNeg)), (2, .int (σ.1 11 (1 : Int32).toNatClampNeg)), (1, .int (σ.1 11 (0 : Int32).toNatClampNeg)), (0, .ref (Ω.2.2.1 8))]) dX4_mixSchedule_43 (by decide) rfl ?_
  refine ok_aload_n C 6 dX4_mixSchedule_45 rfl rfl ?_
  refine ok_getR C (ci := 4) hinX4 (kat hk kD_8) rfl 2 (by decide) W_1_71 (fun _ _ h => h) rfl dX4_mixSchedule_46 ?_
  refine ok_bipush C (v := 6) dX4_mixSchedule_49 (by decide) ?_
  obtain ⟨g7, h⟩ := h
  refine ok_iald C (kat hk kD_11) g7 dX4_mixSchedule_51 ?_
  refine ok_istore C (L2 := [(7, .int (σ.1 11 (6 : Int32).toNatClampNeg)), (6, .int (σ.1 11 (5 : Int32).toNatClampNeg)), (5, .int (σ.1 11 (4 : Int32).toNatClampNeg)), (4, .int (σ.1 11 (3 : Int32).toNatClampNeg)), (3, .int (σ.1 11 (2 : Int32).toNatClampNeg)), (2, .int (σ.1 11 (1 : Int32).toNatClampNeg)), (1, .int (σ.1 11 (0 : Int32).toNatClampNeg)), (0, .ref (Ω.2.2.1 8))]) dX4_mixSchedule_52 (by decide) rfl ?_
  refine ok_aload_n C 7 dX4_mixSchedule_54 rfl rfl ?_
  refine ok_getR C (ci := 4) hinX4 (kat hk kD_8) rfl 2 (by decide) W_1_71 (fun _ _ h => h) rfl dX4_mixSchedule_55 ?_
  refine ok_bipush C (v := 7) dX4_mixSchedule_58 (by decide) ?_
  obtain ⟨g8, h⟩ := h
  refine ok_iald C (kat hk kD_11) g8 dX4_mixSchedule_60 ?_
  refine ok_istore C (L2 := [(8, .int (σ.1 11 (7 : Int32).toNatClampNeg)), (7, .int (σ.1 11 (6 : Int32).toNatClampNeg)), (6, .int (σ.1 11 (5 : Int32).toNatClampNeg)), (5, .int (σ.1 11 (4 : Int32).toNatClampNeg)), (4, .int (σ.1 11 (3 : Int32).toNatClampNeg)), (3, .int (σ.1 11 (2 : Int32).toNatClampNeg)), (2, .int (σ.1 11 (1 : Int32).toNatClampNeg)), (1, .int (σ.1 11 (0 : Int32).toNatClampNeg)), (0, .ref (Ω.2.2.1 8))]) dX4_mixSchedule_61 (by decide) rfl ?_
  refine ok_iconst C (v := 0) dX4_mixSchedule_63 (by decide) ?_
  refine ok_istore C (L2 := [(9, .int 0), (8, .int (σ.1 11 (7 : Int32).toNatClampNeg)), (7, .int (σ.1 11 (6 : Int32).toNatClampNeg)), (6, .int (σ.1 11 (5 : Int32).toNatClampNeg)), (5, .int (σ.1 11 (4 : Int32).toNatClampNeg)), (4, .int (σ.1 11 (3 : Int32).toNatClampNeg)), (3, .int (σ.1 11 (2 : Int32).toNatClampNeg)), (2, .int (σ.1 11 (1 : Int32).toNatClampNeg)), (1, .int (σ.1 11 (0 : Int32).toNatClampNeg)), (0, .ref (Ω.2.2.1 8))]) dX4_mixSchedule_64 (by decide) rfl ?_
  refine ok_sub [9, 8, 7, 6, 5, 4, 3, 2, 1, 0] rfl ?_
  exact Eq.mp (gl66 _ _ _ _ _ _ _ _ _ _) h
set_option maxRecDepth 100000 in
set_option maxHeartbeats 4000000 in
theorem m_X4_finishInto {l : Launch} {Ω : Wm} (hk : Hk Ω kD) (c_X4_fillSchedule : CT_X4_fillSchedule l Ω) (c_X4_mixSchedule : CT_X4_mixSchedule l Ω) (c_X4_putOctet : CT_X4_putOctet l Ω) (hv : ∀ (x2 : Int32) (σ : Sg) (K : Sg → Prop), sp_X4_finishInto x2 σ K → vc_X4_finishInto x2 σ K) : CT_X4_finishInto l Ω := by
  intro x2 σ Po hsp
  have hvc := hv x2 σ Po hsp
  refine Ct.of (by decide +kernel) (Nat.le_of_ble_eq_true rfl) (fun Γ C => ?_)
  have h : f_X4_finishInto_e x2 Po σ := hvc  
  unfold f_X4_finishInto_e at h
  refine ok_sub (L2 := [(0, .ref (Ω.2.2.1 8)), (1, .ref (Ω.2.2.1 19)), (2, .int x2)]) [0, 1, 2] rfl ?_
  refine ok_bipush C (v := 8) dX4_finishInto_0 (by decide) ?_
  refine ok_aload_n C 0 dX4_finishInto_2 rfl rfl ?_
  refine ok_getI C (ci := 4) hinX4 (kat hk kD_8) rfl 3 (by decide) W_1_72 (fun _ _ h => h) rfl dX4_finishInto_3 ?_
  refine ok_imul C dX4_finishInto_6 ?_
  refine ok_istore_n C (L2 := [(3, .int (8 * (σ.1 8 3))), (0, .ref (Ω.2.2.1 8)), (1, .ref (Ω.2.2.1 19)), (2, .int x2)]) dX4_finishInto_7 rfl (by decide) rfl ?_
  refine ok_aload_n C 1 dX4_finishInto_8 rfl rfl ?_
  refine ok_sipush C (v := 128) dX4_finishInto_9 (by decide) ?_
  refine ok_callVv C (As := [.int 128]) (rest := []) (q := 8) (ci := 4) (kat hk kD_8) rfl (c_X4_putOctet  _ _ _ h) W_2_162 W_2_147 W_2_148 W_2_149 W_1_4 hd_X4_putOctet rfl ⟨Nat.le_of_ble_eq_true rfl, Nat.le_of_ble_eq_true rfl⟩ (Nat.le_of_ble_eq_true rfl) rfl dX4_finishInto_12 (fun u2 h => ?_)
  refine ok_aload_n C 1 dX4_finishInto_15 rfl rfl ?_
  refine ok_getR C (ci := 4) hinX4 (kat hk kD_8) rfl 0 (by decide) W_1_69 (fun _ _ h => h) rfl dX4_finishInto_16 ?_
  refine ok_bipush C (v := 31) dX4_finishInto_19 (by decide) ?_
  refine ok_iload_n C 0 dX4_finishInto_21 rfl rfl ?_
  obtain ⟨g3, h⟩ := h
  refine ok_iast C (kat hk kD_9) g3 dX4_finishInto_22 ?_
  refine ok_gets2 C W_2_172 dX4_finishInto_23 (fun t4 ht4 => ?_)
  refine ok_iconst C (v := 0) dX4_finishInto_26 (by decide) ?_
  refine ok_aload_n C 1 dX4_finishInto_27 rfl rfl ?_
  refine ok_getR C (ci := 4) hinX4 (kat hk kD_8) rfl 2 (by decide) W_1_71 (fun _ _ h => h) rfl dX4_finishInto_28 ?_
  refine ok_iconst C (v := 0) dX4_finishInto_31 (by decide) ?_
  refine ok_bipush C (v := 8) dX4_finishInto_32 (by decide) ?_
  obtain ⟨g5, g6, g7, g8, g9, h⟩ := h
  refine ok_copyx C W_2_174 W_2_136 W_2_135 W_1_10 ht4 (kat hk kD_11) g5 g6 g7 g8 g9 (Nat.le_of_ble_eq_true rfl) (by decide +kernel) dX4_finishInto_34 ?_
  refine ok_aload_n C 1 dX4_finishInto_37 rfl rfl ?_
  refine ok_iconst C (v := 0) dX4_finishInto_38 (by decide) ?_
  refine ok_callVv C (As := [.int 0]) (rest := []) (q := 8) (ci := 4) (kat hk kD_8) rfl (c_X4_fillSchedule  _ _ _ h) W_2_175 W_2_177 W_0_3 W_2_178 W_1_4 hd_X4_fillSchedule rfl ⟨Nat.le_of_ble_eq_true rfl, Nat.le_of_ble_eq_true rfl⟩ (Nat.le_of_ble_eq_true rfl) rfl dX4_finishInto_39 (fun u11 h => ?_)
  refine ok_aload_n C 1 dX4_finishInto_42 rfl rfl ?_
  refine ok_callVv C (As := []) (rest := []) (q := 8) (ci := 4) (kat hk kD_8) rfl (c_X4_mixSchedule   _ _ h) W_2_182 W_2_184 W_0_4 W_2_185 W_1_4 hd_X4_mixSchedule rfl ⟨Nat.le_of_ble_eq_true rfl, Nat.le_of_ble_eq_true rfl⟩ (Nat.le_of_ble_eq_true rfl) rfl dX4_finishInto_43 (fun u13 h => ?_)
  refine ok_aload_n C 1 dX4_finishInto_46 rfl rfl ?_
  refine ok_bipush C (v := 16) dX4_finishInto_47 (by decide) ?_
  refine ok_callVv C (As := [.int 16]) (rest := []) (q := 8) (ci := 4) (kat hk kD_8) rfl (c_X4_fillSchedule  _ _ _ h) W_2_175 W_2_177 W_0_3 W_2_178 W_1_4 hd_X4_fillSchedule rfl ⟨Nat.le_of_ble_eq_true rfl, Nat.le_of_ble_eq_true rfl⟩ (Nat.le_of_ble_eq_true rfl) rfl dX4_finishInto_49 (fun u15 h => ?_)
  refine ok_aload_n C 1 dX4_finishInto_52 rfl rfl ?_
  refine ok_callVv C (As := []) (rest := []) (q := 8) (ci := 4) (kat hk kD_8) rfl (c_X4_mixSchedule   _ _ h) W_2_182 W_2_184 W_0_4 W_2_185 W_1_4 hd_X4_mixSchedule rfl ⟨Nat.le_of_ble_eq_true rfl, Nat.le_of_ble_eq_true rfl⟩ (Nat.le_of_ble_eq_true rfl) rfl dX4_finishInto_53 (fun u17 h => ?_)
  refine ok_aload_n C 1 dX4_finishInto_56 rfl rfl ?_
  refine ok_getR C (ci := 4) hinX4 (kat hk kD_8) rfl 2 (by decide) W_1_71 (fun _ _ h => h) rfl dX4_finishInto_57 ?_
  refine ok_iconst C (v := 0) dX4_finishInto_60 (by decide) ?_
  refine ok_aload_n C 2 dX4_finishInto_61 rfl rfl ?_
  refine ok_iload_n C 3 dX4_finishInto_62 rfl rfl ?_
  refine ok_bipush C (v := 8) dX4_finishInto_63 (by decide) ?_
  obtain ⟨g18, g19, g20, g21, g22, h⟩ := h
  refine ok_copyi C W_2_174 W_2_136 W_2_135 W_1_10 (kat hk kD_11) (kat hk kD_19) g18 g19 g20 g21 g22 (Nat.le_of_ble_eq_true rfl) (by decide +kernel) dX4_finishInto_65 ?_
  exact ok_vret C rfl rfl dX4_finishInto_68 h
set_option maxRecDepth 100000 in
set_option maxHeartbeats 4000000 in
theorem m_X6_clear {l : Launch} {Ω : Wm} (hk : Hk Ω kD) (c_J7_fill_53178 : CT_J7_fill_53178 l Ω) (hv : ∀ (σ : Sg) (K : Sg → Prop), sp_X6_clear  σ K → vc_X6_clear  σ K) : CT_X6_clear l Ω := by
  intro  σ Po hsp
  have hvc := hv  σ Po hsp
  refine Ct.of (by decide +kernel) (Nat.le_of_ble_eq_true rfl) (fun Γ C => ?_)
  have h : f_X6_clear_e Po σ := hvc  
  unfold f_X6_clear_e at h
  refine ok_sub (L2 := [(0, .ref (Ω.2.2.1 3))]) [0] rfl ?_
  refine ok_aload_n C 0 dX6_clear_0 rfl rfl ?_
  refine ok_getR C (ci := 6) hinX6 (kat hk kD_3) rfl 2 (by decide) W_1_47 (fun _ _ h => h) rfl dX6_clear_1 ?_
  refine ok_iconst C (v := 0) dX6_clear_4 (by decide) ?_
  refine ok_callSv C (As := [.ref (Ω.2.2.1 6), .int 0]) (rest := []) (c_J7_fill_53178 6 8 kD_6 _ _ _ h) W_2_87 W_2_88 W_2_89 W_1_9 hd_J7_fill_53178 rfl ⟨Nat.le_of_ble_eq_true rfl, Nat.le_of_ble_eq_true rfl⟩ (Nat.le_of_ble_eq_true rfl) rfl dX6_clear_5 (fun u2 h => ?_)
  exact ok_vret C rfl rfl dX6_clear_8 h
set_option maxRecDepth 100000 in
set_option maxHeartbeats 4000000 in
theorem m_X6_isFull {l : Launch} {Ω : Wm} (hk : Hk Ω kD)  (hv : ∀ (x1 : Int32) (σ : Sg) (K : Int32 → Sg → Prop), sp_X6_isFull x1 σ K → vc_X6_isFull x1 σ K) : CT_X6_isFull l Ω := by
  intro x1 σ Po hsp
  have hvc := hv x1 σ Po hsp
  refine Ct.of (by decide +kernel) (Nat.le_of_ble_eq_true rfl) (fun Γ C => ?_)
  have J16 : ∀ (s0 : Int32) (σ : Sg), f_X6_isFull_16 x1 Po s0 σ → OK Γ Ω 2 16 [] [.int s0] σ := by
    intro s0 σ h
    unfold f_X6_isFull_16 at h
    obtain ⟨z3, h⟩ := h
    exact ok_zret C rfl rfl (bz_n z3) dX6_isFull_16 h
  have h : f_X6_isFull_e x1 Po σ := hvc  
  unfold f_X6_isFull_e at h
  refine ok_sub (L2 := [(0, .ref (Ω.2.2.1 3)), (1, .int x1)]) [0, 1] rfl ?_
  refine ok_aload_n C 0 dX6_isFull_0 rfl rfl ?_
  refine ok_getR C (ci := 6) hinX6 (kat hk kD_3) rfl 2 (by decide) W_1_47 (fun _ _ h => h) rfl dX6_isFull_1 ?_
  refine ok_iload_n C 1 dX6_isFull_4 rfl rfl ?_
  obtain ⟨g1, h⟩ := h
  refine ok_iald C (kat hk kD_6) g1 dX6_isFull_5 ?_
  refine ok_bipush C (v := 8) dX6_isFull_6 (by decide) ?_
  obtain ⟨h1, h2⟩ := h
  refine ok_icmp_ne C 15 dX6_isFull_8 rfl (fun c2 => ?_) (fun c2 => ?_)
  · have h := h1 c2
    refine ok_iconst C (v := 0) dX6_isFull_15 (by decide) ?_
    refine ok_sub [] rfl ?_
    exact J16 _ _ h
  · have h := h2 c2
    refine ok_iconst C (v := 1) dX6_isFull_11 (by decide) ?_
    refine ok_goto C 16 dX6_isFull_12 rfl ?_
    refine ok_sub [] rfl ?_
    exact J16 _ _ h
set_option maxRecDepth 100000 in
set_option maxHeartbeats 4000000 in
theorem m_X6_join {l : Launch} {Ω : Wm} (hk : Hk Ω kD)  (hv : ∀ (x1 : Int32) (x2 : Int32) (x3 : Int32) (σ : Sg) (K : Sg → Prop), sp_X6_join x1 x2 x3 σ K → vc_X6_join x1 x2 x3 σ K) : CT_X6_join l Ω := by
  intro x1 x2 x3 σ Po hsp
  have hvc := hv x1 x2 x3 σ Po hsp
  refine Ct.of (by decide +kernel) (Nat.le_of_ble_eq_true rfl) (fun Γ C => ?_)
  have h : f_X6_join_e x1 x2 x3 Po σ := hvc  
  unfold f_X6_join_e at h
  refine ok_sub (L2 := [(0, .ref (Ω.2.2.1 3)), (1, .int x1), (2, .int x2), (3, .int x3)]) [0, 1, 2, 3] rfl ?_
  refine ok_iload_n C 1 dX6_join_0 rfl rfl ?_
  refine ok_bipush C (v := 8) dX6_join_1 (by decide) ?_
  refine ok_imul C dX6_join_3 ?_
  refine ok_aload_n C 0 dX6_join_4 rfl rfl ?_
  refine ok_getR C (ci := 6) hinX6 (kat hk kD_3) rfl 2 (by decide) W_1_47 (fun _ _ h => h) rfl dX6_join_5 ?_
  refine ok_iload_n C 1 dX6_join_8 rfl rfl ?_
  obtain ⟨g1, h⟩ := h
  refine ok_iald C (kat hk kD_6) g1 dX6_join_9 ?_
  refine ok_iadd C dX6_join_10 ?_
  refine ok_istore C (L2 := [(4, .int ((x1 * 8) + (σ.1 6 x1.toNatClampNeg))), (0, .ref (Ω.2.2.1 3)), (1, .int x1), (2, .int x2), (3, .int x3)]) dX6_join_11 (by decide) rfl ?_
  refine ok_aload_n C 1 dX6_join_13 rfl rfl ?_
  refine ok_getR C (ci := 6) hinX6 (kat hk kD_3) rfl 0 (by decide) W_1_45 (fun _ _ h => h) rfl dX6_join_14 ?_
  refine ok_iload C 0 dX6_join_17 rfl ?_
  refine ok_iload_n C 3 dX6_join_19 rfl rfl ?_
  obtain ⟨g2, h⟩ := h
  refine ok_iast C (kat hk kD_4) g2 dX6_join_20 ?_
  refine ok_aload_n C 1 dX6_join_21 rfl rfl ?_
  refine ok_getR C (ci := 6) hinX6 (kat hk kD_3) rfl 1 (by decide) W_1_46 (fun _ _ h => h) rfl dX6_join_22 ?_
  refine ok_iload C 0 dX6_join_25 rfl ?_
  refine ok_iload_n C 4 dX6_join_27 rfl rfl ?_
  obtain ⟨g3, h⟩ := h
  refine ok_iast C (kat hk kD_5) g3 dX6_join_28 ?_
  refine ok_aload_n C 1 dX6_join_29 rfl rfl ?_
  refine ok_getR C (ci := 6) hinX6 (kat hk kD_3) rfl 2 (by decide) W_1_47 (fun _ _ h => h) rfl dX6_join_30 ?_
  refine ok_iload_n C 2 dX6_join_33 rfl rfl ?_
  refine ok_dup2_11 C dX6_join_34 rfl rfl ?_
  obtain ⟨g4, h⟩ := h
  refine ok_iald C (kat hk kD_6) g4 dX6_join_35 ?_
  refine ok_iconst C (v := 1) dX6_join_36 (by decide) ?_
  refine ok_iadd C dX6_join_37 ?_
  obtain ⟨g5, h⟩ := h
  refine ok_iast C (kat hk kD_6) g5 dX6_join_38 ?_
  exact ok_vret C rfl rfl dX6_join_39 h
set_option maxRecDepth 100000 in
set_option maxHeartbeats 4000000 in
theorem m_X6_firstTo {l : Launch} {Ω : Wm} (hk : Hk Ω kD)  (hv : ∀ (x1 : Int32) (σ : Sg) (K : Int32 → Sg → Prop), sp_X6_firstTo x1 σ K → vc_X6_firstTo x1 σ K) : CT_X6_firstTo l Ω := by
  intro x1 σ Po hsp
  have hvc := hv x1 σ Po hsp
  refine Ct.of (by decide +kernel) (Nat.le_of_ble_eq_true rfl) (fun Γ C => ?_)
  have h : f_X6_firstTo_e x1 Po σ := hvc  
  unfold f_X6_firstTo_e at h
  refine ok_sub (L2 := [(0, .ref (Ω.2.2.1 3)), (1, .int x1)]) [0, 1] rfl ?_
  refine ok_aload_n C 0 dX6_firstTo_0 rfl rfl ?_
  refine ok_getR C (ci := 6) hinX6 (kat hk kD_3) rfl 0 (by decide) W_1_45 (fun _ _ h => h) rfl dX6_firstTo_1 ?_
  refine ok_iload_n C 1 dX6_firstTo_4 rfl rfl ?_
  refine ok_bipush C (v := 8) dX6_firstTo_5 (by decide) ?_
  refine ok_imul C dX6_firstTo_7 ?_
  obtain ⟨g1, h⟩ := h
  refine ok_iald C (kat hk kD_4) g1 dX6_firstTo_8 ?_
  exact ok_iret C rfl rfl dX6_firstTo_9 h
set_option maxRecDepth 100000 in
set_option maxHeartbeats 4000000 in
theorem m_X6_firstAmount {l : Launch} {Ω : Wm} (hk : Hk Ω kD)  (hv : ∀ (x1 : Int32) (σ : Sg) (K : Int32 → Sg → Prop), sp_X6_firstAmount x1 σ K → vc_X6_firstAmount x1 σ K) : CT_X6_firstAmount l Ω := by
  intro x1 σ Po hsp
  have hvc := hv x1 σ Po hsp
  refine Ct.of (by decide +kernel) (Nat.le_of_ble_eq_true rfl) (fun Γ C => ?_)
  have h : f_X6_firstAmount_e x1 Po σ := hvc  
  unfold f_X6_firstAmount_e at h
  refine ok_sub (L2 := [(0, .ref (Ω.2.2.1 3)), (1, .int x1)]) [0, 1] rfl ?_
  refine ok_aload_n C 0 dX6_firstAmount_0 rfl rfl ?_
  refine ok_getR C (ci := 6) hinX6 (kat hk kD_3) rfl 1 (by decide) W_1_46 (fun _ _ h => h) rfl dX6_firstAmount_1 ?_
  refine ok_iload_n C 1 dX6_firstAmount_4 rfl rfl ?_
  refine ok_bipush C (v := 8) dX6_firstAmount_5 (by decide) ?_
  refine ok_imul C dX6_firstAmount_7 ?_
  obtain ⟨g1, h⟩ := h
  refine ok_iald C (kat hk kD_5) g1 dX6_firstAmount_8 ?_
  exact ok_iret C rfl rfl dX6_firstAmount_9 h
set_option maxRecDepth 100000 in
set_option maxHeartbeats 4000000 in
theorem m_X6_dropFirst {l : Launch} {Ω : Wm} (hk : Hk Ω kD)  (hv : ∀ (x1 : Int32) (σ : Sg) (K : Sg → Prop), sp_X6_dropFirst x1 σ K → vc_X6_dropFirst x1 σ K) : CT_X6_dropFirst l Ω := by
  intro x1 σ Po hsp
  have hvc := hv x1 σ Po hsp
  refine Ct.of (by decide +kernel) (Nat.le_of_ble_eq_true rfl) (fun Γ C => ?_)
  have h : f_X6_dropFirst_e x1 Po σ := hvc  
  unfold f_X6_dropFirst_e at h
  refine ok_sub (L2 := [(0, .ref (Ω.2.2.1 3)), (1, .int x1)]) [0, 1] rfl ?_
  refine ok_iload_n C 1 dX6_dropFirst_0 rfl rfl ?_
  refine ok_bipush C (v := 8) dX6_dropFirst_1 (by decide) ?_
  refine ok_imul C dX6_dropFirst_3 ?_
  refine ok_istore_n C (L2 := [(2, .int (x1 * 8)), (0, .ref (Ω.2.2.1 3)), (1, .int x1)]) dX6_dropFirst_4 rfl (by decide) rfl ?_
  refine ok_aload_n C 1 dX6_dropFirst_5 rfl rfl ?_
  refine ok_getR C (ci := 6) hinX6 (kat hk kD_3) rfl 2 (by decide) W_1_47 (fun _ _ h => h) rfl dX6_dropFirst_6 ?_
  refine ok_iload_n C 2 dX6_dropFirst_9 rfl rfl ?_
  refine ok_dup2_11 C dX6_dropFirst_10 rfl rfl ?_
  obtain ⟨g1, h⟩ := h
  refine ok_iald C (kat hk kD_6) g1 dX6_dropFirst_11 ?_
  refine ok_iconst C (v := 1) dX6_dropFirst_12 (by decide) ?_
  refine ok_isub C dX6_dropFirst_13 ?_
  obtain ⟨g2, h⟩ := h
  refine ok_iast C (kat hk kD_6) g2 dX6_dropFirst_14 ?_
  refine ok_aload_n C 1 dX6_dropFirst_15 rfl rfl ?_
  refine ok_getR C (ci := 6) hinX6 (kat hk kD_3) rfl 0 (by decide) W_1_45 (fun _ _ h => h) rfl dX6_dropFirst_16 ?_
  refine ok_iload_n C 0 dX6_dropFirst_19 rfl rfl ?_
  refine ok_iconst C (v := 1) dX6_dropFirst_20 (by decide) ?_
  refine ok_iadd C dX6_dropFirst_21 ?_
  refine ok_aload_n C 1 dX6_dropFirst_22 rfl rfl ?_
  refine ok_getR C (ci := 6) hinX6 (kat hk kD_3) rfl 0 (by decide) W_1_45 (fun _ _ h => h) rfl dX6_dropFirst_23 ?_
  refine ok_iload_n C 0 dX6_dropFirst_26 rfl rfl ?_
  refine ok_aload_n C 1 dX6_dropFirst_27 rfl rfl ?_
  refine ok_getR C (ci := 6) hinX6 (kat hk kD_3) rfl 2 (by decide) W_1_47 (fun _ _ h => h) rfl dX6_dropFirst_28 ?_
  refine ok_iload_n C 2 dX6_dropFirst_31 rfl rfl ?_
  obtain ⟨g3, h⟩ := h
  refine ok_iald C (kat hk kD_6) g3 dX6_dropFirst_32 ?_
  obtain ⟨g4, g5, g6, g7, g8, h⟩ := h
  refine ok_copyi C W_2_134 W_2_136 W_2_135 W_1_10 (kat hk kD_4) (kat hk kD_4) g4 g5 g6 g7 g8 (Nat.le_of_ble_eq_true rfl) (by decide +kernel) dX6_dropFirst_33 ?_
  refine ok_aload_n C 1 dX6_dropFirst_36 rfl rfl ?_
  refine ok_getR C (ci := 6) hinX6 (kat hk kD_3) rfl 1 (by decide) W_1_46 (fun _ _ h => h) rfl dX6_dropFirst_37 ?_
  refine ok_iload_n C 0 dX6_dropFirst_40 rfl rfl ?_
  refine ok_iconst C (v := 1) dX6_dropFirst_41 (by decide) ?_
  refine ok_iadd C dX6_dropFirst_42 ?_
  refine ok_aload_n C 1 dX6_dropFirst_43 rfl rfl ?_
  refine ok_getR C (ci := 6) hinX6 (kat hk kD_3) rfl 1 (by decide) W_1_46 (fun _ _ h => h) rfl dX6_dropFirst_44 ?_
  refine ok_iload_n C 0 dX6_dropFirst_47 rfl rfl ?_
  refine ok_aload_n C 1 dX6_dropFirst_48 rfl rfl ?_
  refine ok_getR C (ci := 6) hinX6 (kat hk kD_3) rfl 2 (by decide) W_1_47 (fun _ _ h => h) rfl dX6_dropFirst_49 ?_
  refine ok_iload_n C 2 dX6_dropFirst_52 rfl rfl ?_
  obtain ⟨g9, h⟩ := h
  refine ok_iald C (kat hk kD_6) g9 dX6_dropFirst_53 ?_
  obtain ⟨g10, g11, g12, g13, g14, h⟩ := h
  refine ok_copyi C W_2_134 W_2_136 W_2_135 W_1_10 (kat hk kD_5) (kat hk kD_5) g10 g11 g12 g13 g14 (Nat.le_of_ble_eq_true rfl) (by decide +kernel) dX6_dropFirst_54 ?_
  exact ok_vret C rfl rfl dX6_dropFirst_57 h
set_option maxRecDepth 100000 in
set_option maxHeartbeats 4000000 in
theorem m_X6_lengthOfAll {l : Launch} {Ω : Wm} (hk : Hk Ω kD)  (hv : ∀ (σ : Sg) (K : Int32 → Sg → Prop), sp_X6_lengthOfAll  σ K → vc_X6_lengthOfAll  σ K) : CT_X6_lengthOfAll l Ω := by
  intro  σ Po hsp
  have hvc := hv  σ Po hsp
  refine Ct.of (by decide +kernel) (Nat.le_of_ble_eq_true rfl) (fun Γ C => ?_)
  obtain ⟨L4, gl4⟩ : ∃ L : Int32 → Int32 → Sg → Prop, ∀ (x1 : Int32) (x2 : Int32) (σ : Sg), L x1 x2 σ = OK Γ Ω 3 4 [(0, .ref (Ω.2.2.1 3)), (1, .int x1), (2, .int x2)] [] σ := ⟨fun x1 x2 σ => OK Γ Ω 3 4 [(0, .ref (Ω.2.2.1 3)), (1, .int x1), (2, .int x2)] [] σ, fun _ _ _ => rfl⟩
  have R4 : ∀ (x1 : Int32) (x2 : Int32) (σ : Sg), f_X6_lengthOfAll_4 L4 Po x1 x2 σ → L4 x1 x2 σ := by
    intro x1 x2 σ h
    unfold f_X6_lengthOfAll_4 at h
    refine Eq.mpr (gl4 _ _ _) ?_
    refine ok_iload_n C 2 dX6_lengthOfAll_4 rfl rfl ?_
    refine ok_bipush C (v := 8) dX6_lengthOfAll_5 (by decide) ?_
    obtain ⟨h1, h2⟩ := h
    refine ok_icmp_ge C 25 dX6_lengthOfAll_7 rfl (fun c2 => ?_) (fun c2 => ?_)
    · have h := h1 c2
      refine ok_iload_n C 1 dX6_lengthOfAll_25 rfl rfl ?_
      exact ok_iret C rfl rfl dX6_lengthOfAll_26 h
    · have h := h2 c2
      refine ok_iload_n C 1 dX6_lengthOfAll_10 rfl rfl ?_
      refine ok_aload_n C 0 dX6_lengthOfAll_11 rfl rfl ?_
      refine ok_getR C (ci := 6) hinX6 (kat hk kD_3) rfl 2 (by decide) W_1_47 (fun _ _ h => h) rfl dX6_lengthOfAll_12 ?_
      refine ok_iload_n C 2 dX6_lengthOfAll_15 rfl rfl ?_
      obtain ⟨g1, h⟩ := h
      refine ok_iald C (kat hk kD_6) g1 dX6_lengthOfAll_16 ?_
      refine ok_iadd C dX6_lengthOfAll_17 ?_
      refine ok_istore_n C (L2 := [(1, .int (x1 + (σ.1 6 x2.toNatClampNeg))), (0, .ref (Ω.2.2.1 3)), (2, .int x2)]) dX6_lengthOfAll_18 rfl (by decide) rfl ?_
      refine ok_iinc C (v := x2 + 1) (L2 := [(2, .int (x2 + 1)), (1, .int (x1 + (σ.1 6 x2.toNatClampNeg))), (0, .ref (Ω.2.2.1 3))]) 2 dX6_lengthOfAll_19 rfl rfl (by decide) rfl ?_
      refine ok_goto C 4 dX6_lengthOfAll_22 rfl ?_
      refine ok_sub [2, 1, 0] rfl ?_
      exact Eq.mp (gl4 _ _ _) h
  have h : f_X6_lengthOfAll_e L4 Po σ := hvc L4 R4
  unfold f_X6_lengthOfAll_e at h
  refine ok_sub (L2 := [(0, .ref (Ω.2.2.1 3))]) [0] rfl ?_
  refine ok_iconst C (v := 0) dX6_lengthOfAll_0 (by decide) ?_
  refine ok_istore_n C (L2 := [(1, .int 0), (0, .ref (Ω.2.2.1 3))]) dX6_lengthOfAll_1 rfl (by decide) rfl ?_
  refine ok_iconst C (v := 0) dX6_lengthOfAll_2 (by decide) ?_
  refine ok_istore_n C (L2 := [(2, .int 0), (1, .int 0), (0, .ref (Ω.2.2.1 3))]) dX6_lengthOfAll_3 rfl (by decide) rfl ?_
  refine ok_sub [2, 1, 0] rfl ?_
  exact Eq.mp (gl4 _ _ _) h
set_option maxRecDepth 100000 in
set_option maxHeartbeats 4000000 in
theorem m_X2_clear {l : Launch} {Ω : Wm} (hk : Hk Ω kD) (c_X0_clear : CT_X0_clear l Ω) (hv : ∀ (σ : Sg) (K : Sg → Prop), sp_X2_clear  σ K → vc_X2_clear  σ K) : CT_X2_clear l Ω := by
  intro  σ Po hsp
  have hvc := hv  σ Po hsp
  refine Ct.of (by decide +kernel) (Nat.le_of_ble_eq_true rfl) (fun Γ C => ?_)
  have h : f_X2_clear_e Po σ := hvc  
  unfold f_X2_clear_e at h
  refine ok_sub (L2 := [(0, .ref (Ω.2.2.1 7))]) [0] rfl ?_
  refine ok_aload_n C 0 dX2_clear_0 rfl rfl ?_
  refine ok_iconst C (v := 0) dX2_clear_1 (by decide) ?_
  refine ok_putI C (ci := 2) hinX2 (kat hk kD_7) rfl 10 (by decide) W_1_121 (fun _ _ h => h) tyX2 tyX2_ok nmX2 rfl (by decide +kernel) rfl rfl rfl dX2_clear_2 ?_
  refine ok_aload_n C 0 dX2_clear_5 rfl rfl ?_
  refine ok_getR C (ci := 2) hinX2 (kat hk kD_7) rfl 9 (by decide) W_1_118 (fun _ _ h => h) rfl dX2_clear_6 ?_
  refine ok_callVv C (As := []) (rest := []) (q := 20) (ci := 0) (kat hk kD_20) rfl (c_X0_clear 20 32 bt_20  _ _ h) W_2_94 W_2_95 W_2_96 W_2_97 W_1_5 hd_X0_clear rfl ⟨Nat.le_of_ble_eq_true rfl, Nat.le_of_ble_eq_true rfl⟩ (Nat.le_of_ble_eq_true rfl) rfl dX2_clear_9 (fun u2 h => ?_)
  exact ok_vret C rfl rfl dX2_clear_12 h
set_option maxRecDepth 100000 in
set_option maxHeartbeats 4000000 in
theorem m_X2_isFull {l : Launch} {Ω : Wm} (hk : Hk Ω kD)  (hv : ∀ (σ : Sg) (K : Int32 → Sg → Prop), sp_X2_isFull  σ K → vc_X2_isFull  σ K) : CT_X2_isFull l Ω := by
  intro  σ Po hsp
  have hvc := hv  σ Po hsp
  refine Ct.of (by decide +kernel) (Nat.le_of_ble_eq_true rfl) (fun Γ C => ?_)
  have J15 : ∀ (s0 : Int32) (σ : Sg), f_X2_isFull_15 Po s0 σ → OK Γ Ω 1 15 [] [.int s0] σ := by
    intro s0 σ h
    unfold f_X2_isFull_15 at h
    obtain ⟨z2, h⟩ := h
    exact ok_zret C rfl rfl (bz_n z2) dX2_isFull_15 h
  have h : f_X2_isFull_e Po σ := hvc  
  unfold f_X2_isFull_e at h
  refine ok_sub (L2 := [(0, .ref (Ω.2.2.1 7))]) [0] rfl ?_
  refine ok_aload_n C 0 dX2_isFull_0 rfl rfl ?_
  refine ok_getI C (ci := 2) hinX2 (kat hk kD_7) rfl 10 (by decide) W_1_121 (fun _ _ h => h) rfl dX2_isFull_1 ?_
  refine ok_sipush C (v := 240) dX2_isFull_4 (by decide) ?_
  obtain ⟨h1, h2⟩ := h
  refine ok_icmp_ne C 14 dX2_isFull_7 rfl (fun c1 => ?_) (fun c1 => ?_)
  · have h := h1 c1
    refine ok_iconst C (v := 0) dX2_isFull_14 (by decide) ?_
    refine ok_sub [] rfl ?_
    exact J15 _ _ h
  · have h := h2 c1
    refine ok_iconst C (v := 1) dX2_isFull_10 (by decide) ?_
    refine ok_goto C 15 dX2_isFull_11 rfl ?_
    refine ok_sub [] rfl ?_
    exact J15 _ _ h
set_option maxRecDepth 100000 in
set_option maxHeartbeats 4000000 in
theorem m_X2_open {l : Launch} {Ω : Wm} (hk : Hk Ω kD)  (hv : ∀ (x1 : Int32) (x2 : Int32) (x3 : Int32) (x4 : Int64) (σ : Sg) (K : Int32 → Sg → Prop), sp_X2_open x1 x2 x3 x4 σ K → vc_X2_open x1 x2 x3 x4 σ K) : CT_X2_open l Ω := by
  intro x1 x2 x3 x4 σ Po hsp
  have hvc := hv x1 x2 x3 x4 σ Po hsp
  refine Ct.of (by decide +kernel) (Nat.le_of_ble_eq_true rfl) (fun Γ C => ?_)
  have h : f_X2_open_e x1 x2 x3 x4 Po σ := hvc  
  unfold f_X2_open_e at h
  refine ok_sub (L2 := [(0, .ref (Ω.2.2.1 7)), (1, .int x1), (2, .int x2), (3, .int x3), (4, .long x4)]) [0, 1, 2, 3, 4] rfl ?_
  refine ok_aload_n C 0 dX2_open_0 rfl rfl ?_
  refine ok_getI C (ci := 2) hinX2 (kat hk kD_7) rfl 10 (by decide) W_1_121 (fun _ _ h => h) rfl dX2_open_1 ?_
  refine ok_istore C (L2 := [(6, .int (σ.1 7 10)), (0, .ref (Ω.2.2.1 7)), (1, .int x1), (2, .int x2), (3, .int x3), (4, .long x4)]) dX2_open_4 (by decide) rfl ?_
  refine ok_aload_n C 1 dX2_open_6 rfl rfl ?_
  refine ok_dup C dX2_open_7 rfl ?_
  refine ok_getI C (ci := 2) hinX2 (kat hk kD_7) rfl 10 (by decide) W_1_121 (fun _ _ h => h) rfl dX2_open_8 ?_
  refine ok_iconst C (v := 1) dX2_open_11 (by decide) ?_
  refine ok_iadd C dX2_open_12 ?_
  refine ok_putI C (ci := 2) hinX2 (kat hk kD_7) rfl 10 (by decide) W_1_121 (fun _ _ h => h) tyX2 tyX2_ok nmX2 rfl (by decide +kernel) rfl rfl rfl dX2_open_13 ?_
  refine ok_aload_n C 1 dX2_open_16 rfl rfl ?_
  refine ok_getR C (ci := 2) hinX2 (kat hk kD_7) rfl 1 (by decide) W_1_97 (fun _ _ h => h) rfl dX2_open_17 ?_
  refine ok_iload C 0 dX2_open_20 rfl ?_
  refine ok_iload_n C 2 dX2_open_22 rfl rfl ?_
  obtain ⟨g1, h⟩ := h
  refine ok_iast C (kat hk kD_12) g1 dX2_open_23 ?_
  refine ok_aload_n C 1 dX2_open_24 rfl rfl ?_
  refine ok_getR C (ci := 2) hinX2 (kat hk kD_7) rfl 2 (by decide) W_1_101 (fun _ _ h => h) rfl dX2_open_25 ?_
  refine ok_iload C 0 dX2_open_28 rfl ?_
  refine ok_iload_n C 3 dX2_open_30 rfl rfl ?_
  obtain ⟨g2, h⟩ := h
  refine ok_iast C (kat hk kD_13) g2 dX2_open_31 ?_
  refine ok_aload_n C 1 dX2_open_32 rfl rfl ?_
  refine ok_getR C (ci := 2) hinX2 (kat hk kD_7) rfl 3 (by decide) W_1_105 (fun _ _ h => h) rfl dX2_open_33 ?_
  refine ok_iload C 0 dX2_open_36 rfl ?_
  refine ok_iload_n C 4 dX2_open_38 rfl rfl ?_
  obtain ⟨g3, h⟩ := h
  refine ok_iast C (kat hk kD_14) g3 dX2_open_39 ?_
  refine ok_aload_n C 1 dX2_open_40 rfl rfl ?_
  refine ok_getR C (ci := 2) hinX2 (kat hk kD_7) rfl 4 (by decide) W_1_108 (fun _ _ h => h) rfl dX2_open_41 ?_
  refine ok_iload C 0 dX2_open_44 rfl ?_
  refine ok_lload C 5 dX2_open_46 rfl ?_
  obtain ⟨g4, h⟩ := h
  refine ok_last C (kat hk kD_15) g4 dX2_open_48 ?_
  refine ok_aload_n C 1 dX2_open_49 rfl rfl ?_
  refine ok_getR C (ci := 2) hinX2 (kat hk kD_7) rfl 5 (by decide) W_1_110 (fun _ _ h => h) rfl dX2_open_50 ?_
  refine ok_iload C 0 dX2_open_53 rfl ?_
  refine ok_iconst C (v := 0) dX2_open_55 (by decide) ?_
  obtain ⟨g5, h⟩ := h
  refine ok_iast C (kat hk kD_16) g5 dX2_open_56 ?_
  refine ok_iload C 0 dX2_open_57 rfl ?_
  exact ok_iret C rfl rfl dX2_open_59 h
set_option maxRecDepth 100000 in
set_option maxHeartbeats 4000000 in
theorem m_X2_addTransaction {l : Launch} {Ω : Wm} (hk : Hk Ω kD)  (hv : ∀ (x1 : Int32) (x2 : Int32) (x3 : Int32) (σ : Sg) (K : Sg → Prop), sp_X2_addTransaction x1 x2 x3 σ K → vc_X2_addTransaction x1 x2 x3 σ K) : CT_X2_addTransaction l Ω := by
  intro x1 x2 x3 σ Po hsp
  have hvc := hv x1 x2 x3 σ Po hsp
  refine Ct.of (by decide +kernel) (Nat.le_of_ble_eq_true rfl) (fun Γ C => ?_)
  have h : f_X2_addTransaction_e x1 x2 x3 Po σ := hvc  
  unfold f_X2_addTransaction_e at h
  refine ok_sub (L2 := [(0, .ref (Ω.2.2.1 7)), (1, .int x1), (2, .int x2), (3, .int x3)]) [0, 1, 2, 3] rfl ?_
  refine ok_iload_n C 1 dX2_addTransaction_0 rfl rfl ?_
  refine ok_iconst C (v := 3) dX2_addTransaction_1 (by decide) ?_
  refine ok_imul C dX2_addTransaction_2 ?_
  refine ok_aload_n C 0 dX2_addTransaction_3 rfl rfl ?_
  refine ok_getR C (ci := 2) hinX2 (kat hk kD_7) rfl 5 (by decide) W_1_110 (fun _ _ h => h) rfl dX2_addTransaction_4 ?_
  refine ok_iload_n C 1 dX2_addTransaction_7 rfl rfl ?_
  obtain ⟨g1, h⟩ := h
  refine ok_iald C (kat hk kD_16) g1 dX2_addTransaction_8 ?_
  refine ok_iadd C dX2_addTransaction_9 ?_
  refine ok_istore C (L2 := [(4, .int ((x1 * 3) + (σ.1 16 x1.toNatClampNeg))), (0, .ref (Ω.2.2.1 7)), (1, .int x1), (2, .int x2), (3, .int x3)]) dX2_addTransaction_10 (by decide) rfl ?_
  refine ok_aload_n C 1 dX2_addTransaction_12 rfl rfl ?_
  refine ok_getR C (ci := 2) hinX2 (kat hk kD_7) rfl 6 (by decide) W_1_113 (fun _ _ h => h) rfl dX2_addTransaction_13 ?_
  refine ok_iload C 0 dX2_addTransaction_16 rfl ?_
  refine ok_iload_n C 3 dX2_addTransaction_18 rfl rfl ?_
  obtain ⟨g2, h⟩ := h
  refine ok_iast C (kat hk kD_17) g2 dX2_addTransaction_19 ?_
  refine ok_aload_n C 1 dX2_addTransaction_20 rfl rfl ?_
  refine ok_getR C (ci := 2) hinX2 (kat hk kD_7) rfl 7 (by decide) W_1_115 (fun _ _ h => h) rfl dX2_addTransaction_21 ?_
  refine ok_iload C 0 dX2_addTransaction_24 rfl ?_
  refine ok_iload_n C 4 dX2_addTransaction_26 rfl rfl ?_
  obtain ⟨g3, h⟩ := h
  refine ok_iast C (kat hk kD_18) g3 dX2_addTransaction_27 ?_
  refine ok_aload_n C 1 dX2_addTransaction_28 rfl rfl ?_
  refine ok_getR C (ci := 2) hinX2 (kat hk kD_7) rfl 5 (by decide) W_1_110 (fun _ _ h => h) rfl dX2_addTransaction_29 ?_
  refine ok_iload_n C 2 dX2_addTransaction_32 rfl rfl ?_
  refine ok_dup2_11 C dX2_addTransaction_33 rfl rfl ?_
  obtain ⟨g4, h⟩ := h
  refine ok_iald C (kat hk kD_16) g4 dX2_addTransaction_34 ?_
  refine ok_iconst C (v := 1) dX2_addTransaction_35 (by decide) ?_
  refine ok_iadd C dX2_addTransaction_36 ?_
  obtain ⟨g5, h⟩ := h
  refine ok_iast C (kat hk kD_16) g5 dX2_addTransaction_37 ?_
  exact ok_vret C rfl rfl dX2_addTransaction_38 h
set_option maxRecDepth 100000 in
set_option maxHeartbeats 4000000 in
theorem m_X2_hashWord {l : Launch} {Ω : Wm} (hk : Hk Ω kD)  (hv : ∀ (x1 : Int32) (x2 : Int32) (σ : Sg) (K : Int32 → Sg → Prop), sp_X2_hashWord x1 x2 σ K → vc_X2_hashWord x1 x2 σ K) : CT_X2_hashWord l Ω := by
  intro x1 x2 σ Po hsp
  have hvc := hv x1 x2 σ Po hsp
  refine Ct.of (by decide +kernel) (Nat.le_of_ble_eq_true rfl) (fun Γ C => ?_)
  have h : f_X2_hashWord_e x1 x2 Po σ := hvc  
  unfold f_X2_hashWord_e at h
  refine ok_sub (L2 := [(0, .ref (Ω.2.2.1 7)), (1, .int x1), (2, .int x2)]) [0, 1, 2] rfl ?_
  refine ok_aload_n C 0 dX2_hashWord_0 rfl rfl ?_
  refine ok_getR C (ci := 2) hinX2 (kat hk kD_7) rfl 8 (by decide) W_1_117 (fun _ _ h => h) rfl dX2_hashWord_1 ?_
  refine ok_iload_n C 1 dX2_hashWord_4 rfl rfl ?_
  refine ok_bipush C (v := 8) dX2_hashWord_5 (by decide) ?_
  refine ok_imul C dX2_hashWord_7 ?_
  refine ok_iload_n C 2 dX2_hashWord_8 rfl rfl ?_
  refine ok_iadd C dX2_hashWord_9 ?_
  obtain ⟨g1, h⟩ := h
  refine ok_iald C (kat hk kD_19) g1 dX2_hashWord_10 ?_
  exact ok_iret C rfl rfl dX2_hashWord_11 h
set_option maxRecDepth 100000 in
set_option maxHeartbeats 4000000 in
theorem m_X2_putParentHash {l : Launch} {Ω : Wm} (hk : Hk Ω kD) (c_X2_hashWord : CT_X2_hashWord l Ω) (c_X4_putInt : CT_X4_putInt l Ω) (hv : ∀ (x1 : Int32) (σ : Sg) (K : Sg → Prop), sp_X2_putParentHash x1 σ K → vc_X2_putParentHash x1 σ K) : CT_X2_putParentHash l Ω := by
  intro x1 σ Po hsp
  have hvc := hv x1 σ Po hsp
  refine Ct.of (by decide +kernel) (Nat.le_of_ble_eq_true rfl) (fun Γ C => ?_)
  obtain ⟨L2, gl2⟩ : ∃ L : Int32 → Sg → Prop, ∀ (x2 : Int32) (σ : Sg), L x2 σ = OK Γ Ω 3 2 [(0, .ref (Ω.2.2.1 7)), (1, .int x1), (2, .int x2)] [] σ := ⟨fun x2 σ => OK Γ Ω 3 2 [(0, .ref (Ω.2.2.1 7)), (1, .int x1), (2, .int x2)] [] σ, fun _ _ => rfl⟩
  have J27 : ∀ (x2 : Int32) (s0 : Int32) (σ : Sg), f_X2_putParentHash_27 x1 L2 Po x2 s0 σ → OK Γ Ω 3 27 [(0, .ref (Ω.2.2.1 7)), (1, .int x1), (2, .int x2)] [.int s0, .ref (Ω.2.2.1 8)] σ := by
    intro x2 s0 σ h
    unfold f_X2_putParentHash_27 at h
    refine ok_callVv C (As := [.int s0]) (rest := []) (q := 8) (ci := 4) (kat hk kD_8) rfl (c_X4_putInt  _ _ _ h) W_2_158 W_2_159 W_2_160 W_2_161 W_1_4 hd_X4_putInt rfl ⟨Nat.le_of_ble_eq_true rfl, Nat.le_of_ble_eq_true rfl⟩ (Nat.le_of_ble_eq_true rfl) rfl dX2_putParentHash_27 (fun u6 h => ?_)
    refine ok_iinc C (v := x2 + 1) (L2 := [(2, .int (x2 + 1)), (0, .ref (Ω.2.2.1 7)), (1, .int x1)]) 2 dX2_putParentHash_30 rfl rfl (by decide) rfl ?_
    refine ok_goto C 2 dX2_putParentHash_33 rfl ?_
    refine ok_sub [1, 2, 0] rfl ?_
    exact Eq.mp (gl2 _ _) h
  have R2 : ∀ (x2 : Int32) (σ : Sg), f_X2_putParentHash_2 x1 L2 Po x2 σ → L2 x2 σ := by
    intro x2 σ h
    unfold f_X2_putParentHash_2 at h
    refine Eq.mpr (gl2 _ _) ?_
    refine ok_iload_n C 2 dX2_putParentHash_2 rfl rfl ?_
    refine ok_bipush C (v := 8) dX2_putParentHash_3 (by decide) ?_
    obtain ⟨h1, h2⟩ := h
    refine ok_icmp_ge C 36 dX2_putParentHash_5 rfl (fun c4 => ?_) (fun c4 => ?_)
    · have h := h1 c4
      exact ok_vret C rfl rfl dX2_putParentHash_36 h
    · have h := h2 c4
      refine ok_aload_n C 0 dX2_putParentHash_8 rfl rfl ?_
      refine ok_getR C (ci := 2) hinX2 (kat hk kD_7) rfl 0 (by decide) W_1_96 (fun _ _ h => h) rfl dX2_putParentHash_9 ?_
      refine ok_iload_n C 1 dX2_putParentHash_12 rfl rfl ?_
      refine ok_iconst C (v := (-1)) dX2_putParentHash_13 (by decide) ?_
      obtain ⟨h1, h2⟩ := h
      refine ok_icmp_ne C 21 dX2_putParentHash_14 rfl (fun c3 => ?_) (fun c3 => ?_)
      · have h := h1 c3
        refine ok_aload_n C 0 dX2_putParentHash_21 rfl rfl ?_
        refine ok_iload_n C 1 dX2_putParentHash_22 rfl rfl ?_
        refine ok_iload_n C 2 dX2_putParentHash_23 rfl rfl ?_
        refine ok_callVi C (As := [.int x1, .int x2]) (rest := [.ref (Ω.2.2.1 8)]) (q := 7) (ci := 2) (kat hk kD_7) rfl (c_X2_hashWord  _ _ _ _ h) W_2_154 W_2_155 W_2_156 W_2_157 W_1_3 hd_X2_hashWord rfl ⟨Nat.le_of_ble_eq_true rfl, Nat.le_of_ble_eq_true rfl⟩ (Nat.le_of_ble_eq_true rfl) rfl dX2_putParentHash_24 (fun r1 u2 h => ?_)
        refine ok_sub [0, 1, 2] rfl ?_
        exact J27 _ _ _ h
      · have h := h2 c3
        refine ok_iconst C (v := 0) dX2_putParentHash_17 (by decide) ?_
        refine ok_goto C 27 dX2_putParentHash_18 rfl ?_
        refine ok_sub [0, 1, 2] rfl ?_
        exact J27 _ _ _ h
  have h : f_X2_putParentHash_e x1 L2 Po σ := hvc L2 R2
  unfold f_X2_putParentHash_e at h
  refine ok_sub (L2 := [(0, .ref (Ω.2.2.1 7)), (1, .int x1)]) [0, 1] rfl ?_
  refine ok_iconst C (v := 0) dX2_putParentHash_0 (by decide) ?_
  refine ok_istore_n C (L2 := [(2, .int 0), (0, .ref (Ω.2.2.1 7)), (1, .int x1)]) dX2_putParentHash_1 rfl (by decide) rfl ?_
  refine ok_sub [1, 2, 0] rfl ?_
  exact Eq.mp (gl2 _ _) h
set_option maxRecDepth 100000 in
set_option maxHeartbeats 4000000 in
theorem m_X2_close {l : Launch} {Ω : Wm} (hk : Hk Ω kD) (c_X2_putParentHash : CT_X2_putParentHash l Ω) (c_X4_finishInto : CT_X4_finishInto l Ω) (c_X4_putInt : CT_X4_putInt l Ω) (c_X4_putLong : CT_X4_putLong l Ω) (c_X4_putOctet : CT_X4_putOctet l Ω) (c_X4_start : CT_X4_start l Ω) (hv : ∀ (x1 : Int32) (σ : Sg) (K : Sg → Prop), sp_X2_close x1 σ K → vc_X2_close x1 σ K) : CT_X2_close l Ω := by
  intro x1 σ Po hsp
  have hvc := hv x1 σ Po hsp
  refine Ct.of (by decide +kernel) (Nat.le_of_ble_eq_true rfl) (fun Γ C => ?_)
  obtain ⟨L68, gl68⟩ : ∃ L : Int32 → Sg → Prop, ∀ (x2 : Int32) (σ : Sg), L x2 σ = OK Γ Ω 3 68 [(0, .ref (Ω.2.2.1 7)), (1, .int x1), (2, .int x2)] [] σ := ⟨fun x2 σ => OK Γ Ω 3 68 [(0, .ref (Ω.2.2.1 7)), (1, .int x1), (2, .int x2)] [] σ, fun _ _ => rfl⟩
  have R68 : ∀ (x2 : Int32) (σ : Sg), f_X2_close_68 x1 L68 Po x2 σ → L68 x2 σ := by
    intro x2 σ h
    unfold f_X2_close_68 at h
    refine Eq.mpr (gl68 _ _) ?_
    refine ok_iload_n C 2 dX2_close_68 rfl rfl ?_
    refine ok_aload_n C 0 dX2_close_69 rfl rfl ?_
    refine ok_getR C (ci := 2) hinX2 (kat hk kD_7) rfl 5 (by decide) W_1_110 (fun _ _ h => h) rfl dX2_close_70 ?_
    refine ok_iload_n C 1 dX2_close_73 rfl rfl ?_
    obtain ⟨g18, h⟩ := h
    refine ok_iald C (kat hk kD_16) g18 dX2_close_74 ?_
    obtain ⟨h1, h2⟩ := h
    refine ok_icmp_ge C 118 dX2_close_75 rfl (fun c27 => ?_) (fun c27 => ?_)
    · have h := h1 c27
      refine ok_aload_n C 0 dX2_close_118 rfl rfl ?_
      refine ok_getR C (ci := 2) hinX2 (kat hk kD_7) rfl 0 (by decide) W_1_96 (fun _ _ h => h) rfl dX2_close_119 ?_
      refine ok_aload_n C 0 dX2_close_122 rfl rfl ?_
      refine ok_getR C (ci := 2) hinX2 (kat hk kD_7) rfl 8 (by decide) W_1_117 (fun _ _ h => h) rfl dX2_close_123 ?_
      refine ok_iload_n C 1 dX2_close_126 rfl rfl ?_
      refine ok_bipush C (v := 8) dX2_close_127 (by decide) ?_
      refine ok_imul C dX2_close_129 ?_
      refine ok_callVv C (As := [.ref (Ω.2.2.1 19), .int (x1 * 8)]) (rest := []) (q := 8) (ci := 4) (kat hk kD_8) rfl (c_X4_finishInto  _ _ _ h) W_2_168 W_2_169 W_2_170 W_2_171 W_1_4 hd_X4_finishInto rfl ⟨Nat.le_of_ble_eq_true rfl, Nat.le_of_ble_eq_true rfl⟩ (Nat.le_of_ble_eq_true rfl) rfl dX2_close_130 (fun u20 h => ?_)
      exact ok_vret C rfl rfl dX2_close_133 h
    · have h := h2 c27
      refine ok_aload_n C 0 dX2_close_78 rfl rfl ?_
      refine ok_getR C (ci := 2) hinX2 (kat hk kD_7) rfl 0 (by decide) W_1_96 (fun _ _ h => h) rfl dX2_close_79 ?_
      refine ok_aload_n C 0 dX2_close_82 rfl rfl ?_
      refine ok_getR C (ci := 2) hinX2 (kat hk kD_7) rfl 6 (by decide) W_1_113 (fun _ _ h => h) rfl dX2_close_83 ?_
      refine ok_iload_n C 1 dX2_close_86 rfl rfl ?_
      refine ok_iconst C (v := 3) dX2_close_87 (by decide) ?_
      refine ok_imul C dX2_close_88 ?_
      refine ok_iload_n C 2 dX2_close_89 rfl rfl ?_
      refine ok_iadd C dX2_close_90 ?_
      obtain ⟨g21, h⟩ := h
      refine ok_iald C (kat hk kD_17) g21 dX2_close_91 ?_
      refine ok_callVv C (As := [.int (σ.1 17 ((x1 * 3) + x2).toNatClampNeg)]) (rest := []) (q := 8) (ci := 4) (kat hk kD_8) rfl (c_X4_putOctet  _ _ _ h) W_2_146 W_2_147 W_2_148 W_2_149 W_1_4 hd_X4_putOctet rfl ⟨Nat.le_of_ble_eq_true rfl, Nat.le_of_ble_eq_true rfl⟩ (Nat.le_of_ble_eq_true rfl) rfl dX2_close_92 (fun u23 h => ?_)
      refine ok_aload_n C 0 dX2_close_95 rfl rfl ?_
      refine ok_getR C (ci := 2) hinX2 (kat hk kD_7) rfl 0 (by decide) W_1_96 (fun _ _ h => h) rfl dX2_close_96 ?_
      refine ok_aload_n C 0 dX2_close_99 rfl rfl ?_
      refine ok_getR C (ci := 2) hinX2 (kat hk kD_7) rfl 7 (by decide) W_1_115 (fun _ _ h => h) rfl dX2_close_100 ?_
      refine ok_iload_n C 1 dX2_close_103 rfl rfl ?_
      refine ok_iconst C (v := 3) dX2_close_104 (by decide) ?_
      refine ok_imul C dX2_close_105 ?_
      refine ok_iload_n C 2 dX2_close_106 rfl rfl ?_
      refine ok_iadd C dX2_close_107 ?_
      obtain ⟨g24, h⟩ := h
      refine ok_iald C (kat hk kD_18) g24 dX2_close_108 ?_
      refine ok_callVv C (As := [.int (u23.1 18 ((x1 * 3) + x2).toNatClampNeg)]) (rest := []) (q := 8) (ci := 4) (kat hk kD_8) rfl (c_X4_putInt  _ _ _ h) W_2_158 W_2_159 W_2_160 W_2_161 W_1_4 hd_X4_putInt rfl ⟨Nat.le_of_ble_eq_true rfl, Nat.le_of_ble_eq_true rfl⟩ (Nat.le_of_ble_eq_true rfl) rfl dX2_close_109 (fun u26 h => ?_)
      refine ok_iinc C (v := x2 + 1) (L2 := [(2, .int (x2 + 1)), (0, .ref (Ω.2.2.1 7)), (1, .int x1)]) 2 dX2_close_112 rfl rfl (by decide) rfl ?_
      refine ok_goto C 68 dX2_close_115 rfl ?_
      refine ok_sub [1, 2, 0] rfl ?_
      exact Eq.mp (gl68 _ _) h
  have h : f_X2_close_e x1 L68 Po σ := hvc L68 R68
  unfold f_X2_close_e at h
  refine ok_sub (L2 := [(0, .ref (Ω.2.2.1 7)), (1, .int x1)]) [0, 1] rfl ?_
  refine ok_aload_n C 0 dX2_close_0 rfl rfl ?_
  refine ok_getR C (ci := 2) hinX2 (kat hk kD_7) rfl 0 (by decide) W_1_96 (fun _ _ h => h) rfl dX2_close_1 ?_
  refine ok_callVv C (As := []) (rest := []) (q := 8) (ci := 4) (kat hk kD_8) rfl (c_X4_start   _ _ h) W_2_141 W_2_142 W_2_143 W_2_144 W_1_4 hd_X4_start rfl ⟨Nat.le_of_ble_eq_true rfl, Nat.le_of_ble_eq_true rfl⟩ (Nat.le_of_ble_eq_true rfl) rfl dX2_close_4 (fun u2 h => ?_)
  refine ok_aload_n C 0 dX2_close_7 rfl rfl ?_
  refine ok_getR C (ci := 2) hinX2 (kat hk kD_7) rfl 0 (by decide) W_1_96 (fun _ _ h => h) rfl dX2_close_8 ?_
  refine ok_aload_n C 0 dX2_close_11 rfl rfl ?_
  refine ok_getR C (ci := 2) hinX2 (kat hk kD_7) rfl 1 (by decide) W_1_97 (fun _ _ h => h) rfl dX2_close_12 ?_
  refine ok_iload_n C 1 dX2_close_15 rfl rfl ?_
  obtain ⟨g3, h⟩ := h
  refine ok_iald C (kat hk kD_12) g3 dX2_close_16 ?_
  refine ok_callVv C (As := [.int (u2.1 12 x1.toNatClampNeg)]) (rest := []) (q := 8) (ci := 4) (kat hk kD_8) rfl (c_X4_putOctet  _ _ _ h) W_2_146 W_2_147 W_2_148 W_2_149 W_1_4 hd_X4_putOctet rfl ⟨Nat.le_of_ble_eq_true rfl, Nat.le_of_ble_eq_true rfl⟩ (Nat.le_of_ble_eq_true rfl) rfl dX2_close_17 (fun u5 h => ?_)
  refine ok_aload_n C 0 dX2_close_20 rfl rfl ?_
  refine ok_aload_n C 0 dX2_close_21 rfl rfl ?_
  refine ok_getR C (ci := 2) hinX2 (kat hk kD_7) rfl 2 (by decide) W_1_101 (fun _ _ h => h) rfl dX2_close_22 ?_
  refine ok_iload_n C 1 dX2_close_25 rfl rfl ?_
  obtain ⟨g6, h⟩ := h
  refine ok_iald C (kat hk kD_13) g6 dX2_close_26 ?_
  refine ok_callVv C (As := [.int (u5.1 13 x1.toNatClampNeg)]) (rest := []) (q := 7) (ci := 2) (kat hk kD_7) rfl (c_X2_putParentHash  _ _ _ h) W_2_150 W_2_152 W_0_2 W_2_153 W_1_3 hd_X2_putParentHash rfl ⟨Nat.le_of_ble_eq_true rfl, Nat.le_of_ble_eq_true rfl⟩ (Nat.le_of_ble_eq_true rfl) rfl dX2_close_27 (fun u8 h => ?_)
  refine ok_aload_n C 0 dX2_close_30 rfl rfl ?_
  refine ok_aload_n C 0 dX2_close_31 rfl rfl ?_
  refine ok_getR C (ci := 2) hinX2 (kat hk kD_7) rfl 3 (by decide) W_1_105 (fun _ _ h => h) rfl dX2_close_32 ?_
  refine ok_iload_n C 1 dX2_close_35 rfl rfl ?_
  obtain ⟨g9, h⟩ := h
  refine ok_iald C (kat hk kD_14) g9 dX2_close_36 ?_
  refine ok_callVv C (As := [.int (u8.1 14 x1.toNatClampNeg)]) (rest := []) (q := 7) (ci := 2) (kat hk kD_7) rfl (c_X2_putParentHash  _ _ _ h) W_2_150 W_2_152 W_0_2 W_2_153 W_1_3 hd_X2_putParentHash rfl ⟨Nat.le_of_ble_eq_true rfl, Nat.le_of_ble_eq_true rfl⟩ (Nat.le_of_ble_eq_true rfl) rfl dX2_close_37 (fun u11 h => ?_)
  refine ok_aload_n C 0 dX2_close_40 rfl rfl ?_
  refine ok_getR C (ci := 2) hinX2 (kat hk kD_7) rfl 0 (by decide) W_1_96 (fun _ _ h => h) rfl dX2_close_41 ?_
  refine ok_aload_n C 0 dX2_close_44 rfl rfl ?_
  refine ok_getR C (ci := 2) hinX2 (kat hk kD_7) rfl 4 (by decide) W_1_108 (fun _ _ h => h) rfl dX2_close_45 ?_
  refine ok_iload_n C 1 dX2_close_48 rfl rfl ?_
  obtain ⟨g12, h⟩ := h
  refine ok_lald C (kat hk kD_15) g12 dX2_close_49 ?_
  refine ok_callVv C (As := [.long (u11.2 15 x1.toNatClampNeg)]) (rest := []) (q := 8) (ci := 4) (kat hk kD_8) rfl (c_X4_putLong  _ _ _ h) W_2_163 W_2_164 W_2_165 W_2_166 W_1_4 hd_X4_putLong rfl ⟨Nat.le_of_ble_eq_true rfl, Nat.le_of_ble_eq_true rfl⟩ (Nat.le_of_ble_eq_true rfl) rfl dX2_close_50 (fun u14 h => ?_)
  refine ok_aload_n C 0 dX2_close_53 rfl rfl ?_
  refine ok_getR C (ci := 2) hinX2 (kat hk kD_7) rfl 0 (by decide) W_1_96 (fun _ _ h => h) rfl dX2_close_54 ?_
  refine ok_aload_n C 0 dX2_close_57 rfl rfl ?_
  refine ok_getR C (ci := 2) hinX2 (kat hk kD_7) rfl 5 (by decide) W_1_110 (fun _ _ h => h) rfl dX2_close_58 ?_
  refine ok_iload_n C 1 dX2_close_61 rfl rfl ?_
  obtain ⟨g15, h⟩ := h
  refine ok_iald C (kat hk kD_16) g15 dX2_close_62 ?_
  refine ok_callVv C (As := [.int (u14.1 16 x1.toNatClampNeg)]) (rest := []) (q := 8) (ci := 4) (kat hk kD_8) rfl (c_X4_putOctet  _ _ _ h) W_2_146 W_2_147 W_2_148 W_2_149 W_1_4 hd_X4_putOctet rfl ⟨Nat.le_of_ble_eq_true rfl, Nat.le_of_ble_eq_true rfl⟩ (Nat.le_of_ble_eq_true rfl) rfl dX2_close_63 (fun u17 h => ?_)
  refine ok_iconst C (v := 0) dX2_close_66 (by decide) ?_
  refine ok_istore_n C (L2 := [(2, .int 0), (0, .ref (Ω.2.2.1 7)), (1, .int x1)]) dX2_close_67 rfl (by decide) rfl ?_
  refine ok_sub [1, 2, 0] rfl ?_
  exact Eq.mp (gl68 _ _) h
set_option maxRecDepth 100000 in
set_option maxHeartbeats 4000000 in
theorem m_X2_hasOneOf {l : Launch} {Ω : Wm} (hk : Hk Ω kD)  (hv : ∀ (x1 : Int32) (x2 : Int32) (x3 : Int32) (x4 : Int64) (σ : Sg) (K : Int32 → Sg → Prop), sp_X2_hasOneOf x1 x2 x3 x4 σ K → vc_X2_hasOneOf x1 x2 x3 x4 σ K) : CT_X2_hasOneOf l Ω := by
  intro x1 x2 x3 x4 σ Po hsp
  have hvc := hv x1 x2 x3 x4 σ Po hsp
  refine Ct.of (by decide +kernel) (Nat.le_of_ble_eq_true rfl) (fun Γ C => ?_)
  obtain ⟨L3, gl3⟩ : ∃ L : Int32 → Sg → Prop, ∀ (x6 : Int32) (σ : Sg), L x6 σ = OK Γ Ω 7 3 [(0, .ref (Ω.2.2.1 7)), (1, .int x1), (2, .int x2), (3, .int x3), (4, .long x4), (6, .int x6)] [] σ := ⟨fun x6 σ => OK Γ Ω 7 3 [(0, .ref (Ω.2.2.1 7)), (1, .int x1), (2, .int x2), (3, .int x3), (4, .long x4), (6, .int x6)] [] σ, fun _ _ => rfl⟩
  have J70 : ∀ (x6 : Int32) (σ : Sg), f_X2_hasOneOf_70 x1 x2 x3 x4 L3 Po x6 σ → OK Γ Ω 7 70 [(0, .ref (Ω.2.2.1 7)), (1, .int x1), (2, .int x2), (3, .int x3), (4, .long x4), (6, .int x6)] [] σ := by
    intro x6 σ h
    unfold f_X2_hasOneOf_70 at h
    refine ok_iinc C (v := x6 + 1) (L2 := [(6, .int (x6 + 1)), (0, .ref (Ω.2.2.1 7)), (1, .int x1), (2, .int x2), (3, .int x3), (4, .long x4)]) 5 dX2_hasOneOf_70 rfl rfl (by decide) rfl ?_
    refine ok_goto C 3 dX2_hasOneOf_73 rfl ?_
    refine ok_sub [1, 2, 3, 4, 5, 0] rfl ?_
    exact Eq.mp (gl3 _ _) h
  have R3 : ∀ (x6 : Int32) (σ : Sg), f_X2_hasOneOf_3 x1 x2 x3 x4 L3 Po x6 σ → L3 x6 σ := by
    intro x6 σ h
    unfold f_X2_hasOneOf_3 at h
    refine Eq.mpr (gl3 _ _) ?_
    refine ok_iload C 5 dX2_hasOneOf_3 rfl ?_
    refine ok_aload_n C 0 dX2_hasOneOf_5 rfl rfl ?_
    refine ok_getI C (ci := 2) hinX2 (kat hk kD_7) rfl 10 (by decide) W_1_121 (fun _ _ h => h) rfl dX2_hasOneOf_6 ?_
    obtain ⟨h1, h2⟩ := h
    refine ok_icmp_ge C 76 dX2_hasOneOf_9 rfl (fun c11 => ?_) (fun c11 => ?_)
    · have h := h1 c11
      refine ok_iconst C (v := 0) dX2_hasOneOf_76 (by decide) ?_
      exact ok_zret C rfl rfl (bz_n isZ_0) dX2_hasOneOf_77 h
    · have h := h2 c11
      refine ok_aload_n C 0 dX2_hasOneOf_12 rfl rfl ?_
      refine ok_getR C (ci := 2) hinX2 (kat hk kD_7) rfl 1 (by decide) W_1_97 (fun _ _ h => h) rfl dX2_hasOneOf_13 ?_
      refine ok_iload C 5 dX2_hasOneOf_16 rfl ?_
      obtain ⟨g1, h⟩ := h
      refine ok_iald C (kat hk kD_12) g1 dX2_hasOneOf_18 ?_
      refine ok_iload_n C 1 dX2_hasOneOf_19 rfl rfl ?_
      obtain ⟨h1, h2⟩ := h
      refine ok_icmp_ne C 70 dX2_hasOneOf_20 rfl (fun c10 => ?_) (fun c10 => ?_)
      · have h := h1 c10
        refine ok_sub [0, 1, 2, 3, 4, 5] rfl ?_
        exact J70 _ _ h
      · have h := h2 c10
        refine ok_aload_n C 0 dX2_hasOneOf_23 rfl rfl ?_
        refine ok_getR C (ci := 2) hinX2 (kat hk kD_7) rfl 2 (by decide) W_1_101 (fun _ _ h => h) rfl dX2_hasOneOf_24 ?_
        refine ok_iload C 5 dX2_hasOneOf_27 rfl ?_
        obtain ⟨g2, h⟩ := h
        refine ok_iald C (kat hk kD_13) g2 dX2_hasOneOf_29 ?_
        refine ok_iload_n C 2 dX2_hasOneOf_30 rfl rfl ?_
        obtain ⟨h1, h2⟩ := h
        refine ok_icmp_ne C 70 dX2_hasOneOf_31 rfl (fun c9 => ?_) (fun c9 => ?_)
        · have h := h1 c9
          refine ok_sub [0, 1, 2, 3, 4, 5] rfl ?_
          exact J70 _ _ h
        · have h := h2 c9
          refine ok_aload_n C 0 dX2_hasOneOf_34 rfl rfl ?_
          refine ok_getR C (ci := 2) hinX2 (kat hk kD_7) rfl 3 (by decide) W_1_105 (fun _ _ h => h) rfl dX2_hasOneOf_35 ?_
          refine ok_iload C 5 dX2_hasOneOf_38 rfl ?_
          obtain ⟨g3, h⟩ := h
          refine ok_iald C (kat hk kD_14) g3 dX2_hasOneOf_40 ?_
          refine ok_iload_n C 3 dX2_hasOneOf_41 rfl rfl ?_
          obtain ⟨h1, h2⟩ := h
          refine ok_icmp_ne C 70 dX2_hasOneOf_42 rfl (fun c8 => ?_) (fun c8 => ?_)
          · have h := h1 c8
            refine ok_sub [0, 1, 2, 3, 4, 5] rfl ?_
            exact J70 _ _ h
          · have h := h2 c8
            refine ok_aload_n C 0 dX2_hasOneOf_45 rfl rfl ?_
            refine ok_getR C (ci := 2) hinX2 (kat hk kD_7) rfl 4 (by decide) W_1_108 (fun _ _ h => h) rfl dX2_hasOneOf_46 ?_
            refine ok_iload C 5 dX2_hasOneOf_49 rfl ?_
            obtain ⟨g4, h⟩ := h
            refine ok_lald C (kat hk kD_15) g4 dX2_hasOneOf_51 ?_
            refine ok_lload C 4 dX2_hasOneOf_52 rfl ?_
            refine ok_lcmp C dX2_hasOneOf_54 ?_
            obtain ⟨h1, h2⟩ := h
            refine ok_if_ne C 70 dX2_hasOneOf_55 rfl (fun c7 => ?_) (fun c7 => ?_)
            · have h := h1 c7
              refine ok_sub [0, 1, 2, 3, 4, 5] rfl ?_
              exact J70 _ _ h
            · have h := h2 c7
              refine ok_aload_n C 0 dX2_hasOneOf_58 rfl rfl ?_
              refine ok_getR C (ci := 2) hinX2 (kat hk kD_7) rfl 5 (by decide) W_1_110 (fun _ _ h => h) rfl dX2_hasOneOf_59 ?_
              refine ok_iload C 5 dX2_hasOneOf_62 rfl ?_
              obtain ⟨g5, h⟩ := h
              refine ok_iald C (kat hk kD_16) g5 dX2_hasOneOf_64 ?_
              obtain ⟨h1, h2⟩ := h
              refine ok_if_ne C 70 dX2_hasOneOf_65 rfl (fun c6 => ?_) (fun c6 => ?_)
              · have h := h1 c6
                refine ok_sub [0, 1, 2, 3, 4, 5] rfl ?_
                exact J70 _ _ h
              · have h := h2 c6
                refine ok_iconst C (v := 1) dX2_hasOneOf_68 (by decide) ?_
                exact ok_zret C rfl rfl (bz_n isZ_1) dX2_hasOneOf_69 h
  have h : f_X2_hasOneOf_e x1 x2 x3 x4 L3 Po σ := hvc L3 R3
  unfold f_X2_hasOneOf_e at h
  refine ok_sub (L2 := [(0, .ref (Ω.2.2.1 7)), (1, .int x1), (2, .int x2), (3, .int x3), (4, .long x4)]) [0, 1, 2, 3, 4] rfl ?_
  refine ok_iconst C (v := 0) dX2_hasOneOf_0 (by decide) ?_
  refine ok_istore C (L2 := [(6, .int 0), (0, .ref (Ω.2.2.1 7)), (1, .int x1), (2, .int x2), (3, .int x3), (4, .long x4)]) dX2_hasOneOf_1 (by decide) rfl ?_
  refine ok_sub [1, 2, 3, 4, 5, 0] rfl ?_
  exact Eq.mp (gl3 _ _) h
