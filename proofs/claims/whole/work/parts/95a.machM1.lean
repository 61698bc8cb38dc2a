set_option maxRecDepth 100000 in
set_option maxHeartbeats 4000000 in
theorem m_X8_thrown {l : Launch} {Ω : Wm} (hk : Hk Ω kM)  (hv : ∀ (σ : Sg) (K : Int32 → Sg → Prop), sp_X8_thrown  σ K → vc_X8_thrown  σ K) : CT_X8_thrown l Ω := by
  intro  σ Po hsp
  have hvc := hv  σ Po hsp
  refine Ct.of (by decide +kernel) (Nat.le_of_ble_eq_true rfl) (fun Γ C => ?_)
  have h : f_X8_thrown_e Po σ := hvc  
  unfold f_X8_thrown_e at h
  refine ok_sub (L2 := [(0, .ref (Ω.2.2.1 0))]) [0] rfl ?_
  refine ok_aload_n C 0 dX8_thrown_0 rfl rfl ?_
  refine ok_getI C (ci := 8) hinX8 (kat hk kM_0) rfl 0 (by decide) W_6_126 (fun _ _ h => h) rfl dX8_thrown_1 ?_
  exact ok_iret C rfl rfl dX8_thrown_4 h
set_option maxRecDepth 100000 in
set_option maxHeartbeats 4000000 in
theorem m_X8_in {l : Launch} {Ω : Wm} (hk : Hk Ω kM)  (hv : ∀ (x0 : Int32) (x1 : Int32) (x2 : Int32) (σ : Sg) (K : Int32 → Sg → Prop), sp_X8_in x0 x1 x2 σ K → vc_X8_in x0 x1 x2 σ K) : CT_X8_in l Ω := by
  intro x0 x1 x2 σ Po hsp
  have hvc := hv x0 x1 x2 σ Po hsp
  refine Ct.of (by decide +kernel) (Nat.le_of_ble_eq_true rfl) (fun Γ C => ?_)
  have J15 : ∀ (s0 : Int32) (σ : Sg), f_X8_in_15 x0 x1 x2 Po s0 σ → OK Γ Ω 3 15 [] [.int s0] σ := by
    intro s0 σ h
    unfold f_X8_in_15 at h
    obtain ⟨z3, h⟩ := h
    exact ok_zret C rfl rfl (bz_n z3) dX8_in_15 h
  have J14 : ∀  (σ : Sg), f_X8_in_14 x0 x1 x2 Po  σ → OK Γ Ω 3 14 [] [] σ := by
    intro  σ h
    unfold f_X8_in_14 at h
    refine ok_iconst C (v := 0) dX8_in_14 (by decide) ?_
    refine ok_sub [] rfl ?_
    exact J15 _ _ h
  have h : f_X8_in_e x0 x1 x2 Po σ := hvc  
  unfold f_X8_in_e at h
  refine ok_sub (L2 := [(0, .int x0), (1, .int x1), (2, .int x2)]) [0, 1, 2] rfl ?_
  refine ok_iload_n C 0 dX8_in_0 rfl rfl ?_
  refine ok_iload_n C 1 dX8_in_1 rfl rfl ?_
  obtain ⟨h1, h2⟩ := h
  refine ok_icmp_lt C 14 dX8_in_2 rfl (fun c2 => ?_) (fun c2 => ?_)
  · have h := h1 c2
    refine ok_sub [] rfl ?_
    exact J14  _ h
  · have h := h2 c2
    refine ok_iload_n C 0 dX8_in_5 rfl rfl ?_
    refine ok_iload_n C 2 dX8_in_6 rfl rfl ?_
    obtain ⟨h1, h2⟩ := h
    refine ok_icmp_gt C 14 dX8_in_7 rfl (fun c1 => ?_) (fun c1 => ?_)
    · have h := h1 c1
      refine ok_sub [] rfl ?_
      exact J14  _ h
    · have h := h2 c1
      refine ok_iconst C (v := 1) dX8_in_10 (by decide) ?_
      refine ok_goto C 15 dX8_in_11 rfl ?_
      refine ok_sub [] rfl ?_
      exact J15 _ _ h
set_option maxRecDepth 100000 in
set_option maxHeartbeats 4000000 in
theorem m_X8_fails {l : Launch} {Ω : Wm} (hk : Hk Ω kM)  (hv : ∀ (x1 : Int32) (x2 : Int32) (σ : Sg) (K : Int32 → Sg → Prop), sp_X8_fails x1 x2 σ K → vc_X8_fails x1 x2 σ K) : CT_X8_fails l Ω := by
  intro x1 x2 σ Po hsp
  have hvc := hv x1 x2 σ Po hsp
  refine Ct.of (by decide +kernel) (Nat.le_of_ble_eq_true rfl) (fun Γ C => ?_)
  have J28 : ∀ (s0 : Int32) (σ : Sg), f_X8_fails_28 x1 x2 Po s0 σ → OK Γ Ω 3 28 [] [.int s0] σ := by
    intro s0 σ h
    unfold f_X8_fails_28 at h
    obtain ⟨z4, h⟩ := h
    exact ok_zret C rfl rfl (bz_n z4) dX8_fails_28 h
  have J16 : ∀  (σ : Sg), f_X8_fails_16 x1 x2 Po  σ → OK Γ Ω 3 16 [(0, .ref (Ω.2.2.1 0))] [] σ := by
    intro  σ h
    unfold f_X8_fails_16 at h
    refine ok_aload_n C 0 dX8_fails_16 rfl rfl ?_
    refine ok_getI C (ci := 8) hinX8 (kat hk kM_0) rfl 0 (by decide) W_6_126 (fun _ _ h => h) rfl dX8_fails_17 ?_
    obtain ⟨h1, h2⟩ := h
    refine ok_if_eq C 27 dX8_fails_20 rfl (fun c3 => ?_) (fun c3 => ?_)
    · have h := h1 c3
      refine ok_iconst C (v := 0) dX8_fails_27 (by decide) ?_
      refine ok_sub [] rfl ?_
      exact J28 _ _ h
    · have h := h2 c3
      refine ok_iconst C (v := 1) dX8_fails_23 (by decide) ?_
      refine ok_goto C 28 dX8_fails_24 rfl ?_
      refine ok_sub [] rfl ?_
      exact J28 _ _ h
  have h : f_X8_fails_e x1 x2 Po σ := hvc  
  unfold f_X8_fails_e at h
  refine ok_sub (L2 := [(0, .ref (Ω.2.2.1 0)), (1, .int x1), (2, .int x2)]) [0, 1, 2] rfl ?_
  refine ok_iload_n C 1 dX8_fails_0 rfl rfl ?_
  obtain ⟨h1, h2⟩ := h
  refine ok_if_eq C 16 dX8_fails_1 rfl (fun c2 => ?_) (fun c2 => ?_)
  · have h := h1 c2
    refine ok_sub [0] rfl ?_
    exact J16  _ h
  · have h := h2 c2
    refine ok_aload_n C 0 dX8_fails_4 rfl rfl ?_
    refine ok_getI C (ci := 8) hinX8 (kat hk kM_0) rfl 0 (by decide) W_6_126 (fun _ _ h => h) rfl dX8_fails_5 ?_
    obtain ⟨h1, h2⟩ := h
    refine ok_if_ne C 16 dX8_fails_8 rfl (fun c1 => ?_) (fun c1 => ?_)
    · have h := h1 c1
      refine ok_sub [0] rfl ?_
      exact J16  _ h
    · have h := h2 c1
      refine ok_aload_n C 0 dX8_fails_11 rfl rfl ?_
      refine ok_iload_n C 2 dX8_fails_12 rfl rfl ?_
      refine ok_putI C (ci := 8) hinX8 (kat hk kM_0) rfl 0 (by decide) W_6_126 (fun _ _ h => h) tyX8 tyX8_ok nmX8 rfl (by decide +kernel) rfl rfl rfl dX8_fails_13 ?_
      refine ok_sub [0] rfl ?_
      exact J16  _ h
set_option maxRecDepth 100000 in
set_option maxHeartbeats 4000000 in
theorem m_X8_isNode {l : Launch} {Ω : Wm} (hk : Hk Ω kM) (c_X8_in : CT_X8_in l Ω) (hv : ∀ (x1 : Int32) (σ : Sg) (K : Int32 → Sg → Prop), sp_X8_isNode x1 σ K → vc_X8_isNode x1 σ K) : CT_X8_isNode l Ω := by
  intro x1 σ Po hsp
  have hvc := hv x1 σ Po hsp
  refine Ct.of (by decide +kernel) (Nat.le_of_ble_eq_true rfl) (fun Γ C => ?_)
  have h : f_X8_isNode_e x1 Po σ := hvc  
  unfold f_X8_isNode_e at h
  refine ok_sub (L2 := [(0, .ref (Ω.2.2.1 0)), (1, .int x1)]) [0, 1] rfl ?_
  refine ok_iload_n C 1 dX8_isNode_0 rfl rfl ?_
  refine ok_iconst C (v := 0) dX8_isNode_1 (by decide) ?_
  refine ok_aload_n C 0 dX8_isNode_2 rfl rfl ?_
  refine ok_getI C (ci := 8) hinX8 (kat hk kM_0) rfl 1 (by decide) W_6_127 (fun _ _ h => h) rfl dX8_isNode_3 ?_
  refine ok_iconst C (v := 1) dX8_isNode_6 (by decide) ?_
  refine ok_isub C dX8_isNode_7 ?_
  refine ok_callSi C (As := [.int x1, .int 0, .int ((σ.1 0 1) - 1)]) (rest := []) (c_X8_in  _ _ _ _ _ h) W_7_12 W_7_13 W_7_14 W_1_28 hd_X8_in rfl ⟨Nat.le_of_ble_eq_true rfl, Nat.le_of_ble_eq_true rfl⟩ (Nat.le_of_ble_eq_true rfl) rfl dX8_isNode_8 (fun r1 u2 h => ?_)
  obtain ⟨z3, h⟩ := h
  exact ok_zret C rfl rfl (bz_n z3) dX8_isNode_11 h
set_option maxRecDepth 100000 in
set_option maxHeartbeats 4000000 in
theorem m_X8_isEvent {l : Launch} {Ω : Wm} (hk : Hk Ω kM) (c_X8_in : CT_X8_in l Ω) (hv : ∀ (x1 : Int32) (σ : Sg) (K : Int32 → Sg → Prop), sp_X8_isEvent x1 σ K → vc_X8_isEvent x1 σ K) : CT_X8_isEvent l Ω := by
  intro x1 σ Po hsp
  have hvc := hv x1 σ Po hsp
  refine Ct.of (by decide +kernel) (Nat.le_of_ble_eq_true rfl) (fun Γ C => ?_)
  have h : f_X8_isEvent_e x1 Po σ := hvc  
  unfold f_X8_isEvent_e at h
  refine ok_sub (L2 := [(0, .ref (Ω.2.2.1 0)), (1, .int x1)]) [0, 1] rfl ?_
  refine ok_iload_n C 1 dX8_isEvent_0 rfl rfl ?_
  refine ok_iconst C (v := 0) dX8_isEvent_1 (by decide) ?_
  refine ok_aload_n C 0 dX8_isEvent_2 rfl rfl ?_
  refine ok_getI C (ci := 8) hinX8 (kat hk kM_0) rfl 2 (by decide) W_6_128 (fun _ _ h => h) rfl dX8_isEvent_3 ?_
  refine ok_iconst C (v := 1) dX8_isEvent_6 (by decide) ?_
  refine ok_isub C dX8_isEvent_7 ?_
  refine ok_callSi C (As := [.int x1, .int 0, .int ((σ.1 0 2) - 1)]) (rest := []) (c_X8_in  _ _ _ _ _ h) W_7_12 W_7_13 W_7_14 W_1_28 hd_X8_in rfl ⟨Nat.le_of_ble_eq_true rfl, Nat.le_of_ble_eq_true rfl⟩ (Nat.le_of_ble_eq_true rfl) rfl dX8_isEvent_8 (fun r1 u2 h => ?_)
  obtain ⟨z3, h⟩ := h
  exact ok_zret C rfl rfl (bz_n z3) dX8_isEvent_11 h
set_option maxRecDepth 100000 in
set_option maxHeartbeats 4000000 in
theorem m_X8_turn {l : Launch} {Ω : Wm} (hk : Hk Ω kM)  (hv : ∀ (x0 : Int32) (x1 : Int32) (σ : Sg) (K : Int32 → Sg → Prop), sp_X8_turn x0 x1 σ K → vc_X8_turn x0 x1 σ K) : CT_X8_turn l Ω := by
  intro x0 x1 σ Po hsp
  have hvc := hv x0 x1 σ Po hsp
  refine Ct.of (by decide +kernel) (Nat.le_of_ble_eq_true rfl) (fun Γ C => ?_)
  have h : f_X8_turn_e x0 x1 Po σ := hvc  
  unfold f_X8_turn_e at h
  refine ok_sub (L2 := [(0, .int x0), (1, .int x1)]) [0, 1] rfl ?_
  refine ok_iload_n C 0 dX8_turn_0 rfl rfl ?_
  refine ok_iload_n C 1 dX8_turn_1 rfl rfl ?_
  refine ok_iushr C dX8_turn_2 ?_
  refine ok_iload_n C 0 dX8_turn_3 rfl rfl ?_
  refine ok_bipush C (v := 32) dX8_turn_4 (by decide) ?_
  refine ok_iload_n C 1 dX8_turn_6 rfl rfl ?_
  refine ok_isub C dX8_turn_7 ?_
  refine ok_ishl C dX8_turn_8 ?_
  refine ok_ior C dX8_turn_9 ?_
  exact ok_iret C rfl rfl dX8_turn_10 h
set_option maxRecDepth 100000 in
set_option maxHeartbeats 4000000 in
theorem m_X8_compress {l : Launch} {Ω : Wm} (hk : Hk Ω kM) (c_X8_turn : CT_X8_turn l Ω) (hv : ∀ (x1 : Int32) (σ : Sg) (K : Sg → Prop), sp_X8_compress x1 σ K → vc_X8_compress x1 σ K) : CT_X8_compress l Ω := by
  intro x1 σ Po hsp
  have hvc := hv x1 σ Po hsp
  refine Ct.of (by decide +kernel) (Nat.le_of_ble_eq_true rfl) (fun Γ C => ?_)
  obtain ⟨L2, gl2⟩ : ∃ L : Int32 → Sg → Prop, ∀ (x2 : Int32) (σ : Sg), L x2 σ = OK Γ Ω 13 2 [(0, .ref (Ω.2.2.1 0)), (1, .int x1), (2, .int x2)] [] σ := ⟨fun x2 σ => OK Γ Ω 13 2 [(0, .ref (Ω.2.2.1 0)), (1, .int x1), (2, .int x2)] [] σ, fun _ _ => rfl⟩
  obtain ⟨L81, gl81⟩ : ∃ L : Int32 → Sg → Prop, ∀ (x2 : Int32) (σ : Sg), L x2 σ = OK Γ Ω 13 81 [(0, .ref (Ω.2.2.1 0)), (2, .int x2)] [] σ := ⟨fun x2 σ => OK Γ Ω 13 81 [(0, .ref (Ω.2.2.1 0)), (2, .int x2)] [] σ, fun _ _ => rfl⟩
  obtain ⟨L245, gl245⟩ : ∃ L : Int32 → Int32 → Int32 → Int32 → Int32 → Int32 → Int32 → Int32 → Int32 → Sg → Prop, ∀ (x2 : Int32) (x3 : Int32) (x4 : Int32) (x5 : Int32) (x6 : Int32) (x7 : Int32) (x8 : Int32) (x9 : Int32) (x10 : Int32) (σ : Sg), L x2 x3 x4 x5 x6 x7 x8 x9 x10 σ = OK Γ Ω 13 245 [(0, .ref (Ω.2.2.1 0)), (2, .int x2), (3, .int x3), (4, .int x4), (5, .int x5), (6, .int x6), (7, .int x7), (8, .int x8), (9, .int x9), (10, .int x10)] [] σ := ⟨fun x2 x3 x4 x5 x6 x7 x8 x9 x10 σ => OK Γ Ω 13 245 [(0, .ref (Ω.2.2.1 0)), (2, .int x2), (3, .int x3), (4, .int x4), (5, .int x5), (6, .int x6), (7, .int x7), (8, .int x8), (9, .int x9), (10, .int x10)] [] σ, fun _ _ _ _ _ _ _ _ _ _ => rfl⟩
  have R2 : ∀ (x2 : Int32) (σ : Sg), f_X8_compress_2 x1 L2 L81 L245 Po x2 σ → L2 x2 σ := by
    intro x2 σ h
    unfold f_X8_compress_2 at h
    refine Eq.mpr (gl2 _ _) ?_
    refine ok_iload_n C 2 dX8_compress_2 rfl rfl ?_
    refine ok_bipush C (v := 16) dX8_compress_3 (by decide) ?_
    obtain ⟨h1, h2⟩ := h
    refine ok_icmp_ge C 78 dX8_compress_5 rfl (fun c6 => ?_) (fun c6 => ?_)
    · have h := h1 c6
      refine ok_bipush C (v := 16) dX8_compress_78 (by decide) ?_
      refine ok_istore_n C (L2 := [(2, .int 16), (0, .ref (Ω.2.2.1 0)), (1, .int x1)]) dX8_compress_80 rfl (by decide) rfl ?_
      refine ok_sub [1, 0] rfl ?_
      exact Eq.mp (gl81 _ _) h
    · have h := h2 c6
      refine ok_aload_n C 0 dX8_compress_8 rfl rfl ?_
      refine ok_getR C (ci := 8) hinX8 (kat hk kM_0) rfl 34 (by decide) W_6_160 (fun _ _ h => h) rfl dX8_compress_9 ?_
      refine ok_iload_n C 2 dX8_compress_12 rfl rfl ?_
      refine ok_aload_n C 0 dX8_compress_13 rfl rfl ?_
      refine ok_getR C (ci := 8) hinX8 (kat hk kM_0) rfl 33 (by decide) W_6_159 (fun _ _ h => h) rfl dX8_compress_14 ?_
      refine ok_iload_n C 1 dX8_compress_17 rfl rfl ?_
      refine ok_iconst C (v := 4) dX8_compress_18 (by decide) ?_
      refine ok_iload_n C 2 dX8_compress_19 rfl rfl ?_
      refine ok_imul C dX8_compress_20 ?_
      refine ok_iadd C dX8_compress_21 ?_
      obtain ⟨g1, h⟩ := h
      refine ok_iald C (kat hk kM_28) g1 dX8_compress_22 ?_
      refine ok_bipush C (v := 24) dX8_compress_23 (by decide) ?_
      refine ok_ishl C dX8_compress_25 ?_
      refine ok_aload_n C 0 dX8_compress_26 rfl rfl ?_
      refine ok_getR C (ci := 8) hinX8 (kat hk kM_0) rfl 33 (by decide) W_6_159 (fun _ _ h => h) rfl dX8_compress_27 ?_
      refine ok_iload_n C 1 dX8_compress_30 rfl rfl ?_
      refine ok_iconst C (v := 4) dX8_compress_31 (by decide) ?_
      refine ok_iload_n C 2 dX8_compress_32 rfl rfl ?_
      refine ok_imul C dX8_compress_33 ?_
      refine ok_iadd C dX8_compress_34 ?_
      refine ok_iconst C (v := 1) dX8_compress_35 (by decide) ?_
      refine ok_iadd C dX8_compress_36 ?_
      obtain ⟨g2, h⟩ := h
      refine ok_iald C (kat hk kM_28) g2 dX8_compress_37 ?_
      refine ok_bipush C (v := 16) dX8_compress_38 (by decide) ?_
      refine ok_ishl C dX8_compress_40 ?_
      refine ok_ior C dX8_compress_41 ?_
      refine ok_aload_n C 0 dX8_compress_42 rfl rfl ?_
      refine ok_getR C (ci := 8) hinX8 (kat hk kM_0) rfl 33 (by decide) W_6_159 (fun _ _ h => h) rfl dX8_compress_43 ?_
      refine ok_iload_n C 1 dX8_compress_46 rfl rfl ?_
      refine ok_iconst C (v := 4) dX8_compress_47 (by decide) ?_
      refine ok_iload_n C 2 dX8_compress_48 rfl rfl ?_
      refine ok_imul C dX8_compress_49 ?_
      refine ok_iadd C dX8_compress_50 ?_
      refine ok_iconst C (v := 2) dX8_compress_51 (by decide) ?_
      refine ok_iadd C dX8_compress_52 ?_
      obtain ⟨g3, h⟩ := h
      refine ok_iald C (kat hk kM_28) g3 dX8_compress_53 ?_
      refine ok_bipush C (v := 8) dX8_compress_54 (by decide) ?_
      refine ok_ishl C dX8_compress_56 ?_
      refine ok_ior C dX8_compress_57 ?_
      refine ok_aload_n C 0 dX8_compress_58 rfl rfl ?_
      refine ok_getR C (ci := 8) hinX8 (kat hk kM_0) rfl 33 (by decide) W_6_159 (fun _ _ h => h) rfl dX8_compress_59 ?_
      refine ok_iload_n C 1 dX8_compress_62 rfl rfl ?_
      refine ok_iconst C (v := 4) dX8_compress_63 (by decide) ?_
      refine ok_iload_n C 2 dX8_compress_64 rfl rfl ?_
      refine ok_imul C dX8_compress_65 ?_
      refine ok_iadd C dX8_compress_66 ?_
      refine ok_iconst C (v := 3) dX8_compress_67 (by decide) ?_
      refine ok_iadd C dX8_compress_68 ?_
      obtain ⟨g4, h⟩ := h
      refine ok_iald C (kat hk kM_28) g4 dX8_compress_69 ?_
      refine ok_ior C dX8_compress_70 ?_
      obtain ⟨g5, h⟩ := h
      refine ok_iast C (kat hk kM_29) g5 dX8_compress_71 ?_
      refine ok_iinc C (v := x2 + 1) (L2 := [(2, .int (x2 + 1)), (0, .ref (Ω.2.2.1 0)), (1, .int x1)]) 2 dX8_compress_72 rfl rfl (by decide) rfl ?_
      refine ok_goto C 2 dX8_compress_75 rfl ?_
      refine ok_sub [1, 2, 0] rfl ?_
      exact Eq.mp (gl2 _ _) h
  have R81 : ∀ (x2 : Int32) (σ : Sg), f_X8_compress_81 x1 L2 L81 L245 Po x2 σ → L81 x2 σ := by
    intro x2 σ h
    unfold f_X8_compress_81 at h
    refine Eq.mpr (gl81 _ _) ?_
    refine ok_iload_n C 1 dX8_compress_81 rfl rfl ?_
    refine ok_bipush C (v := 64) dX8_compress_82 (by decide) ?_
    obtain ⟨h1, h2⟩ := h
    refine ok_icmp_ge C 178 dX8_compress_84 rfl (fun c28 => ?_) (fun c28 => ?_)
    · have h := h1 c28
      refine ok_aload_n C 0 dX8_compress_178 rfl rfl ?_
      refine ok_getR C (ci := 8) hinX8 (kat hk kM_0) rfl 37 (by decide) W_6_163 (fun _ _ h => h) rfl dX8_compress_179 ?_
      refine ok_iconst C (v := 0) dX8_compress_182 (by decide) ?_
      obtain ⟨g7, h⟩ := h
      refine ok_iald C (kat hk kM_31) g7 dX8_compress_183 ?_
      refine ok_istore_n C (L2 := [(2, .int (σ.1 31 (0 : Int32).toNatClampNeg)), (0, .ref (Ω.2.2.1 0))]) dX8_compress_184 rfl (by decide) rfl ?_
      refine ok_aload_n C 1 dX8_compress_185 rfl rfl ?_
      refine ok_getR C (ci := 8) hinX8 (kat hk kM_0) rfl 37 (by decide) W_6_163 (fun _ _ h => h) rfl dX8_compress_186 ?_
      refine ok_iconst C (v := 1) dX8_compress_189 (by decide) ?_
      obtain ⟨g8, h⟩ := h
      refine ok_iald C (kat hk kM_31) g8 dX8_compress_190 ?_
      refine ok_istore_n C (L2 := [(3, .int (σ.1 31 (1 : Int32).toNatClampNeg)), (2, .int (σ.1 31 (0 : Int32).toNatClampNeg)), (0, .ref (Ω.2.2.1 0))]) dX8_compress_191 rfl (by decide) rfl ?_
      refine ok_aload_n C 2 dX8_compress_192 rfl rfl ?_
      refine ok_getR C (ci := 8) hinX8 (kat hk kM_0) rfl 37 (by decide) W_6_163 (fun _ _ h => h) rfl dX8_compress_193 ?_
      refine ok_iconst C (v := 2) dX8_compress_196 (by decide) ?_
      obtain ⟨g9, h⟩ := h
      refine ok_iald C (kat hk kM_31) g9 dX8_compress_197 ?_
      refine ok_istore C (L2 := [(4, .int (σ.1 31 (2 : Int32).toNatClampNeg)), (3, .int (σ.1 31 (1 : Int32).toNatClampNeg)), (2, .int (σ.1 31 (0 : Int32).toNatClampNeg)), (0, .ref (Ω.2.2.1 0))]) dX8_compress_198 (by decide) rfl ?_
      refine ok_aload_n C 3 dX8_compress_200 rfl rfl ?_
      refine ok_getR C (ci := 8) hinX8 (kat hk kM_0) rfl 37 (by decide) W_6_163 (fun _ _ h => h) rfl dX8_compress_201 ?_
      refine ok_iconst C (v := 3) dX8_compress_204 (by decide) ?_
      obtain ⟨g10, h⟩ := h
      refine ok_iald C (kat hk kM_31) g10 dX8_compress_205 ?_
      refine ok_istore C (L2 := [(5, .int (σ.1 31 (3 : Int32).toNatClampNeg)), (4, .int (σ.1 31 (2 : Int32).toNatClampNeg)), (3, .int (σ.1 31 (1 : Int32).toNatClampNeg)), (2, .int (σ.1 31 (0 : Int32).toNatClampNeg)), (0, .ref (Ω.2.2.1 0))]) dX8_compress_206 (by decide) rfl ?_
      refine ok_aload_n C 4 dX8_compress_208 rfl rfl ?_
      refine ok_getR C (ci := 8) hinX8 (kat hk kM_0) rfl 37 (by decide) W_6_163 (fun _ _ h => h) rfl dX8_compress_209 ?_
      refine ok_iconst C (v := 4) dX8_compress_212 (by decide) ?_
      obtain ⟨g11, h⟩ := h
      refine ok_iald C (kat hk kM_31) g11 dX8_compress_213 ?_
      refine ok_istore C (L2 := [(6, .int (σ.1 31 (4 : Int32).toNatClampNeg)), (5, .int (σ.1 31 (3 : Int32).toNatClampNeg)), (4, .int (σ.1 31 (2 : Int32).toNatClampNeg)), (3, .int (σ.1 31 (1 : Int32).toNatClampNeg)), (2, .int (σ.1 31 (0 : Int32).toNatClampNeg)), (0, .ref (Ω.2.2.1 0))]) dX8_compress_214 (by decide) rfl ?_
      refine ok_aload_n C 5 dX8_compress_216 rfl rfl ?_
      refine ok_getR C (ci := 8) hinX8 (kat hk kM_0) rfl 37 (by decide) W_6_163 (fun _ _ h => h) rfl dX8_compress_217 ?_
      refine ok_iconst C (v := 5) dX8_compress_220 (by decide) ?_
      obtain ⟨g12, h⟩ := h
      refine ok_iald C (kat hk kM_31) g12 dX8_compress_221 ?_
      refine ok_istore C (L2 := [(7, .int (σ.1 31 (5 : Int32).toNatClampNeg)), (6, .int (σ.1 31 (4 : Int32).toNatClampNeg)), (5, .int (σ.1 31 (3 : Int32).toNatClampNeg)), (4, .int (σ.1 31 (2 : Int32).toNatClampNeg)), (3, .int (σ.1 31 (1 : Int32).toNatClampNeg)), (2, .int (σ.1 31 (0 : Int32).toNatClampNeg)), (0, .ref (Ω.2.2.1 0))]) dX8_compress_222 (by decide) rfl ?_
      refine ok_aload_n C 6 dX8_compress_224 rfl rfl ?_
      refine ok_getR C (ci := 8) hinX8 (kat hk kM_0) rfl 37 (by decide) W_6_163 (fun _ _ h => h) rfl dX8_compress_225 ?_
      refine ok_bipush C (v := 6) dX8_compress_228 (by decide) ?_
      obtain ⟨g13, h⟩ := h
      refine ok_iald C (kat hk kM_31) g13 dX8_compress_230 ?_
      refine ok_istore C (L2 := [(8, .int (σ.1 31 (6 : Int32).toNatClampNeg)), (7, .int (σ.1 31 (5 : Int32).toNatClampNeg)), (6, .int (σ.1 31 (4 : Int32).toNatClampNeg)), (5, .int (σ.1 31 (3 : Int32).toNatClampNeg)), (4, .int (σ.1 31 (2 : Int32).toNatClampNeg)), (3, .int (σ.1 31 (1 : Int32).toNatClampNeg)), (2, .int (σ.1 31 (0 : Int32).toNatClampNeg)), (0, .ref (Ω.2.2.1 0))]) dX8_compress_231 (by decide) rfl ?_
      refine ok_aload_n C 7 dX8_compress_233 rfl rfl ?_
      refine ok_getR C (ci := 8) hinX8 (kat hk kM_0) rfl 37 (by decide) W_6_163 (fun _ _ h => h) rfl dX8_compress_234 ?_
      refine ok_bipush C (v := 7) dX8_compress_237 (by decide) ?_
      obtain ⟨g14, h⟩ := h
      refine ok_iald C (kat hk kM_31) g14 dX8_compress_239 ?_
      refine ok_istore C (L2 := [(9, .int (σ.1 31 (7 : Int32).toNatClampNeg)), (8, .int (σ.1 31 (6 : Int32).toNatClampNeg)), (7, .int (σ.1 31 (5 : Int32).toNatClampNeg)), (6, .int (σ.1 31 (4 : Int32).toNatClampNeg)), (5, .int (σ.1 31 (3 : Int32).toNatClampNeg)), (4, .int (σ.1 31 (2 : Int32).toNatClampNeg)), (3, .int (σ.1 31 (1 : Int32).toNatClampNeg)), (2, .int (σ.1 31 (0 : Int32).toNatClampNeg)), (0, .ref (Ω.2.2.1 0))]) dX8_compress_240 (by decide) rfl ?_
      refine ok_iconst C (v := 0) dX8_compress_242 (by decide) ?_
      refine ok_istore C (L2 := [(10, .int 0), (9, .int (σ.1 31 (7 : Int32).toNatClampNeg)), (8, .int (σ.1 31 (6 : Int32).toNatClampNeg)), (7, .int (σ.1 31 (5 : Int32).toNatClampNeg)), (6, .int (σ.1 31 (4 : Int32).toNatClampNeg)), (5, .int (σ.1 31 (3 : Int32).toNatClampNeg)), (4, .int (σ.1 31 (2 : Int32).toNatClampNeg)), (3, .int (σ.1 31 (1 : Int32).toNatClampNeg)), (2, .int (σ.1 31 (0 : Int32).toNatClampNeg)), (0, .ref (Ω.2.2.1 0))]) dX8_compress_243 (by decide) rfl ?_
      refine ok_sub [9, 8, 7, 6, 5, 4, 3, 2, 1, 0] rfl ?_
      exact Eq.mp (gl245 _ _ _ _ _ _ _ _ _ _) h
    · have h := h2 c28
      refine ok_aload_n C 0 dX8_compress_87 rfl rfl ?_
      refine ok_getR C (ci := 8) hinX8 (kat hk kM_0) rfl 34 (by decide) W_6_160 (fun _ _ h => h) rfl dX8_compress_88 ?_
      refine ok_iload_n C 1 dX8_compress_91 rfl rfl ?_
      refine ok_bipush C (v := 15) dX8_compress_92 (by decide) ?_
      refine ok_isub C dX8_compress_94 ?_
      obtain ⟨g15, h⟩ := h
      refine ok_iald C (kat hk kM_29) g15 dX8_compress_95 ?_
      refine ok_istore_n C (L2 := [(3, .int (σ.1 29 (x2 - 15).toNatClampNeg)), (0, .ref (Ω.2.2.1 0)), (2, .int x2)]) dX8_compress_96 rfl (by decide) rfl ?_
      refine ok_aload_n C 1 dX8_compress_97 rfl rfl ?_
      refine ok_getR C (ci := 8) hinX8 (kat hk kM_0) rfl 34 (by decide) W_6_160 (fun _ _ h => h) rfl dX8_compress_98 ?_
      refine ok_iload_n C 2 dX8_compress_101 rfl rfl ?_
      refine ok_iconst C (v := 2) dX8_compress_102 (by decide) ?_
      refine ok_isub C dX8_compress_103 ?_
      obtain ⟨g16, h⟩ := h
      refine ok_iald C (kat hk kM_29) g16 dX8_compress_104 ?_
      refine ok_istore C (L2 := [(4, .int (σ.1 29 (x2 - 2).toNatClampNeg)), (3, .int (σ.1 29 (x2 - 15).toNatClampNeg)), (0, .ref (Ω.2.2.1 0)), (2, .int x2)]) dX8_compress_105 (by decide) rfl ?_
      refine ok_aload_n C 2 dX8_compress_107 rfl rfl ?_
      refine ok_getR C (ci := 8) hinX8 (kat hk kM_0) rfl 34 (by decide) W_6_160 (fun _ _ h => h) rfl dX8_compress_108 ?_
      refine ok_iload_n C 3 dX8_compress_111 rfl rfl ?_
      refine ok_aload_n C 2 dX8_compress_112 rfl rfl ?_
      refine ok_getR C (ci := 8) hinX8 (kat hk kM_0) rfl 34 (by decide) W_6_160 (fun _ _ h => h) rfl dX8_compress_113 ?_
      refine ok_iload_n C 3 dX8_compress_116 rfl rfl ?_
      refine ok_bipush C (v := 16) dX8_compress_117 (by decide) ?_
      refine ok_isub C dX8_compress_119 ?_
      obtain ⟨g17, h⟩ := h
      refine ok_iald C (kat hk kM_29) g17 dX8_compress_120 ?_
      refine ok_iload_n C 1 dX8_compress_121 rfl rfl ?_
      refine ok_bipush C (v := 7) dX8_compress_122 (by decide) ?_
      refine ok_callSi C (As := [.int (σ.1 29 (x2 - 15).toNatClampNeg), .int 7]) (rest := [.int (σ.1 29 (x2 - 16).toNatClampNeg), .int x2, .ref (Ω.2.2.1 29)]) (c_X8_turn  _ _ _ _ h) W_6_98 W_6_99 W_6_100 W_1_28 hd_X8_turn rfl ⟨Nat.le_of_ble_eq_true rfl, Nat.le_of_ble_eq_true rfl⟩ (Nat.le_of_ble_eq_true rfl) rfl dX8_compress_124 (fun r18 u19 h => ?_)
      refine ok_iload_n C 1 dX8_compress_127 rfl rfl ?_
      refine ok_bipush C (v := 18) dX8_compress_128 (by decide) ?_
      refine ok_callSi C (As := [.int (σ.1 29 (x2 - 15).toNatClampNeg), .int 18]) (rest := [.int r18, .int (σ.1 29 (x2 - 16).toNatClampNeg), .int x2, .ref (Ω.2.2.1 29)]) (c_X8_turn  _ _ _ _ h) W_6_98 W_6_99 W_6_100 W_1_28 hd_X8_turn rfl ⟨Nat.le_of_ble_eq_true rfl, Nat.le_of_ble_eq_true rfl⟩ (Nat.le_of_ble_eq_true rfl) rfl dX8_compress_130 (fun r20 u21 h => ?_)
      refine ok_ixor C dX8_compress_133 ?_
      refine ok_iload_n C 1 dX8_compress_134 rfl rfl ?_
      refine ok_iconst C (v := 3) dX8_compress_135 (by decide) ?_
      refine ok_iushr C dX8_compress_136 ?_
      refine ok_ixor C dX8_compress_137 ?_
      refine ok_iadd C dX8_compress_138 ?_
      refine ok_aload_n C 2 dX8_compress_139 rfl rfl ?_
      refine ok_getR C (ci := 8) hinX8 (kat hk kM_0) rfl 34 (by decide) W_6_160 (fun _ _ h => h) rfl dX8_compress_140 ?_
      refine ok_iload_n C 3 dX8_compress_143 rfl rfl ?_
      refine ok_bipush C (v := 7) dX8_compress_144 (by decide) ?_
      refine ok_isub C dX8_compress_146 ?_
      obtain ⟨g22, h⟩ := h
      refine ok_iald C (kat hk kM_29) g22 dX8_compress_147 ?_
      refine ok_iadd C dX8_compress_148 ?_
      refine ok_iload C 0 dX8_compress_149 rfl ?_
      refine ok_bipush C (v := 17) dX8_compress_151 (by decide) ?_
      refine ok_callSi C (As := [.int (σ.1 29 (x2 - 2).toNatClampNeg), .int 17]) (rest := [.int (((σ.1 29 (x2 - 16).toNatClampNeg) + ((r18 ^^^ r20) ^^^ (iush (σ.1 29 (x2 - 15).toNatClampNeg) 3))) + (u21.1 29 (x2 - 7).toNatClampNeg)), .int x2, .ref (Ω.2.2.1 29)]) (c_X8_turn  _ _ _ _ h) W_6_98 W_6_99 W_6_100 W_1_28 hd_X8_turn rfl ⟨Nat.le_of_ble_eq_true rfl, Nat.le_of_ble_eq_true rfl⟩ (Nat.le_of_ble_eq_true rfl) rfl dX8_compress_153 (fun r23 u24 h => ?_)
      refine ok_iload C 0 dX8_compress_156 rfl ?_
      refine ok_bipush C (v := 19) dX8_compress_158 (by decide) ?_
      refine ok_callSi C (As := [.int (σ.1 29 (x2 - 2).toNatClampNeg), .int 19]) (rest := [.int r23, .int (((σ.1 29 (x2 - 16).toNatClampNeg) + ((r18 ^^^ r20) ^^^ (iush (σ.1 29 (x2 - 15).toNatClampNeg) 3))) + (u21.1 29 (x2 - 7).toNatClampNeg)), .int x2, .ref (Ω.2.2.1 29)]) (c_X8_turn  _ _ _ _ h) W_6_98 W_6_99 W_6_100 W_1_28 hd_X8_turn rfl ⟨Nat.le_of_ble_eq_true rfl, Nat.le_of_ble_eq_true rfl⟩ (Nat.le_of_ble_eq_true rfl) rfl dX8_compress_160 (fun r25 u26 h => ?_)
      refine ok_ixor C dX8_compress_163 ?_
      refine ok_iload C 0 dX8_compress_164 rfl ?_
      refine ok_bipush C (v := 10) dX8_compress_166 (by decide) ?_
      refine ok_iushr C dX8_compress_168 ?_
      refine ok_ixor C dX8_compress_169 ?_
      refine ok_iadd C dX8_compress_170 ?_
      obtain ⟨g27, h⟩ := h
      refine ok_iast C (kat hk kM_29) g27 dX8_compress_171 ?_
      refine ok_iinc C (v := x2 + 1) (L2 := [(2, .int (x2 + 1)), (4, .int (σ.1 29 (x2 - 2).toNatClampNeg)), (3, .int (σ.1 29 (x2 - 15).toNatClampNeg)), (0, .ref (Ω.2.2.1 0))]) 3 dX8_compress_172 rfl rfl (by decide) rfl ?_
      refine ok_goto C 81 dX8_compress_175 rfl ?_
      refine ok_sub [3, 0] rfl ?_
      exact Eq.mp (gl81 _ _) h
  have R245 : ∀ (x2 : Int32) (x3 : Int32) (x4 : Int32) (x5 : Int32) (x6 : Int32) (x7 : Int32) (x8 : Int32) (x9 : Int32) (x10 : Int32) (σ : Sg), f_X8_compress_245 x1 L2 L81 L245 Po x2 x3 x4 x5 x6 x7 x8 x9 x10 σ → L245 x2 x3 x4 x5 x6 x7 x8 x9 x10 σ := by
    intro x2 x3 x4 x5 x6 x7 x8 x9 x10 σ h
    unfold f_X8_compress_245 at h
    refine Eq.mpr (gl245 _ _ _ _ _ _ _ _ _ _) ?_
    refine ok_iload C 9 dX8_compress_245 rfl ?_
    refine ok_bipush C (v := 64) dX8_compress_247 (by decide) ?_
    obtain ⟨h1, h2⟩ := h
    refine ok_icmp_ge C 385 dX8_compress_249 rfl (fun c59 => ?_) (fun c59 => ?_)
    · have h := h1 c59
      refine ok_aload_n C 0 dX8_compress_385 rfl rfl ?_
      refine ok_getR C (ci := 8) hinX8 (kat hk kM_0) rfl 37 (by decide) W_6_163 (fun _ _ h => h) rfl dX8_compress_386 ?_
      refine ok_iconst C (v := 0) dX8_compress_389 (by decide) ?_
      refine ok_dup2_11 C dX8_compress_390 rfl rfl ?_
      obtain ⟨g29, h⟩ := h
      refine ok_iald C (kat hk kM_31) g29 dX8_compress_391 ?_
      refine ok_iload_n C 1 dX8_compress_392 rfl rfl ?_
      refine ok_iadd C dX8_compress_393 ?_
      obtain ⟨g30, h⟩ := h
      refine ok_iast C (kat hk kM_31) g30 dX8_compress_394 ?_
      refine ok_aload_n C 0 dX8_compress_395 rfl rfl ?_
      refine ok_getR C (ci := 8) hinX8 (kat hk kM_0) rfl 37 (by decide) W_6_163 (fun _ _ h => h) rfl dX8_compress_396 ?_
      refine ok_iconst C (v := 1) dX8_compress_399 (by decide) ?_
      refine ok_dup2_11 C dX8_compress_400 rfl rfl ?_
      obtain ⟨g31, h⟩ := h
      refine ok_iald C (kat hk kM_31) g31 dX8_compress_401 ?_
      refine ok_iload_n C 2 dX8_compress_402 rfl rfl ?_
      refine ok_iadd C dX8_compress_403 ?_
      obtain ⟨g32, h⟩ := h
      refine ok_iast C (kat hk kM_31) g32 dX8_compress_404 ?_
      refine ok_aload_n C 0 dX8_compress_405 rfl rfl ?_
      refine ok_getR C (ci := 8) hinX8 (kat hk kM_0) rfl 37 (by decide) W_6_163 (fun _ _ h => h) rfl dX8_compress_406 ?_
      refine ok_iconst C (v := 2) dX8_compress_409 (by decide) ?_
      refine ok_dup2_11 C dX8_compress_410 rfl rfl ?_
      obtain ⟨g33, h⟩ := h
      refine ok_iald C (kat hk kM_31) g33 dX8_compress_411 ?_
      refine ok_iload C 3 dX8_compress_412 rfl ?_
      refine ok_iadd C dX8_compress_414 ?_
      obtain ⟨g34, h⟩ := h
      refine ok_iast C (kat hk kM_31) g34 dX8_compress_415 ?_
      refine ok_aload_n C 0 dX8_compress_416 rfl rfl ?_
      refine ok_getR C (ci := 8) hinX8 (kat hk kM_0) rfl 37 (by decide) W_6_163 (fun _ _ h => h) rfl dX8_compress_417 ?_
      refine ok_iconst C (v := 3) dX8_compress_420 (by decide) ?_
      refine ok_dup2_11 C dX8_compress_421 rfl rfl ?_
      obtain ⟨g35, h⟩ := h
      refine ok_iald C (kat hk kM_31) g35 dX8_compress_422 ?_
      refine ok_iload C 4 dX8_compress_423 rfl ?_
      refine ok_iadd C dX8_compress_425 ?_
      obtain ⟨g36, h⟩ := h
      refine ok_iast C (kat hk kM_31) g36 dX8_compress_426 ?_
      refine ok_aload_n C 0 dX8_compress_427 rfl rfl ?_
      refine ok_getR C (ci := 8) hinX8 (kat hk kM_0) rfl 37 (by decide) W_6_163 (fun _ _ h => h) rfl dX8_compress_428 ?_
      refine ok_iconst C (v := 4) dX8_compress_431 (by decide) ?_
      refine ok_dup2_11 C dX8_compress_432 rfl rfl ?_
      obtain ⟨g37, h⟩ := h
      refine ok_iald C (kat hk kM_31) g37 dX8_compress_433 ?_
      refine ok_iload C 5 dX8_compress_434 rfl ?_
      refine ok_iadd C dX8_compress_436 ?_
      obtain ⟨g38, h⟩ := h
      refine ok_iast C (kat hk kM_31) g38 dX8_compress_437 ?_
      refine ok_aload_n C 0 dX8_compress_438 rfl rfl ?_
      refine ok_getR C (ci := 8) hinX8 (kat hk kM_0) rfl 37 (by decide) W_6_163 (fun _ _ h => h) rfl dX8_compress_439 ?_
      refine ok_iconst C (v := 5) dX8_compress_442 (by decide) ?_
      refine ok_dup2_11 C dX8_compress_443 rfl rfl ?_
      obtain ⟨g39, h⟩ := h
      refine ok_iald C (kat hk kM_31) g39 dX8_compress_444 ?_
      refine ok_iload C 6 dX8_compress_445 rfl ?_
      refine ok_iadd C dX8_compress_447 ?_
      obtain ⟨g40, h⟩ := h
      refine ok_iast C (kat hk kM_31) g40 dX8_compress_448 ?_
      refine ok_aload_n C 0 dX8_compress_449 rfl rfl ?_
      refine ok_getR C (ci := 8) hinX8 (kat hk kM_0) rfl 37 (by decide) W_6_163 (fun _ _ h => h) rfl dX8_compress_450 ?_
      refine ok_bipush C (v := 6) dX8_compress_453 (by decide) ?_
      refine ok_dup2_11 C dX8_compress_455 rfl rfl ?_
      obtain ⟨g41, h⟩ := h
      refine ok_iald C (kat hk kM_31) g41 dX8_compress_456 ?_
      refine ok_iload C 7 dX8_compress_457 rfl ?_
      refine ok_iadd C dX8_compress_459 ?_
      obtain ⟨g42, h⟩ := h
      refine ok_iast C (kat hk kM_31) g42 dX8_compress_460 ?_
      refine ok_aload_n C 0 dX8_compress_461 rfl rfl ?_
      refine ok_getR C (ci := 8) hinX8 (kat hk kM_0) rfl 37 (by decide) W_6_163 (fun _ _ h => h) rfl dX8_compress_462 ?_
      refine ok_bipush C (v := 7) dX8_compress_465 (by decide) ?_
      refine ok_dup2_11 C dX8_compress_467 rfl rfl ?_
      obtain ⟨g43, h⟩ := h
      refine ok_iald C (kat hk kM_31) g43 dX8_compress_468 ?_
      refine ok_iload C 8 dX8_compress_469 rfl ?_
      refine ok_iadd C dX8_compress_471 ?_
      obtain ⟨g44, h⟩ := h
      refine ok_iast C (kat hk kM_31) g44 dX8_compress_472 ?_
      exact ok_vret C rfl rfl dX8_compress_473 h
    · have h := h2 c59
      refine ok_iload C 8 dX8_compress_252 rfl ?_
      refine ok_iload C 5 dX8_compress_254 rfl ?_
      refine ok_bipush C (v := 6) dX8_compress_256 (by decide) ?_
      refine ok_callSi C (As := [.int x6, .int 6]) (rest := [.int x9]) (c_X8_turn  _ _ _ _ h) W_6_98 W_6_99 W_6_100 W_1_28 hd_X8_turn rfl ⟨Nat.le_of_ble_eq_true rfl, Nat.le_of_ble_eq_true rfl⟩ (Nat.le_of_ble_eq_true rfl) rfl dX8_compress_258 (fun r45 u46 h => ?_)
      refine ok_iload C 5 dX8_compress_261 rfl ?_
      refine ok_bipush C (v := 11) dX8_compress_263 (by decide) ?_
      refine ok_callSi C (As := [.int x6, .int 11]) (rest := [.int r45, .int x9]) (c_X8_turn  _ _ _ _ h) W_6_98 W_6_99 W_6_100 W_1_28 hd_X8_turn rfl ⟨Nat.le_of_ble_eq_true rfl, Nat.le_of_ble_eq_true rfl⟩ (Nat.le_of_ble_eq_true rfl) rfl dX8_compress_265 (fun r47 u48 h => ?_)
      refine ok_ixor C dX8_compress_268 ?_
      refine ok_iload C 5 dX8_compress_269 rfl ?_
      refine ok_bipush C (v := 25) dX8_compress_271 (by decide) ?_
      refine ok_callSi C (As := [.int x6, .int 25]) (rest := [.int (r45 ^^^ r47), .int x9]) (c_X8_turn  _ _ _ _ h) W_6_98 W_6_99 W_6_100 W_1_28 hd_X8_turn rfl ⟨Nat.le_of_ble_eq_true rfl, Nat.le_of_ble_eq_true rfl⟩ (Nat.le_of_ble_eq_true rfl) rfl dX8_compress_273 (fun r49 u50 h => ?_)
      refine ok_ixor C dX8_compress_276 ?_
      refine ok_iadd C dX8_compress_277 ?_
      refine ok_iload C 5 dX8_compress_278 rfl ?_
      refine ok_iload C 6 dX8_compress_280 rfl ?_
      refine ok_iand C dX8_compress_282 ?_
      refine ok_iload C 5 dX8_compress_283 rfl ?_
      refine ok_iconst C (v := (-1)) dX8_compress_285 (by decide) ?_
      refine ok_ixor C dX8_compress_286 ?_
      refine ok_iload C 7 dX8_compress_287 rfl ?_
      refine ok_iand C dX8_compress_289 ?_
      refine ok_ixor C dX8_compress_290 ?_
      refine ok_iadd C dX8_compress_291 ?_
      refine ok_aload_n C 0 dX8_compress_292 rfl rfl ?_
      refine ok_getR C (ci := 8) hinX8 (kat hk kM_0) rfl 35 (by decide) W_6_161 (fun _ _ h => h) rfl dX8_compress_293 ?_
      refine ok_iload C 9 dX8_compress_296 rfl ?_
      obtain ⟨g51, h⟩ := h
      refine ok_iald C (kat hk kM_30) g51 dX8_compress_298 ?_
      refine ok_iadd C dX8_compress_299 ?_
      refine ok_aload_n C 0 dX8_compress_300 rfl rfl ?_
      refine ok_getR C (ci := 8) hinX8 (kat hk kM_0) rfl 34 (by decide) W_6_160 (fun _ _ h => h) rfl dX8_compress_301 ?_
      refine ok_iload C 9 dX8_compress_304 rfl ?_
      obtain ⟨g52, h⟩ := h
      refine ok_iald C (kat hk kM_29) g52 dX8_compress_306 ?_
      refine ok_iadd C dX8_compress_307 ?_
      refine ok_istore C (L2 := [(11, .int ((((x9 + ((r45 ^^^ r47) ^^^ r49)) + ((x6 &&& x7) ^^^ ((x6 ^^^ (-1)) &&& x8))) + (u50.1 30 x10.toNatClampNeg)) + (u50.1 29 x10.toNatClampNeg))), (0, .ref (Ω.2.2.1 0)), (2, .int x2), (3, .int x3), (4, .int x4), (5, .int x5), (6, .int x6), (7, .int x7), (8, .int x8), (9, .int x9), (10, .int x10)]) dX8_compress_308 (by decide) rfl ?_
      refine ok_iload_n C 2 dX8_compress_310 rfl rfl ?_
      refine ok_iconst C (v := 2) dX8_compress_311 (by decide) ?_
      refine ok_callSi C (As := [.int x2, .int 2]) (rest := []) (c_X8_turn  _ _ _ _ h) W_6_98 W_6_99 W_6_100 W_1_28 hd_X8_turn rfl ⟨Nat.le_of_ble_eq_true rfl, Nat.le_of_ble_eq_true rfl⟩ (Nat.le_of_ble_eq_true rfl) rfl dX8_compress_312 (fun r53 u54 h => ?_)
      refine ok_iload_n C 2 dX8_compress_315 rfl rfl ?_
      refine ok_bipush C (v := 13) dX8_compress_316 (by decide) ?_
      refine ok_callSi C (As := [.int x2, .int 13]) (rest := [.int r53]) (c_X8_turn  _ _ _ _ h) W_6_98 W_6_99 W_6_100 W_1_28 hd_X8_turn rfl ⟨Nat.le_of_ble_eq_true rfl, Nat.le_of_ble_eq_true rfl⟩ (Nat.le_of_ble_eq_true rfl) rfl dX8_compress_318 (fun r55 u56 h => ?_)
      refine ok_ixor C dX8_compress_321 ?_
      refine ok_iload_n C 2 dX8_compress_322 rfl rfl ?_
      refine ok_bipush C (v := 22) dX8_compress_323 (by decide) ?_
      refine ok_callSi C (As := [.int x2, .int 22]) (rest := [.int (r53 ^^^ r55)]) (c_X8_turn  _ _ _ _ h) W_6_98 W_6_99 W_6_100 W_1_28 hd_X8_turn rfl ⟨Nat.le_of_ble_eq_true rfl, Nat.le_of_ble_eq_true rfl⟩ (Nat.le_of_ble_eq_true rfl) rfl dX8_compress_325 (fun r57 u58 h => ?_)
      refine ok_ixor C dX8_compress_328 ?_
      refine ok_iload_n C 2 dX8_compress_329 rfl rfl ?_
      refine ok_iload_n C 3 dX8_compress_330 rfl rfl ?_
      refine ok_iand C dX8_compress_331 ?_
      refine ok_iload_n C 2 dX8_compress_332 rfl rfl ?_
      refine ok_iload C 4 dX8_compress_333 rfl ?_
      refine ok_iand C dX8_compress_335 ?_
      refine ok_ixor C dX8_compress_336 ?_
      refine ok_iload_n C 3 dX8_compress_337 rfl rfl ?_
      refine ok_iload C 4 dX8_compress_338 rfl ?_
      refine ok_iand C dX8_compress_340 ?_
      refine ok_ixor C dX8_compress_341 ?_
      refine ok_iadd C dX8_compress_342 ?_
      refine ok_istore C (L2 := [(12, .int (((r53 ^^^ r55) ^^^ r57) + (((x2 &&& x3) ^^^ (x2 &&& x4)) ^^^ (x3 &&& x4)))), (11, .int ((((x9 + ((r45 ^^^ r47) ^^^ r49)) + ((x6 &&& x7) ^^^ ((x6 ^^^ (-1)) &&& x8))) + (u50.1 30 x10.toNatClampNeg)) + (u50.1 29 x10.toNatClampNeg))), (0, .ref (Ω.2.2.1 0)), (2, .int x2), (3, .int x3), (4, .int x4), (5, .int x5), (6, .int x6), (7, .int x7), (8, .int x8), (9, .int x9), (10, .int x10)]) dX8_compress_343 (by decide) rfl ?_
      refine ok_iload C 9 dX8_compress_345 rfl ?_
      refine ok_istore C (L2 := [(9, .int x8), (12, .int (((r53 ^^^ r55) ^^^ r57) + (((x2 &&& x3) ^^^ (x2 &&& x4)) ^^^ (x3 &&& x4)))), (11, .int ((((x9 + ((r45 ^^^ r47) ^^^ r49)) + ((x6 &&& x7) ^^^ ((x6 ^^^ (-1)) &&& x8))) + (u50.1 30 x10.toNatClampNeg)) + (u50.1 29 x10.toNatClampNeg))), (0, .ref (Ω.2.2.1 0)), (2, .int x2), (3, .int x3), (4, .int x4), (5, .int x5), (6, .int x6), (7, .int x7), (8, .int x8), (10, .int x10)]) dX8_compress_347 (by decide) rfl ?_
      refine ok_iload C 9 dX8_compress_349 rfl ?_
      refine ok_istore C (L2 := [(8, .int x7), (9, .int x8), (12, .int (((r53 ^^^ r55) ^^^ r57) + (((x2 &&& x3) ^^^ (x2 &&& x4)) ^^^ (x3 &&& x4)))), (11, .int ((((x9 + ((r45 ^^^ r47) ^^^ r49)) + ((x6 &&& x7) ^^^ ((x6 ^^^ (-1)) &&& x8))) + (u50.1 30 x10.toNatClampNeg)) + (u50.1 29 x10.toNatClampNeg))), (0, .ref (Ω.2.2.1 0)), (2, .int x2), (3, .int x3), (4, .int x4), (5, .int x5), (6, .int x6), (7, .int x7), (10, .int x10)]) dX8_compress_351 (by decide) rfl ?_
      refine ok_iload C 9 dX8_compress_353 rfl ?_
      refine ok_istore C (L2 := [(7, .int x6), (8, .int x7), (9, .int x8), (12, .int (((r53 ^^^ r55) ^^^ r57) + (((x2 &&& x3) ^^^ (x2 &&& x4)) ^^^ (x3 &&& x4)))), (11, .int ((((x9 + ((r45 ^^^ r47) ^^^ r49)) + ((x6 &&& x7) ^^^ ((x6 ^^^ (-1)) &&& x8))) + (u50.1 30 x10.toNatClampNeg)) + (u50.1 29 x10.toNatClampNeg))), (0, .ref (Ω.2.2.1 0)), (2, .int x2), (3, .int x3), (4, .int x4), (5, .int x5), (6, .int x6), (10, .int x10)]) dX8_compress_355 (by decide) rfl ?_
      refine ok_iload C 9 dX8_compress_357 rfl ?_
      refine ok_iload C 4 dX8_compress_359 rfl ?_
      refine ok_iadd C dX8_compress_361 ?_
      refine ok_istore C (L2 := [(6, .int (x5 + ((((x9 + ((r45 ^^^ r47) ^^^ r49)) + ((x6 &&& x7) ^^^ ((x6 ^^^ (-1)) &&& x8))) + (u50.1 30 x10.toNatClampNeg)) + (u50.1 29 x10.toNatClampNeg)))), (7, .int x6), (8, .int x7), (9, .int x8), (12, .int (((r53 ^^^ r55) ^^^ r57) + (((x2 &&& x3) ^^^ (x2 &&& x4)) ^^^ (x3 &&& x4)))), (11, .int ((((x9 + ((r45 ^^^ r47) ^^^ r49)) + ((x6 &&& x7) ^^^ ((x6 ^^^ (-1)) &&& x8))) + (u50.1 30 x10.toNatClampNeg)) + (u50.1 29 x10.toNatClampNeg))), (0, .ref (Ω.2.2.1 0)), (2, .int x2), (3, .int x3), (4, .int x4), (5, .int x5), (10, .int x10)]) dX8_compress_362 (by decide) rfl ?_
      refine ok_iload C 9 dX8_compress_364 rfl ?_
      refine ok_istore C (L2 := [(5, .int x4), (6, .int (x5 + ((((x9 + ((r45 ^^^ r47) ^^^ r49)) + ((x6 &&& x7) ^^^ ((x6 ^^^ (-1)) &&& x8))) + (u50.1 30 x10.toNatClampNeg)) + (u50.1 29 x10.toNatClampNeg)))), (7, .int x6), (8, .int x7), (9, .int x8), (12, .int (((r53 ^^^ r55) ^^^ r57) + (((x2 &&& x3) ^^^ (x2 &&& x4)) ^^^ (x3 &&& x4)))), (11, .int ((((x9 + ((r45 ^^^ r47) ^^^ r49)) + ((x6 &&& x7) ^^^ ((x6 ^^^ (-1)) &&& x8))) + (u50.1 30 x10.toNatClampNeg)) + (u50.1 29 x10.toNatClampNeg))), (0, .ref (Ω.2.2.1 0)), (2, .int x2), (3, .int x3), (4, .int x4), (10, .int x10)]) dX8_compress_366 (by decide) rfl ?_
      refine ok_iload_n C 9 dX8_compress_368 rfl rfl ?_
      refine ok_istore C (L2 := [(4, .int x3), (5, .int x4), (6, .int (x5 + ((((x9 + ((r45 ^^^ r47) ^^^ r49)) + ((x6 &&& x7) ^^^ ((x6 ^^^ (-1)) &&& x8))) + (u50.1 30 x10.toNatClampNeg)) + (u50.1 29 x10.toNatClampNeg)))), (7, .int x6), (8, .int x7), (9, .int x8), (12, .int (((r53 ^^^ r55) ^^^ r57) + (((x2 &&& x3) ^^^ (x2 &&& x4)) ^^^ (x3 &&& x4)))), (11, .int ((((x9 + ((r45 ^^^ r47) ^^^ r49)) + ((x6 &&& x7) ^^^ ((x6 ^^^ (-1)) &&& x8))) + (u50.1 30 x10.toNatClampNeg)) + (u50.1 29 x10.toNatClampNeg))), (0, .ref (Ω.2.2.1 0)), (2, .int x2), (3, .int x3), (10, .int x10)]) dX8_compress_369 (by decide) rfl ?_
      refine ok_iload_n C 9 dX8_compress_371 rfl rfl ?_
      refine ok_istore_n C (L2 := [(3, .int x2), (4, .int x3), (5, .int x4), (6, .int (x5 + ((((x9 + ((r45 ^^^ r47) ^^^ r49)) + ((x6 &&& x7) ^^^ ((x6 ^^^ (-1)) &&& x8))) + (u50.1 30 x10.toNatClampNeg)) + (u50.1 29 x10.toNatClampNeg)))), (7, .int x6), (8, .int x7), (9, .int x8), (12, .int (((r53 ^^^ r55) ^^^ r57) + (((x2 &&& x3) ^^^ (x2 &&& x4)) ^^^ (x3 &&& x4)))), (11, .int ((((x9 + ((r45 ^^^ r47) ^^^ r49)) + ((x6 &&& x7) ^^^ ((x6 ^^^ (-1)) &&& x8))) + (u50.1 30 x10.toNatClampNeg)) + (u50.1 29 x10.toNatClampNeg))), (0, .ref (Ω.2.2.1 0)), (2, .int x2), (10, .int x10)]) dX8_compress_372 rfl (by decide) rfl ?_
      refine ok_iload C 8 dX8_compress_373 rfl ?_
      refine ok_iload C 7 dX8_compress_375 rfl ?_
      refine ok_iadd C dX8_compress_377 ?_
      refine ok_istore_n C (L2 := [(2, .int (((((x9 + ((r45 ^^^ r47) ^^^ r49)) + ((x6 &&& x7) ^^^ ((x6 ^^^ (-1)) &&& x8))) + (u50.1 30 x10.toNatClampNeg)) + (u50.1 29 x10.toNatClampNeg)) + (((r53 ^^^ r55) ^^^ r57) + (((x2 &&& x3) ^^^ (x2 &&& x4)) ^^^ (x3 &&& x4))))), (3, .int x2), (4, .int x3), (5, .int x4), (6, .int (x5 + ((((x9 + ((r45 ^^^ r47) ^^^ r49)) + ((x6 &&& x7) ^^^ ((x6 ^^^ (-1)) &&& x8))) + (u50.1 30 x10.toNatClampNeg)) + (u50.1 29 x10.toNatClampNeg)))), (7, .int x6), (8, .int x7), (9, .int x8), (12, .int (((r53 ^^^ r55) ^^^ r57) + (((x2 &&& x3) ^^^ (x2 &&& x4)) ^^^ (x3 &&& x4)))), (11, .int ((((x9 + ((r45 ^^^ r47) ^^^ r49)) + ((x6 &&& x7) ^^^ ((x6 ^^^ (-1)) &&& x8))) + (u50.1 30 x10.toNatClampNeg)) + (u50.1 29 x10.toNatClampNeg))), (0, .ref (Ω.2.2.1 0)), (10, .int x10)]) dX8_compress_378 rfl (by decide) rfl ?_
      refine ok_iinc C (v := x10 + 1) (L2 := [(10, .int (x10 + 1)), (2, .int (((((x9 + ((r45 ^^^ r47) ^^^ r49)) + ((x6 &&& x7) ^^^ ((x6 ^^^ (-1)) &&& x8))) + (u50.1 30 x10.toNatClampNeg)) + (u50.1 29 x10.toNatClampNeg)) + (((r53 ^^^ r55) ^^^ r57) + (((x2 &&& x3) ^^^ (x2 &&& x4)) ^^^ (x3 &&& x4))))), (3, .int x2), (4, .int x3), (5, .int x4), (6, .int (x5 + ((((x9 + ((r45 ^^^ r47) ^^^ r49)) + ((x6 &&& x7) ^^^ ((x6 ^^^ (-1)) &&& x8))) + (u50.1 30 x10.toNatClampNeg)) + (u50.1 29 x10.toNatClampNeg)))), (7, .int x6), (8, .int x7), (9, .int x8), (12, .int (((r53 ^^^ r55) ^^^ r57) + (((x2 &&& x3) ^^^ (x2 &&& x4)) ^^^ (x3 &&& x4)))), (11, .int ((((x9 + ((r45 ^^^ r47) ^^^ r49)) + ((x6 &&& x7) ^^^ ((x6 ^^^ (-1)) &&& x8))) + (u50.1 30 x10.toNatClampNeg)) + (u50.1 29 x10.toNatClampNeg))), (0, .ref (Ω.2.2.1 0))]) 11 dX8_compress_379 rfl rfl (by decide) rfl ?_
      refine ok_goto C 245 dX8_compress_382 rfl ?_
      refine ok_sub [11, 1, 2, 3, 4, 5, 6, 7, 8, 0] rfl ?_
      exact Eq.mp (gl245 _ _ _ _ _ _ _ _ _ _) h
  have h : f_X8_compress_e x1 L2 L81 L245 Po σ := hvc L2 L81 L245 R2 R81 R245
  unfold f_X8_compress_e at h
  refine ok_sub (L2 := [(0, .ref (Ω.2.2.1 0)), (1, .int x1)]) [0, 1] rfl ?_
  refine ok_iconst C (v := 0) dX8_compress_0 (by decide) ?_
  refine ok_istore_n C (L2 := [(2, .int 0), (0, .ref (Ω.2.2.1 0)), (1, .int x1)]) dX8_compress_1 rfl (by decide) rfl ?_
  refine ok_sub [1, 2, 0] rfl ?_
  exact Eq.mp (gl2 _ _) h
set_option maxRecDepth 100000 in
set_option maxHeartbeats 4000000 in
theorem m_X8_octet {l : Launch} {Ω : Wm} (hk : Hk Ω kM)  (hv : ∀ (x1 : Int32) (σ : Sg) (K : Sg → Prop), sp_X8_octet x1 σ K → vc_X8_octet x1 σ K) : CT_X8_octet l Ω := by
  intro x1 σ Po hsp
  have hvc := hv x1 σ Po hsp
  refine Ct.of (by decide +kernel) (Nat.le_of_ble_eq_true rfl) (fun Γ C => ?_)
  have h : f_X8_octet_e x1 Po σ := hvc  
  unfold f_X8_octet_e at h
  refine ok_sub (L2 := [(0, .ref (Ω.2.2.1 0)), (1, .int x1)]) [0, 1] rfl ?_
  refine ok_aload_n C 0 dX8_octet_0 rfl rfl ?_
  refine ok_getR C (ci := 8) hinX8 (kat hk kM_0) rfl 33 (by decide) W_6_159 (fun _ _ h => h) rfl dX8_octet_1 ?_
  refine ok_aload_n C 0 dX8_octet_4 rfl rfl ?_
  refine ok_dup C dX8_octet_5 rfl ?_
  refine ok_getI C (ci := 8) hinX8 (kat hk kM_0) rfl 36 (by decide) W_6_162 (fun _ _ h => h) rfl dX8_octet_6 ?_
  refine ok_dup_x1 C dX8_octet_9 rfl rfl ?_
  refine ok_iconst C (v := 1) dX8_octet_10 (by decide) ?_
  refine ok_iadd C dX8_octet_11 ?_
  refine ok_putI C (ci := 8) hinX8 (kat hk kM_0) rfl 36 (by decide) W_6_162 (fun _ _ h => h) tyX8 tyX8_ok nmX8 rfl (by decide +kernel) rfl rfl rfl dX8_octet_12 ?_
  refine ok_iload_n C 1 dX8_octet_15 rfl rfl ?_
  refine ok_sipush C (v := 255) dX8_octet_16 (by decide) ?_
  refine ok_iand C dX8_octet_19 ?_
  obtain ⟨g1, h⟩ := h
  refine ok_iast C (kat hk kM_28) g1 dX8_octet_20 ?_
  exact ok_vret C rfl rfl dX8_octet_21 h
set_option maxRecDepth 100000 in
set_option maxHeartbeats 4000000 in
theorem m_X8_four {l : Launch} {Ω : Wm} (hk : Hk Ω kM) (c_X8_octet : CT_X8_octet l Ω) (hv : ∀ (x1 : Int32) (σ : Sg) (K : Sg → Prop), sp_X8_four x1 σ K → vc_X8_four x1 σ K) : CT_X8_four l Ω := by
  intro x1 σ Po hsp
  have hvc := hv x1 σ Po hsp
  refine Ct.of (by decide +kernel) (Nat.le_of_ble_eq_true rfl) (fun Γ C => ?_)
  obtain ⟨L3, gl3⟩ : ∃ L : Int32 → Sg → Prop, ∀ (x2 : Int32) (σ : Sg), L x2 σ = OK Γ Ω 3 3 [(0, .ref (Ω.2.2.1 0)), (1, .int x1), (2, .int x2)] [] σ := ⟨fun x2 σ => OK Γ Ω 3 3 [(0, .ref (Ω.2.2.1 0)), (1, .int x1), (2, .int x2)] [] σ, fun _ _ => rfl⟩
  have R3 : ∀ (x2 : Int32) (σ : Sg), f_X8_four_3 x1 L3 Po x2 σ → L3 x2 σ := by
    intro x2 σ h
    unfold f_X8_four_3 at h
    refine Eq.mpr (gl3 _ _) ?_
    refine ok_iload_n C 2 dX8_four_3 rfl rfl ?_
    obtain ⟨h1, h2⟩ := h
    refine ok_if_lt C 20 dX8_four_4 rfl (fun c3 => ?_) (fun c3 => ?_)
    · have h := h1 c3
      exact ok_vret C rfl rfl dX8_four_20 h
    · have h := h2 c3
      refine ok_aload_n C 0 dX8_four_7 rfl rfl ?_
      refine ok_iload_n C 1 dX8_four_8 rfl rfl ?_
      refine ok_iload_n C 2 dX8_four_9 rfl rfl ?_
      refine ok_ishr C dX8_four_10 ?_
      refine ok_callVv C (As := [.int (ishr x1 x2)]) (rest := []) (q := 0) (ci := 8) (kat hk kM_0) rfl (c_X8_octet  _ _ _ h) W_6_86 W_6_88 W_0_43 W_6_89 W_1_28 hd_X8_octet rfl ⟨Nat.le_of_ble_eq_true rfl, Nat.le_of_ble_eq_true rfl⟩ (Nat.le_of_ble_eq_true rfl) rfl dX8_four_11 (fun u2 h => ?_)
      refine ok_iinc C (v := x2 + (-8)) (L2 := [(2, .int (x2 + (-8))), (0, .ref (Ω.2.2.1 0)), (1, .int x1)]) 2 dX8_four_14 rfl rfl (by decide) rfl ?_
      refine ok_goto C 3 dX8_four_17 rfl ?_
      refine ok_sub [1, 2, 0] rfl ?_
      exact Eq.mp (gl3 _ _) h
  have h : f_X8_four_e x1 L3 Po σ := hvc L3 R3
  unfold f_X8_four_e at h
  refine ok_sub (L2 := [(0, .ref (Ω.2.2.1 0)), (1, .int x1)]) [0, 1] rfl ?_
  refine ok_bipush C (v := 24) dX8_four_0 (by decide) ?_
  refine ok_istore_n C (L2 := [(2, .int 24), (0, .ref (Ω.2.2.1 0)), (1, .int x1)]) dX8_four_2 rfl (by decide) rfl ?_
  refine ok_sub [1, 2, 0] rfl ?_
  exact Eq.mp (gl3 _ _) h
set_option maxRecDepth 100000 in
set_option maxHeartbeats 4000000 in
theorem m_X8_hash {l : Launch} {Ω : Wm} (hk : Hk Ω kM) (c_X8_compress : CT_X8_compress l Ω) (c_X8_four : CT_X8_four l Ω) (c_X8_octet : CT_X8_octet l Ω) (hv : ∀ (x1 : Int32) (σ : Sg) (K : Sg → Prop), sp_X8_hash x1 σ K → vc_X8_hash x1 σ K) : CT_X8_hash l Ω := by
  intro x1 σ Po hsp
  have hvc := hv x1 σ Po hsp
  refine Ct.of (by decide +kernel) (Nat.le_of_ble_eq_true rfl) (fun Γ C => ?_)
  obtain ⟨L17, gl17⟩ : ∃ L : Int32 → Sg → Prop, ∀ (x2 : Int32) (σ : Sg), L x2 σ = OK Γ Ω 4 17 [(0, .ref (Ω.2.2.1 0)), (1, .int x1), (2, .int x2)] [] σ := ⟨fun x2 σ => OK Γ Ω 4 17 [(0, .ref (Ω.2.2.1 0)), (1, .int x1), (2, .int x2)] [] σ, fun _ _ => rfl⟩
  obtain ⟨L64, gl64⟩ : ∃ L : Int32 → Sg → Prop, ∀ (x2 : Int32) (σ : Sg), L x2 σ = OK Γ Ω 4 64 [(0, .ref (Ω.2.2.1 0)), (1, .int x1), (2, .int x2)] [] σ := ⟨fun x2 σ => OK Γ Ω 4 64 [(0, .ref (Ω.2.2.1 0)), (1, .int x1), (2, .int x2)] [] σ, fun _ _ => rfl⟩
  obtain ⟨L146, gl146⟩ : ∃ L : Int32 → Sg → Prop, ∀ (x2 : Int32) (σ : Sg), L x2 σ = OK Γ Ω 4 146 [(0, .ref (Ω.2.2.1 0)), (1, .int x1), (2, .int x2)] [] σ := ⟨fun x2 σ => OK Γ Ω 4 146 [(0, .ref (Ω.2.2.1 0)), (1, .int x1), (2, .int x2)] [] σ, fun _ _ => rfl⟩
  obtain ⟨L205, gl205⟩ : ∃ L : Int32 → Sg → Prop, ∀ (x2 : Int32) (σ : Sg), L x2 σ = OK Γ Ω 4 205 [(0, .ref (Ω.2.2.1 0)), (1, .int x1), (2, .int x2)] [] σ := ⟨fun x2 σ => OK Γ Ω 4 205 [(0, .ref (Ω.2.2.1 0)), (1, .int x1), (2, .int x2)] [] σ, fun _ _ => rfl⟩
  obtain ⟨L229, gl229⟩ : ∃ L : Int32 → Sg → Prop, ∀ (x3 : Int32) (σ : Sg), L x3 σ = OK Γ Ω 4 229 [(0, .ref (Ω.2.2.1 0)), (1, .int x1), (3, .int x3)] [] σ := ⟨fun x3 σ => OK Γ Ω 4 229 [(0, .ref (Ω.2.2.1 0)), (1, .int x1), (3, .int x3)] [] σ, fun _ _ => rfl⟩
  obtain ⟨L255, gl255⟩ : ∃ L : Int32 → Sg → Prop, ∀ (x3 : Int32) (σ : Sg), L x3 σ = OK Γ Ω 4 255 [(0, .ref (Ω.2.2.1 0)), (1, .int x1), (3, .int x3)] [] σ := ⟨fun x3 σ => OK Γ Ω 4 255 [(0, .ref (Ω.2.2.1 0)), (1, .int x1), (3, .int x3)] [] σ, fun _ _ => rfl⟩
  obtain ⟨L275, gl275⟩ : ∃ L : Int32 → Sg → Prop, ∀ (x3 : Int32) (σ : Sg), L x3 σ = OK Γ Ω 4 275 [(0, .ref (Ω.2.2.1 0)), (1, .int x1), (3, .int x3)] [] σ := ⟨fun x3 σ => OK Γ Ω 4 275 [(0, .ref (Ω.2.2.1 0)), (1, .int x1), (3, .int x3)] [] σ, fun _ _ => rfl⟩
  have J100 : ∀ (x2 : Int32) (s0 : Int32) (σ : Sg), f_X8_hash_100 x1 L17 L64 L146 L205 L229 L255 L275 Po x2 s0 σ → OK Γ Ω 4 100 [(0, .ref (Ω.2.2.1 0)), (1, .int x1), (2, .int x2)] [.int s0, .ref (Ω.2.2.1 0)] σ := by
    intro x2 s0 σ h
    unfold f_X8_hash_100 at h
    refine ok_callVv C (As := [.int s0]) (rest := []) (q := 0) (ci := 8) (kat hk kM_0) rfl (c_X8_four  _ _ _ h) W_6_90 W_6_92 W_0_44 W_6_93 W_1_28 hd_X8_four rfl ⟨Nat.le_of_ble_eq_true rfl, Nat.le_of_ble_eq_true rfl⟩ (Nat.le_of_ble_eq_true rfl) rfl dX8_hash_100 (fun u26 h => ?_)
    refine ok_iinc C (v := x2 + 1) (L2 := [(2, .int (x2 + 1)), (0, .ref (Ω.2.2.1 0)), (1, .int x1)]) 2 dX8_hash_103 rfl rfl (by decide) rfl ?_
    refine ok_goto C 64 dX8_hash_106 rfl ?_
    refine ok_sub [1, 2, 0] rfl ?_
    exact Eq.mp (gl64 _ _) h
  have J53 : ∀ (x2 : Int32) (s0 : Int32) (σ : Sg), f_X8_hash_53 x1 L17 L64 L146 L205 L229 L255 L275 Po x2 s0 σ → OK Γ Ω 4 53 [(0, .ref (Ω.2.2.1 0)), (1, .int x1), (2, .int x2)] [.int s0, .ref (Ω.2.2.1 0)] σ := by
    intro x2 s0 σ h
    unfold f_X8_hash_53 at h
    refine ok_callVv C (As := [.int s0]) (rest := []) (q := 0) (ci := 8) (kat hk kM_0) rfl (c_X8_four  _ _ _ h) W_6_90 W_6_92 W_0_44 W_6_93 W_1_28 hd_X8_four rfl ⟨Nat.le_of_ble_eq_true rfl, Nat.le_of_ble_eq_true rfl⟩ (Nat.le_of_ble_eq_true rfl) rfl dX8_hash_53 (fun u10 h => ?_)
    refine ok_iinc C (v := x2 + 1) (L2 := [(2, .int (x2 + 1)), (0, .ref (Ω.2.2.1 0)), (1, .int x1)]) 2 dX8_hash_56 rfl rfl (by decide) rfl ?_
    refine ok_goto C 17 dX8_hash_59 rfl ?_
    refine ok_sub [1, 2, 0] rfl ?_
    exact Eq.mp (gl17 _ _) h
  have R17 : ∀ (x2 : Int32) (σ : Sg), f_X8_hash_17 x1 L17 L64 L146 L205 L229 L255 L275 Po x2 σ → L17 x2 σ := by
    intro x2 σ h
    unfold f_X8_hash_17 at h
    refine Eq.mpr (gl17 _ _) ?_
    refine ok_iload_n C 2 dX8_hash_17 rfl rfl ?_
    refine ok_bipush C (v := 8) dX8_hash_18 (by decide) ?_
    obtain ⟨h1, h2⟩ := h
    refine ok_icmp_ge C 62 dX8_hash_20 rfl (fun c8 => ?_) (fun c8 => ?_)
    · have h := h1 c8
      refine ok_iconst C (v := 0) dX8_hash_62 (by decide) ?_
      refine ok_istore_n C (L2 := [(2, .int 0), (0, .ref (Ω.2.2.1 0)), (1, .int x1)]) dX8_hash_63 rfl (by decide) rfl ?_
      refine ok_sub [1, 2, 0] rfl ?_
      exact Eq.mp (gl64 _ _) h
    · have h := h2 c8
      refine ok_aload_n C 0 dX8_hash_23 rfl rfl ?_
      refine ok_aload_n C 0 dX8_hash_24 rfl rfl ?_
      refine ok_getR C (ci := 8) hinX8 (kat hk kM_0) rfl 4 (by decide) W_6_130 (fun _ _ h => h) rfl dX8_hash_25 ?_
      refine ok_iload_n C 1 dX8_hash_28 rfl rfl ?_
      obtain ⟨g4, h⟩ := h
      refine ok_iald C (kat hk kM_2) g4 dX8_hash_29 ?_
      obtain ⟨h1, h2⟩ := h
      refine ok_if_ge C 37 dX8_hash_30 rfl (fun c7 => ?_) (fun c7 => ?_)
      · have h := h1 c7
        refine ok_aload_n C 0 dX8_hash_37 rfl rfl ?_
        refine ok_getR C (ci := 8) hinX8 (kat hk kM_0) rfl 10 (by decide) W_6_136 (fun _ _ h => h) rfl dX8_hash_38 ?_
        refine ok_bipush C (v := 8) dX8_hash_41 (by decide) ?_
        refine ok_aload_n C 0 dX8_hash_43 rfl rfl ?_
        refine ok_getR C (ci := 8) hinX8 (kat hk kM_0) rfl 4 (by decide) W_6_130 (fun _ _ h => h) rfl dX8_hash_44 ?_
        refine ok_iload_n C 1 dX8_hash_47 rfl rfl ?_
        obtain ⟨g5, h⟩ := h
        refine ok_iald C (kat hk kM_2) g5 dX8_hash_48 ?_
        refine ok_imul C dX8_hash_49 ?_
        refine ok_iload_n C 2 dX8_hash_50 rfl rfl ?_
        refine ok_iadd C dX8_hash_51 ?_
        obtain ⟨g6, h⟩ := h
        refine ok_iald C (kat hk kM_8) g6 dX8_hash_52 ?_
        refine ok_sub [0, 1, 2] rfl ?_
        exact J53 _ _ _ h
      · have h := h2 c7
        refine ok_iconst C (v := 0) dX8_hash_33 (by decide) ?_
        refine ok_goto C 53 dX8_hash_34 rfl ?_
        refine ok_sub [0, 1, 2] rfl ?_
        exact J53 _ _ _ h
  have R64 : ∀ (x2 : Int32) (σ : Sg), f_X8_hash_64 x1 L17 L64 L146 L205 L229 L255 L275 Po x2 σ → L64 x2 σ := by
    intro x2 σ h
    unfold f_X8_hash_64 at h
    refine Eq.mpr (gl64 _ _) ?_
    refine ok_iload_n C 2 dX8_hash_64 rfl rfl ?_
    refine ok_bipush C (v := 8) dX8_hash_65 (by decide) ?_
    obtain ⟨h1, h2⟩ := h
    refine ok_icmp_ge C 109 dX8_hash_67 rfl (fun c24 => ?_) (fun c24 => ?_)
    · have h := h1 c24
      refine ok_aload_n C 0 dX8_hash_109 rfl rfl ?_
      refine ok_aload_n C 0 dX8_hash_110 rfl rfl ?_
      refine ok_getR C (ci := 8) hinX8 (kat hk kM_0) rfl 15 (by decide) W_6_141 (fun _ _ h => h) rfl dX8_hash_111 ?_
      refine ok_iload_n C 1 dX8_hash_114 rfl rfl ?_
      obtain ⟨g11, h⟩ := h
      refine ok_lald C (kat hk kM_13) g11 dX8_hash_115 ?_
      refine ok_bipush C (v := 32) dX8_hash_116 (by decide) ?_
      refine ok_lshr C dX8_hash_118 ?_
      refine ok_l2i C dX8_hash_119 ?_
      refine ok_callVv C (As := [.int ((lshr (σ.2 13 x1.toNatClampNeg) 32).toInt32)]) (rest := []) (q := 0) (ci := 8) (kat hk kM_0) rfl (c_X8_four  _ _ _ h) W_6_90 W_6_92 W_0_44 W_6_93 W_1_28 hd_X8_four rfl ⟨Nat.le_of_ble_eq_true rfl, Nat.le_of_ble_eq_true rfl⟩ (Nat.le_of_ble_eq_true rfl) rfl dX8_hash_120 (fun u13 h => ?_)
      refine ok_aload_n C 0 dX8_hash_123 rfl rfl ?_
      refine ok_aload_n C 0 dX8_hash_124 rfl rfl ?_
      refine ok_getR C (ci := 8) hinX8 (kat hk kM_0) rfl 15 (by decide) W_6_141 (fun _ _ h => h) rfl dX8_hash_125 ?_
      refine ok_iload_n C 1 dX8_hash_128 rfl rfl ?_
      obtain ⟨g14, h⟩ := h
      refine ok_lald C (kat hk kM_13) g14 dX8_hash_129 ?_
      refine ok_l2i C dX8_hash_130 ?_
      refine ok_callVv C (As := [.int ((u13.2 13 x1.toNatClampNeg).toInt32)]) (rest := []) (q := 0) (ci := 8) (kat hk kM_0) rfl (c_X8_four  _ _ _ h) W_6_90 W_6_92 W_0_44 W_6_93 W_1_28 hd_X8_four rfl ⟨Nat.le_of_ble_eq_true rfl, Nat.le_of_ble_eq_true rfl⟩ (Nat.le_of_ble_eq_true rfl) rfl dX8_hash_131 (fun u16 h => ?_)
      refine ok_aload_n C 0 dX8_hash_134 rfl rfl ?_
      refine ok_aload_n C 0 dX8_hash_135 rfl rfl ?_
      refine ok_getR C (ci := 8) hinX8 (kat hk kM_0) rfl 6 (by decide) W_6_132 (fun _ _ h => h) rfl dX8_hash_136 ?_
      refine ok_iload_n C 1 dX8_hash_139 rfl rfl ?_
      obtain ⟨g17, h⟩ := h
      refine ok_iald C (kat hk kM_4) g17 dX8_hash_140 ?_
      refine ok_callVv C (As := [.int (u16.1 4 x1.toNatClampNeg)]) (rest := []) (q := 0) (ci := 8) (kat hk kM_0) rfl (c_X8_octet  _ _ _ h) W_6_86 W_6_88 W_0_43 W_6_89 W_1_28 hd_X8_octet rfl ⟨Nat.le_of_ble_eq_true rfl, Nat.le_of_ble_eq_true rfl⟩ (Nat.le_of_ble_eq_true rfl) rfl dX8_hash_141 (fun u19 h => ?_)
      refine ok_iconst C (v := 0) dX8_hash_144 (by decide) ?_
      refine ok_istore_n C (L2 := [(2, .int 0), (0, .ref (Ω.2.2.1 0)), (1, .int x1)]) dX8_hash_145 rfl (by decide) rfl ?_
      refine ok_sub [1, 2, 0] rfl ?_
      exact Eq.mp (gl146 _ _) h
    · have h := h2 c24
      refine ok_aload_n C 0 dX8_hash_70 rfl rfl ?_
      refine ok_aload_n C 0 dX8_hash_71 rfl rfl ?_
      refine ok_getR C (ci := 8) hinX8 (kat hk kM_0) rfl 5 (by decide) W_6_131 (fun _ _ h => h) rfl dX8_hash_72 ?_
      refine ok_iload_n C 1 dX8_hash_75 rfl rfl ?_
      obtain ⟨g20, h⟩ := h
      refine ok_iald C (kat hk kM_3) g20 dX8_hash_76 ?_
      obtain ⟨h1, h2⟩ := h
      refine ok_if_ge C 84 dX8_hash_77 rfl (fun c23 => ?_) (fun c23 => ?_)
      · have h := h1 c23
        refine ok_aload_n C 0 dX8_hash_84 rfl rfl ?_
        refine ok_getR C (ci := 8) hinX8 (kat hk kM_0) rfl 10 (by decide) W_6_136 (fun _ _ h => h) rfl dX8_hash_85 ?_
        refine ok_bipush C (v := 8) dX8_hash_88 (by decide) ?_
        refine ok_aload_n C 0 dX8_hash_90 rfl rfl ?_
        refine ok_getR C (ci := 8) hinX8 (kat hk kM_0) rfl 5 (by decide) W_6_131 (fun _ _ h => h) rfl dX8_hash_91 ?_
        refine ok_iload_n C 1 dX8_hash_94 rfl rfl ?_
        obtain ⟨g21, h⟩ := h
        refine ok_iald C (kat hk kM_3) g21 dX8_hash_95 ?_
        refine ok_imul C dX8_hash_96 ?_
        refine ok_iload_n C 2 dX8_hash_97 rfl rfl ?_
        refine ok_iadd C dX8_hash_98 ?_
        obtain ⟨g22, h⟩ := h
        refine ok_iald C (kat hk kM_8) g22 dX8_hash_99 ?_
        refine ok_sub [0, 1, 2] rfl ?_
        exact J100 _ _ _ h
      · have h := h2 c23
        refine ok_iconst C (v := 0) dX8_hash_80 (by decide) ?_
        refine ok_goto C 100 dX8_hash_81 rfl ?_
        refine ok_sub [0, 1, 2] rfl ?_
        exact J100 _ _ _ h
  have R146 : ∀ (x2 : Int32) (σ : Sg), f_X8_hash_146 x1 L17 L64 L146 L205 L229 L255 L275 Po x2 σ → L146 x2 σ := by
    intro x2 σ h
    unfold f_X8_hash_146 at h
    refine Eq.mpr (gl146 _ _) ?_
    refine ok_iload_n C 2 dX8_hash_146 rfl rfl ?_
    refine ok_aload_n C 0 dX8_hash_147 rfl rfl ?_
    refine ok_getR C (ci := 8) hinX8 (kat hk kM_0) rfl 6 (by decide) W_6_132 (fun _ _ h => h) rfl dX8_hash_148 ?_
    refine ok_iload_n C 1 dX8_hash_151 rfl rfl ?_
    obtain ⟨g27, h⟩ := h
    refine ok_iald C (kat hk kM_4) g27 dX8_hash_152 ?_
    obtain ⟨h1, h2⟩ := h
    refine ok_icmp_ge C 190 dX8_hash_153 rfl (fun c36 => ?_) (fun c36 => ?_)
    · have h := h1 c36
      refine ok_bipush C (v := 8) dX8_hash_190 (by decide) ?_
      refine ok_aload_n C 0 dX8_hash_192 rfl rfl ?_
      refine ok_getI C (ci := 8) hinX8 (kat hk kM_0) rfl 36 (by decide) W_6_162 (fun _ _ h => h) rfl dX8_hash_193 ?_
      refine ok_imul C dX8_hash_196 ?_
      refine ok_istore_n C (L2 := [(2, .int (8 * (σ.1 0 36))), (0, .ref (Ω.2.2.1 0)), (1, .int x1)]) dX8_hash_197 rfl (by decide) rfl ?_
      refine ok_aload_n C 1 dX8_hash_198 rfl rfl ?_
      refine ok_sipush C (v := 128) dX8_hash_199 (by decide) ?_
      refine ok_callVv C (As := [.int 128]) (rest := []) (q := 0) (ci := 8) (kat hk kM_0) rfl (c_X8_octet  _ _ _ h) W_6_86 W_6_88 W_0_43 W_6_89 W_1_28 hd_X8_octet rfl ⟨Nat.le_of_ble_eq_true rfl, Nat.le_of_ble_eq_true rfl⟩ (Nat.le_of_ble_eq_true rfl) rfl dX8_hash_202 (fun u29 h => ?_)
      refine ok_sub [1, 2, 0] rfl ?_
      exact Eq.mp (gl205 _ _) h
    · have h := h2 c36
      refine ok_aload_n C 0 dX8_hash_156 rfl rfl ?_
      refine ok_aload_n C 0 dX8_hash_157 rfl rfl ?_
      refine ok_getR C (ci := 8) hinX8 (kat hk kM_0) rfl 7 (by decide) W_6_133 (fun _ _ h => h) rfl dX8_hash_158 ?_
      refine ok_iconst C (v := 3) dX8_hash_161 (by decide) ?_
      refine ok_iload_n C 1 dX8_hash_162 rfl rfl ?_
      refine ok_imul C dX8_hash_163 ?_
      refine ok_iload_n C 2 dX8_hash_164 rfl rfl ?_
      refine ok_iadd C dX8_hash_165 ?_
      obtain ⟨g30, h⟩ := h
      refine ok_iald C (kat hk kM_5) g30 dX8_hash_166 ?_
      refine ok_callVv C (As := [.int (σ.1 5 ((3 * x1) + x2).toNatClampNeg)]) (rest := []) (q := 0) (ci := 8) (kat hk kM_0) rfl (c_X8_octet  _ _ _ h) W_6_86 W_6_88 W_0_43 W_6_89 W_1_28 hd_X8_octet rfl ⟨Nat.le_of_ble_eq_true rfl, Nat.le_of_ble_eq_true rfl⟩ (Nat.le_of_ble_eq_true rfl) rfl dX8_hash_167 (fun u32 h => ?_)
      refine ok_aload_n C 0 dX8_hash_170 rfl rfl ?_
      refine ok_aload_n C 0 dX8_hash_171 rfl rfl ?_
      refine ok_getR C (ci := 8) hinX8 (kat hk kM_0) rfl 8 (by decide) W_6_134 (fun _ _ h => h) rfl dX8_hash_172 ?_
      refine ok_iconst C (v := 3) dX8_hash_175 (by decide) ?_
      refine ok_iload_n C 1 dX8_hash_176 rfl rfl ?_
      refine ok_imul C dX8_hash_177 ?_
      refine ok_iload_n C 2 dX8_hash_178 rfl rfl ?_
      refine ok_iadd C dX8_hash_179 ?_
      obtain ⟨g33, h⟩ := h
      refine ok_iald C (kat hk kM_6) g33 dX8_hash_180 ?_
      refine ok_callVv C (As := [.int (u32.1 6 ((3 * x1) + x2).toNatClampNeg)]) (rest := []) (q := 0) (ci := 8) (kat hk kM_0) rfl (c_X8_four  _ _ _ h) W_6_90 W_6_92 W_0_44 W_6_93 W_1_28 hd_X8_four rfl ⟨Nat.le_of_ble_eq_true rfl, Nat.le_of_ble_eq_true rfl⟩ (Nat.le_of_ble_eq_true rfl) rfl dX8_hash_181 (fun u35 h => ?_)
      refine ok_iinc C (v := x2 + 1) (L2 := [(2, .int (x2 + 1)), (0, .ref (Ω.2.2.1 0)), (1, .int x1)]) 2 dX8_hash_184 rfl rfl (by decide) rfl ?_
      refine ok_goto C 146 dX8_hash_187 rfl ?_
      refine ok_sub [1, 2, 0] rfl ?_
      exact Eq.mp (gl146 _ _) h
  have R205 : ∀ (x2 : Int32) (σ : Sg), f_X8_hash_205 x1 L17 L64 L146 L205 L229 L255 L275 Po x2 σ → L205 x2 σ := by
    intro x2 σ h
    unfold f_X8_hash_205 at h
    refine Eq.mpr (gl205 _ _) ?_
    refine ok_aload_n C 0 dX8_hash_205 rfl rfl ?_
    refine ok_getI C (ci := 8) hinX8 (kat hk kM_0) rfl 36 (by decide) W_6_162 (fun _ _ h => h) rfl dX8_hash_206 ?_
    refine ok_bipush C (v := 124) dX8_hash_209 (by decide) ?_
    obtain ⟨h1, h2⟩ := h
    refine ok_icmp_ge C 222 dX8_hash_211 rfl (fun c41 => ?_) (fun c41 => ?_)
    · have h := h1 c41
      refine ok_aload_n C 0 dX8_hash_222 rfl rfl ?_
      refine ok_iload_n C 2 dX8_hash_223 rfl rfl ?_
      refine ok_callVv C (As := [.int x2]) (rest := []) (q := 0) (ci := 8) (kat hk kM_0) rfl (c_X8_four  _ _ _ h) W_6_90 W_6_92 W_0_44 W_6_93 W_1_28 hd_X8_four rfl ⟨Nat.le_of_ble_eq_true rfl, Nat.le_of_ble_eq_true rfl⟩ (Nat.le_of_ble_eq_true rfl) rfl dX8_hash_224 (fun u38 h => ?_)
      refine ok_iconst C (v := 0) dX8_hash_227 (by decide) ?_
      refine ok_istore_n C (L2 := [(3, .int 0), (0, .ref (Ω.2.2.1 0)), (1, .int x1), (2, .int x2)]) dX8_hash_228 rfl (by decide) rfl ?_
      refine ok_sub [1, 2, 0] rfl ?_
      exact Eq.mp (gl229 _ _) h
    · have h := h2 c41
      refine ok_aload_n C 0 dX8_hash_214 rfl rfl ?_
      refine ok_iconst C (v := 0) dX8_hash_215 (by decide) ?_
      refine ok_callVv C (As := [.int 0]) (rest := []) (q := 0) (ci := 8) (kat hk kM_0) rfl (c_X8_octet  _ _ _ h) W_6_86 W_6_88 W_0_43 W_6_89 W_1_28 hd_X8_octet rfl ⟨Nat.le_of_ble_eq_true rfl, Nat.le_of_ble_eq_true rfl⟩ (Nat.le_of_ble_eq_true rfl) rfl dX8_hash_216 (fun u40 h => ?_)
      refine ok_goto C 205 dX8_hash_219 rfl ?_
      refine ok_sub [0, 1, 2] rfl ?_
      exact Eq.mp (gl205 _ _) h
  have R229 : ∀ (x3 : Int32) (σ : Sg), f_X8_hash_229 x1 L17 L64 L146 L205 L229 L255 L275 Po x3 σ → L229 x3 σ := by
    intro x3 σ h
    unfold f_X8_hash_229 at h
    refine Eq.mpr (gl229 _ _) ?_
    refine ok_iload_n C 2 dX8_hash_229 rfl rfl ?_
    refine ok_bipush C (v := 8) dX8_hash_230 (by decide) ?_
    obtain ⟨h1, h2⟩ := h
    refine ok_icmp_ge C 253 dX8_hash_232 rfl (fun c44 => ?_) (fun c44 => ?_)
    · have h := h1 c44
      refine ok_iconst C (v := 0) dX8_hash_253 (by decide) ?_
      refine ok_istore_n C (L2 := [(3, .int 0), (0, .ref (Ω.2.2.1 0)), (1, .int x1)]) dX8_hash_254 rfl (by decide) rfl ?_
      refine ok_sub [1, 2, 0] rfl ?_
      exact Eq.mp (gl255 _ _) h
    · have h := h2 c44
      refine ok_aload_n C 0 dX8_hash_235 rfl rfl ?_
      refine ok_getR C (ci := 8) hinX8 (kat hk kM_0) rfl 37 (by decide) W_6_163 (fun _ _ h => h) rfl dX8_hash_236 ?_
      refine ok_iload_n C 2 dX8_hash_239 rfl rfl ?_
      refine ok_aload_n C 0 dX8_hash_240 rfl rfl ?_
      refine ok_getR C (ci := 8) hinX8 (kat hk kM_0) rfl 38 (by decide) W_6_164 (fun _ _ h => h) rfl dX8_hash_241 ?_
      refine ok_iload_n C 2 dX8_hash_244 rfl rfl ?_
      obtain ⟨g42, h⟩ := h
      refine ok_iald C (kat hk kM_32) g42 dX8_hash_245 ?_
      obtain ⟨g43, h⟩ := h
      refine ok_iast C (kat hk kM_31) g43 dX8_hash_246 ?_
      refine ok_iinc C (v := x3 + 1) (L2 := [(3, .int (x3 + 1)), (0, .ref (Ω.2.2.1 0)), (1, .int x1)]) 2 dX8_hash_247 rfl rfl (by decide) rfl ?_
      refine ok_goto C 229 dX8_hash_250 rfl ?_
      refine ok_sub [1, 2, 0] rfl ?_
      exact Eq.mp (gl229 _ _) h
  have R255 : ∀ (x3 : Int32) (σ : Sg), f_X8_hash_255 x1 L17 L64 L146 L205 L229 L255 L275 Po x3 σ → L255 x3 σ := by
    intro x3 σ h
    unfold f_X8_hash_255 at h
    refine Eq.mpr (gl255 _ _) ?_
    refine ok_iload_n C 2 dX8_hash_255 rfl rfl ?_
    refine ok_sipush C (v := 128) dX8_hash_256 (by decide) ?_
    obtain ⟨h1, h2⟩ := h
    refine ok_icmp_ge C 273 dX8_hash_259 rfl (fun c47 => ?_) (fun c47 => ?_)
    · have h := h1 c47
      refine ok_iconst C (v := 0) dX8_hash_273 (by decide) ?_
      refine ok_istore_n C (L2 := [(3, .int 0), (0, .ref (Ω.2.2.1 0)), (1, .int x1)]) dX8_hash_274 rfl (by decide) rfl ?_
      refine ok_sub [1, 2, 0] rfl ?_
      exact Eq.mp (gl275 _ _) h
    · have h := h2 c47
      refine ok_aload_n C 0 dX8_hash_262 rfl rfl ?_
      refine ok_iload_n C 2 dX8_hash_263 rfl rfl ?_
      refine ok_callVv C (As := [.int x3]) (rest := []) (q := 0) (ci := 8) (kat hk kM_0) rfl (c_X8_compress  _ _ _ h) W_6_94 W_6_96 W_0_45 W_6_97 W_1_28 hd_X8_compress rfl ⟨Nat.le_of_ble_eq_true rfl, Nat.le_of_ble_eq_true rfl⟩ (Nat.le_of_ble_eq_true rfl) rfl dX8_hash_264 (fun u46 h => ?_)
      refine ok_iinc C (v := x3 + 64) (L2 := [(3, .int (x3 + 64)), (0, .ref (Ω.2.2.1 0)), (1, .int x1)]) 2 dX8_hash_267 rfl rfl (by decide) rfl ?_
      refine ok_goto C 255 dX8_hash_270 rfl ?_
      refine ok_sub [1, 2, 0] rfl ?_
      exact Eq.mp (gl255 _ _) h
  have R275 : ∀ (x3 : Int32) (σ : Sg), f_X8_hash_275 x1 L17 L64 L146 L205 L229 L255 L275 Po x3 σ → L275 x3 σ := by
    intro x3 σ h
    unfold f_X8_hash_275 at h
    refine Eq.mpr (gl275 _ _) ?_
    refine ok_iload_n C 2 dX8_hash_275 rfl rfl ?_
    refine ok_bipush C (v := 8) dX8_hash_276 (by decide) ?_
    obtain ⟨h1, h2⟩ := h
    refine ok_icmp_ge C 304 dX8_hash_278 rfl (fun c50 => ?_) (fun c50 => ?_)
    · have h := h1 c50
      exact ok_vret C rfl rfl dX8_hash_304 h
    · have h := h2 c50
      refine ok_aload_n C 0 dX8_hash_281 rfl rfl ?_
      refine ok_getR C (ci := 8) hinX8 (kat hk kM_0) rfl 10 (by decide) W_6_136 (fun _ _ h => h) rfl dX8_hash_282 ?_
      refine ok_bipush C (v := 8) dX8_hash_285 (by decide) ?_
      refine ok_iload_n C 1 dX8_hash_287 rfl rfl ?_
      refine ok_imul C dX8_hash_288 ?_
      refine ok_iload_n C 2 dX8_hash_289 rfl rfl ?_
      refine ok_iadd C dX8_hash_290 ?_
      refine ok_aload_n C 0 dX8_hash_291 rfl rfl ?_
      refine ok_getR C (ci := 8) hinX8 (kat hk kM_0) rfl 37 (by decide) W_6_163 (fun _ _ h => h) rfl dX8_hash_292 ?_
      refine ok_iload_n C 2 dX8_hash_295 rfl rfl ?_
      obtain ⟨g48, h⟩ := h
      refine ok_iald C (kat hk kM_31) g48 dX8_hash_296 ?_
      obtain ⟨g49, h⟩ := h
      refine ok_iast C (kat hk kM_8) g49 dX8_hash_297 ?_
      refine ok_iinc C (v := x3 + 1) (L2 := [(3, .int (x3 + 1)), (0, .ref (Ω.2.2.1 0)), (1, .int x1)]) 2 dX8_hash_298 rfl rfl (by decide) rfl ?_
      refine ok_goto C 275 dX8_hash_301 rfl ?_
      refine ok_sub [1, 2, 0] rfl ?_
      exact Eq.mp (gl275 _ _) h
  have h : f_X8_hash_e x1 L17 L64 L146 L205 L229 L255 L275 Po σ := hvc L17 L64 L146 L205 L229 L255 L275 R17 R64 R146 R205 R229 R255 R275
  unfold f_X8_hash_e at h
  refine ok_sub (L2 := [(0, .ref (Ω.2.2.1 0)), (1, .int x1)]) [0, 1] rfl ?_
  refine ok_aload_n C 0 dX8_hash_0 rfl rfl ?_
  refine ok_iconst C (v := 0) dX8_hash_1 (by decide) ?_
  refine ok_putI C (ci := 8) hinX8 (kat hk kM_0) rfl 36 (by decide) W_6_162 (fun _ _ h => h) tyX8 tyX8_ok nmX8 rfl (by decide +kernel) rfl rfl rfl dX8_hash_2 ?_
  refine ok_aload_n C 0 dX8_hash_5 rfl rfl ?_
  refine ok_aload_n C 0 dX8_hash_6 rfl rfl ?_
  refine ok_getR C (ci := 8) hinX8 (kat hk kM_0) rfl 3 (by decide) W_6_129 (fun _ _ h => h) rfl dX8_hash_7 ?_
  refine ok_iload_n C 1 dX8_hash_10 rfl rfl ?_
  obtain ⟨g1, h⟩ := h
  refine ok_iald C (kat hk kM_1) g1 dX8_hash_11 ?_
  refine ok_callVv C (As := [.int ((pI σ 0 36 0).1 1 x1.toNatClampNeg)]) (rest := []) (q := 0) (ci := 8) (kat hk kM_0) rfl (c_X8_octet  _ _ _ h) W_6_86 W_6_88 W_0_43 W_6_89 W_1_28 hd_X8_octet rfl ⟨Nat.le_of_ble_eq_true rfl, Nat.le_of_ble_eq_true rfl⟩ (Nat.le_of_ble_eq_true rfl) rfl dX8_hash_12 (fun u3 h => ?_)
  refine ok_iconst C (v := 0) dX8_hash_15 (by decide) ?_
  refine ok_istore_n C (L2 := [(2, .int 0), (0, .ref (Ω.2.2.1 0)), (1, .int x1)]) dX8_hash_16 rfl (by decide) rfl ?_
  refine ok_sub [1, 2, 0] rfl ?_
  exact Eq.mp (gl17 _ _) h
