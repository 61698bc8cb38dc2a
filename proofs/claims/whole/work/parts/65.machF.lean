set_option maxRecDepth 100000 in
set_option maxHeartbeats 4000000 in
theorem m_X7_give {l : Launch} {Ω : Wm} (hk : Hk Ω kD) (c_X0_put : CT_X0_put l Ω) (hv : ∀ (x1 : Int32) (x2 : Int32) (σ : Sg) (K : Sg → Prop), sp_X7_give x1 x2 σ K → vc_X7_give x1 x2 σ K) : CT_X7_give l Ω := by
  intro x1 x2 σ Po hsp
  have hvc := hv x1 x2 σ Po hsp
  refine Ct.of (by decide +kernel) (Nat.le_of_ble_eq_true rfl) (fun Γ C => ?_)
  have h : f_X7_give_e x1 x2 Po σ := hvc  
  unfold f_X7_give_e at h
  refine ok_sub (L2 := [(0, .ref (Ω.2.2.1 0)), (1, .int x1), (2, .int x2)]) [0, 1, 2] rfl ?_
  refine ok_aload_n C 0 dX7_give_0 rfl rfl ?_
  refine ok_getR C (ci := 7) hinX7 (kat hk kD_0) rfl 1 (by decide) W_4_158 (fun _ _ h => h) rfl dX7_give_1 ?_
  refine ok_getRN C (ci := 2) hinX2 (kat hk kD_7) rfl 9 (by decide) nbf_15 (fun _ _ h => h) rfl dX7_give_4 ?_
  refine ok_iload_n C 2 dX7_give_7 rfl rfl ?_
  refine ok_iload_n C 1 dX7_give_8 rfl rfl ?_
  refine ok_callVv C (As := [.int x2, .int x1]) (rest := []) (q := 20) (ci := 0) (kat hk kD_20) rfl (c_X0_put 20 32 bt_20 _ _ _ _ h) W_4_156 W_4_60 W_4_61 W_4_62 W_1_5 hd_X0_put rfl ⟨Nat.le_of_ble_eq_true rfl, Nat.le_of_ble_eq_true rfl⟩ (Nat.le_of_ble_eq_true rfl) rfl dX7_give_9 (fun u2 h => ?_)
  refine ok_aload_n C 0 dX7_give_12 rfl rfl ?_
  refine ok_getR C (ci := 7) hinX7 (kat hk kD_0) rfl 4 (by decide) W_4_161 (fun _ _ h => h) rfl dX7_give_13 ?_
  refine ok_iload_n C 2 dX7_give_16 rfl rfl ?_
  obtain ⟨g3, h⟩ := h
  refine ok_aald C (kat hk kD_1) g3 (vw_el g3) dX7_give_17 ?_
  refine ok_iconst C (v := 1) dX7_give_18 (by decide) ?_
  obtain ⟨hV4, h⟩ := h
  refine ok_putIN C (ci := 5) hinX5 (kat hk (vw_0 hV4)) rfl 17 (by decide) nbf_42 (fun _ _ h => h) tyX5 tyX5_ok nmX5 rfl (by decide +kernel) (bz_n isZ_1) (bz_f isZ_1) rfl dX7_give_19 ?_
  exact ok_vret C rfl rfl dX7_give_22 h
set_option maxRecDepth 100000 in
set_option maxHeartbeats 4000000 in
theorem m_X7_makeEvent {l : Launch} {Ω : Wm} (hk : Hk Ω kD) (c_X1_take : CT_X1_take l Ω) (c_X2_addTransaction : CT_X2_addTransaction l Ω) (c_X2_close : CT_X2_close l Ω) (c_X2_open : CT_X2_open l Ω) (c_X3_take : CT_X3_take l Ω) (c_X6_dropFirst : CT_X6_dropFirst l Ω) (c_X6_firstAmount : CT_X6_firstAmount l Ω) (c_X6_firstTo : CT_X6_firstTo l Ω) (hv : ∀ (x1 : Int32) (x2 : Int32) (x3 : Int32) (x4 : Int64) (x6 : Int32) (σ : Sg) (K : Int32 → Sg → Prop), sp_X7_makeEvent x1 x2 x3 x4 x6 σ K → vc_X7_makeEvent x1 x2 x3 x4 x6 σ K) : CT_X7_makeEvent l Ω := by
  intro x1 x2 x3 x4 x6 σ Po hsp
  have hvc := hv x1 x2 x3 x4 x6 σ Po hsp
  refine Ct.of (by decide +kernel) (Nat.le_of_ble_eq_true rfl) (fun Γ C => ?_)
  obtain ⟨L17, gl17⟩ : ∃ L : Int32 → Int32 → Sg → Prop, ∀ (x7 : Int32) (x8 : Int32) (σ : Sg), L x7 x8 σ = OK Γ Ω 9 17 [(0, .ref (Ω.2.2.1 0)), (1, .int x1), (6, .int x6), (7, .int x7), (8, .int x8)] [] σ := ⟨fun x7 x8 σ => OK Γ Ω 9 17 [(0, .ref (Ω.2.2.1 0)), (1, .int x1), (6, .int x6), (7, .int x7), (8, .int x8)] [] σ, fun _ _ _ => rfl⟩
  have R17 : ∀ (x7 : Int32) (x8 : Int32) (σ : Sg), f_X7_makeEvent_17 x1 x2 x3 x4 x6 L17 Po x7 x8 σ → L17 x7 x8 σ := by
    intro x7 x8 σ h
    unfold f_X7_makeEvent_17 at h
    refine Eq.mpr (gl17 _ _ _) ?_
    refine ok_iload C 4 dX7_makeEvent_17 rfl ?_
    refine ok_iload C 2 dX7_makeEvent_19 rfl ?_
    obtain ⟨h1, h2⟩ := h
    refine ok_icmp_ge C 63 dX7_makeEvent_21 rfl (fun c17 => ?_) (fun c17 => ?_)
    · have h := h1 c17
      refine ok_aload_n C 0 dX7_makeEvent_63 rfl rfl ?_
      refine ok_getR C (ci := 7) hinX7 (kat hk kD_0) rfl 1 (by decide) W_4_158 (fun _ _ h => h) rfl dX7_makeEvent_64 ?_
      refine ok_iload C 3 dX7_makeEvent_67 rfl ?_
      refine ok_callVv C (As := [.int x7]) (rest := []) (q := 7) (ci := 2) (kat hk kD_7) rfl (c_X2_close  _ _ _ h) W_2_137 W_2_138 W_2_139 W_2_140 W_1_3 hd_X2_close rfl ⟨Nat.le_of_ble_eq_true rfl, Nat.le_of_ble_eq_true rfl⟩ (Nat.le_of_ble_eq_true rfl) rfl dX7_makeEvent_69 (fun u4 h => ?_)
      refine ok_aload_n C 0 dX7_makeEvent_72 rfl rfl ?_
      refine ok_getR C (ci := 7) hinX7 (kat hk kD_0) rfl 2 (by decide) W_4_159 (fun _ _ h => h) rfl dX7_makeEvent_73 ?_
      refine ok_iload C 3 dX7_makeEvent_76 rfl ?_
      refine ok_callVv C (As := [.int x7]) (rest := []) (q := 22) (ci := 3) (kat hk kD_22) rfl (c_X3_take  _ _ _ h) W_2_188 W_2_189 W_2_190 W_2_191 W_1_6 hd_X3_take rfl ⟨Nat.le_of_ble_eq_true rfl, Nat.le_of_ble_eq_true rfl⟩ (Nat.le_of_ble_eq_true rfl) rfl dX7_makeEvent_78 (fun u6 h => ?_)
      refine ok_aload_n C 0 dX7_makeEvent_81 rfl rfl ?_
      refine ok_getR C (ci := 7) hinX7 (kat hk kD_0) rfl 3 (by decide) W_4_160 (fun _ _ h => h) rfl dX7_makeEvent_82 ?_
      refine ok_iload C 3 dX7_makeEvent_85 rfl ?_
      refine ok_callVv C (As := [.int x7]) (rest := []) (q := 37) (ci := 1) (kat hk kD_37) rfl (c_X1_take  _ _ _ h) W_4_115 W_4_116 W_4_117 W_4_118 W_1_7 hd_X1_take rfl ⟨Nat.le_of_ble_eq_true rfl, Nat.le_of_ble_eq_true rfl⟩ (Nat.le_of_ble_eq_true rfl) rfl dX7_makeEvent_87 (fun u8 h => ?_)
      refine ok_iload C 3 dX7_makeEvent_90 rfl ?_
      exact ok_iret C rfl rfl dX7_makeEvent_92 h
    · have h := h2 c17
      refine ok_aload_n C 0 dX7_makeEvent_24 rfl rfl ?_
      refine ok_getR C (ci := 7) hinX7 (kat hk kD_0) rfl 1 (by decide) W_4_158 (fun _ _ h => h) rfl dX7_makeEvent_25 ?_
      refine ok_iload C 3 dX7_makeEvent_28 rfl ?_
      refine ok_aload_n C 0 dX7_makeEvent_30 rfl rfl ?_
      refine ok_getR C (ci := 7) hinX7 (kat hk kD_0) rfl 0 (by decide) W_4_157 (fun _ _ h => h) rfl dX7_makeEvent_31 ?_
      refine ok_iload_n C 1 dX7_makeEvent_34 rfl rfl ?_
      refine ok_callVi C (As := [.int x1]) (rest := [.int x7, .ref (Ω.2.2.1 7)]) (q := 3) (ci := 6) (kat hk kD_3) rfl (c_X6_firstTo  _ _ _ h) W_2_118 W_2_119 W_2_120 W_2_121 W_1_2 hd_X6_firstTo rfl ⟨Nat.le_of_ble_eq_true rfl, Nat.le_of_ble_eq_true rfl⟩ (Nat.le_of_ble_eq_true rfl) rfl dX7_makeEvent_35 (fun r9 u10 h => ?_)
      refine ok_aload_n C 0 dX7_makeEvent_38 rfl rfl ?_
      refine ok_getR C (ci := 7) hinX7 (kat hk kD_0) rfl 0 (by decide) W_4_157 (fun _ _ h => h) rfl dX7_makeEvent_39 ?_
      refine ok_iload_n C 1 dX7_makeEvent_42 rfl rfl ?_
      refine ok_callVi C (As := [.int x1]) (rest := [.int r9, .int x7, .ref (Ω.2.2.1 7)]) (q := 3) (ci := 6) (kat hk kD_3) rfl (c_X6_firstAmount  _ _ _ h) W_2_122 W_2_123 W_2_124 W_2_125 W_1_2 hd_X6_firstAmount rfl ⟨Nat.le_of_ble_eq_true rfl, Nat.le_of_ble_eq_true rfl⟩ (Nat.le_of_ble_eq_true rfl) rfl dX7_makeEvent_43 (fun r11 u12 h => ?_)
      refine ok_callVv C (As := [.int x7, .int r9, .int r11]) (rest := []) (q := 7) (ci := 2) (kat hk kD_7) rfl (c_X2_addTransaction  _ _ _ _ _ h) W_2_126 W_2_127 W_2_128 W_2_129 W_1_3 hd_X2_addTransaction rfl ⟨Nat.le_of_ble_eq_true rfl, Nat.le_of_ble_eq_true rfl⟩ (Nat.le_of_ble_eq_true rfl) rfl dX7_makeEvent_46 (fun u14 h => ?_)
      refine ok_aload_n C 0 dX7_makeEvent_49 rfl rfl ?_
      refine ok_getR C (ci := 7) hinX7 (kat hk kD_0) rfl 0 (by decide) W_4_157 (fun _ _ h => h) rfl dX7_makeEvent_50 ?_
      refine ok_iload_n C 1 dX7_makeEvent_53 rfl rfl ?_
      refine ok_callVv C (As := [.int x1]) (rest := []) (q := 3) (ci := 6) (kat hk kD_3) rfl (c_X6_dropFirst  _ _ _ h) W_2_130 W_2_131 W_2_132 W_2_133 W_1_2 hd_X6_dropFirst rfl ⟨Nat.le_of_ble_eq_true rfl, Nat.le_of_ble_eq_true rfl⟩ (Nat.le_of_ble_eq_true rfl) rfl dX7_makeEvent_54 (fun u16 h => ?_)
      refine ok_iinc C (v := x8 + 1) (L2 := [(8, .int (x8 + 1)), (0, .ref (Ω.2.2.1 0)), (1, .int x1), (6, .int x6), (7, .int x7)]) 4 dX7_makeEvent_57 rfl rfl (by decide) rfl ?_
      refine ok_goto C 17 dX7_makeEvent_60 rfl ?_
      refine ok_sub [1, 2, 3, 4, 0] rfl ?_
      exact Eq.mp (gl17 _ _ _) h
  have h : f_X7_makeEvent_e x1 x2 x3 x4 x6 L17 Po σ := hvc L17 R17
  unfold f_X7_makeEvent_e at h
  refine ok_sub (L2 := [(0, .ref (Ω.2.2.1 0)), (1, .int x1), (2, .int x2), (3, .int x3), (4, .long x4), (6, .int x6)]) [0, 1, 2, 3, 4, 5] rfl ?_
  refine ok_aload_n C 0 dX7_makeEvent_0 rfl rfl ?_
  refine ok_getR C (ci := 7) hinX7 (kat hk kD_0) rfl 1 (by decide) W_4_158 (fun _ _ h => h) rfl dX7_makeEvent_1 ?_
  refine ok_iload_n C 1 dX7_makeEvent_4 rfl rfl ?_
  refine ok_iload_n C 2 dX7_makeEvent_5 rfl rfl ?_
  refine ok_iload_n C 3 dX7_makeEvent_6 rfl rfl ?_
  refine ok_lload C 4 dX7_makeEvent_7 rfl ?_
  refine ok_callVi C (As := [.int x1, .int x2, .int x3, .long x4]) (rest := []) (q := 7) (ci := 2) (kat hk kD_7) rfl (c_X2_open  _ _ _ _ _ _ h) W_2_114 W_2_115 W_2_116 W_2_117 W_1_3 hd_X2_open rfl ⟨Nat.le_of_ble_eq_true rfl, Nat.le_of_ble_eq_true rfl⟩ (Nat.le_of_ble_eq_true rfl) rfl dX7_makeEvent_9 (fun r1 u2 h => ?_)
  refine ok_istore C (L2 := [(7, .int r1), (0, .ref (Ω.2.2.1 0)), (1, .int x1), (2, .int x2), (3, .int x3), (4, .long x4), (6, .int x6)]) dX7_makeEvent_12 (by decide) rfl ?_
  refine ok_iconst C (v := 0) dX7_makeEvent_14 (by decide) ?_
  refine ok_istore C (L2 := [(8, .int 0), (7, .int r1), (0, .ref (Ω.2.2.1 0)), (1, .int x1), (2, .int x2), (3, .int x3), (4, .long x4), (6, .int x6)]) dX7_makeEvent_15 (by decide) rfl ?_
  refine ok_sub [2, 3, 7, 1, 0] rfl ?_
  exact Eq.mp (gl17 _ _ _) h
set_option maxRecDepth 100000 in
set_option maxHeartbeats 4000000 in
theorem m_X7_startAnew {l : Launch} {Ω : Wm} (hk : Hk Ω kD) (c_X7_give : CT_X7_give l Ω) (c_X7_makeEvent : CT_X7_makeEvent l Ω) (c_X1_clear : CT_X1_clear l Ω) (c_X2_clear : CT_X2_clear l Ω) (c_X3_clear : CT_X3_clear l Ω) (c_X6_clear : CT_X6_clear l Ω) (hv : ∀ (x1 : Int32) (σ : Sg) (K : Sg → Prop), sp_X7_startAnew x1 σ K → vc_X7_startAnew x1 σ K) : CT_X7_startAnew l Ω := by
  intro x1 σ Po hsp
  have hvc := hv x1 σ Po hsp
  refine Ct.of (by decide +kernel) (Nat.le_of_ble_eq_true rfl) (fun Γ C => ?_)
  obtain ⟨L37, gl37⟩ : ∃ L : Int32 → Sg → Prop, ∀ (x2 : Int32) (σ : Sg), L x2 σ = OK Γ Ω 3 37 [(0, .ref (Ω.2.2.1 0)), (1, .int x1), (2, .int x2)] [] σ := ⟨fun x2 σ => OK Γ Ω 3 37 [(0, .ref (Ω.2.2.1 0)), (1, .int x1), (2, .int x2)] [] σ, fun _ _ => rfl⟩
  have R37 : ∀ (x2 : Int32) (σ : Sg), f_X7_startAnew_37 x1 L37 Po x2 σ → L37 x2 σ := by
    intro x2 σ h
    unfold f_X7_startAnew_37 at h
    refine Eq.mpr (gl37 _ _) ?_
    refine ok_iload_n C 2 dX7_startAnew_37 rfl rfl ?_
    refine ok_iload_n C 1 dX7_startAnew_38 rfl rfl ?_
    obtain ⟨h1, h2⟩ := h
    refine ok_icmp_ge C 74 dX7_startAnew_39 rfl (fun c15 => ?_) (fun c15 => ?_)
    · have h := h1 c15
      exact ok_vret C rfl rfl dX7_startAnew_74 h
    · have h := h2 c15
      refine ok_aload_n C 0 dX7_startAnew_42 rfl rfl ?_
      refine ok_getR C (ci := 7) hinX7 (kat hk kD_0) rfl 5 (by decide) W_4_162 (fun _ _ h => h) rfl dX7_startAnew_43 ?_
      refine ok_iload_n C 2 dX7_startAnew_46 rfl rfl ?_
      refine ok_aload_n C 0 dX7_startAnew_47 rfl rfl ?_
      refine ok_iload_n C 2 dX7_startAnew_48 rfl rfl ?_
      refine ok_iconst C (v := (-1)) dX7_startAnew_49 (by decide) ?_
      refine ok_iconst C (v := (-1)) dX7_startAnew_50 (by decide) ?_
      refine ok_lconst C (v := 0) dX7_startAnew_51 (by decide) ?_
      refine ok_iconst C (v := 0) dX7_startAnew_52 (by decide) ?_
      refine ok_callVi C (As := [.int x2, .int (-1), .int (-1), .long 0, .int 0]) (rest := [.int x2, .ref (Ω.2.2.1 2)]) (q := 0) (ci := 7) (kat hk kD_0) rfl (c_X7_makeEvent  _ _ _ _ _ _ _ h) W_2_110 W_2_112 W_0_1 W_2_113 W_1_1 hd_X7_makeEvent rfl ⟨Nat.le_of_ble_eq_true rfl, Nat.le_of_ble_eq_true rfl⟩ (Nat.le_of_ble_eq_true rfl) rfl dX7_startAnew_53 (fun r9 u10 h => ?_)
      obtain ⟨g11, h⟩ := h
      refine ok_iast C (kat hk kD_2) g11 dX7_startAnew_56 ?_
      refine ok_aload_n C 0 dX7_startAnew_57 rfl rfl ?_
      refine ok_aload_n C 0 dX7_startAnew_58 rfl rfl ?_
      refine ok_getR C (ci := 7) hinX7 (kat hk kD_0) rfl 5 (by decide) W_4_162 (fun _ _ h => h) rfl dX7_startAnew_59 ?_
      refine ok_iload_n C 2 dX7_startAnew_62 rfl rfl ?_
      obtain ⟨g12, h⟩ := h
      refine ok_iald C (kat hk kD_2) g12 dX7_startAnew_63 ?_
      refine ok_iload_n C 2 dX7_startAnew_64 rfl rfl ?_
      refine ok_callVv C (As := [.int ((pI u10 2 x2.toNatClampNeg r9).1 2 x2.toNatClampNeg), .int x2]) (rest := []) (q := 0) (ci := 7) (kat hk kD_0) rfl (c_X7_give  _ _ _ _ h) W_4_152 W_4_154 W_0_17 W_4_155 W_1_1 hd_X7_give rfl ⟨Nat.le_of_ble_eq_true rfl, Nat.le_of_ble_eq_true rfl⟩ (Nat.le_of_ble_eq_true rfl) rfl dX7_startAnew_65 (fun u14 h => ?_)
      refine ok_iinc C (v := x2 + 1) (L2 := [(2, .int (x2 + 1)), (0, .ref (Ω.2.2.1 0)), (1, .int x1)]) 2 dX7_startAnew_68 rfl rfl (by decide) rfl ?_
      refine ok_goto C 37 dX7_startAnew_71 rfl ?_
      refine ok_sub [1, 2, 0] rfl ?_
      exact Eq.mp (gl37 _ _) h
  have h : f_X7_startAnew_e x1 L37 Po σ := hvc L37 R37
  unfold f_X7_startAnew_e at h
  refine ok_sub (L2 := [(0, .ref (Ω.2.2.1 0)), (1, .int x1)]) [0, 1] rfl ?_
  refine ok_aload_n C 0 dX7_startAnew_0 rfl rfl ?_
  refine ok_iload_n C 1 dX7_startAnew_1 rfl rfl ?_
  refine ok_putI C (ci := 7) hinX7 (kat hk kD_0) rfl 6 (by decide) W_4_163 (fun _ _ h => h) tyX7 tyX7_ok nmX7 rfl (by decide +kernel) rfl rfl rfl dX7_startAnew_2 ?_
  refine ok_aload_n C 0 dX7_startAnew_5 rfl rfl ?_
  refine ok_getR C (ci := 7) hinX7 (kat hk kD_0) rfl 0 (by decide) W_4_157 (fun _ _ h => h) rfl dX7_startAnew_6 ?_
  refine ok_callVv C (As := []) (rest := []) (q := 3) (ci := 6) (kat hk kD_3) rfl (c_X6_clear   _ _ h) W_2_83 W_2_84 W_2_85 W_2_86 W_1_2 hd_X6_clear rfl ⟨Nat.le_of_ble_eq_true rfl, Nat.le_of_ble_eq_true rfl⟩ (Nat.le_of_ble_eq_true rfl) rfl dX7_startAnew_9 (fun u2 h => ?_)
  refine ok_aload_n C 0 dX7_startAnew_12 rfl rfl ?_
  refine ok_getR C (ci := 7) hinX7 (kat hk kD_0) rfl 1 (by decide) W_4_158 (fun _ _ h => h) rfl dX7_startAnew_13 ?_
  refine ok_callVv C (As := []) (rest := []) (q := 7) (ci := 2) (kat hk kD_7) rfl (c_X2_clear   _ _ h) W_2_90 W_2_91 W_2_92 W_2_93 W_1_3 hd_X2_clear rfl ⟨Nat.le_of_ble_eq_true rfl, Nat.le_of_ble_eq_true rfl⟩ (Nat.le_of_ble_eq_true rfl) rfl dX7_startAnew_16 (fun u4 h => ?_)
  refine ok_aload_n C 0 dX7_startAnew_19 rfl rfl ?_
  refine ok_getR C (ci := 7) hinX7 (kat hk kD_0) rfl 2 (by decide) W_4_159 (fun _ _ h => h) rfl dX7_startAnew_20 ?_
  refine ok_iload_n C 1 dX7_startAnew_23 rfl rfl ?_
  refine ok_callVv C (As := [.int x1]) (rest := []) (q := 22) (ci := 3) (kat hk kD_22) rfl (c_X3_clear  _ _ _ h) W_2_101 W_2_102 W_2_103 W_2_104 W_1_6 hd_X3_clear rfl ⟨Nat.le_of_ble_eq_true rfl, Nat.le_of_ble_eq_true rfl⟩ (Nat.le_of_ble_eq_true rfl) rfl dX7_startAnew_24 (fun u6 h => ?_)
  refine ok_aload_n C 0 dX7_startAnew_27 rfl rfl ?_
  refine ok_getR C (ci := 7) hinX7 (kat hk kD_0) rfl 3 (by decide) W_4_160 (fun _ _ h => h) rfl dX7_startAnew_28 ?_
  refine ok_iload_n C 1 dX7_startAnew_31 rfl rfl ?_
  refine ok_callVv C (As := [.int x1]) (rest := []) (q := 37) (ci := 1) (kat hk kD_37) rfl (c_X1_clear  _ _ _ h) W_2_106 W_2_107 W_2_108 W_2_109 W_1_7 hd_X1_clear rfl ⟨Nat.le_of_ble_eq_true rfl, Nat.le_of_ble_eq_true rfl⟩ (Nat.le_of_ble_eq_true rfl) rfl dX7_startAnew_32 (fun u8 h => ?_)
  refine ok_iconst C (v := 0) dX7_startAnew_35 (by decide) ?_
  refine ok_istore_n C (L2 := [(2, .int 0), (0, .ref (Ω.2.2.1 0)), (1, .int x1)]) dX7_startAnew_36 rfl (by decide) rfl ?_
  refine ok_sub [1, 2, 0] rfl ?_
  exact Eq.mp (gl37 _ _) h
set_option maxRecDepth 100000 in
set_option maxHeartbeats 4000000 in
theorem m_X7_freshView {l : Launch} {Ω : Wm} (hk : Hk Ω kD) (c_X5_findAll : CT_X5_findAll l Ω) (hv : ∀ (x1 : Int32) (σ : Sg) (K : Nat → Sg → Prop), sp_X7_freshView x1 σ K → vc_X7_freshView x1 σ K) : CT_X7_freshView l Ω := by
  intro x1 σ Po hsp
  have hvc := hv x1 σ Po hsp
  refine Ct.of (by decide +kernel) (Nat.le_of_ble_eq_true rfl) (fun Γ C => ?_)
  have J22 : ∀ (q2 : Nat) (σ : Sg), f_X7_freshView_22 x1 Po q2 σ → OK Γ Ω 3 22 [(2, .ref (Ω.2.2.1 q2))] [] σ := by
    intro q2 σ h
    unfold f_X7_freshView_22 at h
    refine ok_aload_n C 0 dX7_freshView_22 rfl rfl ?_
    exact ok_aret C rfl rfl dX7_freshView_23 h
  have h : f_X7_freshView_e x1 Po σ := hvc  
  unfold f_X7_freshView_e at h
  refine ok_sub (L2 := [(0, .ref (Ω.2.2.1 0)), (1, .int x1)]) [0, 1] rfl ?_
  refine ok_aload_n C 0 dX7_freshView_0 rfl rfl ?_
  refine ok_getR C (ci := 7) hinX7 (kat hk kD_0) rfl 4 (by decide) W_4_161 (fun _ _ h => h) rfl dX7_freshView_1 ?_
  refine ok_iload_n C 1 dX7_freshView_4 rfl rfl ?_
  obtain ⟨g1, h⟩ := h
  refine ok_aald C (kat hk kD_1) g1 (vw_el g1) dX7_freshView_5 ?_
  refine ok_astore_n C (L2 := [(2, .ref (Ω.2.2.1 (45 + 12 * x1.toNatClampNeg))), (0, .ref (Ω.2.2.1 0)), (1, .int x1)]) dX7_freshView_6 rfl (by decide) rfl ?_
  refine ok_aload_n C 0 dX7_freshView_7 rfl rfl ?_
  obtain ⟨hV2, h⟩ := h
  refine ok_getIN C (ci := 5) hinX5 (kat hk (vw_0 hV2)) rfl 17 (by decide) nbf_42 (fun _ _ h => h) rfl dX7_freshView_8 ?_
  obtain ⟨h1, h2⟩ := h
  refine ok_if_eq C 22 dX7_freshView_11 rfl (fun c5 => ?_) (fun c5 => ?_)
  · have h := h1 c5
    refine ok_sub [0] rfl ?_
    exact J22 _ _ h
  · have h := h2 c5
    refine ok_aload_n C 0 dX7_freshView_14 rfl rfl ?_
    refine ok_aload_n C 1 dX7_freshView_15 rfl rfl ?_
    refine ok_getI C (ci := 7) hinX7 (kat hk kD_0) rfl 6 (by decide) W_4_163 (fun _ _ h => h) rfl dX7_freshView_16 ?_
    refine ok_callVv C (As := [.int (σ.1 0 6)]) (rest := []) (q := (45 + 12 * x1.toNatClampNeg)) (ci := 5) (kat hk (vw_0 hV2)) rfl (c_X5_findAll (45 + 12 * x1.toNatClampNeg) hV2 _ _ _ h) W_5_93 W_5_94 W_5_95 W_5_96 W_1_8 hd_X5_findAll rfl ⟨Nat.le_of_ble_eq_true rfl, Nat.le_of_ble_eq_true rfl⟩ (Nat.le_of_ble_eq_true rfl) rfl dX7_freshView_19 (fun u4 h => ?_)
    refine ok_sub [0] rfl ?_
    exact J22 _ _ h
set_option maxRecDepth 100000 in
set_option maxHeartbeats 4000000 in
theorem m_X7_isNode {l : Launch} {Ω : Wm} (hk : Hk Ω kD)  (hv : ∀ (x1 : Int32) (σ : Sg) (K : Int32 → Sg → Prop), sp_X7_isNode x1 σ K → vc_X7_isNode x1 σ K) : CT_X7_isNode l Ω := by
  intro x1 σ Po hsp
  have hvc := hv x1 σ Po hsp
  refine Ct.of (by decide +kernel) (Nat.le_of_ble_eq_true rfl) (fun Γ C => ?_)
  have J17 : ∀ (s0 : Int32) (σ : Sg), f_X7_isNode_17 x1 Po s0 σ → OK Γ Ω 2 17 [] [.int s0] σ := by
    intro s0 σ h
    unfold f_X7_isNode_17 at h
    obtain ⟨z3, h⟩ := h
    exact ok_zret C rfl rfl (bz_n z3) dX7_isNode_17 h
  have J16 : ∀  (σ : Sg), f_X7_isNode_16 x1 Po  σ → OK Γ Ω 2 16 [] [] σ := by
    intro  σ h
    unfold f_X7_isNode_16 at h
    refine ok_iconst C (v := 0) dX7_isNode_16 (by decide) ?_
    refine ok_sub [] rfl ?_
    exact J17 _ _ h
  have h : f_X7_isNode_e x1 Po σ := hvc  
  unfold f_X7_isNode_e at h
  refine ok_sub (L2 := [(0, .ref (Ω.2.2.1 0)), (1, .int x1)]) [0, 1] rfl ?_
  refine ok_iload_n C 1 dX7_isNode_0 rfl rfl ?_
  obtain ⟨h1, h2⟩ := h
  refine ok_if_lt C 16 dX7_isNode_1 rfl (fun c2 => ?_) (fun c2 => ?_)
  · have h := h1 c2
    refine ok_sub [] rfl ?_
    exact J16  _ h
  · have h := h2 c2
    refine ok_iload_n C 1 dX7_isNode_4 rfl rfl ?_
    refine ok_aload_n C 0 dX7_isNode_5 rfl rfl ?_
    refine ok_getI C (ci := 7) hinX7 (kat hk kD_0) rfl 6 (by decide) W_4_163 (fun _ _ h => h) rfl dX7_isNode_6 ?_
    obtain ⟨h1, h2⟩ := h
    refine ok_icmp_ge C 16 dX7_isNode_9 rfl (fun c1 => ?_) (fun c1 => ?_)
    · have h := h1 c1
      refine ok_sub [] rfl ?_
      exact J16  _ h
    · have h := h2 c1
      refine ok_iconst C (v := 1) dX7_isNode_12 (by decide) ?_
      refine ok_goto C 17 dX7_isNode_13 rfl ?_
      refine ok_sub [] rfl ?_
      exact J17 _ _ h
set_option maxRecDepth 100000 in
set_option maxHeartbeats 4000000 in
theorem m_X7_isEvent {l : Launch} {Ω : Wm} (hk : Hk Ω kD)  (hv : ∀ (x1 : Int32) (σ : Sg) (K : Int32 → Sg → Prop), sp_X7_isEvent x1 σ K → vc_X7_isEvent x1 σ K) : CT_X7_isEvent l Ω := by
  intro x1 σ Po hsp
  have hvc := hv x1 σ Po hsp
  refine Ct.of (by decide +kernel) (Nat.le_of_ble_eq_true rfl) (fun Γ C => ?_)
  have J20 : ∀ (s0 : Int32) (σ : Sg), f_X7_isEvent_20 x1 Po s0 σ → OK Γ Ω 2 20 [] [.int s0] σ := by
    intro s0 σ h
    unfold f_X7_isEvent_20 at h
    obtain ⟨z3, h⟩ := h
    exact ok_zret C rfl rfl (bz_n z3) dX7_isEvent_20 h
  have J19 : ∀  (σ : Sg), f_X7_isEvent_19 x1 Po  σ → OK Γ Ω 2 19 [] [] σ := by
    intro  σ h
    unfold f_X7_isEvent_19 at h
    refine ok_iconst C (v := 0) dX7_isEvent_19 (by decide) ?_
    refine ok_sub [] rfl ?_
    exact J20 _ _ h
  have h : f_X7_isEvent_e x1 Po σ := hvc  
  unfold f_X7_isEvent_e at h
  refine ok_sub (L2 := [(0, .ref (Ω.2.2.1 0)), (1, .int x1)]) [0, 1] rfl ?_
  refine ok_iload_n C 1 dX7_isEvent_0 rfl rfl ?_
  obtain ⟨h1, h2⟩ := h
  refine ok_if_lt C 19 dX7_isEvent_1 rfl (fun c2 => ?_) (fun c2 => ?_)
  · have h := h1 c2
    refine ok_sub [] rfl ?_
    exact J19  _ h
  · have h := h2 c2
    refine ok_iload_n C 1 dX7_isEvent_4 rfl rfl ?_
    refine ok_aload_n C 0 dX7_isEvent_5 rfl rfl ?_
    refine ok_getR C (ci := 7) hinX7 (kat hk kD_0) rfl 1 (by decide) W_4_158 (fun _ _ h => h) rfl dX7_isEvent_6 ?_
    refine ok_getIN C (ci := 2) hinX2 (kat hk kD_7) rfl 10 (by decide) nbf_17 (fun _ _ h => h) rfl dX7_isEvent_9 ?_
    obtain ⟨h1, h2⟩ := h
    refine ok_icmp_ge C 19 dX7_isEvent_12 rfl (fun c1 => ?_) (fun c1 => ?_)
    · have h := h1 c1
      refine ok_sub [] rfl ?_
      exact J19  _ h
    · have h := h2 c1
      refine ok_iconst C (v := 1) dX7_isEvent_15 (by decide) ?_
      refine ok_goto C 20 dX7_isEvent_16 rfl ?_
      refine ok_sub [] rfl ?_
      exact J20 _ _ h
set_option maxRecDepth 100000 in
set_option maxHeartbeats 4000000 in
theorem m_X7_isHeld {l : Launch} {Ω : Wm} (hk : Hk Ω kD) (c_X7_isEvent : CT_X7_isEvent l Ω) (c_X0_has : CT_X0_has l Ω) (hv : ∀ (x1 : Int32) (x2 : Int32) (σ : Sg) (K : Int32 → Sg → Prop), sp_X7_isHeld x1 x2 σ K → vc_X7_isHeld x1 x2 σ K) : CT_X7_isHeld l Ω := by
  intro x1 x2 σ Po hsp
  have hvc := hv x1 x2 σ Po hsp
  refine Ct.of (by decide +kernel) (Nat.le_of_ble_eq_true rfl) (fun Γ C => ?_)
  have J28 : ∀ (s0 : Int32) (σ : Sg), f_X7_isHeld_28 x1 x2 Po s0 σ → OK Γ Ω 3 28 [] [.int s0] σ := by
    intro s0 σ h
    unfold f_X7_isHeld_28 at h
    obtain ⟨z7, h⟩ := h
    exact ok_zret C rfl rfl (bz_n z7) dX7_isHeld_28 h
  have J27 : ∀  (σ : Sg), f_X7_isHeld_27 x1 x2 Po  σ → OK Γ Ω 3 27 [] [] σ := by
    intro  σ h
    unfold f_X7_isHeld_27 at h
    refine ok_iconst C (v := 0) dX7_isHeld_27 (by decide) ?_
    refine ok_sub [] rfl ?_
    exact J28 _ _ h
  have h : f_X7_isHeld_e x1 x2 Po σ := hvc  
  unfold f_X7_isHeld_e at h
  refine ok_sub (L2 := [(0, .ref (Ω.2.2.1 0)), (1, .int x1), (2, .int x2)]) [0, 1, 2] rfl ?_
  refine ok_aload_n C 0 dX7_isHeld_0 rfl rfl ?_
  refine ok_iload_n C 2 dX7_isHeld_1 rfl rfl ?_
  refine ok_callVi C (As := [.int x2]) (rest := []) (q := 0) (ci := 7) (kat hk kD_0) rfl (c_X7_isEvent  _ _ _ h) W_5_19 W_5_21 W_0_20 W_5_22 W_1_1 hd_X7_isEvent rfl ⟨Nat.le_of_ble_eq_true rfl, Nat.le_of_ble_eq_true rfl⟩ (Nat.le_of_ble_eq_true rfl) rfl dX7_isHeld_2 (fun r1 u2 h => ?_)
  obtain ⟨h1, h2⟩ := h
  refine ok_if_eq C 27 dX7_isHeld_5 rfl (fun c6 => ?_) (fun c6 => ?_)
  · have h := h1 c6
    refine ok_sub [] rfl ?_
    exact J27  _ h
  · have h := h2 c6
    refine ok_aload_n C 0 dX7_isHeld_8 rfl rfl ?_
    refine ok_getR C (ci := 7) hinX7 (kat hk kD_0) rfl 1 (by decide) W_4_158 (fun _ _ h => h) rfl dX7_isHeld_9 ?_
    refine ok_getRN C (ci := 2) hinX2 (kat hk kD_7) rfl 9 (by decide) nbf_15 (fun _ _ h => h) rfl dX7_isHeld_12 ?_
    refine ok_iload_n C 1 dX7_isHeld_15 rfl rfl ?_
    refine ok_iload_n C 2 dX7_isHeld_16 rfl rfl ?_
    refine ok_callVi C (As := [.int x1, .int x2]) (rest := []) (q := 20) (ci := 0) (kat hk kD_20) rfl (c_X0_has 20 32 bt_20 _ _ _ _ h) W_5_23 W_4_80 W_4_81 W_4_82 W_1_5 hd_X0_has rfl ⟨Nat.le_of_ble_eq_true rfl, Nat.le_of_ble_eq_true rfl⟩ (Nat.le_of_ble_eq_true rfl) rfl dX7_isHeld_17 (fun r3 u4 h => ?_)
    obtain ⟨h1, h2⟩ := h
    refine ok_if_eq C 27 dX7_isHeld_20 rfl (fun c5 => ?_) (fun c5 => ?_)
    · have h := h1 c5
      refine ok_sub [] rfl ?_
      exact J27  _ h
    · have h := h2 c5
      refine ok_iconst C (v := 1) dX7_isHeld_23 (by decide) ?_
      refine ok_goto C 28 dX7_isHeld_24 rfl ?_
      refine ok_sub [] rfl ?_
      exact J28 _ _ h
