set_option maxRecDepth 100000 in
set_option maxHeartbeats 4000000 in
theorem m_X7_begin {l : Launch} {Ω : Wm} (hk : Hk Ω kD) (hst : l.stackTraces = false) (c_X7_startAnew : CT_X7_startAnew l Ω) (hv : ∀ (x1 : Int32) (σ : Sg) (K : Sg → Prop) (Px : String → Sg → Prop), sp_X7_begin x1 σ K Px → vc_X7_begin x1 σ K Px) : CT_X7_begin l Ω := by
  intro x1 σ Po Px hsp
  have hvc := hv x1 σ Po Px hsp
  refine Cu.of hst (by decide +kernel) (Nat.le_of_ble_eq_true rfl) (fun Γ C => ?_)
  have J11 : ∀  (σ : Sg), f_X7_begin_11 x1 Po Px  σ → OK Γ Ω 2 11 [] [] σ := by
    intro  σ h
    unfold f_X7_begin_11 at h
    exact okx_throw C xt_58_60 dX7_begin_11 dX7_begin_14 dX7_begin_15 dX7_begin_18 (Nat.le_of_ble_eq_true rfl) (Nat.le_of_ble_eq_true rfl) h
  have h : f_X7_begin_e x1 Po Px σ := hvc  
  unfold f_X7_begin_e at h
  refine okx_sub (L2 := [(0, .ref (Ω.2.2.1 0)), (1, .int x1)]) [0, 1] rfl ?_
  refine okx_iload_n C 1 dX7_begin_0 rfl rfl ?_
  refine okx_iconst C (v := 2) dX7_begin_1 (by decide) ?_
  obtain ⟨h1, h2⟩ := h
  refine okx_icmp_lt C 11 dX7_begin_2 rfl (fun c4 => ?_) (fun c4 => ?_)
  · have h := h1 c4
    refine okx_sub [] rfl ?_
    exact J11  _ h
  · have h := h2 c4
    refine okx_iload_n C 1 dX7_begin_5 rfl rfl ?_
    refine okx_bipush C (v := 8) dX7_begin_6 (by decide) ?_
    obtain ⟨h1, h2⟩ := h
    refine okx_icmp_le C 19 dX7_begin_8 rfl (fun c3 => ?_) (fun c3 => ?_)
    · have h := h1 c3
      refine okx_aload_n C 0 dX7_begin_19 rfl rfl ?_
      refine okx_iload_n C 1 dX7_begin_20 rfl rfl ?_
      refine okx_callVv C (As := [.int x1]) (rest := []) (q := 0) (ci := 7) (kat hk kD_0) rfl (c_X7_startAnew  _ _ _ h) W_2_79 W_2_81 W_0_0 W_2_82 W_1_1 hd_X7_startAnew rfl ⟨Nat.le_of_ble_eq_true rfl, Nat.le_of_ble_eq_true rfl⟩ (Nat.le_of_ble_eq_true rfl) rfl dX7_begin_21 (fun u2 h => ?_)
      exact okx_vret C rfl rfl dX7_begin_24 h
    · have h := h2 c3
      refine okx_sub [] rfl ?_
      exact J11  _ h
set_option maxRecDepth 100000 in
set_option maxHeartbeats 4000000 in
theorem m_X7_submit {l : Launch} {Ω : Wm} (hk : Hk Ω kD) (hst : l.stackTraces = false) (c_X7_isNode : CT_X7_isNode l Ω) (c_X6_isFull : CT_X6_isFull l Ω) (c_X6_join : CT_X6_join l Ω) (hv : ∀ (x1 : Int32) (x2 : Int32) (x3 : Int32) (σ : Sg) (K : Int32 → Sg → Prop) (Px : String → Sg → Prop), sp_X7_submit x1 x2 x3 σ K Px → vc_X7_submit x1 x2 x3 σ K Px) : CT_X7_submit l Ω := by
  intro x1 x2 x3 σ Po Px hsp
  have hvc := hv x1 x2 x3 σ Po Px hsp
  refine Cu.of hst (by decide +kernel) (Nat.le_of_ble_eq_true rfl) (fun Γ C => ?_)
  have J26 : ∀  (σ : Sg), f_X7_submit_26 x1 x2 x3 Po Px  σ → OK Γ Ω 4 26 [] [] σ := by
    intro  σ h
    unfold f_X7_submit_26 at h
    exact okx_throw C xt_58_60 dX7_submit_26 dX7_submit_29 dX7_submit_30 dX7_submit_33 (Nat.le_of_ble_eq_true rfl) (Nat.le_of_ble_eq_true rfl) h
  have h : f_X7_submit_e x1 x2 x3 Po Px σ := hvc  
  unfold f_X7_submit_e at h
  refine okx_sub (L2 := [(0, .ref (Ω.2.2.1 0)), (1, .int x1), (2, .int x2), (3, .int x3)]) [0, 1, 2, 3] rfl ?_
  refine okx_aload_n C 0 dX7_submit_0 rfl rfl ?_
  refine okx_iload_n C 1 dX7_submit_1 rfl rfl ?_
  refine okx_callVi C (As := [.int x1]) (rest := []) (q := 0) (ci := 7) (kat hk kD_0) rfl (c_X7_isNode  _ _ _ h) W_4_206 W_4_208 W_0_18 W_4_209 W_1_1 hd_X7_isNode rfl ⟨Nat.le_of_ble_eq_true rfl, Nat.le_of_ble_eq_true rfl⟩ (Nat.le_of_ble_eq_true rfl) rfl dX7_submit_2 (fun r1 u2 h => ?_)
  obtain ⟨h1, h2⟩ := h
  refine okx_if_eq C 26 dX7_submit_5 rfl (fun c14 => ?_) (fun c14 => ?_)
  · have h := h1 c14
    refine okx_sub [] rfl ?_
    exact J26  _ h
  · have h := h2 c14
    refine okx_aload_n C 0 dX7_submit_8 rfl rfl ?_
    refine okx_iload_n C 2 dX7_submit_9 rfl rfl ?_
    refine okx_callVi C (As := [.int x2]) (rest := []) (q := 0) (ci := 7) (kat hk kD_0) rfl (c_X7_isNode  _ _ _ h) W_4_206 W_4_208 W_0_18 W_4_209 W_1_1 hd_X7_isNode rfl ⟨Nat.le_of_ble_eq_true rfl, Nat.le_of_ble_eq_true rfl⟩ (Nat.le_of_ble_eq_true rfl) rfl dX7_submit_10 (fun r3 u4 h => ?_)
    obtain ⟨h1, h2⟩ := h
    refine okx_if_eq C 26 dX7_submit_13 rfl (fun c13 => ?_) (fun c13 => ?_)
    · have h := h1 c13
      refine okx_sub [] rfl ?_
      exact J26  _ h
    · have h := h2 c13
      refine okx_iload_n C 3 dX7_submit_16 rfl rfl ?_
      obtain ⟨h1, h2⟩ := h
      refine okx_if_lt C 26 dX7_submit_17 rfl (fun c12 => ?_) (fun c12 => ?_)
      · have h := h1 c12
        refine okx_sub [] rfl ?_
        exact J26  _ h
      · have h := h2 c12
        refine okx_iload_n C 3 dX7_submit_20 rfl rfl ?_
        refine okx_ldc C W_4_210 dX7_submit_21 ?_
        obtain ⟨h1, h2⟩ := h
        refine okx_icmp_le C 34 dX7_submit_23 rfl (fun c11 => ?_) (fun c11 => ?_)
        · have h := h1 c11
          refine okx_aload_n C 0 dX7_submit_34 rfl rfl ?_
          refine okx_getR C (ci := 7) hinX7 (kat hk kD_0) rfl 0 (by decide) W_4_157 (fun _ _ h => h) rfl dX7_submit_35 ?_
          refine okx_iload_n C 1 dX7_submit_38 rfl rfl ?_
          refine okx_callVi C (As := [.int x1]) (rest := []) (q := 3) (ci := 6) (kat hk kD_3) rfl (c_X6_isFull  _ _ _ h) W_4_211 W_4_212 W_4_213 W_4_214 W_1_2 hd_X6_isFull rfl ⟨Nat.le_of_ble_eq_true rfl, Nat.le_of_ble_eq_true rfl⟩ (Nat.le_of_ble_eq_true rfl) rfl dX7_submit_39 (fun r5 u6 h => ?_)
          obtain ⟨h1, h2⟩ := h
          refine okx_if_eq C 53 dX7_submit_42 rfl (fun c10 => ?_) (fun c10 => ?_)
          · have h := h1 c10
            refine okx_aload_n C 0 dX7_submit_53 rfl rfl ?_
            refine okx_getR C (ci := 7) hinX7 (kat hk kD_0) rfl 0 (by decide) W_4_157 (fun _ _ h => h) rfl dX7_submit_54 ?_
            refine okx_iload_n C 1 dX7_submit_57 rfl rfl ?_
            refine okx_iload_n C 2 dX7_submit_58 rfl rfl ?_
            refine okx_iload_n C 3 dX7_submit_59 rfl rfl ?_
            refine okx_callVv C (As := [.int x1, .int x2, .int x3]) (rest := []) (q := 3) (ci := 6) (kat hk kD_3) rfl (c_X6_join  _ _ _ _ _ h) W_4_230 W_4_231 W_4_232 W_4_233 W_1_2 hd_X6_join rfl ⟨Nat.le_of_ble_eq_true rfl, Nat.le_of_ble_eq_true rfl⟩ (Nat.le_of_ble_eq_true rfl) rfl dX7_submit_60 (fun u8 h => ?_)
            refine okx_aload_n C 0 dX7_submit_63 rfl rfl ?_
            refine okx_getR C (ci := 7) hinX7 (kat hk kD_0) rfl 0 (by decide) W_4_157 (fun _ _ h => h) rfl dX7_submit_64 ?_
            refine okx_getRN C (ci := 6) hinX6 (kat hk kD_3) rfl 2 (by decide) nbf_0 (fun _ _ h => h) rfl dX7_submit_67 ?_
            refine okx_iload_n C 1 dX7_submit_70 rfl rfl ?_
            obtain ⟨g9, h⟩ := h
            refine okx_iald C (kat hk kD_6) g9 dX7_submit_71 ?_
            exact okx_iret C rfl rfl dX7_submit_72 h
          · have h := h2 c10
            exact okx_throw C xt_69_71 dX7_submit_45 dX7_submit_48 dX7_submit_49 dX7_submit_52 (Nat.le_of_ble_eq_true rfl) (Nat.le_of_ble_eq_true rfl) h
        · have h := h2 c11
          refine okx_sub [] rfl ?_
          exact J26  _ h
set_option maxRecDepth 100000 in
set_option maxHeartbeats 4000000 in
theorem m_X7_sync {l : Launch} {Ω : Wm} (hk : Hk Ω kD) (hst : l.stackTraces = false) (c_X7_give : CT_X7_give l Ω) (c_X7_isNode : CT_X7_isNode l Ω) (c_X7_makeEvent : CT_X7_makeEvent l Ω) (c_X0_join : CT_X0_join l Ω) (c_X2_isFull : CT_X2_isFull l Ω) (hv : ∀ (x1 : Int32) (x2 : Int32) (x3 : Int64) (σ : Sg) (K : Int32 → Sg → Prop) (Px : String → Sg → Prop), sp_X7_sync x1 x2 x3 σ K Px → vc_X7_sync x1 x2 x3 σ K Px) : CT_X7_sync l Ω := by
  intro x1 x2 x3 σ Po Px hsp
  have hvc := hv x1 x2 x3 σ Po Px hsp
  refine Cu.of hst (by decide +kernel) (Nat.le_of_ble_eq_true rfl) (fun Γ C => ?_)
  have J21 : ∀  (σ : Sg), f_X7_sync_21 x1 x2 x3 Po Px  σ → OK Γ Ω 6 21 [] [] σ := by
    intro  σ h
    unfold f_X7_sync_21 at h
    exact okx_throw C xt_58_60 dX7_sync_21 dX7_sync_24 dX7_sync_25 dX7_sync_28 (Nat.le_of_ble_eq_true rfl) (Nat.le_of_ble_eq_true rfl) h
  have h : f_X7_sync_e x1 x2 x3 Po Px σ := hvc  
  unfold f_X7_sync_e at h
  refine okx_sub (L2 := [(0, .ref (Ω.2.2.1 0)), (1, .int x1), (2, .int x2), (3, .long x3)]) [0, 1, 2, 3] rfl ?_
  refine okx_aload_n C 0 dX7_sync_0 rfl rfl ?_
  refine okx_iload_n C 1 dX7_sync_1 rfl rfl ?_
  refine okx_callVi C (As := [.int x1]) (rest := []) (q := 0) (ci := 7) (kat hk kD_0) rfl (c_X7_isNode  _ _ _ h) W_4_206 W_4_208 W_0_18 W_4_209 W_1_1 hd_X7_isNode rfl ⟨Nat.le_of_ble_eq_true rfl, Nat.le_of_ble_eq_true rfl⟩ (Nat.le_of_ble_eq_true rfl) rfl dX7_sync_2 (fun r1 u2 h => ?_)
  obtain ⟨h1, h2⟩ := h
  refine okx_if_eq C 21 dX7_sync_5 rfl (fun c20 => ?_) (fun c20 => ?_)
  · have h := h1 c20
    refine okx_sub [] rfl ?_
    exact J21  _ h
  · have h := h2 c20
    refine okx_aload_n C 0 dX7_sync_8 rfl rfl ?_
    refine okx_iload_n C 2 dX7_sync_9 rfl rfl ?_
    refine okx_callVi C (As := [.int x2]) (rest := []) (q := 0) (ci := 7) (kat hk kD_0) rfl (c_X7_isNode  _ _ _ h) W_4_206 W_4_208 W_0_18 W_4_209 W_1_1 hd_X7_isNode rfl ⟨Nat.le_of_ble_eq_true rfl, Nat.le_of_ble_eq_true rfl⟩ (Nat.le_of_ble_eq_true rfl) rfl dX7_sync_10 (fun r3 u4 h => ?_)
    obtain ⟨h1, h2⟩ := h
    refine okx_if_eq C 21 dX7_sync_13 rfl (fun c19 => ?_) (fun c19 => ?_)
    · have h := h1 c19
      refine okx_sub [] rfl ?_
      exact J21  _ h
    · have h := h2 c19
      refine okx_iload_n C 1 dX7_sync_16 rfl rfl ?_
      refine okx_iload_n C 2 dX7_sync_17 rfl rfl ?_
      obtain ⟨h1, h2⟩ := h
      refine okx_icmp_ne C 29 dX7_sync_18 rfl (fun c18 => ?_) (fun c18 => ?_)
      · have h := h1 c18
        refine okx_aload_n C 0 dX7_sync_29 rfl rfl ?_
        refine okx_getR C (ci := 7) hinX7 (kat hk kD_0) rfl 1 (by decide) W_4_158 (fun _ _ h => h) rfl dX7_sync_30 ?_
        refine okx_callVi C (As := []) (rest := []) (q := 7) (ci := 2) (kat hk kD_7) rfl (c_X2_isFull   _ _ h) W_5_1 W_5_2 W_5_3 W_5_4 W_1_3 hd_X2_isFull rfl ⟨Nat.le_of_ble_eq_true rfl, Nat.le_of_ble_eq_true rfl⟩ (Nat.le_of_ble_eq_true rfl) rfl dX7_sync_33 (fun r5 u6 h => ?_)
        obtain ⟨h1, h2⟩ := h
        refine okx_if_eq C 47 dX7_sync_36 rfl (fun c17 => ?_) (fun c17 => ?_)
        · have h := h1 c17
          refine okx_aload_n C 0 dX7_sync_47 rfl rfl ?_
          refine okx_getR C (ci := 7) hinX7 (kat hk kD_0) rfl 1 (by decide) W_4_158 (fun _ _ h => h) rfl dX7_sync_48 ?_
          refine okx_getRN C (ci := 2) hinX2 (kat hk kD_7) rfl 9 (by decide) nbf_15 (fun _ _ h => h) rfl dX7_sync_51 ?_
          refine okx_iload_n C 2 dX7_sync_54 rfl rfl ?_
          refine okx_aload_n C 0 dX7_sync_55 rfl rfl ?_
          refine okx_getR C (ci := 7) hinX7 (kat hk kD_0) rfl 1 (by decide) W_4_158 (fun _ _ h => h) rfl dX7_sync_56 ?_
          refine okx_getRN C (ci := 2) hinX2 (kat hk kD_7) rfl 9 (by decide) nbf_15 (fun _ _ h => h) rfl dX7_sync_59 ?_
          refine okx_iload_n C 1 dX7_sync_62 rfl rfl ?_
          refine okx_callVv C (As := [.int x2, .ref (Ω.2.2.1 20), .int x1]) (rest := []) (q := 20) (ci := 0) (kat hk kD_20) rfl (c_X0_join 20 32 20 32 bt_20 bt_20 _ _ _ _ h) W_5_5 W_4_64 W_4_65 W_4_66 W_1_5 hd_X0_join rfl ⟨Nat.le_of_ble_eq_true rfl, Nat.le_of_ble_eq_true rfl⟩ (Nat.le_of_ble_eq_true rfl) rfl dX7_sync_63 (fun u8 h => ?_)
          refine okx_aload_n C 0 dX7_sync_66 rfl rfl ?_
          refine okx_iload_n C 2 dX7_sync_67 rfl rfl ?_
          refine okx_aload_n C 0 dX7_sync_68 rfl rfl ?_
          refine okx_getR C (ci := 7) hinX7 (kat hk kD_0) rfl 5 (by decide) W_4_162 (fun _ _ h => h) rfl dX7_sync_69 ?_
          refine okx_iload_n C 2 dX7_sync_72 rfl rfl ?_
          obtain ⟨g9, h⟩ := h
          refine okx_iald C (kat hk kD_2) g9 dX7_sync_73 ?_
          refine okx_aload_n C 0 dX7_sync_74 rfl rfl ?_
          refine okx_getR C (ci := 7) hinX7 (kat hk kD_0) rfl 5 (by decide) W_4_162 (fun _ _ h => h) rfl dX7_sync_75 ?_
          refine okx_iload_n C 1 dX7_sync_78 rfl rfl ?_
          obtain ⟨g10, h⟩ := h
          refine okx_iald C (kat hk kD_2) g10 dX7_sync_79 ?_
          refine okx_lload_n C 3 dX7_sync_80 rfl rfl ?_
          refine okx_aload_n C 0 dX7_sync_81 rfl rfl ?_
          refine okx_getR C (ci := 7) hinX7 (kat hk kD_0) rfl 0 (by decide) W_4_157 (fun _ _ h => h) rfl dX7_sync_82 ?_
          refine okx_getRN C (ci := 6) hinX6 (kat hk kD_3) rfl 2 (by decide) nbf_0 (fun _ _ h => h) rfl dX7_sync_85 ?_
          refine okx_iload_n C 2 dX7_sync_88 rfl rfl ?_
          obtain ⟨g11, h⟩ := h
          refine okx_iald C (kat hk kD_6) g11 dX7_sync_89 ?_
          refine okx_iconst C (v := 3) dX7_sync_90 (by decide) ?_
          refine okx_mmin C W_5_6 W_3_83 W_1_20 W_3_84 (Nat.le_of_ble_eq_true rfl) (Nat.le_of_ble_eq_true rfl) dX7_sync_91 ?_
          refine okx_callVi C (As := [.int x2, .int (u8.1 2 x2.toNatClampNeg), .int (u8.1 2 x1.toNatClampNeg), .long x3, .int (imin (u8.1 6 x2.toNatClampNeg) 3)]) (rest := []) (q := 0) (ci := 7) (kat hk kD_0) rfl (c_X7_makeEvent  _ _ _ _ _ _ _ h) W_2_110 W_2_112 W_0_1 W_2_113 W_1_1 hd_X7_makeEvent rfl ⟨Nat.le_of_ble_eq_true rfl, Nat.le_of_ble_eq_true rfl⟩ (Nat.le_of_ble_eq_true rfl) rfl dX7_sync_94 (fun r12 u13 h => ?_)
          refine okx_istore C (L2 := [(5, .int r12), (0, .ref (Ω.2.2.1 0)), (1, .int x1), (2, .int x2), (3, .long x3)]) dX7_sync_97 (by decide) rfl ?_
          refine okx_aload_n C 1 dX7_sync_99 rfl rfl ?_
          refine okx_iload C 0 dX7_sync_100 rfl ?_
          refine okx_iload_n C 3 dX7_sync_102 rfl rfl ?_
          refine okx_callVv C (As := [.int r12, .int x2]) (rest := []) (q := 0) (ci := 7) (kat hk kD_0) rfl (c_X7_give  _ _ _ _ h) W_4_152 W_4_154 W_0_17 W_4_155 W_1_1 hd_X7_give rfl ⟨Nat.le_of_ble_eq_true rfl, Nat.le_of_ble_eq_true rfl⟩ (Nat.le_of_ble_eq_true rfl) rfl dX7_sync_103 (fun u15 h => ?_)
          refine okx_aload_n C 1 dX7_sync_106 rfl rfl ?_
          refine okx_getR C (ci := 7) hinX7 (kat hk kD_0) rfl 5 (by decide) W_4_162 (fun _ _ h => h) rfl dX7_sync_107 ?_
          refine okx_iload_n C 3 dX7_sync_110 rfl rfl ?_
          refine okx_iload C 0 dX7_sync_111 rfl ?_
          obtain ⟨g16, h⟩ := h
          refine okx_iast C (kat hk kD_2) g16 dX7_sync_113 ?_
          refine okx_iload C 0 dX7_sync_114 rfl ?_
          exact okx_iret C rfl rfl dX7_sync_116 h
        · have h := h2 c17
          exact okx_throw C xt_69_71 dX7_sync_39 dX7_sync_42 dX7_sync_43 dX7_sync_46 (Nat.le_of_ble_eq_true rfl) (Nat.le_of_ble_eq_true rfl) h
      · have h := h2 c18
        refine okx_sub [] rfl ?_
        exact J21  _ h
set_option maxRecDepth 100000 in
set_option maxHeartbeats 4000000 in
theorem m_X7_inject {l : Launch} {Ω : Wm} (hk : Hk Ω kD) (hst : l.stackTraces = false) (c_X7_give : CT_X7_give l Ω) (c_X7_isHeld : CT_X7_isHeld l Ω) (c_X7_isNode : CT_X7_isNode l Ω) (c_X7_makeEvent : CT_X7_makeEvent l Ω) (c_X2_hasOneOf : CT_X2_hasOneOf l Ω) (c_X2_isFull : CT_X2_isFull l Ω) (hv : ∀ (x1 : Int32) (x2 : Int32) (x3 : Int32) (x4 : Int32) (x5 : Int64) (σ : Sg) (K : Int32 → Sg → Prop) (Px : String → Sg → Prop), sp_X7_inject x1 x2 x3 x4 x5 σ K Px → vc_X7_inject x1 x2 x3 x4 x5 σ K Px) : CT_X7_inject l Ω := by
  intro x1 x2 x3 x4 x5 σ Po Px hsp
  have hvc := hv x1 x2 x3 x4 x5 σ Po Px hsp
  refine Cu.of hst (by decide +kernel) (Nat.le_of_ble_eq_true rfl) (fun Γ C => ?_)
  have J97 : ∀  (σ : Sg), f_X7_inject_97 x1 x2 x3 x4 x5 Po Px  σ → OK Γ Ω 8 97 [(0, .ref (Ω.2.2.1 0)), (1, .int x1), (2, .int x2), (3, .int x3), (4, .int x4), (5, .long x5)] [] σ := by
    intro  σ h
    unfold f_X7_inject_97 at h
    refine okx_aload_n C 0 dX7_inject_97 rfl rfl ?_
    refine okx_getR C (ci := 7) hinX7 (kat hk kD_0) rfl 1 (by decide) W_4_158 (fun _ _ h => h) rfl dX7_inject_98 ?_
    refine okx_iload_n C 2 dX7_inject_101 rfl rfl ?_
    refine okx_iload_n C 3 dX7_inject_102 rfl rfl ?_
    refine okx_iload C 4 dX7_inject_103 rfl ?_
    refine okx_lload C 5 dX7_inject_105 rfl ?_
    refine okx_callVi C (As := [.int x2, .int x3, .int x4, .long x5]) (rest := []) (q := 7) (ci := 2) (kat hk kD_7) rfl (c_X2_hasOneOf  _ _ _ _ _ _ h) W_5_24 W_5_25 W_5_26 W_5_27 W_1_3 hd_X2_hasOneOf rfl ⟨Nat.le_of_ble_eq_true rfl, Nat.le_of_ble_eq_true rfl⟩ (Nat.le_of_ble_eq_true rfl) rfl dX7_inject_107 (fun r19 u20 h => ?_)
    obtain ⟨h1, h2⟩ := h
    refine okx_if_eq C 121 dX7_inject_110 rfl (fun c28 => ?_) (fun c28 => ?_)
    · have h := h1 c28
      refine okx_aload_n C 0 dX7_inject_121 rfl rfl ?_
      refine okx_getR C (ci := 7) hinX7 (kat hk kD_0) rfl 1 (by decide) W_4_158 (fun _ _ h => h) rfl dX7_inject_122 ?_
      refine okx_callVi C (As := []) (rest := []) (q := 7) (ci := 2) (kat hk kD_7) rfl (c_X2_isFull   _ _ h) W_5_1 W_5_2 W_5_3 W_5_4 W_1_3 hd_X2_isFull rfl ⟨Nat.le_of_ble_eq_true rfl, Nat.le_of_ble_eq_true rfl⟩ (Nat.le_of_ble_eq_true rfl) rfl dX7_inject_125 (fun r21 u22 h => ?_)
      obtain ⟨h1, h2⟩ := h
      refine okx_if_eq C 139 dX7_inject_128 rfl (fun c27 => ?_) (fun c27 => ?_)
      · have h := h1 c27
        refine okx_aload_n C 0 dX7_inject_139 rfl rfl ?_
        refine okx_iload_n C 2 dX7_inject_140 rfl rfl ?_
        refine okx_iload_n C 3 dX7_inject_141 rfl rfl ?_
        refine okx_iload C 4 dX7_inject_142 rfl ?_
        refine okx_lload C 5 dX7_inject_144 rfl ?_
        refine okx_iconst C (v := 0) dX7_inject_146 (by decide) ?_
        refine okx_callVi C (As := [.int x2, .int x3, .int x4, .long x5, .int 0]) (rest := []) (q := 0) (ci := 7) (kat hk kD_0) rfl (c_X7_makeEvent  _ _ _ _ _ _ _ h) W_2_110 W_2_112 W_0_1 W_2_113 W_1_1 hd_X7_makeEvent rfl ⟨Nat.le_of_ble_eq_true rfl, Nat.le_of_ble_eq_true rfl⟩ (Nat.le_of_ble_eq_true rfl) rfl dX7_inject_147 (fun r23 u24 h => ?_)
        refine okx_istore C (L2 := [(7, .int r23), (0, .ref (Ω.2.2.1 0)), (1, .int x1), (2, .int x2), (3, .int x3), (4, .int x4), (5, .long x5)]) dX7_inject_150 (by decide) rfl ?_
        refine okx_aload_n C 1 dX7_inject_152 rfl rfl ?_
        refine okx_iload C 0 dX7_inject_153 rfl ?_
        refine okx_iload_n C 2 dX7_inject_155 rfl rfl ?_
        refine okx_callVv C (As := [.int r23, .int x1]) (rest := []) (q := 0) (ci := 7) (kat hk kD_0) rfl (c_X7_give  _ _ _ _ h) W_4_152 W_4_154 W_0_17 W_4_155 W_1_1 hd_X7_give rfl ⟨Nat.le_of_ble_eq_true rfl, Nat.le_of_ble_eq_true rfl⟩ (Nat.le_of_ble_eq_true rfl) rfl dX7_inject_156 (fun u26 h => ?_)
        refine okx_iload C 0 dX7_inject_159 rfl ?_
        exact okx_iret C rfl rfl dX7_inject_161 h
      · have h := h2 c27
        exact okx_throw C xt_69_71 dX7_inject_131 dX7_inject_134 dX7_inject_135 dX7_inject_138 (Nat.le_of_ble_eq_true rfl) (Nat.le_of_ble_eq_true rfl) h
    · have h := h2 c28
      exact okx_throw C xt_116_118 dX7_inject_113 dX7_inject_116 dX7_inject_117 dX7_inject_120 (Nat.le_of_ble_eq_true rfl) (Nat.le_of_ble_eq_true rfl) h
  have J89 : ∀  (σ : Sg), f_X7_inject_89 x1 x2 x3 x4 x5 Po Px  σ → OK Γ Ω 8 89 [] [] σ := by
    intro  σ h
    unfold f_X7_inject_89 at h
    exact okx_throw C xt_58_60 dX7_inject_89 dX7_inject_92 dX7_inject_93 dX7_inject_96 (Nat.le_of_ble_eq_true rfl) (Nat.le_of_ble_eq_true rfl) h
  have J51 : ∀  (σ : Sg), f_X7_inject_51 x1 x2 x3 x4 x5 Po Px  σ → OK Γ Ω 8 51 [] [] σ := by
    intro  σ h
    unfold f_X7_inject_51 at h
    exact okx_throw C xt_58_60 dX7_inject_51 dX7_inject_54 dX7_inject_55 dX7_inject_58 (Nat.le_of_ble_eq_true rfl) (Nat.le_of_ble_eq_true rfl) h
  have J21 : ∀  (σ : Sg), f_X7_inject_21 x1 x2 x3 x4 x5 Po Px  σ → OK Γ Ω 8 21 [] [] σ := by
    intro  σ h
    unfold f_X7_inject_21 at h
    exact okx_throw C xt_58_60 dX7_inject_21 dX7_inject_24 dX7_inject_25 dX7_inject_28 (Nat.le_of_ble_eq_true rfl) (Nat.le_of_ble_eq_true rfl) h
  have h : f_X7_inject_e x1 x2 x3 x4 x5 Po Px σ := hvc  
  unfold f_X7_inject_e at h
  refine okx_sub (L2 := [(0, .ref (Ω.2.2.1 0)), (1, .int x1), (2, .int x2), (3, .int x3), (4, .int x4), (5, .long x5)]) [0, 1, 2, 3, 4, 5] rfl ?_
  refine okx_aload_n C 0 dX7_inject_0 rfl rfl ?_
  refine okx_iload_n C 1 dX7_inject_1 rfl rfl ?_
  refine okx_callVi C (As := [.int x1]) (rest := []) (q := 0) (ci := 7) (kat hk kD_0) rfl (c_X7_isNode  _ _ _ h) W_4_206 W_4_208 W_0_18 W_4_209 W_1_1 hd_X7_isNode rfl ⟨Nat.le_of_ble_eq_true rfl, Nat.le_of_ble_eq_true rfl⟩ (Nat.le_of_ble_eq_true rfl) rfl dX7_inject_2 (fun r1 u2 h => ?_)
  obtain ⟨h1, h2⟩ := h
  refine okx_if_eq C 21 dX7_inject_5 rfl (fun c18 => ?_) (fun c18 => ?_)
  · have h := h1 c18
    refine okx_sub [] rfl ?_
    exact J21  _ h
  · have h := h2 c18
    refine okx_aload_n C 0 dX7_inject_8 rfl rfl ?_
    refine okx_iload_n C 2 dX7_inject_9 rfl rfl ?_
    refine okx_callVi C (As := [.int x2]) (rest := []) (q := 0) (ci := 7) (kat hk kD_0) rfl (c_X7_isNode  _ _ _ h) W_4_206 W_4_208 W_0_18 W_4_209 W_1_1 hd_X7_isNode rfl ⟨Nat.le_of_ble_eq_true rfl, Nat.le_of_ble_eq_true rfl⟩ (Nat.le_of_ble_eq_true rfl) rfl dX7_inject_10 (fun r3 u4 h => ?_)
    obtain ⟨h1, h2⟩ := h
    refine okx_if_eq C 21 dX7_inject_13 rfl (fun c17 => ?_) (fun c17 => ?_)
    · have h := h1 c17
      refine okx_sub [] rfl ?_
      exact J21  _ h
    · have h := h2 c17
      refine okx_iload_n C 1 dX7_inject_16 rfl rfl ?_
      refine okx_iload_n C 2 dX7_inject_17 rfl rfl ?_
      obtain ⟨h1, h2⟩ := h
      refine okx_icmp_ne C 29 dX7_inject_18 rfl (fun c16 => ?_) (fun c16 => ?_)
      · have h := h1 c16
        refine okx_aload_n C 0 dX7_inject_29 rfl rfl ?_
        refine okx_iload_n C 1 dX7_inject_30 rfl rfl ?_
        refine okx_iload_n C 3 dX7_inject_31 rfl rfl ?_
        refine okx_callVi C (As := [.int x1, .int x3]) (rest := []) (q := 0) (ci := 7) (kat hk kD_0) rfl (c_X7_isHeld  _ _ _ _ h) W_5_15 W_5_17 W_0_19 W_5_18 W_1_1 hd_X7_isHeld rfl ⟨Nat.le_of_ble_eq_true rfl, Nat.le_of_ble_eq_true rfl⟩ (Nat.le_of_ble_eq_true rfl) rfl dX7_inject_32 (fun r5 u6 h => ?_)
        obtain ⟨h1, h2⟩ := h
        refine okx_if_eq C 51 dX7_inject_35 rfl (fun c15 => ?_) (fun c15 => ?_)
        · have h := h1 c15
          refine okx_sub [] rfl ?_
          exact J51  _ h
        · have h := h2 c15
          refine okx_aload_n C 0 dX7_inject_38 rfl rfl ?_
          refine okx_getR C (ci := 7) hinX7 (kat hk kD_0) rfl 1 (by decide) W_4_158 (fun _ _ h => h) rfl dX7_inject_39 ?_
          refine okx_getRN C (ci := 2) hinX2 (kat hk kD_7) rfl 1 (by decide) nbf_2 (fun _ _ h => h) rfl dX7_inject_42 ?_
          refine okx_iload_n C 3 dX7_inject_45 rfl rfl ?_
          obtain ⟨g7, h⟩ := h
          refine okx_iald C (kat hk kD_12) g7 dX7_inject_46 ?_
          refine okx_iload_n C 2 dX7_inject_47 rfl rfl ?_
          obtain ⟨h1, h2⟩ := h
          refine okx_icmp_eq C 59 dX7_inject_48 rfl (fun c14 => ?_) (fun c14 => ?_)
          · have h := h1 c14
            refine okx_iload C 4 dX7_inject_59 rfl ?_
            refine okx_iconst C (v := (-1)) dX7_inject_61 (by decide) ?_
            obtain ⟨h1, h2⟩ := h
            refine okx_icmp_eq C 97 dX7_inject_62 rfl (fun c13 => ?_) (fun c13 => ?_)
            · have h := h1 c13
              refine okx_sub [0, 1, 2, 3, 4, 5] rfl ?_
              exact J97  _ h
            · have h := h2 c13
              refine okx_aload_n C 0 dX7_inject_65 rfl rfl ?_
              refine okx_iload_n C 1 dX7_inject_66 rfl rfl ?_
              refine okx_iload C 4 dX7_inject_67 rfl ?_
              refine okx_callVi C (As := [.int x1, .int x4]) (rest := []) (q := 0) (ci := 7) (kat hk kD_0) rfl (c_X7_isHeld  _ _ _ _ h) W_5_15 W_5_17 W_0_19 W_5_18 W_1_1 hd_X7_isHeld rfl ⟨Nat.le_of_ble_eq_true rfl, Nat.le_of_ble_eq_true rfl⟩ (Nat.le_of_ble_eq_true rfl) rfl dX7_inject_69 (fun r8 u9 h => ?_)
              obtain ⟨h1, h2⟩ := h
              refine okx_if_eq C 89 dX7_inject_72 rfl (fun c12 => ?_) (fun c12 => ?_)
              · have h := h1 c12
                refine okx_sub [] rfl ?_
                exact J89  _ h
              · have h := h2 c12
                refine okx_aload_n C 0 dX7_inject_75 rfl rfl ?_
                refine okx_getR C (ci := 7) hinX7 (kat hk kD_0) rfl 1 (by decide) W_4_158 (fun _ _ h => h) rfl dX7_inject_76 ?_
                refine okx_getRN C (ci := 2) hinX2 (kat hk kD_7) rfl 1 (by decide) nbf_2 (fun _ _ h => h) rfl dX7_inject_79 ?_
                refine okx_iload C 4 dX7_inject_82 rfl ?_
                obtain ⟨g10, h⟩ := h
                refine okx_iald C (kat hk kD_12) g10 dX7_inject_84 ?_
                refine okx_iload_n C 2 dX7_inject_85 rfl rfl ?_
                obtain ⟨h1, h2⟩ := h
                refine okx_icmp_ne C 97 dX7_inject_86 rfl (fun c11 => ?_) (fun c11 => ?_)
                · have h := h1 c11
                  refine okx_sub [0, 1, 2, 3, 4, 5] rfl ?_
                  exact J97  _ h
                · have h := h2 c11
                  refine okx_sub [] rfl ?_
                  exact J89  _ h
          · have h := h2 c14
            refine okx_sub [] rfl ?_
            exact J51  _ h
      · have h := h2 c16
        refine okx_sub [] rfl ?_
        exact J21  _ h
set_option maxRecDepth 100000 in
set_option maxHeartbeats 4000000 in
theorem m_X7_event {l : Launch} {Ω : Wm} (hk : Hk Ω kD) (hst : l.stackTraces = false) (c_X7_isEvent : CT_X7_isEvent l Ω) (c_X0_rowsWith : CT_X0_rowsWith l Ω) (c_X0_size : CT_X0_size l Ω) (hv : ∀ (x1 : Int32) (x2 : Int32) (σ : Sg) (K : Int32 → Sg → Prop) (Px : String → Sg → Prop), sp_X7_event x1 x2 σ K Px → vc_X7_event x1 x2 σ K Px) : CT_X7_event l Ω := by
  intro x1 x2 σ Po Px hsp
  have hvc := hv x1 x2 σ Po Px hsp
  refine Cu.of hst (by decide +kernel) (Nat.le_of_ble_eq_true rfl) (fun Γ C => ?_)
  have J133 : ∀ (s0 : Int32) (σ : Sg), f_X7_event_133 x1 x2 Po Px s0 σ → OK Γ Ω 3 133 [] [.int s0] σ := by
    intro s0 σ h
    unfold f_X7_event_133 at h
    exact okx_iret C rfl rfl dX7_event_133 h
  have J10 : ∀  (σ : Sg), f_X7_event_10 x1 x2 Po Px  σ → OK Γ Ω 3 10 [] [] σ := by
    intro  σ h
    unfold f_X7_event_10 at h
    exact okx_throw C xt_58_60 dX7_event_10 dX7_event_13 dX7_event_14 dX7_event_17 (Nat.le_of_ble_eq_true rfl) (Nat.le_of_ble_eq_true rfl) h
  have h : f_X7_event_e x1 x2 Po Px σ := hvc  
  unfold f_X7_event_e at h
  refine okx_sub (L2 := [(0, .ref (Ω.2.2.1 0)), (1, .int x1), (2, .int x2)]) [0, 1, 2] rfl ?_
  refine okx_iload_n C 2 dX7_event_0 rfl rfl ?_
  obtain ⟨h1, h2⟩ := h
  refine okx_if_lt C 10 dX7_event_1 rfl (fun c16 => ?_) (fun c16 => ?_)
  · have h := h1 c16
    refine okx_sub [] rfl ?_
    exact J10  _ h
  · have h := h2 c16
    refine okx_iload_n C 2 dX7_event_4 rfl rfl ?_
    refine okx_bipush C (v := 7) dX7_event_5 (by decide) ?_
    obtain ⟨h1, h2⟩ := h
    refine okx_icmp_le C 18 dX7_event_7 rfl (fun c15 => ?_) (fun c15 => ?_)
    · have h := h1 c15
      refine okx_aload_n C 0 dX7_event_18 rfl rfl ?_
      refine okx_iload_n C 1 dX7_event_19 rfl rfl ?_
      refine okx_callVi C (As := [.int x1]) (rest := []) (q := 0) (ci := 7) (kat hk kD_0) rfl (c_X7_isEvent  _ _ _ h) W_5_19 W_5_21 W_0_20 W_5_22 W_1_1 hd_X7_isEvent rfl ⟨Nat.le_of_ble_eq_true rfl, Nat.le_of_ble_eq_true rfl⟩ (Nat.le_of_ble_eq_true rfl) rfl dX7_event_20 (fun r1 u2 h => ?_)
      obtain ⟨h1, h2⟩ := h
      refine okx_if_ne C 34 dX7_event_23 rfl (fun c14 => ?_) (fun c14 => ?_)
      · have h := h1 c14
        refine okx_iload_n C 2 dX7_event_34 rfl rfl ?_
        rcases (show (x2.toInt < 0 ∨ 6 < x2.toInt) ∨ x2.toInt = 0 ∨ x2.toInt = 1 ∨ x2.toInt = 2 ∨ x2.toInt = 3 ∨ x2.toInt = 4 ∨ x2.toInt = 5 ∨ x2.toInt = 6 by omega) with c | c | c | c | c | c | c | c
        · have h := h.1 c
          refine okx_tableOut C 156 dX7_event_35 c rfl ?_
          refine okx_aload_n C 0 dX7_event_156 rfl rfl ?_
          refine okx_getR C (ci := 7) hinX7 (kat hk kD_0) rfl 2 (by decide) W_4_159 (fun _ _ h => h) rfl dX7_event_157 ?_
          refine okx_getRN C (ci := 3) hinX3 (kat hk kD_22) rfl 1 (by decide) nbf_18 (fun _ _ h => h) rfl dX7_event_160 ?_
          refine okx_iload_n C 1 dX7_event_163 rfl rfl ?_
          refine okx_callVi C (As := [.int x1]) (rest := []) (q := 23) (ci := 0) (kat hk kD_23) rfl (c_X0_size 23 960 bt_23 _ _ _ h) W_5_51 W_4_145 W_4_146 W_4_147 W_1_5 hd_X0_size rfl ⟨Nat.le_of_ble_eq_true rfl, Nat.le_of_ble_eq_true rfl⟩ (Nat.le_of_ble_eq_true rfl) rfl dX7_event_164 (fun r3 u4 h => ?_)
          exact okx_iret C rfl rfl dX7_event_167 h
        · have h := h.2.1 c
          refine okx_tableIn C 76 dX7_event_35 (by omega) (by omega) (by rw [c]; rfl) rfl ?_
          refine okx_aload_n C 0 dX7_event_76 rfl rfl ?_
          refine okx_getR C (ci := 7) hinX7 (kat hk kD_0) rfl 1 (by decide) W_4_158 (fun _ _ h => h) rfl dX7_event_77 ?_
          refine okx_getRN C (ci := 2) hinX2 (kat hk kD_7) rfl 1 (by decide) nbf_2 (fun _ _ h => h) rfl dX7_event_80 ?_
          refine okx_iload_n C 1 dX7_event_83 rfl rfl ?_
          obtain ⟨g5, h⟩ := h
          refine okx_iald C (kat hk kD_12) g5 dX7_event_84 ?_
          exact okx_iret C rfl rfl dX7_event_85 h
        · have h := h.2.2.1 c
          refine okx_tableIn C 86 dX7_event_35 (by omega) (by omega) (by rw [c]; rfl) rfl ?_
          refine okx_aload_n C 0 dX7_event_86 rfl rfl ?_
          refine okx_getR C (ci := 7) hinX7 (kat hk kD_0) rfl 1 (by decide) W_4_158 (fun _ _ h => h) rfl dX7_event_87 ?_
          refine okx_getRN C (ci := 2) hinX2 (kat hk kD_7) rfl 2 (by decide) nbf_5 (fun _ _ h => h) rfl dX7_event_90 ?_
          refine okx_iload_n C 1 dX7_event_93 rfl rfl ?_
          obtain ⟨g6, h⟩ := h
          refine okx_iald C (kat hk kD_13) g6 dX7_event_94 ?_
          exact okx_iret C rfl rfl dX7_event_95 h
        · have h := h.2.2.2.1 c
          refine okx_tableIn C 96 dX7_event_35 (by omega) (by omega) (by rw [c]; rfl) rfl ?_
          refine okx_aload_n C 0 dX7_event_96 rfl rfl ?_
          refine okx_getR C (ci := 7) hinX7 (kat hk kD_0) rfl 1 (by decide) W_4_158 (fun _ _ h => h) rfl dX7_event_97 ?_
          refine okx_getRN C (ci := 2) hinX2 (kat hk kD_7) rfl 3 (by decide) nbf_8 (fun _ _ h => h) rfl dX7_event_100 ?_
          refine okx_iload_n C 1 dX7_event_103 rfl rfl ?_
          obtain ⟨g7, h⟩ := h
          refine okx_iald C (kat hk kD_14) g7 dX7_event_104 ?_
          exact okx_iret C rfl rfl dX7_event_105 h
        · have h := h.2.2.2.2.1 c
          refine okx_tableIn C 106 dX7_event_35 (by omega) (by omega) (by rw [c]; rfl) rfl ?_
          refine okx_aload_n C 0 dX7_event_106 rfl rfl ?_
          refine okx_getR C (ci := 7) hinX7 (kat hk kD_0) rfl 2 (by decide) W_4_159 (fun _ _ h => h) rfl dX7_event_107 ?_
          refine okx_getRN C (ci := 3) hinX3 (kat hk kD_22) rfl 6 (by decide) nbf_26 (fun _ _ h => h) rfl dX7_event_110 ?_
          refine okx_iload_n C 1 dX7_event_113 rfl rfl ?_
          obtain ⟨g8, h⟩ := h
          refine okx_iald C (kat hk kD_32) g8 dX7_event_114 ?_
          exact okx_iret C rfl rfl dX7_event_115 h
        · have h := h.2.2.2.2.2.1 c
          refine okx_tableIn C 116 dX7_event_35 (by omega) (by omega) (by rw [c]; rfl) rfl ?_
          refine okx_aload_n C 0 dX7_event_116 rfl rfl ?_
          refine okx_getR C (ci := 7) hinX7 (kat hk kD_0) rfl 2 (by decide) W_4_159 (fun _ _ h => h) rfl dX7_event_117 ?_
          refine okx_getRN C (ci := 3) hinX3 (kat hk kD_22) rfl 7 (by decide) nbf_28 (fun _ _ h => h) rfl dX7_event_120 ?_
          refine okx_iload_n C 1 dX7_event_123 rfl rfl ?_
          obtain ⟨g9, h⟩ := h
          refine okx_zald C (kat hk kD_33) g9 dX7_event_124 ?_
          obtain ⟨h1, h2⟩ := h
          refine okx_if_eq C 132 dX7_event_125 rfl (fun c10 => ?_) (fun c10 => ?_)
          · have h := h1 c10
            refine okx_iconst C (v := 0) dX7_event_132 (by decide) ?_
            refine okx_sub [] rfl ?_
            exact J133 _ _ h
          · have h := h2 c10
            refine okx_iconst C (v := 1) dX7_event_128 (by decide) ?_
            refine okx_goto C 133 dX7_event_129 rfl ?_
            refine okx_sub [] rfl ?_
            exact J133 _ _ h
        · have h := h.2.2.2.2.2.2.1 c
          refine okx_tableIn C 134 dX7_event_35 (by omega) (by omega) (by rw [c]; rfl) rfl ?_
          refine okx_aload_n C 0 dX7_event_134 rfl rfl ?_
          refine okx_getR C (ci := 7) hinX7 (kat hk kD_0) rfl 1 (by decide) W_4_158 (fun _ _ h => h) rfl dX7_event_135 ?_
          refine okx_getRN C (ci := 2) hinX2 (kat hk kD_7) rfl 5 (by decide) nbf_10 (fun _ _ h => h) rfl dX7_event_138 ?_
          refine okx_iload_n C 1 dX7_event_141 rfl rfl ?_
          obtain ⟨g11, h⟩ := h
          refine okx_iald C (kat hk kD_16) g11 dX7_event_142 ?_
          exact okx_iret C rfl rfl dX7_event_143 h
        · have h := h.2.2.2.2.2.2.2 c
          refine okx_tableIn C 144 dX7_event_35 (by omega) (by omega) (by rw [c]; rfl) rfl ?_
          refine okx_aload_n C 0 dX7_event_144 rfl rfl ?_
          refine okx_getR C (ci := 7) hinX7 (kat hk kD_0) rfl 1 (by decide) W_4_158 (fun _ _ h => h) rfl dX7_event_145 ?_
          refine okx_getRN C (ci := 2) hinX2 (kat hk kD_7) rfl 9 (by decide) nbf_15 (fun _ _ h => h) rfl dX7_event_148 ?_
          refine okx_iload_n C 1 dX7_event_151 rfl rfl ?_
          refine okx_callVi C (As := [.int x1]) (rest := []) (q := 20) (ci := 0) (kat hk kD_20) rfl (c_X0_rowsWith 20 32 bt_20 _ _ _ h) W_5_50 W_4_94 W_4_95 W_4_96 W_1_5 hd_X0_rowsWith rfl ⟨Nat.le_of_ble_eq_true rfl, Nat.le_of_ble_eq_true rfl⟩ (Nat.le_of_ble_eq_true rfl) rfl dX7_event_152 (fun r12 u13 h => ?_)
          exact okx_iret C rfl rfl dX7_event_155 h
      · have h := h2 c14
        exact okx_throw C xt_69_71 dX7_event_26 dX7_event_29 dX7_event_30 dX7_event_33 (Nat.le_of_ble_eq_true rfl) (Nat.le_of_ble_eq_true rfl) h
    · have h := h2 c15
      refine okx_sub [] rfl ?_
      exact J10  _ h
set_option maxRecDepth 100000 in
set_option maxHeartbeats 4000000 in
theorem m_X7_hash {l : Launch} {Ω : Wm} (hk : Hk Ω kD) (hst : l.stackTraces = false) (c_X7_isEvent : CT_X7_isEvent l Ω) (c_X2_hashWord : CT_X2_hashWord l Ω) (hv : ∀ (x1 : Int32) (x2 : Int32) (σ : Sg) (K : Int32 → Sg → Prop) (Px : String → Sg → Prop), sp_X7_hash x1 x2 σ K Px → vc_X7_hash x1 x2 σ K Px) : CT_X7_hash l Ω := by
  intro x1 x2 σ Po Px hsp
  have hvc := hv x1 x2 σ Po Px hsp
  refine Cu.of hst (by decide +kernel) (Nat.le_of_ble_eq_true rfl) (fun Γ C => ?_)
  have J18 : ∀  (σ : Sg), f_X7_hash_18 x1 x2 Po Px  σ → OK Γ Ω 3 18 [] [] σ := by
    intro  σ h
    unfold f_X7_hash_18 at h
    exact okx_throw C xt_69_71 dX7_hash_18 dX7_hash_21 dX7_hash_22 dX7_hash_25 (Nat.le_of_ble_eq_true rfl) (Nat.le_of_ble_eq_true rfl) h
  have h : f_X7_hash_e x1 x2 Po Px σ := hvc  
  unfold f_X7_hash_e at h
  refine okx_sub (L2 := [(0, .ref (Ω.2.2.1 0)), (1, .int x1), (2, .int x2)]) [0, 1, 2] rfl ?_
  refine okx_aload_n C 0 dX7_hash_0 rfl rfl ?_
  refine okx_iload_n C 1 dX7_hash_1 rfl rfl ?_
  refine okx_callVi C (As := [.int x1]) (rest := []) (q := 0) (ci := 7) (kat hk kD_0) rfl (c_X7_isEvent  _ _ _ h) W_5_19 W_5_21 W_0_20 W_5_22 W_1_1 hd_X7_isEvent rfl ⟨Nat.le_of_ble_eq_true rfl, Nat.le_of_ble_eq_true rfl⟩ (Nat.le_of_ble_eq_true rfl) rfl dX7_hash_2 (fun r1 u2 h => ?_)
  obtain ⟨h1, h2⟩ := h
  refine okx_if_eq C 18 dX7_hash_5 rfl (fun c7 => ?_) (fun c7 => ?_)
  · have h := h1 c7
    refine okx_sub [] rfl ?_
    exact J18  _ h
  · have h := h2 c7
    refine okx_iload_n C 2 dX7_hash_8 rfl rfl ?_
    obtain ⟨h1, h2⟩ := h
    refine okx_if_lt C 18 dX7_hash_9 rfl (fun c6 => ?_) (fun c6 => ?_)
    · have h := h1 c6
      refine okx_sub [] rfl ?_
      exact J18  _ h
    · have h := h2 c6
      refine okx_iload_n C 2 dX7_hash_12 rfl rfl ?_
      refine okx_bipush C (v := 8) dX7_hash_13 (by decide) ?_
      obtain ⟨h1, h2⟩ := h
      refine okx_icmp_lt C 26 dX7_hash_15 rfl (fun c5 => ?_) (fun c5 => ?_)
      · have h := h1 c5
        refine okx_aload_n C 0 dX7_hash_26 rfl rfl ?_
        refine okx_getR C (ci := 7) hinX7 (kat hk kD_0) rfl 1 (by decide) W_4_158 (fun _ _ h => h) rfl dX7_hash_27 ?_
        refine okx_iload_n C 1 dX7_hash_30 rfl rfl ?_
        refine okx_iload_n C 2 dX7_hash_31 rfl rfl ?_
        refine okx_callVi C (As := [.int x1, .int x2]) (rest := []) (q := 7) (ci := 2) (kat hk kD_7) rfl (c_X2_hashWord  _ _ _ _ h) W_5_59 W_2_155 W_2_156 W_2_157 W_1_3 hd_X2_hashWord rfl ⟨Nat.le_of_ble_eq_true rfl, Nat.le_of_ble_eq_true rfl⟩ (Nat.le_of_ble_eq_true rfl) rfl dX7_hash_32 (fun r3 u4 h => ?_)
        exact okx_iret C rfl rfl dX7_hash_35 h
      · have h := h2 c5
        refine okx_sub [] rfl ?_
        exact J18  _ h
set_option maxRecDepth 100000 in
set_option maxHeartbeats 4000000 in
theorem m_X7_sees {l : Launch} {Ω : Wm} (hk : Hk Ω kD) (hst : l.stackTraces = false) (c_X7_isEvent : CT_X7_isEvent l Ω) (c_X0_has : CT_X0_has l Ω) (hv : ∀ (x1 : Int32) (x2 : Int32) (x3 : Int32) (σ : Sg) (K : Int32 → Sg → Prop) (Px : String → Sg → Prop), sp_X7_sees x1 x2 x3 σ K Px → vc_X7_sees x1 x2 x3 σ K Px) : CT_X7_sees l Ω := by
  intro x1 x2 x3 σ Po Px hsp
  have hvc := hv x1 x2 x3 σ Po Px hsp
  refine Cu.of hst (by decide +kernel) (Nat.le_of_ble_eq_true rfl) (fun Γ C => ?_)
  have J55 : ∀ (s0 : Int32) (σ : Sg), f_X7_sees_55 x1 x2 x3 Po Px s0 σ → OK Γ Ω 4 55 [] [.int s0] σ := by
    intro s0 σ h
    unfold f_X7_sees_55 at h
    obtain ⟨z12, h⟩ := h
    exact okx_zret C rfl rfl (bz_n z12) dX7_sees_55 h
  have J16 : ∀  (σ : Sg), f_X7_sees_16 x1 x2 x3 Po Px  σ → OK Γ Ω 4 16 [] [] σ := by
    intro  σ h
    unfold f_X7_sees_16 at h
    exact okx_throw C xt_69_71 dX7_sees_16 dX7_sees_19 dX7_sees_20 dX7_sees_23 (Nat.le_of_ble_eq_true rfl) (Nat.le_of_ble_eq_true rfl) h
  have h : f_X7_sees_e x1 x2 x3 Po Px σ := hvc  
  unfold f_X7_sees_e at h
  refine okx_sub (L2 := [(0, .ref (Ω.2.2.1 0)), (1, .int x1), (2, .int x2), (3, .int x3)]) [0, 1, 2, 3] rfl ?_
  refine okx_aload_n C 0 dX7_sees_0 rfl rfl ?_
  refine okx_iload_n C 1 dX7_sees_1 rfl rfl ?_
  refine okx_callVi C (As := [.int x1]) (rest := []) (q := 0) (ci := 7) (kat hk kD_0) rfl (c_X7_isEvent  _ _ _ h) W_5_19 W_5_21 W_0_20 W_5_22 W_1_1 hd_X7_isEvent rfl ⟨Nat.le_of_ble_eq_true rfl, Nat.le_of_ble_eq_true rfl⟩ (Nat.le_of_ble_eq_true rfl) rfl dX7_sees_2 (fun r1 u2 h => ?_)
  obtain ⟨h1, h2⟩ := h
  refine okx_if_eq C 16 dX7_sees_5 rfl (fun c11 => ?_) (fun c11 => ?_)
  · have h := h1 c11
    refine okx_sub [] rfl ?_
    exact J16  _ h
  · have h := h2 c11
    refine okx_aload_n C 0 dX7_sees_8 rfl rfl ?_
    refine okx_iload_n C 2 dX7_sees_9 rfl rfl ?_
    refine okx_callVi C (As := [.int x2]) (rest := []) (q := 0) (ci := 7) (kat hk kD_0) rfl (c_X7_isEvent  _ _ _ h) W_5_19 W_5_21 W_0_20 W_5_22 W_1_1 hd_X7_isEvent rfl ⟨Nat.le_of_ble_eq_true rfl, Nat.le_of_ble_eq_true rfl⟩ (Nat.le_of_ble_eq_true rfl) rfl dX7_sees_10 (fun r3 u4 h => ?_)
    obtain ⟨h1, h2⟩ := h
    refine okx_if_ne C 24 dX7_sees_13 rfl (fun c10 => ?_) (fun c10 => ?_)
    · have h := h1 c10
      refine okx_iload_n C 3 dX7_sees_24 rfl rfl ?_
      obtain ⟨h1, h2⟩ := h
      refine okx_if_eq C 43 dX7_sees_25 rfl (fun c9 => ?_) (fun c9 => ?_)
      · have h := h1 c9
        refine okx_aload_n C 0 dX7_sees_43 rfl rfl ?_
        refine okx_getR C (ci := 7) hinX7 (kat hk kD_0) rfl 2 (by decide) W_4_159 (fun _ _ h => h) rfl dX7_sees_44 ?_
        refine okx_getRN C (ci := 3) hinX3 (kat hk kD_22) rfl 2 (by decide) nbf_21 (fun _ _ h => h) rfl dX7_sees_47 ?_
        refine okx_iload_n C 1 dX7_sees_50 rfl rfl ?_
        refine okx_iload_n C 2 dX7_sees_51 rfl rfl ?_
        refine okx_callVi C (As := [.int x1, .int x2]) (rest := []) (q := 25) (ci := 0) (kat hk kD_25) rfl (c_X0_has 25 960 bt_25 _ _ _ _ h) W_5_23 W_4_80 W_4_81 W_4_82 W_1_5 hd_X0_has rfl ⟨Nat.le_of_ble_eq_true rfl, Nat.le_of_ble_eq_true rfl⟩ (Nat.le_of_ble_eq_true rfl) rfl dX7_sees_52 (fun r5 u6 h => ?_)
        refine okx_sub [] rfl ?_
        exact J55 _ _ h
      · have h := h2 c9
        refine okx_aload_n C 0 dX7_sees_28 rfl rfl ?_
        refine okx_getR C (ci := 7) hinX7 (kat hk kD_0) rfl 2 (by decide) W_4_159 (fun _ _ h => h) rfl dX7_sees_29 ?_
        refine okx_getRN C (ci := 3) hinX3 (kat hk kD_22) rfl 3 (by decide) nbf_23 (fun _ _ h => h) rfl dX7_sees_32 ?_
        refine okx_iload_n C 1 dX7_sees_35 rfl rfl ?_
        refine okx_iload_n C 2 dX7_sees_36 rfl rfl ?_
        refine okx_callVi C (As := [.int x1, .int x2]) (rest := []) (q := 27) (ci := 0) (kat hk kD_27) rfl (c_X0_has 27 960 bt_27 _ _ _ _ h) W_5_23 W_4_80 W_4_81 W_4_82 W_1_5 hd_X0_has rfl ⟨Nat.le_of_ble_eq_true rfl, Nat.le_of_ble_eq_true rfl⟩ (Nat.le_of_ble_eq_true rfl) rfl dX7_sees_37 (fun r7 u8 h => ?_)
        refine okx_goto C 55 dX7_sees_40 rfl ?_
        refine okx_sub [] rfl ?_
        exact J55 _ _ h
    · have h := h2 c10
      refine okx_sub [] rfl ?_
      exact J16  _ h
set_option maxRecDepth 100000 in
set_option maxHeartbeats 4000000 in
theorem m_X7_vote {l : Launch} {Ω : Wm} (hk : Hk Ω kD) (hst : l.stackTraces = false) (c_X7_isEvent : CT_X7_isEvent l Ω) (c_X1_decides : CT_X1_decides l Ω) (c_X1_isYes : CT_X1_isYes l Ω) (hv : ∀ (x1 : Int32) (x2 : Int32) (σ : Sg) (K : Int32 → Sg → Prop) (Px : String → Sg → Prop), sp_X7_vote x1 x2 σ K Px → vc_X7_vote x1 x2 σ K Px) : CT_X7_vote l Ω := by
  intro x1 x2 σ Po Px hsp
  have hvc := hv x1 x2 σ Po Px hsp
  refine Cu.of hst (by decide +kernel) (Nat.le_of_ble_eq_true rfl) (fun Γ C => ?_)
  have J111 : ∀ (s0 : Int32) (s1 : Int32) (σ : Sg), f_X7_vote_111 x1 x2 Po Px s0 s1 σ → OK Γ Ω 3 111 [] [.int s0, .int s1] σ := by
    intro s0 s1 σ h
    unfold f_X7_vote_111 at h
    refine okx_iadd C dX7_vote_111 ?_
    exact okx_iret C rfl rfl dX7_vote_112 h
  have J94 : ∀ (s0 : Int32) (σ : Sg), f_X7_vote_94 x1 x2 Po Px s0 σ → OK Γ Ω 3 94 [(0, .ref (Ω.2.2.1 0)), (1, .int x1), (2, .int x2)] [.int s0] σ := by
    intro s0 σ h
    unfold f_X7_vote_94 at h
    refine okx_aload_n C 0 dX7_vote_94 rfl rfl ?_
    refine okx_getR C (ci := 7) hinX7 (kat hk kD_0) rfl 3 (by decide) W_4_160 (fun _ _ h => h) rfl dX7_vote_95 ?_
    refine okx_iload_n C 1 dX7_vote_98 rfl rfl ?_
    refine okx_iload_n C 2 dX7_vote_99 rfl rfl ?_
    refine okx_callVi C (As := [.int x1, .int x2]) (rest := [.int s0]) (q := 37) (ci := 1) (kat hk kD_37) rfl (c_X1_decides  _ _ _ _ h) W_5_78 W_5_79 W_5_80 W_5_81 W_1_7 hd_X1_decides rfl ⟨Nat.le_of_ble_eq_true rfl, Nat.le_of_ble_eq_true rfl⟩ (Nat.le_of_ble_eq_true rfl) rfl dX7_vote_100 (fun r17 u18 h => ?_)
    obtain ⟨h1, h2⟩ := h
    refine okx_if_eq C 110 dX7_vote_103 rfl (fun c19 => ?_) (fun c19 => ?_)
    · have h := h1 c19
      refine okx_iconst C (v := 0) dX7_vote_110 (by decide) ?_
      refine okx_sub [] rfl ?_
      exact J111 _ _ _ h
    · have h := h2 c19
      refine okx_iconst C (v := 2) dX7_vote_106 (by decide) ?_
      refine okx_goto C 111 dX7_vote_107 rfl ?_
      refine okx_sub [] rfl ?_
      exact J111 _ _ _ h
  have J69 : ∀  (σ : Sg), f_X7_vote_69 x1 x2 Po Px  σ → OK Γ Ω 3 69 [] [] σ := by
    intro  σ h
    unfold f_X7_vote_69 at h
    exact okx_throw C xt_58_60 dX7_vote_69 dX7_vote_72 dX7_vote_73 dX7_vote_76 (Nat.le_of_ble_eq_true rfl) (Nat.le_of_ble_eq_true rfl) h
  have J16 : ∀  (σ : Sg), f_X7_vote_16 x1 x2 Po Px  σ → OK Γ Ω 3 16 [] [] σ := by
    intro  σ h
    unfold f_X7_vote_16 at h
    exact okx_throw C xt_69_71 dX7_vote_16 dX7_vote_19 dX7_vote_20 dX7_vote_23 (Nat.le_of_ble_eq_true rfl) (Nat.le_of_ble_eq_true rfl) h
  have h : f_X7_vote_e x1 x2 Po Px σ := hvc  
  unfold f_X7_vote_e at h
  refine okx_sub (L2 := [(0, .ref (Ω.2.2.1 0)), (1, .int x1), (2, .int x2)]) [0, 1, 2] rfl ?_
  refine okx_aload_n C 0 dX7_vote_0 rfl rfl ?_
  refine okx_iload_n C 1 dX7_vote_1 rfl rfl ?_
  refine okx_callVi C (As := [.int x1]) (rest := []) (q := 0) (ci := 7) (kat hk kD_0) rfl (c_X7_isEvent  _ _ _ h) W_5_19 W_5_21 W_0_20 W_5_22 W_1_1 hd_X7_isEvent rfl ⟨Nat.le_of_ble_eq_true rfl, Nat.le_of_ble_eq_true rfl⟩ (Nat.le_of_ble_eq_true rfl) rfl dX7_vote_2 (fun r1 u2 h => ?_)
  obtain ⟨h1, h2⟩ := h
  refine okx_if_eq C 16 dX7_vote_5 rfl (fun c16 => ?_) (fun c16 => ?_)
  · have h := h1 c16
    refine okx_sub [] rfl ?_
    exact J16  _ h
  · have h := h2 c16
    refine okx_aload_n C 0 dX7_vote_8 rfl rfl ?_
    refine okx_iload_n C 2 dX7_vote_9 rfl rfl ?_
    refine okx_callVi C (As := [.int x2]) (rest := []) (q := 0) (ci := 7) (kat hk kD_0) rfl (c_X7_isEvent  _ _ _ h) W_5_19 W_5_21 W_0_20 W_5_22 W_1_1 hd_X7_isEvent rfl ⟨Nat.le_of_ble_eq_true rfl, Nat.le_of_ble_eq_true rfl⟩ (Nat.le_of_ble_eq_true rfl) rfl dX7_vote_10 (fun r3 u4 h => ?_)
    obtain ⟨h1, h2⟩ := h
    refine okx_if_ne C 24 dX7_vote_13 rfl (fun c15 => ?_) (fun c15 => ?_)
    · have h := h1 c15
      refine okx_aload_n C 0 dX7_vote_24 rfl rfl ?_
      refine okx_getR C (ci := 7) hinX7 (kat hk kD_0) rfl 2 (by decide) W_4_159 (fun _ _ h => h) rfl dX7_vote_25 ?_
      refine okx_getRN C (ci := 3) hinX3 (kat hk kD_22) rfl 7 (by decide) nbf_28 (fun _ _ h => h) rfl dX7_vote_28 ?_
      refine okx_iload_n C 1 dX7_vote_31 rfl rfl ?_
      obtain ⟨g5, h⟩ := h
      refine okx_zald C (kat hk kD_33) g5 dX7_vote_32 ?_
      obtain ⟨h1, h2⟩ := h
      refine okx_if_eq C 69 dX7_vote_33 rfl (fun c14 => ?_) (fun c14 => ?_)
      · have h := h1 c14
        refine okx_sub [] rfl ?_
        exact J69  _ h
      · have h := h2 c14
        refine okx_aload_n C 0 dX7_vote_36 rfl rfl ?_
        refine okx_getR C (ci := 7) hinX7 (kat hk kD_0) rfl 2 (by decide) W_4_159 (fun _ _ h => h) rfl dX7_vote_37 ?_
        refine okx_getRN C (ci := 3) hinX3 (kat hk kD_22) rfl 7 (by decide) nbf_28 (fun _ _ h => h) rfl dX7_vote_40 ?_
        refine okx_iload_n C 2 dX7_vote_43 rfl rfl ?_
        obtain ⟨g6, h⟩ := h
        refine okx_zald C (kat hk kD_33) g6 dX7_vote_44 ?_
        obtain ⟨h1, h2⟩ := h
        refine okx_if_eq C 69 dX7_vote_45 rfl (fun c13 => ?_) (fun c13 => ?_)
        · have h := h1 c13
          refine okx_sub [] rfl ?_
          exact J69  _ h
        · have h := h2 c13
          refine okx_aload_n C 0 dX7_vote_48 rfl rfl ?_
          refine okx_getR C (ci := 7) hinX7 (kat hk kD_0) rfl 2 (by decide) W_4_159 (fun _ _ h => h) rfl dX7_vote_49 ?_
          refine okx_getRN C (ci := 3) hinX3 (kat hk kD_22) rfl 6 (by decide) nbf_26 (fun _ _ h => h) rfl dX7_vote_52 ?_
          refine okx_iload_n C 1 dX7_vote_55 rfl rfl ?_
          obtain ⟨g7, h⟩ := h
          refine okx_iald C (kat hk kD_32) g7 dX7_vote_56 ?_
          refine okx_aload_n C 0 dX7_vote_57 rfl rfl ?_
          refine okx_getR C (ci := 7) hinX7 (kat hk kD_0) rfl 2 (by decide) W_4_159 (fun _ _ h => h) rfl dX7_vote_58 ?_
          refine okx_getRN C (ci := 3) hinX3 (kat hk kD_22) rfl 6 (by decide) nbf_26 (fun _ _ h => h) rfl dX7_vote_61 ?_
          refine okx_iload_n C 2 dX7_vote_64 rfl rfl ?_
          obtain ⟨g8, h⟩ := h
          refine okx_iald C (kat hk kD_32) g8 dX7_vote_65 ?_
          obtain ⟨h1, h2⟩ := h
          refine okx_icmp_gt C 77 dX7_vote_66 rfl (fun c12 => ?_) (fun c12 => ?_)
          · have h := h1 c12
            refine okx_aload_n C 0 dX7_vote_77 rfl rfl ?_
            refine okx_getR C (ci := 7) hinX7 (kat hk kD_0) rfl 3 (by decide) W_4_160 (fun _ _ h => h) rfl dX7_vote_78 ?_
            refine okx_iload_n C 1 dX7_vote_81 rfl rfl ?_
            refine okx_iload_n C 2 dX7_vote_82 rfl rfl ?_
            refine okx_callVi C (As := [.int x1, .int x2]) (rest := []) (q := 37) (ci := 1) (kat hk kD_37) rfl (c_X1_isYes  _ _ _ _ h) W_5_74 W_5_75 W_5_76 W_5_77 W_1_7 hd_X1_isYes rfl ⟨Nat.le_of_ble_eq_true rfl, Nat.le_of_ble_eq_true rfl⟩ (Nat.le_of_ble_eq_true rfl) rfl dX7_vote_83 (fun r9 u10 h => ?_)
            obtain ⟨h1, h2⟩ := h
            refine okx_if_eq C 93 dX7_vote_86 rfl (fun c11 => ?_) (fun c11 => ?_)
            · have h := h1 c11
              refine okx_iconst C (v := 0) dX7_vote_93 (by decide) ?_
              refine okx_sub [0, 1, 2] rfl ?_
              exact J94 _ _ h
            · have h := h2 c11
              refine okx_iconst C (v := 1) dX7_vote_89 (by decide) ?_
              refine okx_goto C 94 dX7_vote_90 rfl ?_
              refine okx_sub [0, 1, 2] rfl ?_
              exact J94 _ _ h
          · have h := h2 c12
            refine okx_sub [] rfl ?_
            exact J69  _ h
    · have h := h2 c15
      refine okx_sub [] rfl ?_
      exact J16  _ h
set_option maxRecDepth 100000 in
set_option maxHeartbeats 4000000 in
theorem m_X7_found {l : Launch} {Ω : Wm} (hk : Hk Ω kD) (hst : l.stackTraces = false) (c_X7_freshView : CT_X7_freshView l Ω) (c_X7_isEvent : CT_X7_isEvent l Ω) (c_X7_isNode : CT_X7_isNode l Ω) (c_X0_has : CT_X0_has l Ω) (hv : ∀ (x1 : Int32) (x2 : Int32) (x3 : Int32) (σ : Sg) (K : Int32 → Sg → Prop) (Px : String → Sg → Prop), sp_X7_found x1 x2 x3 σ K Px → vc_X7_found x1 x2 x3 σ K Px) : CT_X7_found l Ω := by
  intro x1 x2 x3 σ Po Px hsp
  have hvc := hv x1 x2 x3 σ Po Px hsp
  refine Cu.of hst (by decide +kernel) (Nat.le_of_ble_eq_true rfl) (fun Γ C => ?_)
  have J88 : ∀ (s0 : Int32) (σ : Sg), f_X7_found_88 x1 x2 x3 Po Px s0 σ → OK Γ Ω 4 88 [] [.int s0] σ := by
    intro s0 σ h
    unfold f_X7_found_88 at h
    exact okx_iret C rfl rfl dX7_found_88 h
  have J17 : ∀  (σ : Sg), f_X7_found_17 x1 x2 x3 Po Px  σ → OK Γ Ω 4 17 [] [] σ := by
    intro  σ h
    unfold f_X7_found_17 at h
    exact okx_throw C xt_58_60 dX7_found_17 dX7_found_20 dX7_found_21 dX7_found_24 (Nat.le_of_ble_eq_true rfl) (Nat.le_of_ble_eq_true rfl) h
  have h : f_X7_found_e x1 x2 x3 Po Px σ := hvc  
  unfold f_X7_found_e at h
  refine okx_sub (L2 := [(0, .ref (Ω.2.2.1 0)), (1, .int x1), (2, .int x2), (3, .int x3)]) [0, 1, 2, 3] rfl ?_
  refine okx_aload_n C 0 dX7_found_0 rfl rfl ?_
  refine okx_iload_n C 1 dX7_found_1 rfl rfl ?_
  refine okx_callVi C (As := [.int x1]) (rest := []) (q := 0) (ci := 7) (kat hk kD_0) rfl (c_X7_isNode  _ _ _ h) W_4_206 W_4_208 W_0_18 W_4_209 W_1_1 hd_X7_isNode rfl ⟨Nat.le_of_ble_eq_true rfl, Nat.le_of_ble_eq_true rfl⟩ (Nat.le_of_ble_eq_true rfl) rfl dX7_found_2 (fun r1 u2 h => ?_)
  obtain ⟨h1, h2⟩ := h
  refine okx_if_eq C 17 dX7_found_5 rfl (fun c23 => ?_) (fun c23 => ?_)
  · have h := h1 c23
    refine okx_sub [] rfl ?_
    exact J17  _ h
  · have h := h2 c23
    refine okx_iload_n C 3 dX7_found_8 rfl rfl ?_
    obtain ⟨h1, h2⟩ := h
    refine okx_if_lt C 17 dX7_found_9 rfl (fun c22 => ?_) (fun c22 => ?_)
    · have h := h1 c22
      refine okx_sub [] rfl ?_
      exact J17  _ h
    · have h := h2 c22
      refine okx_iload_n C 3 dX7_found_12 rfl rfl ?_
      refine okx_iconst C (v := 3) dX7_found_13 (by decide) ?_
      obtain ⟨h1, h2⟩ := h
      refine okx_icmp_le C 25 dX7_found_14 rfl (fun c21 => ?_) (fun c21 => ?_)
      · have h := h1 c21
        refine okx_aload_n C 0 dX7_found_25 rfl rfl ?_
        refine okx_iload_n C 2 dX7_found_26 rfl rfl ?_
        refine okx_callVi C (As := [.int x2]) (rest := []) (q := 0) (ci := 7) (kat hk kD_0) rfl (c_X7_isEvent  _ _ _ h) W_5_19 W_5_21 W_0_20 W_5_22 W_1_1 hd_X7_isEvent rfl ⟨Nat.le_of_ble_eq_true rfl, Nat.le_of_ble_eq_true rfl⟩ (Nat.le_of_ble_eq_true rfl) rfl dX7_found_27 (fun r3 u4 h => ?_)
        obtain ⟨h1, h2⟩ := h
        refine okx_if_ne C 41 dX7_found_30 rfl (fun c20 => ?_) (fun c20 => ?_)
        · have h := h1 c20
          refine okx_iload_n C 3 dX7_found_41 rfl rfl ?_
          rcases (show (x3.toInt < 0 ∨ 2 < x3.toInt) ∨ x3.toInt = 0 ∨ x3.toInt = 1 ∨ x3.toInt = 2 by omega) with c | c | c | c
          · have h := h.1 c
            refine okx_tableOut C 111 dX7_found_42 c rfl ?_
            refine okx_aload_n C 0 dX7_found_111 rfl rfl ?_
            refine okx_iload_n C 1 dX7_found_112 rfl rfl ?_
            refine okx_callVr C (As := [.int x1]) (rest := []) (q := 0) (ci := 7) (kat hk kD_0) rfl (c_X7_freshView  _ _ _ h) W_5_89 W_5_91 W_0_21 W_5_92 W_1_1 hd_X7_freshView rfl ⟨Nat.le_of_ble_eq_true rfl, Nat.le_of_ble_eq_true rfl⟩ (Nat.le_of_ble_eq_true rfl) rfl dX7_found_113 (fun r5 u6 h => ?_)
            obtain ⟨hV7, h⟩ := h
            refine okx_getRN C (ci := 5) hinX5 (kat hk (vw_0 hV7)) rfl 7 (by decide) nbf_37 (fun _ _ h => h) rfl dX7_found_116 ?_
            refine okx_iload_n C 2 dX7_found_119 rfl rfl ?_
            obtain ⟨g8, h⟩ := h
            refine okx_iald C (kat hk (vw_4 hV7)) g8 dX7_found_120 ?_
            exact okx_iret C rfl rfl dX7_found_121 h
          · have h := h.2.1 c
            refine okx_tableIn C 68 dX7_found_42 (by omega) (by omega) (by rw [c]; rfl) rfl ?_
            refine okx_aload_n C 0 dX7_found_68 rfl rfl ?_
            refine okx_getR C (ci := 7) hinX7 (kat hk kD_0) rfl 1 (by decide) W_4_158 (fun _ _ h => h) rfl dX7_found_69 ?_
            refine okx_getRN C (ci := 2) hinX2 (kat hk kD_7) rfl 9 (by decide) nbf_15 (fun _ _ h => h) rfl dX7_found_72 ?_
            refine okx_iload_n C 1 dX7_found_75 rfl rfl ?_
            refine okx_iload_n C 2 dX7_found_76 rfl rfl ?_
            refine okx_callVi C (As := [.int x1, .int x2]) (rest := []) (q := 20) (ci := 0) (kat hk kD_20) rfl (c_X0_has 20 32 bt_20 _ _ _ _ h) W_5_23 W_4_80 W_4_81 W_4_82 W_1_5 hd_X0_has rfl ⟨Nat.le_of_ble_eq_true rfl, Nat.le_of_ble_eq_true rfl⟩ (Nat.le_of_ble_eq_true rfl) rfl dX7_found_77 (fun r9 u10 h => ?_)
            obtain ⟨h1, h2⟩ := h
            refine okx_if_eq C 87 dX7_found_80 rfl (fun c11 => ?_) (fun c11 => ?_)
            · have h := h1 c11
              refine okx_iconst C (v := 0) dX7_found_87 (by decide) ?_
              refine okx_sub [] rfl ?_
              exact J88 _ _ h
            · have h := h2 c11
              refine okx_iconst C (v := 1) dX7_found_83 (by decide) ?_
              refine okx_goto C 88 dX7_found_84 rfl ?_
              refine okx_sub [] rfl ?_
              exact J88 _ _ h
          · have h := h.2.2.1 c
            refine okx_tableIn C 89 dX7_found_42 (by omega) (by omega) (by rw [c]; rfl) rfl ?_
            refine okx_aload_n C 0 dX7_found_89 rfl rfl ?_
            refine okx_iload_n C 1 dX7_found_90 rfl rfl ?_
            refine okx_callVr C (As := [.int x1]) (rest := []) (q := 0) (ci := 7) (kat hk kD_0) rfl (c_X7_freshView  _ _ _ h) W_5_89 W_5_91 W_0_21 W_5_92 W_1_1 hd_X7_freshView rfl ⟨Nat.le_of_ble_eq_true rfl, Nat.le_of_ble_eq_true rfl⟩ (Nat.le_of_ble_eq_true rfl) rfl dX7_found_91 (fun r12 u13 h => ?_)
            obtain ⟨hV14, h⟩ := h
            refine okx_getRN C (ci := 5) hinX5 (kat hk (vw_0 hV14)) rfl 4 (by decide) nbf_34 (fun _ _ h => h) rfl dX7_found_94 ?_
            refine okx_iload_n C 2 dX7_found_97 rfl rfl ?_
            obtain ⟨g15, h⟩ := h
            refine okx_iald C (kat hk (vw_1 hV14)) g15 dX7_found_98 ?_
            exact okx_iret C rfl rfl dX7_found_99 h
          · have h := h.2.2.2 c
            refine okx_tableIn C 100 dX7_found_42 (by omega) (by omega) (by rw [c]; rfl) rfl ?_
            refine okx_aload_n C 0 dX7_found_100 rfl rfl ?_
            refine okx_iload_n C 1 dX7_found_101 rfl rfl ?_
            refine okx_callVr C (As := [.int x1]) (rest := []) (q := 0) (ci := 7) (kat hk kD_0) rfl (c_X7_freshView  _ _ _ h) W_5_89 W_5_91 W_0_21 W_5_92 W_1_1 hd_X7_freshView rfl ⟨Nat.le_of_ble_eq_true rfl, Nat.le_of_ble_eq_true rfl⟩ (Nat.le_of_ble_eq_true rfl) rfl dX7_found_102 (fun r16 u17 h => ?_)
            obtain ⟨hV18, h⟩ := h
            refine okx_getRN C (ci := 5) hinX5 (kat hk (vw_0 hV18)) rfl 5 (by decide) nbf_35 (fun _ _ h => h) rfl dX7_found_105 ?_
            refine okx_iload_n C 2 dX7_found_108 rfl rfl ?_
            obtain ⟨g19, h⟩ := h
            refine okx_iald C (kat hk (vw_2 hV18)) g19 dX7_found_109 ?_
            exact okx_iret C rfl rfl dX7_found_110 h
        · have h := h2 c20
          exact okx_throw C xt_69_71 dX7_found_33 dX7_found_36 dX7_found_37 dX7_found_40 (Nat.le_of_ble_eq_true rfl) (Nat.le_of_ble_eq_true rfl) h
      · have h := h2 c21
        refine okx_sub [] rfl ?_
        exact J17  _ h
set_option maxRecDepth 100000 in
set_option maxHeartbeats 4000000 in
theorem m_X7_stamp {l : Launch} {Ω : Wm} (hk : Hk Ω kD) (hst : l.stackTraces = false) (c_X7_freshView : CT_X7_freshView l Ω) (c_X7_isEvent : CT_X7_isEvent l Ω) (c_X7_isNode : CT_X7_isNode l Ω) (hv : ∀ (x1 : Int32) (x2 : Int32) (σ : Sg) (K : Int64 → Sg → Prop) (Px : String → Sg → Prop), sp_X7_stamp x1 x2 σ K Px → vc_X7_stamp x1 x2 σ K Px) : CT_X7_stamp l Ω := by
  intro x1 x2 σ Po Px hsp
  have hvc := hv x1 x2 σ Po Px hsp
  refine Cu.of hst (by decide +kernel) (Nat.le_of_ble_eq_true rfl) (fun Γ C => ?_)
  have h : f_X7_stamp_e x1 x2 Po Px σ := hvc  
  unfold f_X7_stamp_e at h
  refine okx_sub (L2 := [(0, .ref (Ω.2.2.1 0)), (1, .int x1), (2, .int x2)]) [0, 1, 2] rfl ?_
  refine okx_aload_n C 0 dX7_stamp_0 rfl rfl ?_
  refine okx_iload_n C 1 dX7_stamp_1 rfl rfl ?_
  refine okx_callVi C (As := [.int x1]) (rest := []) (q := 0) (ci := 7) (kat hk kD_0) rfl (c_X7_isNode  _ _ _ h) W_4_206 W_4_208 W_0_18 W_4_209 W_1_1 hd_X7_isNode rfl ⟨Nat.le_of_ble_eq_true rfl, Nat.le_of_ble_eq_true rfl⟩ (Nat.le_of_ble_eq_true rfl) rfl dX7_stamp_2 (fun r1 u2 h => ?_)
  obtain ⟨h1, h2⟩ := h
  refine okx_if_ne C 16 dX7_stamp_5 rfl (fun c12 => ?_) (fun c12 => ?_)
  · have h := h1 c12
    refine okx_aload_n C 0 dX7_stamp_16 rfl rfl ?_
    refine okx_iload_n C 2 dX7_stamp_17 rfl rfl ?_
    refine okx_callVi C (As := [.int x2]) (rest := []) (q := 0) (ci := 7) (kat hk kD_0) rfl (c_X7_isEvent  _ _ _ h) W_5_19 W_5_21 W_0_20 W_5_22 W_1_1 hd_X7_isEvent rfl ⟨Nat.le_of_ble_eq_true rfl, Nat.le_of_ble_eq_true rfl⟩ (Nat.le_of_ble_eq_true rfl) rfl dX7_stamp_18 (fun r3 u4 h => ?_)
    obtain ⟨h1, h2⟩ := h
    refine okx_if_ne C 32 dX7_stamp_21 rfl (fun c11 => ?_) (fun c11 => ?_)
    · have h := h1 c11
      refine okx_aload_n C 0 dX7_stamp_32 rfl rfl ?_
      refine okx_iload_n C 1 dX7_stamp_33 rfl rfl ?_
      refine okx_callVr C (As := [.int x1]) (rest := []) (q := 0) (ci := 7) (kat hk kD_0) rfl (c_X7_freshView  _ _ _ h) W_5_89 W_5_91 W_0_21 W_5_92 W_1_1 hd_X7_freshView rfl ⟨Nat.le_of_ble_eq_true rfl, Nat.le_of_ble_eq_true rfl⟩ (Nat.le_of_ble_eq_true rfl) rfl dX7_stamp_34 (fun r5 u6 h => ?_)
      refine okx_astore_n C (L2 := [(3, .ref (Ω.2.2.1 r5)), (0, .ref (Ω.2.2.1 0)), (1, .int x1), (2, .int x2)]) dX7_stamp_37 rfl (by decide) rfl ?_
      refine okx_aload_n C 0 dX7_stamp_38 rfl rfl ?_
      obtain ⟨hV7, h⟩ := h
      refine okx_getRN C (ci := 5) hinX5 (kat hk (vw_0 hV7)) rfl 5 (by decide) nbf_35 (fun _ _ h => h) rfl dX7_stamp_39 ?_
      refine okx_iload_n C 3 dX7_stamp_42 rfl rfl ?_
      obtain ⟨g8, h⟩ := h
      refine okx_iald C (kat hk (vw_2 hV7)) g8 dX7_stamp_43 ?_
      obtain ⟨h1, h2⟩ := h
      refine okx_if_ne C 55 dX7_stamp_44 rfl (fun c10 => ?_) (fun c10 => ?_)
      · have h := h1 c10
        refine okx_aload_n C 0 dX7_stamp_55 rfl rfl ?_
        refine okx_getRN C (ci := 5) hinX5 (kat hk (vw_0 hV7)) rfl 6 (by decide) nbf_36 (fun _ _ h => h) rfl dX7_stamp_56 ?_
        refine okx_iload_n C 3 dX7_stamp_59 rfl rfl ?_
        obtain ⟨g9, h⟩ := h
        refine okx_lald C (kat hk (vw_3 hV7)) g9 dX7_stamp_60 ?_
        exact okx_lret C rfl rfl dX7_stamp_61 h
      · have h := h2 c10
        exact okx_throw C xt_179_181 dX7_stamp_47 dX7_stamp_50 dX7_stamp_51 dX7_stamp_54 (Nat.le_of_ble_eq_true rfl) (Nat.le_of_ble_eq_true rfl) h
    · have h := h2 c11
      exact okx_throw C xt_69_71 dX7_stamp_24 dX7_stamp_27 dX7_stamp_28 dX7_stamp_31 (Nat.le_of_ble_eq_true rfl) (Nat.le_of_ble_eq_true rfl) h
  · have h := h2 c12
    exact okx_throw C xt_58_60 dX7_stamp_8 dX7_stamp_11 dX7_stamp_12 dX7_stamp_15 (Nat.le_of_ble_eq_true rfl) (Nat.le_of_ble_eq_true rfl) h
set_option maxRecDepth 100000 in
set_option maxHeartbeats 4000000 in
theorem m_X7_order {l : Launch} {Ω : Wm} (hk : Hk Ω kD) (hst : l.stackTraces = false) (c_X7_freshView : CT_X7_freshView l Ω) (c_X7_isNode : CT_X7_isNode l Ω) (hv : ∀ (x1 : Int32) (σ : Sg) (K : Int32 → Sg → Prop) (Px : String → Sg → Prop), sp_X7_order x1 σ K Px → vc_X7_order x1 σ K Px) : CT_X7_order l Ω := by
  intro x1 σ Po Px hsp
  have hvc := hv x1 σ Po Px hsp
  refine Cu.of hst (by decide +kernel) (Nat.le_of_ble_eq_true rfl) (fun Γ C => ?_)
  have h : f_X7_order_e x1 Po Px σ := hvc  
  unfold f_X7_order_e at h
  refine okx_sub (L2 := [(0, .ref (Ω.2.2.1 0)), (1, .int x1)]) [0, 1] rfl ?_
  refine okx_aload_n C 0 dX7_order_0 rfl rfl ?_
  refine okx_iload_n C 1 dX7_order_1 rfl rfl ?_
  refine okx_callVi C (As := [.int x1]) (rest := []) (q := 0) (ci := 7) (kat hk kD_0) rfl (c_X7_isNode  _ _ _ h) W_4_206 W_4_208 W_0_18 W_4_209 W_1_1 hd_X7_isNode rfl ⟨Nat.le_of_ble_eq_true rfl, Nat.le_of_ble_eq_true rfl⟩ (Nat.le_of_ble_eq_true rfl) rfl dX7_order_2 (fun r1 u2 h => ?_)
  obtain ⟨h1, h2⟩ := h
  refine okx_if_ne C 16 dX7_order_5 rfl (fun c6 => ?_) (fun c6 => ?_)
  · have h := h1 c6
    refine okx_aload_n C 0 dX7_order_16 rfl rfl ?_
    refine okx_iload_n C 1 dX7_order_17 rfl rfl ?_
    refine okx_callVr C (As := [.int x1]) (rest := []) (q := 0) (ci := 7) (kat hk kD_0) rfl (c_X7_freshView  _ _ _ h) W_5_89 W_5_91 W_0_21 W_5_92 W_1_1 hd_X7_freshView rfl ⟨Nat.le_of_ble_eq_true rfl, Nat.le_of_ble_eq_true rfl⟩ (Nat.le_of_ble_eq_true rfl) rfl dX7_order_18 (fun r3 u4 h => ?_)
    obtain ⟨hV5, h⟩ := h
    refine okx_getIN C (ci := 5) hinX5 (kat hk (vw_0 hV5)) rfl 15 (by decide) nbf_40 (fun _ _ h => h) rfl dX7_order_21 ?_
    exact okx_iret C rfl rfl dX7_order_24 h
  · have h := h2 c6
    exact okx_throw C xt_58_60 dX7_order_8 dX7_order_11 dX7_order_12 dX7_order_15 (Nat.le_of_ble_eq_true rfl) (Nat.le_of_ble_eq_true rfl) h
set_option maxRecDepth 100000 in
set_option maxHeartbeats 4000000 in
theorem m_X7_at {l : Launch} {Ω : Wm} (hk : Hk Ω kD) (hst : l.stackTraces = false) (c_X7_freshView : CT_X7_freshView l Ω) (c_X7_isNode : CT_X7_isNode l Ω) (hv : ∀ (x1 : Int32) (x2 : Int32) (σ : Sg) (K : Int32 → Sg → Prop) (Px : String → Sg → Prop), sp_X7_at x1 x2 σ K Px → vc_X7_at x1 x2 σ K Px) : CT_X7_at l Ω := by
  intro x1 x2 σ Po Px hsp
  have hvc := hv x1 x2 σ Po Px hsp
  refine Cu.of hst (by decide +kernel) (Nat.le_of_ble_eq_true rfl) (fun Γ C => ?_)
  have J34 : ∀  (σ : Sg), f_X7_at_34 x1 x2 Po Px  σ → OK Γ Ω 4 34 [] [] σ := by
    intro  σ h
    unfold f_X7_at_34 at h
    exact okx_throw C xt_69_71 dX7_at_34 dX7_at_37 dX7_at_38 dX7_at_41 (Nat.le_of_ble_eq_true rfl) (Nat.le_of_ble_eq_true rfl) h
  have h : f_X7_at_e x1 x2 Po Px σ := hvc  
  unfold f_X7_at_e at h
  refine okx_sub (L2 := [(0, .ref (Ω.2.2.1 0)), (1, .int x1), (2, .int x2)]) [0, 1, 2] rfl ?_
  refine okx_aload_n C 0 dX7_at_0 rfl rfl ?_
  refine okx_iload_n C 1 dX7_at_1 rfl rfl ?_
  refine okx_callVi C (As := [.int x1]) (rest := []) (q := 0) (ci := 7) (kat hk kD_0) rfl (c_X7_isNode  _ _ _ h) W_4_206 W_4_208 W_0_18 W_4_209 W_1_1 hd_X7_isNode rfl ⟨Nat.le_of_ble_eq_true rfl, Nat.le_of_ble_eq_true rfl⟩ (Nat.le_of_ble_eq_true rfl) rfl dX7_at_2 (fun r1 u2 h => ?_)
  obtain ⟨h1, h2⟩ := h
  refine okx_if_ne C 16 dX7_at_5 rfl (fun c9 => ?_) (fun c9 => ?_)
  · have h := h1 c9
    refine okx_aload_n C 0 dX7_at_16 rfl rfl ?_
    refine okx_iload_n C 1 dX7_at_17 rfl rfl ?_
    refine okx_callVr C (As := [.int x1]) (rest := []) (q := 0) (ci := 7) (kat hk kD_0) rfl (c_X7_freshView  _ _ _ h) W_5_89 W_5_91 W_0_21 W_5_92 W_1_1 hd_X7_freshView rfl ⟨Nat.le_of_ble_eq_true rfl, Nat.le_of_ble_eq_true rfl⟩ (Nat.le_of_ble_eq_true rfl) rfl dX7_at_18 (fun r3 u4 h => ?_)
    refine okx_astore_n C (L2 := [(3, .ref (Ω.2.2.1 r3)), (0, .ref (Ω.2.2.1 0)), (1, .int x1), (2, .int x2)]) dX7_at_21 rfl (by decide) rfl ?_
    refine okx_iload_n C 3 dX7_at_22 rfl rfl ?_
    obtain ⟨h1, h2⟩ := h
    refine okx_if_lt C 34 dX7_at_23 rfl (fun c8 => ?_) (fun c8 => ?_)
    · have h := h1 c8
      refine okx_sub [] rfl ?_
      exact J34  _ h
    · have h := h2 c8
      refine okx_iload_n C 3 dX7_at_26 rfl rfl ?_
      refine okx_aload_n C 0 dX7_at_27 rfl rfl ?_
      obtain ⟨hV5, h⟩ := h
      refine okx_getIN C (ci := 5) hinX5 (kat hk (vw_0 hV5)) rfl 15 (by decide) nbf_40 (fun _ _ h => h) rfl dX7_at_28 ?_
      obtain ⟨h1, h2⟩ := h
      refine okx_icmp_lt C 42 dX7_at_31 rfl (fun c7 => ?_) (fun c7 => ?_)
      · have h := h1 c7
        refine okx_aload_n C 0 dX7_at_42 rfl rfl ?_
        refine okx_getRN C (ci := 5) hinX5 (kat hk (vw_0 hV5)) rfl 8 (by decide) nbf_38 (fun _ _ h => h) rfl dX7_at_43 ?_
        refine okx_iload_n C 3 dX7_at_46 rfl rfl ?_
        obtain ⟨g6, h⟩ := h
        refine okx_iald C (kat hk (vw_5 hV5)) g6 dX7_at_47 ?_
        exact okx_iret C rfl rfl dX7_at_48 h
      · have h := h2 c7
        refine okx_sub [] rfl ?_
        exact J34  _ h
  · have h := h2 c9
    exact okx_throw C xt_58_60 dX7_at_8 dX7_at_11 dX7_at_12 dX7_at_15 (Nat.le_of_ble_eq_true rfl) (Nat.le_of_ble_eq_true rfl) h
set_option maxRecDepth 100000 in
set_option maxHeartbeats 4000000 in
theorem m_X7_balance {l : Launch} {Ω : Wm} (hk : Hk Ω kD) (hst : l.stackTraces = false) (c_X7_freshView : CT_X7_freshView l Ω) (c_X7_isNode : CT_X7_isNode l Ω) (hv : ∀ (x1 : Int32) (x2 : Int32) (σ : Sg) (K : Int32 → Sg → Prop) (Px : String → Sg → Prop), sp_X7_balance x1 x2 σ K Px → vc_X7_balance x1 x2 σ K Px) : CT_X7_balance l Ω := by
  intro x1 x2 σ Po Px hsp
  have hvc := hv x1 x2 σ Po Px hsp
  refine Cu.of hst (by decide +kernel) (Nat.le_of_ble_eq_true rfl) (fun Γ C => ?_)
  have J16 : ∀  (σ : Sg), f_X7_balance_16 x1 x2 Po Px  σ → OK Γ Ω 3 16 [] [] σ := by
    intro  σ h
    unfold f_X7_balance_16 at h
    exact okx_throw C xt_58_60 dX7_balance_16 dX7_balance_19 dX7_balance_20 dX7_balance_23 (Nat.le_of_ble_eq_true rfl) (Nat.le_of_ble_eq_true rfl) h
  have h : f_X7_balance_e x1 x2 Po Px σ := hvc  
  unfold f_X7_balance_e at h
  refine okx_sub (L2 := [(0, .ref (Ω.2.2.1 0)), (1, .int x1), (2, .int x2)]) [0, 1, 2] rfl ?_
  refine okx_aload_n C 0 dX7_balance_0 rfl rfl ?_
  refine okx_iload_n C 1 dX7_balance_1 rfl rfl ?_
  refine okx_callVi C (As := [.int x1]) (rest := []) (q := 0) (ci := 7) (kat hk kD_0) rfl (c_X7_isNode  _ _ _ h) W_4_206 W_4_208 W_0_18 W_4_209 W_1_1 hd_X7_isNode rfl ⟨Nat.le_of_ble_eq_true rfl, Nat.le_of_ble_eq_true rfl⟩ (Nat.le_of_ble_eq_true rfl) rfl dX7_balance_2 (fun r1 u2 h => ?_)
  obtain ⟨h1, h2⟩ := h
  refine okx_if_eq C 16 dX7_balance_5 rfl (fun c10 => ?_) (fun c10 => ?_)
  · have h := h1 c10
    refine okx_sub [] rfl ?_
    exact J16  _ h
  · have h := h2 c10
    refine okx_aload_n C 0 dX7_balance_8 rfl rfl ?_
    refine okx_iload_n C 2 dX7_balance_9 rfl rfl ?_
    refine okx_callVi C (As := [.int x2]) (rest := []) (q := 0) (ci := 7) (kat hk kD_0) rfl (c_X7_isNode  _ _ _ h) W_4_206 W_4_208 W_0_18 W_4_209 W_1_1 hd_X7_isNode rfl ⟨Nat.le_of_ble_eq_true rfl, Nat.le_of_ble_eq_true rfl⟩ (Nat.le_of_ble_eq_true rfl) rfl dX7_balance_10 (fun r3 u4 h => ?_)
    obtain ⟨h1, h2⟩ := h
    refine okx_if_ne C 24 dX7_balance_13 rfl (fun c9 => ?_) (fun c9 => ?_)
    · have h := h1 c9
      refine okx_aload_n C 0 dX7_balance_24 rfl rfl ?_
      refine okx_iload_n C 1 dX7_balance_25 rfl rfl ?_
      refine okx_callVr C (As := [.int x1]) (rest := []) (q := 0) (ci := 7) (kat hk kD_0) rfl (c_X7_freshView  _ _ _ h) W_5_89 W_5_91 W_0_21 W_5_92 W_1_1 hd_X7_freshView rfl ⟨Nat.le_of_ble_eq_true rfl, Nat.le_of_ble_eq_true rfl⟩ (Nat.le_of_ble_eq_true rfl) rfl dX7_balance_26 (fun r5 u6 h => ?_)
      obtain ⟨hV7, h⟩ := h
      refine okx_getRN C (ci := 5) hinX5 (kat hk (vw_0 hV7)) rfl 9 (by decide) nbf_39 (fun _ _ h => h) rfl dX7_balance_29 ?_
      refine okx_iload_n C 2 dX7_balance_32 rfl rfl ?_
      obtain ⟨g8, h⟩ := h
      refine okx_iald C (kat hk (vw_6 hV7)) g8 dX7_balance_33 ?_
      exact okx_iret C rfl rfl dX7_balance_34 h
    · have h := h2 c9
      refine okx_sub [] rfl ?_
      exact J16  _ h
set_option maxRecDepth 100000 in
set_option maxHeartbeats 4000000 in
theorem m_X7_count {l : Launch} {Ω : Wm} (hk : Hk Ω kD) (hst : l.stackTraces = false) (c_X7_freshView : CT_X7_freshView l Ω) (c_X6_lengthOfAll : CT_X6_lengthOfAll l Ω) (hv : ∀ (x1 : Int32) (σ : Sg) (K : Int32 → Sg → Prop) (Px : String → Sg → Prop), sp_X7_count x1 σ K Px → vc_X7_count x1 σ K Px) : CT_X7_count l Ω := by
  intro x1 σ Po Px hsp
  have hvc := hv x1 σ Po Px hsp
  refine Cu.of hst (by decide +kernel) (Nat.le_of_ble_eq_true rfl) (fun Γ C => ?_)
  have h : f_X7_count_e x1 Po Px σ := hvc  
  unfold f_X7_count_e at h
  refine okx_sub (L2 := [(0, .ref (Ω.2.2.1 0)), (1, .int x1)]) [0, 1] rfl ?_
  refine okx_iload_n C 1 dX7_count_0 rfl rfl ?_
  rcases (show (x1.toInt < 0 ∨ 5 < x1.toInt) ∨ x1.toInt = 0 ∨ x1.toInt = 1 ∨ x1.toInt = 2 ∨ x1.toInt = 3 ∨ x1.toInt = 4 ∨ x1.toInt = 5 by omega) with c | c | c | c | c | c | c
  · have h := h.1 c
    refine okx_tableOut C 86 dX7_count_1 c rfl ?_
    exact okx_throw C xt_58_60 dX7_count_86 dX7_count_89 dX7_count_90 dX7_count_93 (Nat.le_of_ble_eq_true rfl) (Nat.le_of_ble_eq_true rfl) h
  · have h := h.2.1 c
    refine okx_tableIn C 40 dX7_count_1 (by omega) (by omega) (by rw [c]; rfl) rfl ?_
    refine okx_aload_n C 0 dX7_count_40 rfl rfl ?_
    refine okx_getI C (ci := 7) hinX7 (kat hk kD_0) rfl 6 (by decide) W_4_163 (fun _ _ h => h) rfl dX7_count_41 ?_
    exact okx_iret C rfl rfl dX7_count_44 h
  · have h := h.2.2.1 c
    refine okx_tableIn C 45 dX7_count_1 (by omega) (by omega) (by rw [c]; rfl) rfl ?_
    refine okx_aload_n C 0 dX7_count_45 rfl rfl ?_
    refine okx_getR C (ci := 7) hinX7 (kat hk kD_0) rfl 1 (by decide) W_4_158 (fun _ _ h => h) rfl dX7_count_46 ?_
    refine okx_getIN C (ci := 2) hinX2 (kat hk kD_7) rfl 10 (by decide) nbf_17 (fun _ _ h => h) rfl dX7_count_49 ?_
    exact okx_iret C rfl rfl dX7_count_52 h
  · have h := h.2.2.2.1 c
    refine okx_tableIn C 53 dX7_count_1 (by omega) (by omega) (by rw [c]; rfl) rfl ?_
    refine okx_aload_n C 0 dX7_count_53 rfl rfl ?_
    refine okx_getR C (ci := 7) hinX7 (kat hk kD_0) rfl 2 (by decide) W_4_159 (fun _ _ h => h) rfl dX7_count_54 ?_
    refine okx_getIN C (ci := 3) hinX3 (kat hk kD_22) rfl 13 (by decide) nbf_31 (fun _ _ h => h) rfl dX7_count_57 ?_
    exact okx_iret C rfl rfl dX7_count_60 h
  · have h := h.2.2.2.2.1 c
    refine okx_tableIn C 61 dX7_count_1 (by omega) (by omega) (by rw [c]; rfl) rfl ?_
    refine okx_aload_n C 0 dX7_count_61 rfl rfl ?_
    refine okx_getR C (ci := 7) hinX7 (kat hk kD_0) rfl 2 (by decide) W_4_159 (fun _ _ h => h) rfl dX7_count_62 ?_
    refine okx_getIN C (ci := 3) hinX3 (kat hk kD_22) rfl 12 (by decide) nbf_29 (fun _ _ h => h) rfl dX7_count_65 ?_
    exact okx_iret C rfl rfl dX7_count_68 h
  · have h := h.2.2.2.2.2.1 c
    refine okx_tableIn C 69 dX7_count_1 (by omega) (by omega) (by rw [c]; rfl) rfl ?_
    refine okx_aload_n C 0 dX7_count_69 rfl rfl ?_
    refine okx_iconst C (v := 0) dX7_count_70 (by decide) ?_
    refine okx_callVr C (As := [.int 0]) (rest := []) (q := 0) (ci := 7) (kat hk kD_0) rfl (c_X7_freshView  _ _ _ h) W_5_89 W_5_91 W_0_21 W_5_92 W_1_1 hd_X7_freshView rfl ⟨Nat.le_of_ble_eq_true rfl, Nat.le_of_ble_eq_true rfl⟩ (Nat.le_of_ble_eq_true rfl) rfl dX7_count_71 (fun r1 u2 h => ?_)
    obtain ⟨hV3, h⟩ := h
    refine okx_getIN C (ci := 5) hinX5 (kat hk (vw_0 hV3)) rfl 16 (by decide) nbf_41 (fun _ _ h => h) rfl dX7_count_74 ?_
    exact okx_iret C rfl rfl dX7_count_77 h
  · have h := h.2.2.2.2.2.2 c
    refine okx_tableIn C 78 dX7_count_1 (by omega) (by omega) (by rw [c]; rfl) rfl ?_
    refine okx_aload_n C 0 dX7_count_78 rfl rfl ?_
    refine okx_getR C (ci := 7) hinX7 (kat hk kD_0) rfl 0 (by decide) W_4_157 (fun _ _ h => h) rfl dX7_count_79 ?_
    refine okx_callVi C (As := []) (rest := []) (q := 3) (ci := 6) (kat hk kD_3) rfl (c_X6_lengthOfAll   _ _ h) W_5_231 W_5_232 W_5_233 W_5_234 W_1_2 hd_X6_lengthOfAll rfl ⟨Nat.le_of_ble_eq_true rfl, Nat.le_of_ble_eq_true rfl⟩ (Nat.le_of_ble_eq_true rfl) rfl dX7_count_82 (fun r4 u5 h => ?_)
    exact okx_iret C rfl rfl dX7_count_85 h
