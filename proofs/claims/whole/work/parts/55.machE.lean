set_option maxRecDepth 100000 in
set_option maxHeartbeats 4000000 in
theorem m_X5_pay {l : Launch} {Ω : Wm} (hk : Hk Ω kD)  (hv : ∀ v : Nat, IsView v → ∀ (x1 : Int32) (x2 : Int32) (x3 : Int32) (σ : Sg) (K : Sg → Prop), sp_X5_pay v x1 x2 x3 σ K → vc_X5_pay v x1 x2 x3 σ K) : CT_X5_pay l Ω := by
  intro v hV x1 x2 x3 σ Po hsp
  have hvc := hv v hV x1 x2 x3 σ Po hsp
  refine Ct.of (by decide +kernel) (Nat.le_of_ble_eq_true rfl) (fun Γ C => ?_)
  have J30 : ∀  (σ : Sg), f_X5_pay_30 v x1 x2 x3 Po  σ → OK Γ Ω 4 30 [] [] σ := by
    intro  σ h
    unfold f_X5_pay_30 at h
    exact ok_vret C rfl rfl dX5_pay_30 h
  have h : f_X5_pay_e v x1 x2 x3 Po σ := hvc  
  unfold f_X5_pay_e at h
  refine ok_sub (L2 := [(0, .ref (Ω.2.2.1 v)), (1, .int x1), (2, .int x2), (3, .int x3)]) [0, 1, 2, 3] rfl ?_
  refine ok_aload_n C 0 dX5_pay_0 rfl rfl ?_
  refine ok_getR C (ci := 5) hinX5 (kat hk (vw_0 hV)) rfl 9 (by decide) W_2_29 (fun _ _ h => h) rfl dX5_pay_1 ?_
  refine ok_iload_n C 1 dX5_pay_4 rfl rfl ?_
  obtain ⟨g1, h⟩ := h
  refine ok_iald C (kat hk (vw_6 hV)) g1 dX5_pay_5 ?_
  refine ok_iload_n C 3 dX5_pay_6 rfl rfl ?_
  obtain ⟨h1, h2⟩ := h
  refine ok_icmp_lt C 30 dX5_pay_7 rfl (fun c6 => ?_) (fun c6 => ?_)
  · have h := h1 c6
    refine ok_sub [] rfl ?_
    exact J30  _ h
  · have h := h2 c6
    refine ok_aload_n C 0 dX5_pay_10 rfl rfl ?_
    refine ok_getR C (ci := 5) hinX5 (kat hk (vw_0 hV)) rfl 9 (by decide) W_2_29 (fun _ _ h => h) rfl dX5_pay_11 ?_
    refine ok_iload_n C 1 dX5_pay_14 rfl rfl ?_
    refine ok_dup2_11 C dX5_pay_15 rfl rfl ?_
    obtain ⟨g2, h⟩ := h
    refine ok_iald C (kat hk (vw_6 hV)) g2 dX5_pay_16 ?_
    refine ok_iload_n C 3 dX5_pay_17 rfl rfl ?_
    refine ok_isub C dX5_pay_18 ?_
    obtain ⟨g3, h⟩ := h
    refine ok_iast C (kat hk (vw_6 hV)) g3 dX5_pay_19 ?_
    refine ok_aload_n C 0 dX5_pay_20 rfl rfl ?_
    refine ok_getR C (ci := 5) hinX5 (kat hk (vw_0 hV)) rfl 9 (by decide) W_2_29 (fun _ _ h => h) rfl dX5_pay_21 ?_
    refine ok_iload_n C 2 dX5_pay_24 rfl rfl ?_
    refine ok_dup2_11 C dX5_pay_25 rfl rfl ?_
    obtain ⟨g4, h⟩ := h
    refine ok_iald C (kat hk (vw_6 hV)) g4 dX5_pay_26 ?_
    refine ok_iload_n C 3 dX5_pay_27 rfl rfl ?_
    refine ok_iadd C dX5_pay_28 ?_
    obtain ⟨g5, h⟩ := h
    refine ok_iast C (kat hk (vw_6 hV)) g5 dX5_pay_29 ?_
    refine ok_sub [] rfl ?_
    exact J30  _ h
set_option maxRecDepth 100000 in
set_option maxHeartbeats 4000000 in
theorem m_X5_findBalances {l : Launch} {Ω : Wm} (hk : Hk Ω kD) (c_X5_pay : CT_X5_pay l Ω) (c_J7_fill_53178 : CT_J7_fill_53178 l Ω) (c_J7_fill_fda19 : CT_J7_fill_fda19 l Ω) (hv : ∀ v : Nat, IsView v → ∀ (x1 : Int32) (σ : Sg) (K : Sg → Prop), sp_X5_findBalances v x1 σ K → vc_X5_findBalances v x1 σ K) : CT_X5_findBalances l Ω := by
  intro v hV x1 σ Po hsp
  have hvc := hv v hV x1 σ Po hsp
  refine Ct.of (by decide +kernel) (Nat.le_of_ble_eq_true rfl) (fun Γ C => ?_)
  obtain ⟨L21, gl21⟩ : ∃ L : Int32 → Sg → Prop, ∀ (x2 : Int32) (σ : Sg), L x2 σ = OK Γ Ω 6 21 [(0, .ref (Ω.2.2.1 v)), (2, .int x2)] [] σ := ⟨fun x2 σ => OK Γ Ω 6 21 [(0, .ref (Ω.2.2.1 v)), (2, .int x2)] [] σ, fun _ _ => rfl⟩
  obtain ⟨L39, gl39⟩ : ∃ L : Int32 → Int32 → Int32 → Sg → Prop, ∀ (x2 : Int32) (x3 : Int32) (x4 : Int32) (σ : Sg), L x2 x3 x4 σ = OK Γ Ω 6 39 [(0, .ref (Ω.2.2.1 v)), (2, .int x2), (3, .int x3), (4, .int x4)] [] σ := ⟨fun x2 x3 x4 σ => OK Γ Ω 6 39 [(0, .ref (Ω.2.2.1 v)), (2, .int x2), (3, .int x3), (4, .int x4)] [] σ, fun _ _ _ _ => rfl⟩
  have R21 : ∀ (x2 : Int32) (σ : Sg), f_X5_findBalances_21 v x1 L21 L39 Po x2 σ → L21 x2 σ := by
    intro x2 σ h
    unfold f_X5_findBalances_21 at h
    refine Eq.mpr (gl21 _ _) ?_
    refine ok_iload_n C 1 dX5_findBalances_21 rfl rfl ?_
    refine ok_aload_n C 0 dX5_findBalances_22 rfl rfl ?_
    refine ok_getI C (ci := 5) hinX5 (kat hk (vw_0 hV)) rfl 15 (by decide) W_2_37 (fun _ _ h => h) rfl dX5_findBalances_23 ?_
    obtain ⟨h1, h2⟩ := h
    refine ok_icmp_ge C 106 dX5_findBalances_26 rfl (fun c6 => ?_) (fun c6 => ?_)
    · have h := h1 c6
      exact ok_vret C rfl rfl dX5_findBalances_106 h
    · have h := h2 c6
      refine ok_aload_n C 0 dX5_findBalances_29 rfl rfl ?_
      refine ok_getR C (ci := 5) hinX5 (kat hk (vw_0 hV)) rfl 8 (by decide) W_2_27 (fun _ _ h => h) rfl dX5_findBalances_30 ?_
      refine ok_iload_n C 1 dX5_findBalances_33 rfl rfl ?_
      obtain ⟨g5, h⟩ := h
      refine ok_iald C (kat hk (vw_5 hV)) g5 dX5_findBalances_34 ?_
      refine ok_istore_n C (L2 := [(3, .int (σ.1 (v + 5) x2.toNatClampNeg)), (0, .ref (Ω.2.2.1 v)), (2, .int x2)]) dX5_findBalances_35 rfl (by decide) rfl ?_
      refine ok_iconst C (v := 0) dX5_findBalances_36 (by decide) ?_
      refine ok_istore C (L2 := [(4, .int 0), (3, .int (σ.1 (v + 5) x2.toNatClampNeg)), (0, .ref (Ω.2.2.1 v)), (2, .int x2)]) dX5_findBalances_37 (by decide) rfl ?_
      refine ok_sub [2, 3, 1, 0] rfl ?_
      exact Eq.mp (gl39 _ _ _ _) h
  have R39 : ∀ (x2 : Int32) (x3 : Int32) (x4 : Int32) (σ : Sg), f_X5_findBalances_39 v x1 L21 L39 Po x2 x3 x4 σ → L39 x2 x3 x4 σ := by
    intro x2 x3 x4 σ h
    unfold f_X5_findBalances_39 at h
    refine Eq.mpr (gl39 _ _ _ _) ?_
    refine ok_iload C 3 dX5_findBalances_39 rfl ?_
    refine ok_aload_n C 0 dX5_findBalances_41 rfl rfl ?_
    refine ok_getR C (ci := 5) hinX5 (kat hk (vw_0 hV)) rfl 1 (by decide) W_2_16 (fun _ _ h => h) rfl dX5_findBalances_42 ?_
    refine ok_getRN C (ci := 2) hinX2 (kat hk kD_7) rfl 5 (by decide) nbf_11 (fun _ _ h => h) rfl dX5_findBalances_45 ?_
    refine ok_iload_n C 2 dX5_findBalances_48 rfl rfl ?_
    obtain ⟨g7, h⟩ := h
    refine ok_iald C (kat hk kD_16) g7 dX5_findBalances_49 ?_
    obtain ⟨h1, h2⟩ := h
    refine ok_icmp_ge C 100 dX5_findBalances_50 rfl (fun c13 => ?_) (fun c13 => ?_)
    · have h := h1 c13
      refine ok_iinc C (v := x2 + 1) (L2 := [(2, .int (x2 + 1)), (0, .ref (Ω.2.2.1 v)), (3, .int x3), (4, .int x4)]) 1 dX5_findBalances_100 rfl rfl (by decide) rfl ?_
      refine ok_goto C 21 dX5_findBalances_103 rfl ?_
      refine ok_sub [1, 0] rfl ?_
      exact Eq.mp (gl21 _ _) h
    · have h := h2 c13
      refine ok_iload_n C 2 dX5_findBalances_53 rfl rfl ?_
      refine ok_iconst C (v := 3) dX5_findBalances_54 (by decide) ?_
      refine ok_imul C dX5_findBalances_55 ?_
      refine ok_iload C 3 dX5_findBalances_56 rfl ?_
      refine ok_iadd C dX5_findBalances_58 ?_
      refine ok_istore C (L2 := [(5, .int ((x3 * 3) + x4)), (0, .ref (Ω.2.2.1 v)), (2, .int x2), (3, .int x3), (4, .int x4)]) dX5_findBalances_59 (by decide) rfl ?_
      refine ok_aload_n C 1 dX5_findBalances_61 rfl rfl ?_
      refine ok_aload_n C 1 dX5_findBalances_62 rfl rfl ?_
      refine ok_getR C (ci := 5) hinX5 (kat hk (vw_0 hV)) rfl 1 (by decide) W_2_16 (fun _ _ h => h) rfl dX5_findBalances_63 ?_
      refine ok_getRN C (ci := 2) hinX2 (kat hk kD_7) rfl 1 (by decide) nbf_3 (fun _ _ h => h) rfl dX5_findBalances_66 ?_
      refine ok_iload_n C 3 dX5_findBalances_69 rfl rfl ?_
      obtain ⟨g8, h⟩ := h
      refine ok_iald C (kat hk kD_12) g8 dX5_findBalances_70 ?_
      refine ok_aload_n C 1 dX5_findBalances_71 rfl rfl ?_
      refine ok_getR C (ci := 5) hinX5 (kat hk (vw_0 hV)) rfl 1 (by decide) W_2_16 (fun _ _ h => h) rfl dX5_findBalances_72 ?_
      refine ok_getRN C (ci := 2) hinX2 (kat hk kD_7) rfl 6 (by decide) nbf_12 (fun _ _ h => h) rfl dX5_findBalances_75 ?_
      refine ok_iload C 0 dX5_findBalances_78 rfl ?_
      obtain ⟨g9, h⟩ := h
      refine ok_iald C (kat hk kD_17) g9 dX5_findBalances_80 ?_
      refine ok_aload_n C 1 dX5_findBalances_81 rfl rfl ?_
      refine ok_getR C (ci := 5) hinX5 (kat hk (vw_0 hV)) rfl 1 (by decide) W_2_16 (fun _ _ h => h) rfl dX5_findBalances_82 ?_
      refine ok_getRN C (ci := 2) hinX2 (kat hk kD_7) rfl 7 (by decide) nbf_13 (fun _ _ h => h) rfl dX5_findBalances_85 ?_
      refine ok_iload C 0 dX5_findBalances_88 rfl ?_
      obtain ⟨g10, h⟩ := h
      refine ok_iald C (kat hk kD_18) g10 dX5_findBalances_90 ?_
      refine ok_callVv C (As := [.int (σ.1 12 x3.toNatClampNeg), .int (σ.1 17 ((x3 * 3) + x4).toNatClampNeg), .int (σ.1 18 ((x3 * 3) + x4).toNatClampNeg)]) (rest := []) (q := v) (ci := 5) (kat hk (vw_0 hV)) rfl (c_X5_pay v hV _ _ _ _ _ h) W_5_176 W_5_178 W_0_39 W_5_179 W_1_8 hd_X5_pay rfl ⟨Nat.le_of_ble_eq_true rfl, Nat.le_of_ble_eq_true rfl⟩ (Nat.le_of_ble_eq_true rfl) rfl dX5_findBalances_91 (fun u12 h => ?_)
      refine ok_iinc C (v := x4 + 1) (L2 := [(4, .int (x4 + 1)), (5, .int ((x3 * 3) + x4)), (0, .ref (Ω.2.2.1 v)), (2, .int x2), (3, .int x3)]) 4 dX5_findBalances_94 rfl rfl (by decide) rfl ?_
      refine ok_goto C 39 dX5_findBalances_97 rfl ?_
      refine ok_sub [2, 3, 4, 0] rfl ?_
      exact Eq.mp (gl39 _ _ _ _) h
  have h : f_X5_findBalances_e v x1 L21 L39 Po σ := hvc L21 L39 R21 R39
  unfold f_X5_findBalances_e at h
  refine ok_sub (L2 := [(0, .ref (Ω.2.2.1 v)), (1, .int x1)]) [0, 1] rfl ?_
  refine ok_aload_n C 0 dX5_findBalances_0 rfl rfl ?_
  refine ok_getR C (ci := 5) hinX5 (kat hk (vw_0 hV)) rfl 9 (by decide) W_2_29 (fun _ _ h => h) rfl dX5_findBalances_1 ?_
  refine ok_iconst C (v := 0) dX5_findBalances_4 (by decide) ?_
  refine ok_callSv C (As := [.ref (Ω.2.2.1 (v + 6)), .int 0]) (rest := []) (c_J7_fill_53178 (v + 6) 8 (vw_6 hV) _ _ _ h) W_5_101 W_2_88 W_2_89 W_1_9 hd_J7_fill_53178 rfl ⟨Nat.le_of_ble_eq_true rfl, Nat.le_of_ble_eq_true rfl⟩ (Nat.le_of_ble_eq_true rfl) rfl dX5_findBalances_5 (fun u2 h => ?_)
  refine ok_aload_n C 0 dX5_findBalances_8 rfl rfl ?_
  refine ok_getR C (ci := 5) hinX5 (kat hk (vw_0 hV)) rfl 9 (by decide) W_2_29 (fun _ _ h => h) rfl dX5_findBalances_9 ?_
  refine ok_iconst C (v := 0) dX5_findBalances_12 (by decide) ?_
  refine ok_iload_n C 1 dX5_findBalances_13 rfl rfl ?_
  refine ok_ldc C W_5_172 dX5_findBalances_14 ?_
  refine ok_callSv C (As := [.ref (Ω.2.2.1 (v + 6)), .int 0, .int x1, .int 1000000]) (rest := []) (c_J7_fill_fda19 (v + 6) 8 (vw_6 hV) _ _ _ _ _ h) W_5_173 W_5_174 W_5_175 W_1_9 hd_J7_fill_fda19 rfl ⟨Nat.le_of_ble_eq_true rfl, Nat.le_of_ble_eq_true rfl⟩ (Nat.le_of_ble_eq_true rfl) rfl dX5_findBalances_16 (fun u4 h => ?_)
  refine ok_iconst C (v := 0) dX5_findBalances_19 (by decide) ?_
  refine ok_istore_n C (L2 := [(2, .int 0), (0, .ref (Ω.2.2.1 v)), (1, .int x1)]) dX5_findBalances_20 rfl (by decide) rfl ?_
  refine ok_sub [1, 0] rfl ?_
  exact Eq.mp (gl21 _ _) h
set_option maxRecDepth 100000 in
set_option maxHeartbeats 4000000 in
theorem m_X5_holds {l : Launch} {Ω : Wm} (hk : Hk Ω kD) (c_X0_has : CT_X0_has l Ω) (hv : ∀ v : Nat, IsView v → ∀ (x1 : Int32) (σ : Sg) (K : Int32 → Sg → Prop), sp_X5_holds v x1 σ K → vc_X5_holds v x1 σ K) : CT_X5_holds l Ω := by
  intro v hV x1 σ Po hsp
  have hvc := hv v hV x1 σ Po hsp
  refine Ct.of (by decide +kernel) (Nat.le_of_ble_eq_true rfl) (fun Γ C => ?_)
  have h : f_X5_holds_e v x1 Po σ := hvc  
  unfold f_X5_holds_e at h
  refine ok_sub (L2 := [(0, .ref (Ω.2.2.1 v)), (1, .int x1)]) [0, 1] rfl ?_
  refine ok_aload_n C 0 dX5_holds_0 rfl rfl ?_
  refine ok_getR C (ci := 5) hinX5 (kat hk (vw_0 hV)) rfl 1 (by decide) W_2_16 (fun _ _ h => h) rfl dX5_holds_1 ?_
  refine ok_getRN C (ci := 2) hinX2 (kat hk kD_7) rfl 9 (by decide) nbf_14 (fun _ _ h => h) rfl dX5_holds_4 ?_
  refine ok_aload_n C 0 dX5_holds_7 rfl rfl ?_
  refine ok_getI C (ci := 5) hinX5 (kat hk (vw_0 hV)) rfl 0 (by decide) W_2_15 (fun _ _ h => h) rfl dX5_holds_8 ?_
  refine ok_iload_n C 1 dX5_holds_11 rfl rfl ?_
  refine ok_callVi C (As := [.int (σ.1 v 0), .int x1]) (rest := []) (q := 20) (ci := 0) (kat hk kD_20) rfl (c_X0_has 20 32 bt_20 _ _ _ _ h) W_5_106 W_4_80 W_4_81 W_4_82 W_1_5 hd_X0_has rfl ⟨Nat.le_of_ble_eq_true rfl, Nat.le_of_ble_eq_true rfl⟩ (Nat.le_of_ble_eq_true rfl) rfl dX5_holds_12 (fun r1 u2 h => ?_)
  obtain ⟨z3, h⟩ := h
  exact ok_zret C rfl rfl (bz_n z3) dX5_holds_15 h
set_option maxRecDepth 100000 in
set_option maxHeartbeats 4000000 in
theorem m_X5_deciderOf {l : Launch} {Ω : Wm} (hk : Hk Ω kD) (c_X1_decides : CT_X1_decides l Ω) (c_X5_holds : CT_X5_holds l Ω) (hv : ∀ v : Nat, IsView v → ∀ (x1 : Int32) (σ : Sg) (K : Int32 → Sg → Prop), sp_X5_deciderOf v x1 σ K → vc_X5_deciderOf v x1 σ K) : CT_X5_deciderOf l Ω := by
  intro v hV x1 σ Po hsp
  have hvc := hv v hV x1 σ Po hsp
  refine Ct.of (by decide +kernel) (Nat.le_of_ble_eq_true rfl) (fun Γ C => ?_)
  obtain ⟨L4, gl4⟩ : ∃ L : Int32 → Int32 → Sg → Prop, ∀ (x2 : Int32) (x3 : Int32) (σ : Sg), L x2 x3 σ = OK Γ Ω 6 4 [(0, .ref (Ω.2.2.1 v)), (1, .int x1), (2, .int x2), (3, .int x3)] [] σ := ⟨fun x2 x3 σ => OK Γ Ω 6 4 [(0, .ref (Ω.2.2.1 v)), (1, .int x1), (2, .int x2), (3, .int x3)] [] σ, fun _ _ _ => rfl⟩
  have J90 : ∀ (x2 : Int32) (x3 : Int32) (σ : Sg), f_X5_deciderOf_90 v x1 L4 Po x2 x3 σ → OK Γ Ω 6 90 [(0, .ref (Ω.2.2.1 v)), (1, .int x1), (2, .int x2), (3, .int x3)] [] σ := by
    intro x2 x3 σ h
    unfold f_X5_deciderOf_90 at h
    refine ok_iinc C (v := x3 + 1) (L2 := [(3, .int (x3 + 1)), (0, .ref (Ω.2.2.1 v)), (1, .int x1), (2, .int x2)]) 3 dX5_deciderOf_90 rfl rfl (by decide) rfl ?_
    refine ok_goto C 4 dX5_deciderOf_93 rfl ?_
    refine ok_sub [1, 2, 3, 0] rfl ?_
    exact Eq.mp (gl4 _ _ _) h
  have J58 : ∀ (x2 : Int32) (x3 : Int32) (x4 : Int32) (s0 : Int32) (σ : Sg), f_X5_deciderOf_58 v x1 L4 Po x2 x3 x4 s0 σ → OK Γ Ω 6 58 [(0, .ref (Ω.2.2.1 v)), (1, .int x1), (2, .int x2), (3, .int x3), (4, .int x4)] [.int s0] σ := by
    intro x2 x3 x4 s0 σ h
    unfold f_X5_deciderOf_58 at h
    refine ok_istore C (L2 := [(5, .int s0), (0, .ref (Ω.2.2.1 v)), (1, .int x1), (2, .int x2), (3, .int x3), (4, .int x4)]) dX5_deciderOf_58 (by decide) rfl ?_
    refine ok_iload C 0 dX5_deciderOf_60 rfl ?_
    obtain ⟨h1, h2⟩ := h
    refine ok_if_eq C 90 dX5_deciderOf_62 rfl (fun c13 => ?_) (fun c13 => ?_)
    · have h := h1 c13
      refine ok_sub [1, 2, 3, 4] rfl ?_
      exact J90 _ _ _ h
    · have h := h2 c13
      refine ok_aload_n C 1 dX5_deciderOf_65 rfl rfl ?_
      refine ok_getR C (ci := 5) hinX5 (kat hk (vw_0 hV)) rfl 3 (by decide) W_2_18 (fun _ _ h => h) rfl dX5_deciderOf_66 ?_
      refine ok_iload C 5 dX5_deciderOf_69 rfl ?_
      refine ok_iload_n C 2 dX5_deciderOf_71 rfl rfl ?_
      refine ok_callVi C (As := [.int x4, .int x1]) (rest := []) (q := 37) (ci := 1) (kat hk kD_37) rfl (c_X1_decides  _ _ _ _ h) W_5_111 W_5_79 W_5_80 W_5_81 W_1_7 hd_X1_decides rfl ⟨Nat.le_of_ble_eq_true rfl, Nat.le_of_ble_eq_true rfl⟩ (Nat.le_of_ble_eq_true rfl) rfl dX5_deciderOf_72 (fun r7 u8 h => ?_)
      obtain ⟨h1, h2⟩ := h
      refine ok_if_eq C 90 dX5_deciderOf_75 rfl (fun c12 => ?_) (fun c12 => ?_)
      · have h := h1 c12
        refine ok_sub [1, 2, 3, 4] rfl ?_
        exact J90 _ _ _ h
      · have h := h2 c12
        refine ok_aload_n C 1 dX5_deciderOf_78 rfl rfl ?_
        refine ok_iload C 5 dX5_deciderOf_79 rfl ?_
        refine ok_callVi C (As := [.int x4]) (rest := []) (q := v) (ci := 5) (kat hk (vw_0 hV)) rfl (c_X5_holds v hV _ _ _ h) W_5_102 W_5_104 W_0_23 W_5_105 W_1_8 hd_X5_holds rfl ⟨Nat.le_of_ble_eq_true rfl, Nat.le_of_ble_eq_true rfl⟩ (Nat.le_of_ble_eq_true rfl) rfl dX5_deciderOf_81 (fun r9 u10 h => ?_)
        obtain ⟨h1, h2⟩ := h
        refine ok_if_eq C 90 dX5_deciderOf_84 rfl (fun c11 => ?_) (fun c11 => ?_)
        · have h := h1 c11
          refine ok_sub [1, 2, 3, 4] rfl ?_
          exact J90 _ _ _ h
        · have h := h2 c11
          refine ok_iload C 5 dX5_deciderOf_87 rfl ?_
          refine ok_istore_n C (L2 := [(2, .int x4), (5, .int s0), (0, .ref (Ω.2.2.1 v)), (1, .int x1), (3, .int x3), (4, .int x4)]) dX5_deciderOf_89 rfl (by decide) rfl ?_
          refine ok_sub [2, 3, 0, 4] rfl ?_
          exact J90 _ _ _ h
  have J53 : ∀ (x2 : Int32) (x3 : Int32) (x4 : Int32) (σ : Sg), f_X5_deciderOf_53 v x1 L4 Po x2 x3 x4 σ → OK Γ Ω 6 53 [(0, .ref (Ω.2.2.1 v)), (1, .int x1), (2, .int x2), (3, .int x3), (4, .int x4)] [] σ := by
    intro x2 x3 x4 σ h
    unfold f_X5_deciderOf_53 at h
    refine ok_iconst C (v := 1) dX5_deciderOf_53 (by decide) ?_
    refine ok_goto C 58 dX5_deciderOf_54 rfl ?_
    refine ok_sub [0, 1, 2, 3, 4] rfl ?_
    exact J58 _ _ _ _ _ h
  have R4 : ∀ (x2 : Int32) (x3 : Int32) (σ : Sg), f_X5_deciderOf_4 v x1 L4 Po x2 x3 σ → L4 x2 x3 σ := by
    intro x2 x3 σ h
    unfold f_X5_deciderOf_4 at h
    refine Eq.mpr (gl4 _ _ _) ?_
    refine ok_iload_n C 3 dX5_deciderOf_4 rfl rfl ?_
    refine ok_aload_n C 0 dX5_deciderOf_5 rfl rfl ?_
    refine ok_getR C (ci := 5) hinX5 (kat hk (vw_0 hV)) rfl 3 (by decide) W_2_18 (fun _ _ h => h) rfl dX5_deciderOf_6 ?_
    refine ok_getIN C (ci := 1) hinX1 (kat hk kD_37) rfl 6 (by decide) nbf_33 (fun _ _ h => h) rfl dX5_deciderOf_9 ?_
    obtain ⟨h1, h2⟩ := h
    refine ok_icmp_ge C 96 dX5_deciderOf_12 rfl (fun c6 => ?_) (fun c6 => ?_)
    · have h := h1 c6
      refine ok_iload_n C 2 dX5_deciderOf_96 rfl rfl ?_
      exact ok_iret C rfl rfl dX5_deciderOf_97 h
    · have h := h2 c6
      refine ok_aload_n C 0 dX5_deciderOf_15 rfl rfl ?_
      refine ok_getR C (ci := 5) hinX5 (kat hk (vw_0 hV)) rfl 3 (by decide) W_2_18 (fun _ _ h => h) rfl dX5_deciderOf_16 ?_
      refine ok_getRN C (ci := 1) hinX1 (kat hk kD_37) rfl 2 (by decide) nbf_32 (fun _ _ h => h) rfl dX5_deciderOf_19 ?_
      refine ok_iload_n C 3 dX5_deciderOf_22 rfl rfl ?_
      obtain ⟨g1, h⟩ := h
      refine ok_iald C (kat hk kD_38) g1 dX5_deciderOf_23 ?_
      refine ok_istore C (L2 := [(4, .int (σ.1 38 x3.toNatClampNeg)), (0, .ref (Ω.2.2.1 v)), (1, .int x1), (2, .int x2), (3, .int x3)]) dX5_deciderOf_24 (by decide) rfl ?_
      refine ok_iload_n C 3 dX5_deciderOf_26 rfl rfl ?_
      refine ok_iconst C (v := (-1)) dX5_deciderOf_27 (by decide) ?_
      obtain ⟨h1, h2⟩ := h
      refine ok_icmp_eq C 53 dX5_deciderOf_28 rfl (fun c5 => ?_) (fun c5 => ?_)
      · have h := h1 c5
        refine ok_sub [1, 2, 3, 4, 0] rfl ?_
        exact J53 _ _ _ _ h
      · have h := h2 c5
        refine ok_aload_n C 1 dX5_deciderOf_31 rfl rfl ?_
        refine ok_getR C (ci := 5) hinX5 (kat hk (vw_0 hV)) rfl 2 (by decide) W_2_17 (fun _ _ h => h) rfl dX5_deciderOf_32 ?_
        refine ok_getRN C (ci := 3) hinX3 (kat hk kD_22) rfl 6 (by decide) nbf_24 (fun _ _ h => h) rfl dX5_deciderOf_35 ?_
        refine ok_iload C 0 dX5_deciderOf_38 rfl ?_
        obtain ⟨g2, h⟩ := h
        refine ok_iald C (kat hk kD_32) g2 dX5_deciderOf_40 ?_
        refine ok_aload_n C 1 dX5_deciderOf_41 rfl rfl ?_
        refine ok_getR C (ci := 5) hinX5 (kat hk (vw_0 hV)) rfl 2 (by decide) W_2_17 (fun _ _ h => h) rfl dX5_deciderOf_42 ?_
        refine ok_getRN C (ci := 3) hinX3 (kat hk kD_22) rfl 6 (by decide) nbf_24 (fun _ _ h => h) rfl dX5_deciderOf_45 ?_
        refine ok_iload_n C 3 dX5_deciderOf_48 rfl rfl ?_
        obtain ⟨g3, h⟩ := h
        refine ok_iald C (kat hk kD_32) g3 dX5_deciderOf_49 ?_
        obtain ⟨h1, h2⟩ := h
        refine ok_icmp_ge C 57 dX5_deciderOf_50 rfl (fun c4 => ?_) (fun c4 => ?_)
        · have h := h1 c4
          refine ok_iconst C (v := 0) dX5_deciderOf_57 (by decide) ?_
          refine ok_sub [1, 2, 3, 4, 0] rfl ?_
          exact J58 _ _ _ _ _ h
        · have h := h2 c4
          refine ok_sub [1, 2, 3, 4, 0] rfl ?_
          exact J53 _ _ _ _ h
  have h : f_X5_deciderOf_e v x1 L4 Po σ := hvc L4 R4
  unfold f_X5_deciderOf_e at h
  refine ok_sub (L2 := [(0, .ref (Ω.2.2.1 v)), (1, .int x1)]) [0, 1] rfl ?_
  refine ok_iconst C (v := (-1)) dX5_deciderOf_0 (by decide) ?_
  refine ok_istore_n C (L2 := [(2, .int (-1)), (0, .ref (Ω.2.2.1 v)), (1, .int x1)]) dX5_deciderOf_1 rfl (by decide) rfl ?_
  refine ok_iconst C (v := 0) dX5_deciderOf_2 (by decide) ?_
  refine ok_istore_n C (L2 := [(3, .int 0), (2, .int (-1)), (0, .ref (Ω.2.2.1 v)), (1, .int x1)]) dX5_deciderOf_3 rfl (by decide) rfl ?_
  refine ok_sub [2, 3, 1, 0] rfl ?_
  exact Eq.mp (gl4 _ _ _) h
set_option maxRecDepth 100000 in
set_option maxHeartbeats 4000000 in
theorem m_X5_findFame {l : Launch} {Ω : Wm} (hk : Hk Ω kD) (c_X1_isYes : CT_X1_isYes l Ω) (c_X5_deciderOf : CT_X5_deciderOf l Ω) (c_X5_holds : CT_X5_holds l Ω) (c_J7_fill_53178 : CT_J7_fill_53178 l Ω) (hv : ∀ v : Nat, IsView v → ∀ (σ : Sg) (K : Sg → Prop), sp_X5_findFame v σ K → vc_X5_findFame v σ K) : CT_X5_findFame l Ω := by
  intro v hV σ Po hsp
  have hvc := hv v hV σ Po hsp
  refine Ct.of (by decide +kernel) (Nat.le_of_ble_eq_true rfl) (fun Γ C => ?_)
  obtain ⟨L10, gl10⟩ : ∃ L : Int32 → Sg → Prop, ∀ (x1 : Int32) (σ : Sg), L x1 σ = OK Γ Ω 4 10 [(0, .ref (Ω.2.2.1 v)), (1, .int x1)] [] σ := ⟨fun x1 σ => OK Γ Ω 4 10 [(0, .ref (Ω.2.2.1 v)), (1, .int x1)] [] σ, fun _ _ => rfl⟩
  have J77 : ∀ (x1 : Int32) (σ : Sg), f_X5_findFame_77 v L10 Po x1 σ → OK Γ Ω 4 77 [(0, .ref (Ω.2.2.1 v)), (1, .int x1)] [] σ := by
    intro x1 σ h
    unfold f_X5_findFame_77 at h
    refine ok_iinc C (v := x1 + 1) (L2 := [(1, .int (x1 + 1)), (0, .ref (Ω.2.2.1 v))]) 1 dX5_findFame_77 rfl rfl (by decide) rfl ?_
    refine ok_goto C 10 dX5_findFame_80 rfl ?_
    refine ok_sub [1, 0] rfl ?_
    exact Eq.mp (gl10 _ _) h
  have J76 : ∀ (x1 : Int32) (s0 : Int32) (s1 : Int32) (σ : Sg), f_X5_findFame_76 v L10 Po x1 s0 s1 σ → OK Γ Ω 4 76 [(0, .ref (Ω.2.2.1 v)), (1, .int x1)] [.int s0, .int s1, .ref (Ω.2.2.1 (v + 1))] σ := by
    intro x1 s0 s1 σ h
    unfold f_X5_findFame_76 at h
    obtain ⟨g14, h⟩ := h
    refine ok_iast C (kat hk (vw_1 hV)) g14 dX5_findFame_76 ?_
    refine ok_sub [0, 1] rfl ?_
    exact J77 _ _ h
  have J48 : ∀ (x1 : Int32) (x2 : Int32) (s0 : Int32) (σ : Sg), f_X5_findFame_48 v L10 Po x1 x2 s0 σ → OK Γ Ω 4 48 [(0, .ref (Ω.2.2.1 v)), (1, .int x1), (2, .int x2)] [.int s0] σ := by
    intro x1 x2 s0 σ h
    unfold f_X5_findFame_48 at h
    refine ok_istore_n C (L2 := [(3, .int s0), (0, .ref (Ω.2.2.1 v)), (1, .int x1), (2, .int x2)]) dX5_findFame_48 rfl (by decide) rfl ?_
    refine ok_iload_n C 0 dX5_findFame_49 rfl rfl ?_
    refine ok_iconst C (v := (-1)) dX5_findFame_50 (by decide) ?_
    obtain ⟨h1, h2⟩ := h
    refine ok_icmp_eq C 77 dX5_findFame_51 rfl (fun c13 => ?_) (fun c13 => ?_)
    · have h := h1 c13
      refine ok_sub [1, 2] rfl ?_
      exact J77 _ _ h
    · have h := h2 c13
      refine ok_aload_n C 1 dX5_findFame_54 rfl rfl ?_
      refine ok_getR C (ci := 5) hinX5 (kat hk (vw_0 hV)) rfl 4 (by decide) W_2_19 (fun _ _ h => h) rfl dX5_findFame_55 ?_
      refine ok_iload_n C 3 dX5_findFame_58 rfl rfl ?_
      refine ok_aload_n C 1 dX5_findFame_59 rfl rfl ?_
      refine ok_getR C (ci := 5) hinX5 (kat hk (vw_0 hV)) rfl 3 (by decide) W_2_18 (fun _ _ h => h) rfl dX5_findFame_60 ?_
      refine ok_iload_n C 0 dX5_findFame_63 rfl rfl ?_
      refine ok_iload_n C 3 dX5_findFame_64 rfl rfl ?_
      refine ok_callVi C (As := [.int s0, .int x2]) (rest := [.int x2, .ref (Ω.2.2.1 (v + 1))]) (q := 37) (ci := 1) (kat hk kD_37) rfl (c_X1_isYes  _ _ _ _ h) W_5_112 W_5_75 W_5_76 W_5_77 W_1_7 hd_X1_isYes rfl ⟨Nat.le_of_ble_eq_true rfl, Nat.le_of_ble_eq_true rfl⟩ (Nat.le_of_ble_eq_true rfl) rfl dX5_findFame_65 (fun r10 u11 h => ?_)
      obtain ⟨h1, h2⟩ := h
      refine ok_if_eq C 75 dX5_findFame_68 rfl (fun c12 => ?_) (fun c12 => ?_)
      · have h := h1 c12
        refine ok_iconst C (v := 1) dX5_findFame_75 (by decide) ?_
        refine ok_sub [1, 2] rfl ?_
        exact J76 _ _ _ _ h
      · have h := h2 c12
        refine ok_iconst C (v := 2) dX5_findFame_71 (by decide) ?_
        refine ok_goto C 76 dX5_findFame_72 rfl ?_
        refine ok_sub [1, 2] rfl ?_
        exact J76 _ _ _ _ h
  have R10 : ∀ (x1 : Int32) (σ : Sg), f_X5_findFame_10 v L10 Po x1 σ → L10 x1 σ := by
    intro x1 σ h
    unfold f_X5_findFame_10 at h
    refine Eq.mpr (gl10 _ _) ?_
    refine ok_iload_n C 1 dX5_findFame_10 rfl rfl ?_
    refine ok_aload_n C 0 dX5_findFame_11 rfl rfl ?_
    refine ok_getR C (ci := 5) hinX5 (kat hk (vw_0 hV)) rfl 3 (by decide) W_2_18 (fun _ _ h => h) rfl dX5_findFame_12 ?_
    refine ok_getIN C (ci := 1) hinX1 (kat hk kD_37) rfl 6 (by decide) nbf_33 (fun _ _ h => h) rfl dX5_findFame_15 ?_
    obtain ⟨h1, h2⟩ := h
    refine ok_icmp_ge C 83 dX5_findFame_18 rfl (fun c9 => ?_) (fun c9 => ?_)
    · have h := h1 c9
      exact ok_vret C rfl rfl dX5_findFame_83 h
    · have h := h2 c9
      refine ok_aload_n C 0 dX5_findFame_21 rfl rfl ?_
      refine ok_getR C (ci := 5) hinX5 (kat hk (vw_0 hV)) rfl 3 (by decide) W_2_18 (fun _ _ h => h) rfl dX5_findFame_22 ?_
      refine ok_getRN C (ci := 1) hinX1 (kat hk kD_37) rfl 2 (by decide) nbf_32 (fun _ _ h => h) rfl dX5_findFame_25 ?_
      refine ok_iload_n C 1 dX5_findFame_28 rfl rfl ?_
      obtain ⟨g3, h⟩ := h
      refine ok_iald C (kat hk kD_38) g3 dX5_findFame_29 ?_
      refine ok_istore_n C (L2 := [(2, .int (σ.1 38 x1.toNatClampNeg)), (0, .ref (Ω.2.2.1 v)), (1, .int x1)]) dX5_findFame_30 rfl (by decide) rfl ?_
      refine ok_aload_n C 1 dX5_findFame_31 rfl rfl ?_
      refine ok_iload_n C 0 dX5_findFame_32 rfl rfl ?_
      refine ok_callVi C (As := [.int (σ.1 38 x1.toNatClampNeg)]) (rest := []) (q := v) (ci := 5) (kat hk (vw_0 hV)) rfl (c_X5_holds v hV _ _ _ h) W_5_102 W_5_104 W_0_23 W_5_105 W_1_8 hd_X5_holds rfl ⟨Nat.le_of_ble_eq_true rfl, Nat.le_of_ble_eq_true rfl⟩ (Nat.le_of_ble_eq_true rfl) rfl dX5_findFame_33 (fun r4 u5 h => ?_)
      obtain ⟨h1, h2⟩ := h
      refine ok_if_eq C 47 dX5_findFame_36 rfl (fun c8 => ?_) (fun c8 => ?_)
      · have h := h1 c8
        refine ok_iconst C (v := (-1)) dX5_findFame_47 (by decide) ?_
        refine ok_sub [1, 2, 0] rfl ?_
        exact J48 _ _ _ _ h
      · have h := h2 c8
        refine ok_aload_n C 1 dX5_findFame_39 rfl rfl ?_
        refine ok_iload_n C 0 dX5_findFame_40 rfl rfl ?_
        refine ok_callVi C (As := [.int (σ.1 38 x1.toNatClampNeg)]) (rest := []) (q := v) (ci := 5) (kat hk (vw_0 hV)) rfl (c_X5_deciderOf v hV _ _ _ h) W_5_107 W_5_109 W_0_24 W_5_110 W_1_8 hd_X5_deciderOf rfl ⟨Nat.le_of_ble_eq_true rfl, Nat.le_of_ble_eq_true rfl⟩ (Nat.le_of_ble_eq_true rfl) rfl dX5_findFame_41 (fun r6 u7 h => ?_)
        refine ok_goto C 48 dX5_findFame_44 rfl ?_
        refine ok_sub [1, 2, 0] rfl ?_
        exact J48 _ _ _ _ h
  have h : f_X5_findFame_e v L10 Po σ := hvc L10 R10
  unfold f_X5_findFame_e at h
  refine ok_sub (L2 := [(0, .ref (Ω.2.2.1 v))]) [0] rfl ?_
  refine ok_aload_n C 0 dX5_findFame_0 rfl rfl ?_
  refine ok_getR C (ci := 5) hinX5 (kat hk (vw_0 hV)) rfl 4 (by decide) W_2_19 (fun _ _ h => h) rfl dX5_findFame_1 ?_
  refine ok_iconst C (v := 0) dX5_findFame_4 (by decide) ?_
  refine ok_callSv C (As := [.ref (Ω.2.2.1 (v + 1)), .int 0]) (rest := []) (c_J7_fill_53178 (v + 1) 240 (vw_1 hV) _ _ _ h) W_5_101 W_2_88 W_2_89 W_1_9 hd_J7_fill_53178 rfl ⟨Nat.le_of_ble_eq_true rfl, Nat.le_of_ble_eq_true rfl⟩ (Nat.le_of_ble_eq_true rfl) rfl dX5_findFame_5 (fun u2 h => ?_)
  refine ok_iconst C (v := 0) dX5_findFame_8 (by decide) ?_
  refine ok_istore_n C (L2 := [(1, .int 0), (0, .ref (Ω.2.2.1 v))]) dX5_findFame_9 rfl (by decide) rfl ?_
  refine ok_sub [1, 0] rfl ?_
  exact Eq.mp (gl10 _ _) h
set_option maxRecDepth 100000 in
set_option maxHeartbeats 4000000 in
theorem m_X5_isBefore {l : Launch} {Ω : Wm} (hk : Hk Ω kD) (c_X2_hashWord : CT_X2_hashWord l Ω) (hv : ∀ v : Nat, IsView v → ∀ (x1 : Int32) (x2 : Int32) (σ : Sg) (K : Int32 → Sg → Prop), sp_X5_isBefore v x1 x2 σ K → vc_X5_isBefore v x1 x2 σ K) : CT_X5_isBefore l Ω := by
  intro v hV x1 x2 σ Po hsp
  have hvc := hv v hV x1 x2 σ Po hsp
  refine Ct.of (by decide +kernel) (Nat.le_of_ble_eq_true rfl) (fun Γ C => ?_)
  obtain ⟨L76, gl76⟩ : ∃ L : Int32 → Sg → Prop, ∀ (x3 : Int32) (σ : Sg), L x3 σ = OK Γ Ω 7 76 [(0, .ref (Ω.2.2.1 v)), (1, .int x1), (2, .int x2), (3, .int x3)] [] σ := ⟨fun x3 σ => OK Γ Ω 7 76 [(0, .ref (Ω.2.2.1 v)), (1, .int x1), (2, .int x2), (3, .int x3)] [] σ, fun _ _ => rfl⟩
  have J170 : ∀ (s0 : Int32) (σ : Sg), f_X5_isBefore_170 v x1 x2 L76 Po s0 σ → OK Γ Ω 7 170 [] [.int s0] σ := by
    intro s0 σ h
    unfold f_X5_isBefore_170 at h
    obtain ⟨z26, h⟩ := h
    exact ok_zret C rfl rfl (bz_n z26) dX5_isBefore_170 h
  have J153 : ∀ (s0 : Int32) (σ : Sg), f_X5_isBefore_153 v x1 x2 L76 Po s0 σ → OK Γ Ω 7 153 [] [.int s0] σ := by
    intro s0 σ h
    unfold f_X5_isBefore_153 at h
    obtain ⟨z25, h⟩ := h
    exact ok_zret C rfl rfl (bz_n z25) dX5_isBefore_153 h
  have J73 : ∀ (s0 : Int32) (σ : Sg), f_X5_isBefore_73 v x1 x2 L76 Po s0 σ → OK Γ Ω 7 73 [] [.int s0] σ := by
    intro s0 σ h
    unfold f_X5_isBefore_73 at h
    obtain ⟨z14, h⟩ := h
    exact ok_zret C rfl rfl (bz_n z14) dX5_isBefore_73 h
  have J35 : ∀ (s0 : Int32) (σ : Sg), f_X5_isBefore_35 v x1 x2 L76 Po s0 σ → OK Γ Ω 7 35 [] [.int s0] σ := by
    intro s0 σ h
    unfold f_X5_isBefore_35 at h
    obtain ⟨z13, h⟩ := h
    exact ok_zret C rfl rfl (bz_n z13) dX5_isBefore_35 h
  have R76 : ∀ (x3 : Int32) (σ : Sg), f_X5_isBefore_76 v x1 x2 L76 Po x3 σ → L76 x3 σ := by
    intro x3 σ h
    unfold f_X5_isBefore_76 at h
    refine Eq.mpr (gl76 _ _) ?_
    refine ok_iload_n C 3 dX5_isBefore_76 rfl rfl ?_
    refine ok_bipush C (v := 8) dX5_isBefore_77 (by decide) ?_
    obtain ⟨h1, h2⟩ := h
    refine ok_icmp_ge C 160 dX5_isBefore_79 rfl (fun c24 => ?_) (fun c24 => ?_)
    · have h := h1 c24
      refine ok_iload_n C 1 dX5_isBefore_160 rfl rfl ?_
      refine ok_iload_n C 2 dX5_isBefore_161 rfl rfl ?_
      obtain ⟨h1, h2⟩ := h
      refine ok_icmp_ge C 169 dX5_isBefore_162 rfl (fun c15 => ?_) (fun c15 => ?_)
      · have h := h1 c15
        refine ok_iconst C (v := 0) dX5_isBefore_169 (by decide) ?_
        refine ok_sub [] rfl ?_
        exact J170 _ _ h
      · have h := h2 c15
        refine ok_iconst C (v := 1) dX5_isBefore_165 (by decide) ?_
        refine ok_goto C 170 dX5_isBefore_166 rfl ?_
        refine ok_sub [] rfl ?_
        exact J170 _ _ h
    · have h := h2 c24
      refine ok_aload_n C 0 dX5_isBefore_82 rfl rfl ?_
      refine ok_getR C (ci := 5) hinX5 (kat hk (vw_0 hV)) rfl 12 (by decide) W_2_33 (fun _ _ h => h) rfl dX5_isBefore_83 ?_
      refine ok_aload_n C 0 dX5_isBefore_86 rfl rfl ?_
      refine ok_getR C (ci := 5) hinX5 (kat hk (vw_0 hV)) rfl 5 (by decide) W_2_21 (fun _ _ h => h) rfl dX5_isBefore_87 ?_
      refine ok_iload_n C 1 dX5_isBefore_90 rfl rfl ?_
      obtain ⟨g16, h⟩ := h
      refine ok_iald C (kat hk (vw_2 hV)) g16 dX5_isBefore_91 ?_
      refine ok_bipush C (v := 8) dX5_isBefore_92 (by decide) ?_
      refine ok_imul C dX5_isBefore_94 ?_
      refine ok_iload_n C 3 dX5_isBefore_95 rfl rfl ?_
      refine ok_iadd C dX5_isBefore_96 ?_
      obtain ⟨g17, h⟩ := h
      refine ok_iald C (kat hk (vw_9 hV)) g17 dX5_isBefore_97 ?_
      refine ok_istore C (L2 := [(4, .int (σ.1 (v + 9) (((σ.1 (v + 2) x1.toNatClampNeg) * 8) + x3).toNatClampNeg)), (0, .ref (Ω.2.2.1 v)), (1, .int x1), (2, .int x2), (3, .int x3)]) dX5_isBefore_98 (by decide) rfl ?_
      refine ok_aload_n C 1 dX5_isBefore_100 rfl rfl ?_
      refine ok_getR C (ci := 5) hinX5 (kat hk (vw_0 hV)) rfl 1 (by decide) W_2_16 (fun _ _ h => h) rfl dX5_isBefore_101 ?_
      refine ok_iload_n C 2 dX5_isBefore_104 rfl rfl ?_
      refine ok_iload_n C 4 dX5_isBefore_105 rfl rfl ?_
      refine ok_callVi C (As := [.int x1, .int x3]) (rest := []) (q := 7) (ci := 2) (kat hk kD_7) rfl (c_X2_hashWord  _ _ _ _ h) W_5_125 W_2_155 W_2_156 W_2_157 W_1_3 hd_X2_hashWord rfl ⟨Nat.le_of_ble_eq_true rfl, Nat.le_of_ble_eq_true rfl⟩ (Nat.le_of_ble_eq_true rfl) rfl dX5_isBefore_106 (fun r18 u19 h => ?_)
      refine ok_iload C 0 dX5_isBefore_109 rfl ?_
      refine ok_ixor C dX5_isBefore_111 ?_
      refine ok_istore C (L2 := [(5, .int (r18 ^^^ (σ.1 (v + 9) (((σ.1 (v + 2) x1.toNatClampNeg) * 8) + x3).toNatClampNeg))), (4, .int (σ.1 (v + 9) (((σ.1 (v + 2) x1.toNatClampNeg) * 8) + x3).toNatClampNeg)), (0, .ref (Ω.2.2.1 v)), (1, .int x1), (2, .int x2), (3, .int x3)]) dX5_isBefore_112 (by decide) rfl ?_
      refine ok_aload_n C 2 dX5_isBefore_114 rfl rfl ?_
      refine ok_getR C (ci := 5) hinX5 (kat hk (vw_0 hV)) rfl 1 (by decide) W_2_16 (fun _ _ h => h) rfl dX5_isBefore_115 ?_
      refine ok_iload_n C 4 dX5_isBefore_118 rfl rfl ?_
      refine ok_iload_n C 5 dX5_isBefore_119 rfl rfl ?_
      refine ok_callVi C (As := [.int x2, .int x3]) (rest := []) (q := 7) (ci := 2) (kat hk kD_7) rfl (c_X2_hashWord  _ _ _ _ h) W_5_125 W_2_155 W_2_156 W_2_157 W_1_3 hd_X2_hashWord rfl ⟨Nat.le_of_ble_eq_true rfl, Nat.le_of_ble_eq_true rfl⟩ (Nat.le_of_ble_eq_true rfl) rfl dX5_isBefore_120 (fun r20 u21 h => ?_)
      refine ok_iload C 1 dX5_isBefore_123 rfl ?_
      refine ok_ixor C dX5_isBefore_125 ?_
      refine ok_istore C (L2 := [(6, .int (r20 ^^^ (σ.1 (v + 9) (((σ.1 (v + 2) x1.toNatClampNeg) * 8) + x3).toNatClampNeg))), (5, .int (r18 ^^^ (σ.1 (v + 9) (((σ.1 (v + 2) x1.toNatClampNeg) * 8) + x3).toNatClampNeg))), (4, .int (σ.1 (v + 9) (((σ.1 (v + 2) x1.toNatClampNeg) * 8) + x3).toNatClampNeg)), (0, .ref (Ω.2.2.1 v)), (1, .int x1), (2, .int x2), (3, .int x3)]) dX5_isBefore_126 (by decide) rfl ?_
      refine ok_iload C 1 dX5_isBefore_128 rfl ?_
      refine ok_iload C 0 dX5_isBefore_130 rfl ?_
      obtain ⟨h1, h2⟩ := h
      refine ok_icmp_eq C 154 dX5_isBefore_132 rfl (fun c23 => ?_) (fun c23 => ?_)
      · have h := h1 c23
        refine ok_iinc C (v := x3 + 1) (L2 := [(3, .int (x3 + 1)), (6, .int (r20 ^^^ (σ.1 (v + 9) (((σ.1 (v + 2) x1.toNatClampNeg) * 8) + x3).toNatClampNeg))), (5, .int (r18 ^^^ (σ.1 (v + 9) (((σ.1 (v + 2) x1.toNatClampNeg) * 8) + x3).toNatClampNeg))), (4, .int (σ.1 (v + 9) (((σ.1 (v + 2) x1.toNatClampNeg) * 8) + x3).toNatClampNeg)), (0, .ref (Ω.2.2.1 v)), (1, .int x1), (2, .int x2)]) 6 dX5_isBefore_154 rfl rfl (by decide) rfl ?_
        refine ok_goto C 76 dX5_isBefore_157 rfl ?_
        refine ok_sub [4, 5, 6, 0] rfl ?_
        exact Eq.mp (gl76 _ _) h
      · have h := h2 c23
        refine ok_iload C 1 dX5_isBefore_135 rfl ?_
        refine ok_ldc C W_5_167 dX5_isBefore_137 ?_
        refine ok_ixor C dX5_isBefore_139 ?_
        refine ok_iload C 0 dX5_isBefore_140 rfl ?_
        refine ok_ldc C W_5_167 dX5_isBefore_142 ?_
        refine ok_ixor C dX5_isBefore_144 ?_
        obtain ⟨h1, h2⟩ := h
        refine ok_icmp_ge C 152 dX5_isBefore_145 rfl (fun c22 => ?_) (fun c22 => ?_)
        · have h := h1 c22
          refine ok_iconst C (v := 0) dX5_isBefore_152 (by decide) ?_
          refine ok_sub [] rfl ?_
          exact J153 _ _ h
        · have h := h2 c22
          refine ok_iconst C (v := 1) dX5_isBefore_148 (by decide) ?_
          refine ok_goto C 153 dX5_isBefore_149 rfl ?_
          refine ok_sub [] rfl ?_
          exact J153 _ _ h
  have h : f_X5_isBefore_e v x1 x2 L76 Po σ := hvc L76 R76
  unfold f_X5_isBefore_e at h
  refine ok_sub (L2 := [(0, .ref (Ω.2.2.1 v)), (1, .int x1), (2, .int x2)]) [0, 1, 2] rfl ?_
  refine ok_aload_n C 0 dX5_isBefore_0 rfl rfl ?_
  refine ok_getR C (ci := 5) hinX5 (kat hk (vw_0 hV)) rfl 5 (by decide) W_2_21 (fun _ _ h => h) rfl dX5_isBefore_1 ?_
  refine ok_iload_n C 1 dX5_isBefore_4 rfl rfl ?_
  obtain ⟨g1, h⟩ := h
  refine ok_iald C (kat hk (vw_2 hV)) g1 dX5_isBefore_5 ?_
  refine ok_aload_n C 0 dX5_isBefore_6 rfl rfl ?_
  refine ok_getR C (ci := 5) hinX5 (kat hk (vw_0 hV)) rfl 5 (by decide) W_2_21 (fun _ _ h => h) rfl dX5_isBefore_7 ?_
  refine ok_iload_n C 2 dX5_isBefore_10 rfl rfl ?_
  obtain ⟨g2, h⟩ := h
  refine ok_iald C (kat hk (vw_2 hV)) g2 dX5_isBefore_11 ?_
  obtain ⟨h1, h2⟩ := h
  refine ok_icmp_eq C 36 dX5_isBefore_12 rfl (fun c12 => ?_) (fun c12 => ?_)
  · have h := h1 c12
    refine ok_aload_n C 0 dX5_isBefore_36 rfl rfl ?_
    refine ok_getR C (ci := 5) hinX5 (kat hk (vw_0 hV)) rfl 6 (by decide) W_2_23 (fun _ _ h => h) rfl dX5_isBefore_37 ?_
    refine ok_iload_n C 1 dX5_isBefore_40 rfl rfl ?_
    obtain ⟨g3, h⟩ := h
    refine ok_lald C (kat hk (vw_3 hV)) g3 dX5_isBefore_41 ?_
    refine ok_aload_n C 0 dX5_isBefore_42 rfl rfl ?_
    refine ok_getR C (ci := 5) hinX5 (kat hk (vw_0 hV)) rfl 6 (by decide) W_2_23 (fun _ _ h => h) rfl dX5_isBefore_43 ?_
    refine ok_iload_n C 2 dX5_isBefore_46 rfl rfl ?_
    obtain ⟨g4, h⟩ := h
    refine ok_lald C (kat hk (vw_3 hV)) g4 dX5_isBefore_47 ?_
    refine ok_lcmp C dX5_isBefore_48 ?_
    obtain ⟨h1, h2⟩ := h
    refine ok_if_eq C 74 dX5_isBefore_49 rfl (fun c8 => ?_) (fun c8 => ?_)
    · have h := h1 c8
      refine ok_iconst C (v := 0) dX5_isBefore_74 (by decide) ?_
      refine ok_istore_n C (L2 := [(3, .int 0), (0, .ref (Ω.2.2.1 v)), (1, .int x1), (2, .int x2)]) dX5_isBefore_75 rfl (by decide) rfl ?_
      refine ok_sub [1, 2, 3, 0] rfl ?_
      exact Eq.mp (gl76 _ _) h
    · have h := h2 c8
      refine ok_aload_n C 0 dX5_isBefore_52 rfl rfl ?_
      refine ok_getR C (ci := 5) hinX5 (kat hk (vw_0 hV)) rfl 6 (by decide) W_2_23 (fun _ _ h => h) rfl dX5_isBefore_53 ?_
      refine ok_iload_n C 1 dX5_isBefore_56 rfl rfl ?_
      obtain ⟨g5, h⟩ := h
      refine ok_lald C (kat hk (vw_3 hV)) g5 dX5_isBefore_57 ?_
      refine ok_aload_n C 0 dX5_isBefore_58 rfl rfl ?_
      refine ok_getR C (ci := 5) hinX5 (kat hk (vw_0 hV)) rfl 6 (by decide) W_2_23 (fun _ _ h => h) rfl dX5_isBefore_59 ?_
      refine ok_iload_n C 2 dX5_isBefore_62 rfl rfl ?_
      obtain ⟨g6, h⟩ := h
      refine ok_lald C (kat hk (vw_3 hV)) g6 dX5_isBefore_63 ?_
      refine ok_lcmp C dX5_isBefore_64 ?_
      obtain ⟨h1, h2⟩ := h
      refine ok_if_ge C 72 dX5_isBefore_65 rfl (fun c7 => ?_) (fun c7 => ?_)
      · have h := h1 c7
        refine ok_iconst C (v := 0) dX5_isBefore_72 (by decide) ?_
        refine ok_sub [] rfl ?_
        exact J73 _ _ h
      · have h := h2 c7
        refine ok_iconst C (v := 1) dX5_isBefore_68 (by decide) ?_
        refine ok_goto C 73 dX5_isBefore_69 rfl ?_
        refine ok_sub [] rfl ?_
        exact J73 _ _ h
  · have h := h2 c12
    refine ok_aload_n C 0 dX5_isBefore_15 rfl rfl ?_
    refine ok_getR C (ci := 5) hinX5 (kat hk (vw_0 hV)) rfl 5 (by decide) W_2_21 (fun _ _ h => h) rfl dX5_isBefore_16 ?_
    refine ok_iload_n C 1 dX5_isBefore_19 rfl rfl ?_
    obtain ⟨g9, h⟩ := h
    refine ok_iald C (kat hk (vw_2 hV)) g9 dX5_isBefore_20 ?_
    refine ok_aload_n C 0 dX5_isBefore_21 rfl rfl ?_
    refine ok_getR C (ci := 5) hinX5 (kat hk (vw_0 hV)) rfl 5 (by decide) W_2_21 (fun _ _ h => h) rfl dX5_isBefore_22 ?_
    refine ok_iload_n C 2 dX5_isBefore_25 rfl rfl ?_
    obtain ⟨g10, h⟩ := h
    refine ok_iald C (kat hk (vw_2 hV)) g10 dX5_isBefore_26 ?_
    obtain ⟨h1, h2⟩ := h
    refine ok_icmp_ge C 34 dX5_isBefore_27 rfl (fun c11 => ?_) (fun c11 => ?_)
    · have h := h1 c11
      refine ok_iconst C (v := 0) dX5_isBefore_34 (by decide) ?_
      refine ok_sub [] rfl ?_
      exact J35 _ _ h
    · have h := h2 c11
      refine ok_iconst C (v := 1) dX5_isBefore_30 (by decide) ?_
      refine ok_goto C 35 dX5_isBefore_31 rfl ?_
      refine ok_sub [] rfl ?_
      exact J35 _ _ h
set_option maxRecDepth 100000 in
set_option maxHeartbeats 4000000 in
theorem m_X5_insert {l : Launch} {Ω : Wm} (hk : Hk Ω kD) (c_X5_isBefore : CT_X5_isBefore l Ω) (hv : ∀ v : Nat, IsView v → ∀ (x1 : Int32) (σ : Sg) (K : Sg → Prop), sp_X5_insert v x1 σ K → vc_X5_insert v x1 σ K) : CT_X5_insert l Ω := by
  intro v hV x1 σ Po hsp
  have hvc := hv v hV x1 σ Po hsp
  refine Ct.of (by decide +kernel) (Nat.le_of_ble_eq_true rfl) (fun Γ C => ?_)
  obtain ⟨L5, gl5⟩ : ∃ L : Int32 → Sg → Prop, ∀ (x2 : Int32) (σ : Sg), L x2 σ = OK Γ Ω 3 5 [(0, .ref (Ω.2.2.1 v)), (1, .int x1), (2, .int x2)] [] σ := ⟨fun x2 σ => OK Γ Ω 3 5 [(0, .ref (Ω.2.2.1 v)), (1, .int x1), (2, .int x2)] [] σ, fun _ _ => rfl⟩
  have J45 : ∀ (x2 : Int32) (σ : Sg), f_X5_insert_45 v x1 L5 Po x2 σ → OK Γ Ω 3 45 [(0, .ref (Ω.2.2.1 v)), (1, .int x1), (2, .int x2)] [] σ := by
    intro x2 σ h
    unfold f_X5_insert_45 at h
    refine ok_aload_n C 0 dX5_insert_45 rfl rfl ?_
    refine ok_getR C (ci := 5) hinX5 (kat hk (vw_0 hV)) rfl 8 (by decide) W_2_27 (fun _ _ h => h) rfl dX5_insert_46 ?_
    refine ok_iload_n C 2 dX5_insert_49 rfl rfl ?_
    refine ok_iload_n C 1 dX5_insert_50 rfl rfl ?_
    obtain ⟨g8, h⟩ := h
    refine ok_iast C (kat hk (vw_5 hV)) g8 dX5_insert_51 ?_
    refine ok_aload_n C 0 dX5_insert_52 rfl rfl ?_
    refine ok_dup C dX5_insert_53 rfl ?_
    refine ok_getI C (ci := 5) hinX5 (kat hk (vw_0 hV)) rfl 15 (by decide) W_2_37 (fun _ _ h => h) rfl dX5_insert_54 ?_
    refine ok_iconst C (v := 1) dX5_insert_57 (by decide) ?_
    refine ok_iadd C dX5_insert_58 ?_
    refine ok_putI C (ci := 5) hinX5 (kat hk (vw_0 hV)) rfl 15 (by decide) W_2_37 (fun _ _ h => h) tyX5 tyX5_ok nmX5 rfl (by decide +kernel) rfl rfl rfl dX5_insert_59 ?_
    exact ok_vret C rfl rfl dX5_insert_62 h
  have R5 : ∀ (x2 : Int32) (σ : Sg), f_X5_insert_5 v x1 L5 Po x2 σ → L5 x2 σ := by
    intro x2 σ h
    unfold f_X5_insert_5 at h
    refine Eq.mpr (gl5 _ _) ?_
    refine ok_iload_n C 2 dX5_insert_5 rfl rfl ?_
    obtain ⟨h1, h2⟩ := h
    refine ok_if_le C 45 dX5_insert_6 rfl (fun c7 => ?_) (fun c7 => ?_)
    · have h := h1 c7
      refine ok_sub [0, 1, 2] rfl ?_
      exact J45 _ _ h
    · have h := h2 c7
      refine ok_aload_n C 0 dX5_insert_9 rfl rfl ?_
      refine ok_iload_n C 1 dX5_insert_10 rfl rfl ?_
      refine ok_aload_n C 0 dX5_insert_11 rfl rfl ?_
      refine ok_getR C (ci := 5) hinX5 (kat hk (vw_0 hV)) rfl 8 (by decide) W_2_27 (fun _ _ h => h) rfl dX5_insert_12 ?_
      refine ok_iload_n C 2 dX5_insert_15 rfl rfl ?_
      refine ok_iconst C (v := 1) dX5_insert_16 (by decide) ?_
      refine ok_isub C dX5_insert_17 ?_
      obtain ⟨g1, h⟩ := h
      refine ok_iald C (kat hk (vw_5 hV)) g1 dX5_insert_18 ?_
      refine ok_callVi C (As := [.int x1, .int (σ.1 (v + 5) (x2 - 1).toNatClampNeg)]) (rest := []) (q := v) (ci := 5) (kat hk (vw_0 hV)) rfl (c_X5_isBefore v hV _ _ _ _ h) W_5_163 W_5_165 W_0_37 W_5_166 W_1_8 hd_X5_isBefore rfl ⟨Nat.le_of_ble_eq_true rfl, Nat.le_of_ble_eq_true rfl⟩ (Nat.le_of_ble_eq_true rfl) rfl dX5_insert_19 (fun r2 u3 h => ?_)
      obtain ⟨h1, h2⟩ := h
      refine ok_if_eq C 45 dX5_insert_22 rfl (fun c6 => ?_) (fun c6 => ?_)
      · have h := h1 c6
        refine ok_sub [0, 1, 2] rfl ?_
        exact J45 _ _ h
      · have h := h2 c6
        refine ok_aload_n C 0 dX5_insert_25 rfl rfl ?_
        refine ok_getR C (ci := 5) hinX5 (kat hk (vw_0 hV)) rfl 8 (by decide) W_2_27 (fun _ _ h => h) rfl dX5_insert_26 ?_
        refine ok_iload_n C 2 dX5_insert_29 rfl rfl ?_
        refine ok_aload_n C 0 dX5_insert_30 rfl rfl ?_
        refine ok_getR C (ci := 5) hinX5 (kat hk (vw_0 hV)) rfl 8 (by decide) W_2_27 (fun _ _ h => h) rfl dX5_insert_31 ?_
        refine ok_iload_n C 2 dX5_insert_34 rfl rfl ?_
        refine ok_iconst C (v := 1) dX5_insert_35 (by decide) ?_
        refine ok_isub C dX5_insert_36 ?_
        obtain ⟨g4, h⟩ := h
        refine ok_iald C (kat hk (vw_5 hV)) g4 dX5_insert_37 ?_
        obtain ⟨g5, h⟩ := h
        refine ok_iast C (kat hk (vw_5 hV)) g5 dX5_insert_38 ?_
        refine ok_iinc C (v := x2 + (-1)) (L2 := [(2, .int (x2 + (-1))), (0, .ref (Ω.2.2.1 v)), (1, .int x1)]) 2 dX5_insert_39 rfl rfl (by decide) rfl ?_
        refine ok_goto C 5 dX5_insert_42 rfl ?_
        refine ok_sub [1, 2, 0] rfl ?_
        exact Eq.mp (gl5 _ _) h
  have h : f_X5_insert_e v x1 L5 Po σ := hvc L5 R5
  unfold f_X5_insert_e at h
  refine ok_sub (L2 := [(0, .ref (Ω.2.2.1 v)), (1, .int x1)]) [0, 1] rfl ?_
  refine ok_aload_n C 0 dX5_insert_0 rfl rfl ?_
  refine ok_getI C (ci := 5) hinX5 (kat hk (vw_0 hV)) rfl 15 (by decide) W_2_37 (fun _ _ h => h) rfl dX5_insert_1 ?_
  refine ok_istore_n C (L2 := [(2, .int (σ.1 v 15)), (0, .ref (Ω.2.2.1 v)), (1, .int x1)]) dX5_insert_4 rfl (by decide) rfl ?_
  refine ok_sub [1, 2, 0] rfl ?_
  exact Eq.mp (gl5 _ _) h
set_option maxRecDepth 100000 in
set_option maxHeartbeats 4000000 in
theorem m_X5_findOrder {l : Launch} {Ω : Wm} (hk : Hk Ω kD) (c_X5_insert : CT_X5_insert l Ω) (c_J7_fill_53178 : CT_J7_fill_53178 l Ω) (hv : ∀ v : Nat, IsView v → ∀ (σ : Sg) (K : Sg → Prop), sp_X5_findOrder v σ K → vc_X5_findOrder v σ K) : CT_X5_findOrder l Ω := by
  intro v hV σ Po hsp
  have hvc := hv v hV σ Po hsp
  refine Ct.of (by decide +kernel) (Nat.le_of_ble_eq_true rfl) (fun Γ C => ?_)
  obtain ⟨L15, gl15⟩ : ∃ L : Int32 → Sg → Prop, ∀ (x1 : Int32) (σ : Sg), L x1 σ = OK Γ Ω 2 15 [(0, .ref (Ω.2.2.1 v)), (1, .int x1)] [] σ := ⟨fun x1 σ => OK Γ Ω 2 15 [(0, .ref (Ω.2.2.1 v)), (1, .int x1)] [] σ, fun _ _ => rfl⟩
  obtain ⟨L48, gl48⟩ : ∃ L : Int32 → Sg → Prop, ∀ (x1 : Int32) (σ : Sg), L x1 σ = OK Γ Ω 2 48 [(0, .ref (Ω.2.2.1 v)), (1, .int x1)] [] σ := ⟨fun x1 σ => OK Γ Ω 2 48 [(0, .ref (Ω.2.2.1 v)), (1, .int x1)] [] σ, fun _ _ => rfl⟩
  have J40 : ∀ (x1 : Int32) (σ : Sg), f_X5_findOrder_40 v L15 L48 Po x1 σ → OK Γ Ω 2 40 [(0, .ref (Ω.2.2.1 v)), (1, .int x1)] [] σ := by
    intro x1 σ h
    unfold f_X5_findOrder_40 at h
    refine ok_iinc C (v := x1 + 1) (L2 := [(1, .int (x1 + 1)), (0, .ref (Ω.2.2.1 v))]) 1 dX5_findOrder_40 rfl rfl (by decide) rfl ?_
    refine ok_goto C 15 dX5_findOrder_43 rfl ?_
    refine ok_sub [1, 0] rfl ?_
    exact Eq.mp (gl15 _ _) h
  have R15 : ∀ (x1 : Int32) (σ : Sg), f_X5_findOrder_15 v L15 L48 Po x1 σ → L15 x1 σ := by
    intro x1 σ h
    unfold f_X5_findOrder_15 at h
    refine Eq.mpr (gl15 _ _) ?_
    refine ok_iload_n C 1 dX5_findOrder_15 rfl rfl ?_
    refine ok_aload_n C 0 dX5_findOrder_16 rfl rfl ?_
    refine ok_getR C (ci := 5) hinX5 (kat hk (vw_0 hV)) rfl 1 (by decide) W_2_16 (fun _ _ h => h) rfl dX5_findOrder_17 ?_
    refine ok_getIN C (ci := 2) hinX2 (kat hk kD_7) rfl 10 (by decide) nbf_16 (fun _ _ h => h) rfl dX5_findOrder_20 ?_
    obtain ⟨h1, h2⟩ := h
    refine ok_icmp_ge C 46 dX5_findOrder_23 rfl (fun c7 => ?_) (fun c7 => ?_)
    · have h := h1 c7
      refine ok_iconst C (v := 0) dX5_findOrder_46 (by decide) ?_
      refine ok_istore_n C (L2 := [(1, .int 0), (0, .ref (Ω.2.2.1 v))]) dX5_findOrder_47 rfl (by decide) rfl ?_
      refine ok_sub [1, 0] rfl ?_
      exact Eq.mp (gl48 _ _) h
    · have h := h2 c7
      refine ok_aload_n C 0 dX5_findOrder_26 rfl rfl ?_
      refine ok_getR C (ci := 5) hinX5 (kat hk (vw_0 hV)) rfl 5 (by decide) W_2_21 (fun _ _ h => h) rfl dX5_findOrder_27 ?_
      refine ok_iload_n C 1 dX5_findOrder_30 rfl rfl ?_
      obtain ⟨g3, h⟩ := h
      refine ok_iald C (kat hk (vw_2 hV)) g3 dX5_findOrder_31 ?_
      obtain ⟨h1, h2⟩ := h
      refine ok_if_eq C 40 dX5_findOrder_32 rfl (fun c6 => ?_) (fun c6 => ?_)
      · have h := h1 c6
        refine ok_sub [0, 1] rfl ?_
        exact J40 _ _ h
      · have h := h2 c6
        refine ok_aload_n C 0 dX5_findOrder_35 rfl rfl ?_
        refine ok_iload_n C 1 dX5_findOrder_36 rfl rfl ?_
        refine ok_callVv C (As := [.int x1]) (rest := []) (q := v) (ci := 5) (kat hk (vw_0 hV)) rfl (c_X5_insert v hV _ _ _ h) W_5_159 W_5_161 W_0_36 W_5_162 W_1_8 hd_X5_insert rfl ⟨Nat.le_of_ble_eq_true rfl, Nat.le_of_ble_eq_true rfl⟩ (Nat.le_of_ble_eq_true rfl) rfl dX5_findOrder_37 (fun u5 h => ?_)
        refine ok_sub [0, 1] rfl ?_
        exact J40 _ _ h
  have R48 : ∀ (x1 : Int32) (σ : Sg), f_X5_findOrder_48 v L15 L48 Po x1 σ → L48 x1 σ := by
    intro x1 σ h
    unfold f_X5_findOrder_48 at h
    refine Eq.mpr (gl48 _ _) ?_
    refine ok_iload_n C 1 dX5_findOrder_48 rfl rfl ?_
    refine ok_aload_n C 0 dX5_findOrder_49 rfl rfl ?_
    refine ok_getI C (ci := 5) hinX5 (kat hk (vw_0 hV)) rfl 15 (by decide) W_2_37 (fun _ _ h => h) rfl dX5_findOrder_50 ?_
    obtain ⟨h1, h2⟩ := h
    refine ok_icmp_ge C 74 dX5_findOrder_53 rfl (fun c10 => ?_) (fun c10 => ?_)
    · have h := h1 c10
      exact ok_vret C rfl rfl dX5_findOrder_74 h
    · have h := h2 c10
      refine ok_aload_n C 0 dX5_findOrder_56 rfl rfl ?_
      refine ok_getR C (ci := 5) hinX5 (kat hk (vw_0 hV)) rfl 7 (by decide) W_2_25 (fun _ _ h => h) rfl dX5_findOrder_57 ?_
      refine ok_aload_n C 0 dX5_findOrder_60 rfl rfl ?_
      refine ok_getR C (ci := 5) hinX5 (kat hk (vw_0 hV)) rfl 8 (by decide) W_2_27 (fun _ _ h => h) rfl dX5_findOrder_61 ?_
      refine ok_iload_n C 1 dX5_findOrder_64 rfl rfl ?_
      obtain ⟨g8, h⟩ := h
      refine ok_iald C (kat hk (vw_5 hV)) g8 dX5_findOrder_65 ?_
      refine ok_iload_n C 1 dX5_findOrder_66 rfl rfl ?_
      obtain ⟨g9, h⟩ := h
      refine ok_iast C (kat hk (vw_4 hV)) g9 dX5_findOrder_67 ?_
      refine ok_iinc C (v := x1 + 1) (L2 := [(1, .int (x1 + 1)), (0, .ref (Ω.2.2.1 v))]) 1 dX5_findOrder_68 rfl rfl (by decide) rfl ?_
      refine ok_goto C 48 dX5_findOrder_71 rfl ?_
      refine ok_sub [1, 0] rfl ?_
      exact Eq.mp (gl48 _ _) h
  have h : f_X5_findOrder_e v L15 L48 Po σ := hvc L15 L48 R15 R48
  unfold f_X5_findOrder_e at h
  refine ok_sub (L2 := [(0, .ref (Ω.2.2.1 v))]) [0] rfl ?_
  refine ok_aload_n C 0 dX5_findOrder_0 rfl rfl ?_
  refine ok_getR C (ci := 5) hinX5 (kat hk (vw_0 hV)) rfl 7 (by decide) W_2_25 (fun _ _ h => h) rfl dX5_findOrder_1 ?_
  refine ok_iconst C (v := (-1)) dX5_findOrder_4 (by decide) ?_
  refine ok_callSv C (As := [.ref (Ω.2.2.1 (v + 4)), .int (-1)]) (rest := []) (c_J7_fill_53178 (v + 4) 240 (vw_4 hV) _ _ _ h) W_5_101 W_2_88 W_2_89 W_1_9 hd_J7_fill_53178 rfl ⟨Nat.le_of_ble_eq_true rfl, Nat.le_of_ble_eq_true rfl⟩ (Nat.le_of_ble_eq_true rfl) rfl dX5_findOrder_5 (fun u2 h => ?_)
  refine ok_aload_n C 0 dX5_findOrder_8 rfl rfl ?_
  refine ok_iconst C (v := 0) dX5_findOrder_9 (by decide) ?_
  refine ok_putI C (ci := 5) hinX5 (kat hk (vw_0 hV)) rfl 15 (by decide) W_2_37 (fun _ _ h => h) tyX5 tyX5_ok nmX5 rfl (by decide +kernel) rfl rfl rfl dX5_findOrder_10 ?_
  refine ok_iconst C (v := 0) dX5_findOrder_13 (by decide) ?_
  refine ok_istore_n C (L2 := [(1, .int 0), (0, .ref (Ω.2.2.1 v))]) dX5_findOrder_14 rfl (by decide) rfl ?_
  refine ok_sub [1, 0] rfl ?_
  exact Eq.mp (gl15 _ _) h
set_option maxRecDepth 100000 in
set_option maxHeartbeats 4000000 in
theorem m_X5_isBelowAllUniques {l : Launch} {Ω : Wm} (hk : Hk Ω kD) (c_X0_has : CT_X0_has l Ω) (hv : ∀ v : Nat, IsView v → ∀ (x1 : Int32) (x2 : Int32) (σ : Sg) (K : Int32 → Sg → Prop), sp_X5_isBelowAllUniques v x1 x2 σ K → vc_X5_isBelowAllUniques v x1 x2 σ K) : CT_X5_isBelowAllUniques l Ω := by
  intro v hV x1 x2 σ Po hsp
  have hvc := hv v hV x1 x2 σ Po hsp
  refine Ct.of (by decide +kernel) (Nat.le_of_ble_eq_true rfl) (fun Γ C => ?_)
  obtain ⟨L2, gl2⟩ : ∃ L : Int32 → Sg → Prop, ∀ (x3 : Int32) (σ : Sg), L x3 σ = OK Γ Ω 4 2 [(0, .ref (Ω.2.2.1 v)), (1, .int x1), (2, .int x2), (3, .int x3)] [] σ := ⟨fun x3 σ => OK Γ Ω 4 2 [(0, .ref (Ω.2.2.1 v)), (1, .int x1), (2, .int x2), (3, .int x3)] [] σ, fun _ _ => rfl⟩
  have R2 : ∀ (x3 : Int32) (σ : Sg), f_X5_isBelowAllUniques_2 v x1 x2 L2 Po x3 σ → L2 x3 σ := by
    intro x3 σ h
    unfold f_X5_isBelowAllUniques_2 at h
    refine Eq.mpr (gl2 _ _) ?_
    refine ok_iload_n C 3 dX5_isBelowAllUniques_2 rfl rfl ?_
    refine ok_aload_n C 0 dX5_isBelowAllUniques_3 rfl rfl ?_
    refine ok_getR C (ci := 5) hinX5 (kat hk (vw_0 hV)) rfl 11 (by decide) W_2_32 (fun _ _ h => h) rfl dX5_isBelowAllUniques_4 ?_
    refine ok_iload_n C 2 dX5_isBelowAllUniques_7 rfl rfl ?_
    obtain ⟨g1, h⟩ := h
    refine ok_iald C (kat hk (vw_8 hV)) g1 dX5_isBelowAllUniques_8 ?_
    obtain ⟨h1, h2⟩ := h
    refine ok_icmp_ge C 45 dX5_isBelowAllUniques_9 rfl (fun c6 => ?_) (fun c6 => ?_)
    · have h := h1 c6
      refine ok_iconst C (v := 1) dX5_isBelowAllUniques_45 (by decide) ?_
      exact ok_zret C rfl rfl (bz_n isZ_1) dX5_isBelowAllUniques_46 h
    · have h := h2 c6
      refine ok_aload_n C 0 dX5_isBelowAllUniques_12 rfl rfl ?_
      refine ok_getR C (ci := 5) hinX5 (kat hk (vw_0 hV)) rfl 2 (by decide) W_2_17 (fun _ _ h => h) rfl dX5_isBelowAllUniques_13 ?_
      refine ok_getRN C (ci := 3) hinX3 (kat hk kD_22) rfl 1 (by decide) nbf_19 (fun _ _ h => h) rfl dX5_isBelowAllUniques_16 ?_
      refine ok_aload_n C 0 dX5_isBelowAllUniques_19 rfl rfl ?_
      refine ok_getR C (ci := 5) hinX5 (kat hk (vw_0 hV)) rfl 10 (by decide) W_2_31 (fun _ _ h => h) rfl dX5_isBelowAllUniques_20 ?_
      refine ok_iload_n C 2 dX5_isBelowAllUniques_23 rfl rfl ?_
      refine ok_bipush C (v := 8) dX5_isBelowAllUniques_24 (by decide) ?_
      refine ok_imul C dX5_isBelowAllUniques_26 ?_
      refine ok_iload_n C 3 dX5_isBelowAllUniques_27 rfl rfl ?_
      refine ok_iadd C dX5_isBelowAllUniques_28 ?_
      obtain ⟨g2, h⟩ := h
      refine ok_iald C (kat hk (vw_7 hV)) g2 dX5_isBelowAllUniques_29 ?_
      refine ok_iload_n C 1 dX5_isBelowAllUniques_30 rfl rfl ?_
      refine ok_callVi C (As := [.int (σ.1 (v + 7) ((x2 * 8) + x3).toNatClampNeg), .int x1]) (rest := []) (q := 23) (ci := 0) (kat hk kD_23) rfl (c_X0_has 23 960 bt_23 _ _ _ _ h) W_5_106 W_4_80 W_4_81 W_4_82 W_1_5 hd_X0_has rfl ⟨Nat.le_of_ble_eq_true rfl, Nat.le_of_ble_eq_true rfl⟩ (Nat.le_of_ble_eq_true rfl) rfl dX5_isBelowAllUniques_31 (fun r3 u4 h => ?_)
      obtain ⟨h1, h2⟩ := h
      refine ok_if_ne C 39 dX5_isBelowAllUniques_34 rfl (fun c5 => ?_) (fun c5 => ?_)
      · have h := h1 c5
        refine ok_iinc C (v := x3 + 1) (L2 := [(3, .int (x3 + 1)), (0, .ref (Ω.2.2.1 v)), (1, .int x1), (2, .int x2)]) 3 dX5_isBelowAllUniques_39 rfl rfl (by decide) rfl ?_
        refine ok_goto C 2 dX5_isBelowAllUniques_42 rfl ?_
        refine ok_sub [1, 2, 3, 0] rfl ?_
        exact Eq.mp (gl2 _ _) h
      · have h := h2 c5
        refine ok_iconst C (v := 0) dX5_isBelowAllUniques_37 (by decide) ?_
        exact ok_zret C rfl rfl (bz_n isZ_0) dX5_isBelowAllUniques_38 h
  have h : f_X5_isBelowAllUniques_e v x1 x2 L2 Po σ := hvc L2 R2
  unfold f_X5_isBelowAllUniques_e at h
  refine ok_sub (L2 := [(0, .ref (Ω.2.2.1 v)), (1, .int x1), (2, .int x2)]) [0, 1, 2] rfl ?_
  refine ok_iconst C (v := 0) dX5_isBelowAllUniques_0 (by decide) ?_
  refine ok_istore_n C (L2 := [(3, .int 0), (0, .ref (Ω.2.2.1 v)), (1, .int x1), (2, .int x2)]) dX5_isBelowAllUniques_1 rfl (by decide) rfl ?_
  refine ok_sub [1, 2, 3, 0] rfl ?_
  exact Eq.mp (gl2 _ _) h
set_option maxRecDepth 100000 in
set_option maxHeartbeats 4000000 in
theorem m_X5_roundReceiving {l : Launch} {Ω : Wm} (hk : Hk Ω kD) (c_X5_isBelowAllUniques : CT_X5_isBelowAllUniques l Ω) (hv : ∀ v : Nat, IsView v → ∀ (x1 : Int32) (σ : Sg) (K : Int32 → Sg → Prop), sp_X5_roundReceiving v x1 σ K → vc_X5_roundReceiving v x1 σ K) : CT_X5_roundReceiving l Ω := by
  intro v hV x1 σ Po hsp
  have hvc := hv v hV x1 σ Po hsp
  refine Ct.of (by decide +kernel) (Nat.le_of_ble_eq_true rfl) (fun Γ C => ?_)
  obtain ⟨L10, gl10⟩ : ∃ L : Int32 → Sg → Prop, ∀ (x2 : Int32) (σ : Sg), L x2 σ = OK Γ Ω 3 10 [(0, .ref (Ω.2.2.1 v)), (1, .int x1), (2, .int x2)] [] σ := ⟨fun x2 σ => OK Γ Ω 3 10 [(0, .ref (Ω.2.2.1 v)), (1, .int x1), (2, .int x2)] [] σ, fun _ _ => rfl⟩
  have J41 : ∀ (x2 : Int32) (σ : Sg), f_X5_roundReceiving_41 v x1 L10 Po x2 σ → OK Γ Ω 3 41 [(0, .ref (Ω.2.2.1 v)), (1, .int x1), (2, .int x2)] [] σ := by
    intro x2 σ h
    unfold f_X5_roundReceiving_41 at h
    refine ok_iinc C (v := x2 + 1) (L2 := [(2, .int (x2 + 1)), (0, .ref (Ω.2.2.1 v)), (1, .int x1)]) 2 dX5_roundReceiving_41 rfl rfl (by decide) rfl ?_
    refine ok_goto C 10 dX5_roundReceiving_44 rfl ?_
    refine ok_sub [1, 2, 0] rfl ?_
    exact Eq.mp (gl10 _ _) h
  have R10 : ∀ (x2 : Int32) (σ : Sg), f_X5_roundReceiving_10 v x1 L10 Po x2 σ → L10 x2 σ := by
    intro x2 σ h
    unfold f_X5_roundReceiving_10 at h
    refine Eq.mpr (gl10 _ _) ?_
    refine ok_iload_n C 2 dX5_roundReceiving_10 rfl rfl ?_
    refine ok_aload_n C 0 dX5_roundReceiving_11 rfl rfl ?_
    refine ok_getR C (ci := 5) hinX5 (kat hk (vw_0 hV)) rfl 2 (by decide) W_2_17 (fun _ _ h => h) rfl dX5_roundReceiving_12 ?_
    refine ok_getIN C (ci := 3) hinX3 (kat hk kD_22) rfl 13 (by decide) nbf_30 (fun _ _ h => h) rfl dX5_roundReceiving_15 ?_
    obtain ⟨h1, h2⟩ := h
    refine ok_icmp_gt C 47 dX5_roundReceiving_18 rfl (fun c7 => ?_) (fun c7 => ?_)
    · have h := h1 c7
      refine ok_iconst C (v := 0) dX5_roundReceiving_47 (by decide) ?_
      exact ok_iret C rfl rfl dX5_roundReceiving_48 h
    · have h := h2 c7
      refine ok_aload_n C 0 dX5_roundReceiving_21 rfl rfl ?_
      refine ok_getR C (ci := 5) hinX5 (kat hk (vw_0 hV)) rfl 13 (by decide) W_2_34 (fun _ _ h => h) rfl dX5_roundReceiving_22 ?_
      refine ok_iload_n C 2 dX5_roundReceiving_25 rfl rfl ?_
      obtain ⟨g2, h⟩ := h
      refine ok_zald C (kat hk (vw_10 hV)) g2 dX5_roundReceiving_26 ?_
      obtain ⟨h1, h2⟩ := h
      refine ok_if_eq C 41 dX5_roundReceiving_27 rfl (fun c6 => ?_) (fun c6 => ?_)
      · have h := h1 c6
        refine ok_sub [0, 1, 2] rfl ?_
        exact J41 _ _ h
      · have h := h2 c6
        refine ok_aload_n C 0 dX5_roundReceiving_30 rfl rfl ?_
        refine ok_iload_n C 1 dX5_roundReceiving_31 rfl rfl ?_
        refine ok_iload_n C 2 dX5_roundReceiving_32 rfl rfl ?_
        refine ok_callVi C (As := [.int x1, .int x2]) (rest := []) (q := v) (ci := 5) (kat hk (vw_0 hV)) rfl (c_X5_isBelowAllUniques v hV _ _ _ _ h) W_5_143 W_5_145 W_0_32 W_5_146 W_1_8 hd_X5_isBelowAllUniques rfl ⟨Nat.le_of_ble_eq_true rfl, Nat.le_of_ble_eq_true rfl⟩ (Nat.le_of_ble_eq_true rfl) rfl dX5_roundReceiving_33 (fun r3 u4 h => ?_)
        obtain ⟨h1, h2⟩ := h
        refine ok_if_eq C 41 dX5_roundReceiving_36 rfl (fun c5 => ?_) (fun c5 => ?_)
        · have h := h1 c5
          refine ok_sub [0, 1, 2] rfl ?_
          exact J41 _ _ h
        · have h := h2 c5
          refine ok_iload_n C 2 dX5_roundReceiving_39 rfl rfl ?_
          exact ok_iret C rfl rfl dX5_roundReceiving_40 h
  have h : f_X5_roundReceiving_e v x1 L10 Po σ := hvc L10 R10
  unfold f_X5_roundReceiving_e at h
  refine ok_sub (L2 := [(0, .ref (Ω.2.2.1 v)), (1, .int x1)]) [0, 1] rfl ?_
  refine ok_aload_n C 0 dX5_roundReceiving_0 rfl rfl ?_
  refine ok_getR C (ci := 5) hinX5 (kat hk (vw_0 hV)) rfl 2 (by decide) W_2_17 (fun _ _ h => h) rfl dX5_roundReceiving_1 ?_
  refine ok_getRN C (ci := 3) hinX3 (kat hk kD_22) rfl 6 (by decide) nbf_24 (fun _ _ h => h) rfl dX5_roundReceiving_4 ?_
  refine ok_iload_n C 1 dX5_roundReceiving_7 rfl rfl ?_
  obtain ⟨g1, h⟩ := h
  refine ok_iald C (kat hk kD_32) g1 dX5_roundReceiving_8 ?_
  refine ok_istore_n C (L2 := [(2, .int (σ.1 32 x1.toNatClampNeg)), (0, .ref (Ω.2.2.1 v)), (1, .int x1)]) dX5_roundReceiving_9 rfl (by decide) rfl ?_
  refine ok_sub [1, 2, 0] rfl ?_
  exact Eq.mp (gl10 _ _) h
set_option maxRecDepth 100000 in
set_option maxHeartbeats 4000000 in
theorem m_X5_firstAbove {l : Launch} {Ω : Wm} (hk : Hk Ω kD) (c_X0_has : CT_X0_has l Ω) (hv : ∀ v : Nat, IsView v → ∀ (x1 : Int32) (x2 : Int32) (σ : Sg) (K : Int32 → Sg → Prop), sp_X5_firstAbove v x1 x2 σ K → vc_X5_firstAbove v x1 x2 σ K) : CT_X5_firstAbove l Ω := by
  intro v hV x1 x2 σ Po hsp
  have hvc := hv v hV x1 x2 σ Po hsp
  refine Ct.of (by decide +kernel) (Nat.le_of_ble_eq_true rfl) (fun Γ C => ?_)
  obtain ⟨L5, gl5⟩ : ∃ L : Int32 → Int32 → Sg → Prop, ∀ (x3 : Int32) (x4 : Int32) (σ : Sg), L x3 x4 σ = OK Γ Ω 6 5 [(0, .ref (Ω.2.2.1 v)), (1, .int x1), (3, .int x3), (4, .int x4)] [] σ := ⟨fun x3 x4 σ => OK Γ Ω 6 5 [(0, .ref (Ω.2.2.1 v)), (1, .int x1), (3, .int x3), (4, .int x4)] [] σ, fun _ _ _ => rfl⟩
  have J46 : ∀ (x3 : Int32) (σ : Sg), f_X5_firstAbove_46 v x1 x2 L5 Po x3 σ → OK Γ Ω 6 46 [(3, .int x3)] [] σ := by
    intro x3 σ h
    unfold f_X5_firstAbove_46 at h
    refine ok_iload_n C 0 dX5_firstAbove_46 rfl rfl ?_
    exact ok_iret C rfl rfl dX5_firstAbove_47 h
  have R5 : ∀ (x3 : Int32) (x4 : Int32) (σ : Sg), f_X5_firstAbove_5 v x1 x2 L5 Po x3 x4 σ → L5 x3 x4 σ := by
    intro x3 x4 σ h
    unfold f_X5_firstAbove_5 at h
    refine Eq.mpr (gl5 _ _ _) ?_
    refine ok_iload C 3 dX5_firstAbove_5 rfl ?_
    refine ok_sipush C (v := 240) dX5_firstAbove_7 (by decide) ?_
    obtain ⟨h1, h2⟩ := h
    refine ok_icmp_ge C 57 dX5_firstAbove_10 rfl (fun c6 => ?_) (fun c6 => ?_)
    · have h := h1 c6
      refine ok_iload_n C 2 dX5_firstAbove_57 rfl rfl ?_
      exact ok_iret C rfl rfl dX5_firstAbove_58 h
    · have h := h2 c6
      refine ok_aload_n C 0 dX5_firstAbove_13 rfl rfl ?_
      refine ok_getR C (ci := 5) hinX5 (kat hk (vw_0 hV)) rfl 1 (by decide) W_2_16 (fun _ _ h => h) rfl dX5_firstAbove_14 ?_
      refine ok_getRN C (ci := 2) hinX2 (kat hk kD_7) rfl 2 (by decide) nbf_6 (fun _ _ h => h) rfl dX5_firstAbove_17 ?_
      refine ok_iload_n C 2 dX5_firstAbove_20 rfl rfl ?_
      obtain ⟨g1, h⟩ := h
      refine ok_iald C (kat hk kD_13) g1 dX5_firstAbove_21 ?_
      refine ok_istore C (L2 := [(5, .int (σ.1 13 x3.toNatClampNeg)), (0, .ref (Ω.2.2.1 v)), (1, .int x1), (3, .int x3), (4, .int x4)]) dX5_firstAbove_22 (by decide) rfl ?_
      refine ok_iload C 0 dX5_firstAbove_24 rfl ?_
      refine ok_iconst C (v := (-1)) dX5_firstAbove_26 (by decide) ?_
      obtain ⟨h1, h2⟩ := h
      refine ok_icmp_eq C 46 dX5_firstAbove_27 rfl (fun c5 => ?_) (fun c5 => ?_)
      · have h := h1 c5
        refine ok_sub [3] rfl ?_
        exact J46 _ _ h
      · have h := h2 c5
        refine ok_aload_n C 1 dX5_firstAbove_30 rfl rfl ?_
        refine ok_getR C (ci := 5) hinX5 (kat hk (vw_0 hV)) rfl 2 (by decide) W_2_17 (fun _ _ h => h) rfl dX5_firstAbove_31 ?_
        refine ok_getRN C (ci := 3) hinX3 (kat hk kD_22) rfl 1 (by decide) nbf_19 (fun _ _ h => h) rfl dX5_firstAbove_34 ?_
        refine ok_iload C 0 dX5_firstAbove_37 rfl ?_
        refine ok_iload_n C 2 dX5_firstAbove_39 rfl rfl ?_
        refine ok_callVi C (As := [.int (σ.1 13 x3.toNatClampNeg), .int x1]) (rest := []) (q := 23) (ci := 0) (kat hk kD_23) rfl (c_X0_has 23 960 bt_23 _ _ _ _ h) W_5_106 W_4_80 W_4_81 W_4_82 W_1_5 hd_X0_has rfl ⟨Nat.le_of_ble_eq_true rfl, Nat.le_of_ble_eq_true rfl⟩ (Nat.le_of_ble_eq_true rfl) rfl dX5_firstAbove_40 (fun r2 u3 h => ?_)
        obtain ⟨h1, h2⟩ := h
        refine ok_if_ne C 48 dX5_firstAbove_43 rfl (fun c4 => ?_) (fun c4 => ?_)
        · have h := h1 c4
          refine ok_iload C 0 dX5_firstAbove_48 rfl ?_
          refine ok_istore_n C (L2 := [(3, .int (σ.1 13 x3.toNatClampNeg)), (5, .int (σ.1 13 x3.toNatClampNeg)), (0, .ref (Ω.2.2.1 v)), (1, .int x1), (4, .int x4)]) dX5_firstAbove_50 rfl (by decide) rfl ?_
          refine ok_iinc C (v := x4 + 1) (L2 := [(4, .int (x4 + 1)), (3, .int (σ.1 13 x3.toNatClampNeg)), (5, .int (σ.1 13 x3.toNatClampNeg)), (0, .ref (Ω.2.2.1 v)), (1, .int x1)]) 4 dX5_firstAbove_51 rfl rfl (by decide) rfl ?_
          refine ok_goto C 5 dX5_firstAbove_54 rfl ?_
          refine ok_sub [3, 4, 1, 0] rfl ?_
          exact Eq.mp (gl5 _ _ _) h
        · have h := h2 c4
          refine ok_sub [3] rfl ?_
          exact J46 _ _ h
  have h : f_X5_firstAbove_e v x1 x2 L5 Po σ := hvc L5 R5
  unfold f_X5_firstAbove_e at h
  refine ok_sub (L2 := [(0, .ref (Ω.2.2.1 v)), (1, .int x1), (2, .int x2)]) [0, 1, 2] rfl ?_
  refine ok_iload_n C 2 dX5_firstAbove_0 rfl rfl ?_
  refine ok_istore_n C (L2 := [(3, .int x2), (0, .ref (Ω.2.2.1 v)), (1, .int x1), (2, .int x2)]) dX5_firstAbove_1 rfl (by decide) rfl ?_
  refine ok_iconst C (v := 0) dX5_firstAbove_2 (by decide) ?_
  refine ok_istore C (L2 := [(4, .int 0), (3, .int x2), (0, .ref (Ω.2.2.1 v)), (1, .int x1), (2, .int x2)]) dX5_firstAbove_3 (by decide) rfl ?_
  refine ok_sub [2, 3, 1, 0] rfl ?_
  exact Eq.mp (gl5 _ _ _) h
set_option maxRecDepth 100000 in
set_option maxHeartbeats 4000000 in
theorem m_X5_stampIn {l : Launch} {Ω : Wm} (hk : Hk Ω kD) (c_X5_firstAbove : CT_X5_firstAbove l Ω) (hv : ∀ v : Nat, IsView v → ∀ (x1 : Int32) (x2 : Int32) (σ : Sg) (K : Int64 → Sg → Prop), sp_X5_stampIn v x1 x2 σ K → vc_X5_stampIn v x1 x2 σ K) : CT_X5_stampIn l Ω := by
  intro v hV x1 x2 σ Po hsp
  have hvc := hv v hV x1 x2 σ Po hsp
  refine Ct.of (by decide +kernel) (Nat.le_of_ble_eq_true rfl) (fun Γ C => ?_)
  obtain ⟨L2, gl2⟩ : ∃ L : Int32 → Sg → Prop, ∀ (x3 : Int32) (σ : Sg), L x3 σ = OK Γ Ω 7 2 [(0, .ref (Ω.2.2.1 v)), (1, .int x1), (2, .int x2), (3, .int x3)] [] σ := ⟨fun x3 σ => OK Γ Ω 7 2 [(0, .ref (Ω.2.2.1 v)), (1, .int x1), (2, .int x2), (3, .int x3)] [] σ, fun _ _ => rfl⟩
  obtain ⟨L41, gl41⟩ : ∃ L : Int32 → Int64 → Int32 → Sg → Prop, ∀ (x3 : Int32) (x4 : Int64) (x6 : Int32) (σ : Sg), L x3 x4 x6 σ = OK Γ Ω 7 41 [(0, .ref (Ω.2.2.1 v)), (1, .int x1), (2, .int x2), (3, .int x3), (4, .long x4), (6, .int x6)] [] σ := ⟨fun x3 x4 x6 σ => OK Γ Ω 7 41 [(0, .ref (Ω.2.2.1 v)), (1, .int x1), (2, .int x2), (3, .int x3), (4, .long x4), (6, .int x6)] [] σ, fun _ _ _ _ => rfl⟩
  have J83 : ∀ (x3 : Int32) (x4 : Int64) (x6 : Int32) (σ : Sg), f_X5_stampIn_83 v x1 x2 L2 L41 Po x3 x4 x6 σ → OK Γ Ω 7 83 [(0, .ref (Ω.2.2.1 v)), (1, .int x1), (2, .int x2), (3, .int x3), (4, .long x4), (6, .int x6)] [] σ := by
    intro x3 x4 x6 σ h
    unfold f_X5_stampIn_83 at h
    refine ok_aload_n C 0 dX5_stampIn_83 rfl rfl ?_
    refine ok_getR C (ci := 5) hinX5 (kat hk (vw_0 hV)) rfl 14 (by decide) W_2_35 (fun _ _ h => h) rfl dX5_stampIn_84 ?_
    refine ok_iload C 5 dX5_stampIn_87 rfl ?_
    refine ok_lload C 4 dX5_stampIn_89 rfl ?_
    obtain ⟨g14, h⟩ := h
    refine ok_last C (kat hk (vw_11 hV)) g14 dX5_stampIn_91 ?_
    refine ok_iinc C (v := x3 + 1) (L2 := [(3, .int (x3 + 1)), (0, .ref (Ω.2.2.1 v)), (1, .int x1), (2, .int x2), (4, .long x4), (6, .int x6)]) 3 dX5_stampIn_92 rfl rfl (by decide) rfl ?_
    refine ok_goto C 2 dX5_stampIn_95 rfl ?_
    refine ok_sub [1, 2, 3, 0] rfl ?_
    exact Eq.mp (gl2 _ _) h
  have R2 : ∀ (x3 : Int32) (σ : Sg), f_X5_stampIn_2 v x1 x2 L2 L41 Po x3 σ → L2 x3 σ := by
    intro x3 σ h
    unfold f_X5_stampIn_2 at h
    refine Eq.mpr (gl2 _ _) ?_
    refine ok_iload_n C 3 dX5_stampIn_2 rfl rfl ?_
    refine ok_aload_n C 0 dX5_stampIn_3 rfl rfl ?_
    refine ok_getR C (ci := 5) hinX5 (kat hk (vw_0 hV)) rfl 11 (by decide) W_2_32 (fun _ _ h => h) rfl dX5_stampIn_4 ?_
    refine ok_iload_n C 1 dX5_stampIn_7 rfl rfl ?_
    obtain ⟨g1, h⟩ := h
    refine ok_iald C (kat hk (vw_8 hV)) g1 dX5_stampIn_8 ?_
    obtain ⟨h1, h2⟩ := h
    refine ok_icmp_ge C 98 dX5_stampIn_9 rfl (fun c8 => ?_) (fun c8 => ?_)
    · have h := h1 c8
      refine ok_aload_n C 0 dX5_stampIn_98 rfl rfl ?_
      refine ok_getR C (ci := 5) hinX5 (kat hk (vw_0 hV)) rfl 14 (by decide) W_2_35 (fun _ _ h => h) rfl dX5_stampIn_99 ?_
      refine ok_aload_n C 0 dX5_stampIn_102 rfl rfl ?_
      refine ok_getR C (ci := 5) hinX5 (kat hk (vw_0 hV)) rfl 11 (by decide) W_2_32 (fun _ _ h => h) rfl dX5_stampIn_103 ?_
      refine ok_iload_n C 1 dX5_stampIn_106 rfl rfl ?_
      obtain ⟨g2, h⟩ := h
      refine ok_iald C (kat hk (vw_8 hV)) g2 dX5_stampIn_107 ?_
      refine ok_iconst C (v := 2) dX5_stampIn_108 (by decide) ?_
      refine ok_idiv C dX5_stampIn_109 (by decide) ?_
      obtain ⟨g3, h⟩ := h
      refine ok_lald C (kat hk (vw_11 hV)) g3 dX5_stampIn_110 ?_
      exact ok_lret C rfl rfl dX5_stampIn_111 h
    · have h := h2 c8
      refine ok_aload_n C 0 dX5_stampIn_12 rfl rfl ?_
      refine ok_getR C (ci := 5) hinX5 (kat hk (vw_0 hV)) rfl 1 (by decide) W_2_16 (fun _ _ h => h) rfl dX5_stampIn_13 ?_
      refine ok_getRN C (ci := 2) hinX2 (kat hk kD_7) rfl 4 (by decide) nbf_9 (fun _ _ h => h) rfl dX5_stampIn_16 ?_
      refine ok_aload_n C 0 dX5_stampIn_19 rfl rfl ?_
      refine ok_iload_n C 2 dX5_stampIn_20 rfl rfl ?_
      refine ok_aload_n C 0 dX5_stampIn_21 rfl rfl ?_
      refine ok_getR C (ci := 5) hinX5 (kat hk (vw_0 hV)) rfl 10 (by decide) W_2_31 (fun _ _ h => h) rfl dX5_stampIn_22 ?_
      refine ok_iload_n C 1 dX5_stampIn_25 rfl rfl ?_
      refine ok_bipush C (v := 8) dX5_stampIn_26 (by decide) ?_
      refine ok_imul C dX5_stampIn_28 ?_
      refine ok_iload_n C 3 dX5_stampIn_29 rfl rfl ?_
      refine ok_iadd C dX5_stampIn_30 ?_
      obtain ⟨g4, h⟩ := h
      refine ok_iald C (kat hk (vw_7 hV)) g4 dX5_stampIn_31 ?_
      refine ok_callVi C (As := [.int x2, .int (σ.1 (v + 7) ((x1 * 8) + x3).toNatClampNeg)]) (rest := [.ref (Ω.2.2.1 15)]) (q := v) (ci := 5) (kat hk (vw_0 hV)) rfl (c_X5_firstAbove v hV _ _ _ _ h) W_5_151 W_5_153 W_0_34 W_5_154 W_1_8 hd_X5_firstAbove rfl ⟨Nat.le_of_ble_eq_true rfl, Nat.le_of_ble_eq_true rfl⟩ (Nat.le_of_ble_eq_true rfl) rfl dX5_stampIn_32 (fun r5 u6 h => ?_)
      obtain ⟨g7, h⟩ := h
      refine ok_lald C (kat hk kD_15) g7 dX5_stampIn_35 ?_
      refine ok_lstore C (L2 := [(4, .long (u6.2 15 r5.toNatClampNeg)), (0, .ref (Ω.2.2.1 v)), (1, .int x1), (2, .int x2), (3, .int x3)]) dX5_stampIn_36 (by decide) rfl ?_
      refine ok_iload_n C 4 dX5_stampIn_38 rfl rfl ?_
      refine ok_istore C (L2 := [(6, .int x3), (4, .long (u6.2 15 r5.toNatClampNeg)), (0, .ref (Ω.2.2.1 v)), (1, .int x1), (2, .int x2), (3, .int x3)]) dX5_stampIn_39 (by decide) rfl ?_
      refine ok_sub [2, 3, 4, 5, 1, 0] rfl ?_
      exact Eq.mp (gl41 _ _ _ _) h
  have R41 : ∀ (x3 : Int32) (x4 : Int64) (x6 : Int32) (σ : Sg), f_X5_stampIn_41 v x1 x2 L2 L41 Po x3 x4 x6 σ → L41 x3 x4 x6 σ := by
    intro x3 x4 x6 σ h
    unfold f_X5_stampIn_41 at h
    refine Eq.mpr (gl41 _ _ _ _) ?_
    refine ok_iload C 5 dX5_stampIn_41 rfl ?_
    obtain ⟨h1, h2⟩ := h
    refine ok_if_le C 83 dX5_stampIn_43 rfl (fun c13 => ?_) (fun c13 => ?_)
    · have h := h1 c13
      refine ok_sub [0, 1, 2, 3, 4, 5] rfl ?_
      exact J83 _ _ _ _ h
    · have h := h2 c13
      refine ok_aload_n C 0 dX5_stampIn_46 rfl rfl ?_
      refine ok_getR C (ci := 5) hinX5 (kat hk (vw_0 hV)) rfl 14 (by decide) W_2_35 (fun _ _ h => h) rfl dX5_stampIn_47 ?_
      refine ok_iload C 5 dX5_stampIn_50 rfl ?_
      refine ok_iconst C (v := 1) dX5_stampIn_52 (by decide) ?_
      refine ok_isub C dX5_stampIn_53 ?_
      obtain ⟨g9, h⟩ := h
      refine ok_lald C (kat hk (vw_11 hV)) g9 dX5_stampIn_54 ?_
      refine ok_lload C 4 dX5_stampIn_55 rfl ?_
      refine ok_lcmp C dX5_stampIn_57 ?_
      obtain ⟨h1, h2⟩ := h
      refine ok_if_le C 83 dX5_stampIn_58 rfl (fun c12 => ?_) (fun c12 => ?_)
      · have h := h1 c12
        refine ok_sub [0, 1, 2, 3, 4, 5] rfl ?_
        exact J83 _ _ _ _ h
      · have h := h2 c12
        refine ok_aload_n C 0 dX5_stampIn_61 rfl rfl ?_
        refine ok_getR C (ci := 5) hinX5 (kat hk (vw_0 hV)) rfl 14 (by decide) W_2_35 (fun _ _ h => h) rfl dX5_stampIn_62 ?_
        refine ok_iload C 5 dX5_stampIn_65 rfl ?_
        refine ok_aload_n C 0 dX5_stampIn_67 rfl rfl ?_
        refine ok_getR C (ci := 5) hinX5 (kat hk (vw_0 hV)) rfl 14 (by decide) W_2_35 (fun _ _ h => h) rfl dX5_stampIn_68 ?_
        refine ok_iload C 5 dX5_stampIn_71 rfl ?_
        refine ok_iconst C (v := 1) dX5_stampIn_73 (by decide) ?_
        refine ok_isub C dX5_stampIn_74 ?_
        obtain ⟨g10, h⟩ := h
        refine ok_lald C (kat hk (vw_11 hV)) g10 dX5_stampIn_75 ?_
        obtain ⟨g11, h⟩ := h
        refine ok_last C (kat hk (vw_11 hV)) g11 dX5_stampIn_76 ?_
        refine ok_iinc C (v := x6 + (-1)) (L2 := [(6, .int (x6 + (-1))), (0, .ref (Ω.2.2.1 v)), (1, .int x1), (2, .int x2), (3, .int x3), (4, .long x4)]) 5 dX5_stampIn_77 rfl rfl (by decide) rfl ?_
        refine ok_goto C 41 dX5_stampIn_80 rfl ?_
        refine ok_sub [1, 2, 3, 4, 5, 0] rfl ?_
        exact Eq.mp (gl41 _ _ _ _) h
  have h : f_X5_stampIn_e v x1 x2 L2 L41 Po σ := hvc L2 L41 R2 R41
  unfold f_X5_stampIn_e at h
  refine ok_sub (L2 := [(0, .ref (Ω.2.2.1 v)), (1, .int x1), (2, .int x2)]) [0, 1, 2] rfl ?_
  refine ok_iconst C (v := 0) dX5_stampIn_0 (by decide) ?_
  refine ok_istore_n C (L2 := [(3, .int 0), (0, .ref (Ω.2.2.1 v)), (1, .int x1), (2, .int x2)]) dX5_stampIn_1 rfl (by decide) rfl ?_
  refine ok_sub [1, 2, 3, 0] rfl ?_
  exact Eq.mp (gl2 _ _) h
set_option maxRecDepth 100000 in
set_option maxHeartbeats 4000000 in
theorem m_X5_findReceived {l : Launch} {Ω : Wm} (hk : Hk Ω kD) (c_X5_holds : CT_X5_holds l Ω) (c_X5_roundReceiving : CT_X5_roundReceiving l Ω) (c_X5_stampIn : CT_X5_stampIn l Ω) (c_J7_fill_53178 : CT_J7_fill_53178 l Ω) (hv : ∀ v : Nat, IsView v → ∀ (σ : Sg) (K : Sg → Prop), sp_X5_findReceived v σ K → vc_X5_findReceived v σ K) : CT_X5_findReceived l Ω := by
  intro v hV σ Po hsp
  have hvc := hv v hV σ Po hsp
  refine Ct.of (by decide +kernel) (Nat.le_of_ble_eq_true rfl) (fun Γ C => ?_)
  obtain ⟨L10, gl10⟩ : ∃ L : Int32 → Sg → Prop, ∀ (x1 : Int32) (σ : Sg), L x1 σ = OK Γ Ω 2 10 [(0, .ref (Ω.2.2.1 v)), (1, .int x1)] [] σ := ⟨fun x1 σ => OK Γ Ω 2 10 [(0, .ref (Ω.2.2.1 v)), (1, .int x1)] [] σ, fun _ _ => rfl⟩
  have J66 : ∀ (x1 : Int32) (σ : Sg), f_X5_findReceived_66 v L10 Po x1 σ → OK Γ Ω 2 66 [(0, .ref (Ω.2.2.1 v)), (1, .int x1)] [] σ := by
    intro x1 σ h
    unfold f_X5_findReceived_66 at h
    refine ok_iinc C (v := x1 + 1) (L2 := [(1, .int (x1 + 1)), (0, .ref (Ω.2.2.1 v))]) 1 dX5_findReceived_66 rfl rfl (by decide) rfl ?_
    refine ok_goto C 10 dX5_findReceived_69 rfl ?_
    refine ok_sub [1, 0] rfl ?_
    exact Eq.mp (gl10 _ _) h
  have J40 : ∀ (x1 : Int32) (σ : Sg), f_X5_findReceived_40 v L10 Po x1 σ → OK Γ Ω 2 40 [(0, .ref (Ω.2.2.1 v)), (1, .int x1)] [] σ := by
    intro x1 σ h
    unfold f_X5_findReceived_40 at h
    refine ok_aload_n C 0 dX5_findReceived_40 rfl rfl ?_
    refine ok_getR C (ci := 5) hinX5 (kat hk (vw_0 hV)) rfl 5 (by decide) W_2_21 (fun _ _ h => h) rfl dX5_findReceived_41 ?_
    refine ok_iload_n C 1 dX5_findReceived_44 rfl rfl ?_
    obtain ⟨g10, h⟩ := h
    refine ok_iald C (kat hk (vw_2 hV)) g10 dX5_findReceived_45 ?_
    obtain ⟨h1, h2⟩ := h
    refine ok_if_eq C 66 dX5_findReceived_46 rfl (fun c15 => ?_) (fun c15 => ?_)
    · have h := h1 c15
      refine ok_sub [0, 1] rfl ?_
      exact J66 _ _ h
    · have h := h2 c15
      refine ok_aload_n C 0 dX5_findReceived_49 rfl rfl ?_
      refine ok_getR C (ci := 5) hinX5 (kat hk (vw_0 hV)) rfl 6 (by decide) W_2_23 (fun _ _ h => h) rfl dX5_findReceived_50 ?_
      refine ok_iload_n C 1 dX5_findReceived_53 rfl rfl ?_
      refine ok_aload_n C 0 dX5_findReceived_54 rfl rfl ?_
      refine ok_aload_n C 0 dX5_findReceived_55 rfl rfl ?_
      refine ok_getR C (ci := 5) hinX5 (kat hk (vw_0 hV)) rfl 5 (by decide) W_2_21 (fun _ _ h => h) rfl dX5_findReceived_56 ?_
      refine ok_iload_n C 1 dX5_findReceived_59 rfl rfl ?_
      obtain ⟨g11, h⟩ := h
      refine ok_iald C (kat hk (vw_2 hV)) g11 dX5_findReceived_60 ?_
      refine ok_iload_n C 1 dX5_findReceived_61 rfl rfl ?_
      refine ok_callVl C (As := [.int (σ.1 (v + 2) x1.toNatClampNeg), .int x1]) (rest := [.int x1, .ref (Ω.2.2.1 (v + 3))]) (q := v) (ci := 5) (kat hk (vw_0 hV)) rfl (c_X5_stampIn v hV _ _ _ _ h) W_5_147 W_5_149 W_0_33 W_5_150 W_1_8 hd_X5_stampIn rfl ⟨Nat.le_of_ble_eq_true rfl, Nat.le_of_ble_eq_true rfl⟩ (Nat.le_of_ble_eq_true rfl) rfl dX5_findReceived_62 (fun r12 u13 h => ?_)
      obtain ⟨g14, h⟩ := h
      refine ok_last C (kat hk (vw_3 hV)) g14 dX5_findReceived_65 ?_
      refine ok_sub [0, 1] rfl ?_
      exact J66 _ _ h
  have R10 : ∀ (x1 : Int32) (σ : Sg), f_X5_findReceived_10 v L10 Po x1 σ → L10 x1 σ := by
    intro x1 σ h
    unfold f_X5_findReceived_10 at h
    refine Eq.mpr (gl10 _ _) ?_
    refine ok_iload_n C 1 dX5_findReceived_10 rfl rfl ?_
    refine ok_aload_n C 0 dX5_findReceived_11 rfl rfl ?_
    refine ok_getR C (ci := 5) hinX5 (kat hk (vw_0 hV)) rfl 1 (by decide) W_2_16 (fun _ _ h => h) rfl dX5_findReceived_12 ?_
    refine ok_getIN C (ci := 2) hinX2 (kat hk kD_7) rfl 10 (by decide) nbf_16 (fun _ _ h => h) rfl dX5_findReceived_15 ?_
    obtain ⟨h1, h2⟩ := h
    refine ok_icmp_ge C 72 dX5_findReceived_18 rfl (fun c9 => ?_) (fun c9 => ?_)
    · have h := h1 c9
      exact ok_vret C rfl rfl dX5_findReceived_72 h
    · have h := h2 c9
      refine ok_aload_n C 0 dX5_findReceived_21 rfl rfl ?_
      refine ok_iload_n C 1 dX5_findReceived_22 rfl rfl ?_
      refine ok_callVi C (As := [.int x1]) (rest := []) (q := v) (ci := 5) (kat hk (vw_0 hV)) rfl (c_X5_holds v hV _ _ _ h) W_5_102 W_5_104 W_0_23 W_5_105 W_1_8 hd_X5_holds rfl ⟨Nat.le_of_ble_eq_true rfl, Nat.le_of_ble_eq_true rfl⟩ (Nat.le_of_ble_eq_true rfl) rfl dX5_findReceived_23 (fun r3 u4 h => ?_)
      obtain ⟨h1, h2⟩ := h
      refine ok_if_eq C 40 dX5_findReceived_26 rfl (fun c8 => ?_) (fun c8 => ?_)
      · have h := h1 c8
        refine ok_sub [0, 1] rfl ?_
        exact J40 _ _ h
      · have h := h2 c8
        refine ok_aload_n C 0 dX5_findReceived_29 rfl rfl ?_
        refine ok_getR C (ci := 5) hinX5 (kat hk (vw_0 hV)) rfl 5 (by decide) W_2_21 (fun _ _ h => h) rfl dX5_findReceived_30 ?_
        refine ok_iload_n C 1 dX5_findReceived_33 rfl rfl ?_
        refine ok_aload_n C 0 dX5_findReceived_34 rfl rfl ?_
        refine ok_iload_n C 1 dX5_findReceived_35 rfl rfl ?_
        refine ok_callVi C (As := [.int x1]) (rest := [.int x1, .ref (Ω.2.2.1 (v + 2))]) (q := v) (ci := 5) (kat hk (vw_0 hV)) rfl (c_X5_roundReceiving v hV _ _ _ h) W_5_139 W_5_141 W_0_31 W_5_142 W_1_8 hd_X5_roundReceiving rfl ⟨Nat.le_of_ble_eq_true rfl, Nat.le_of_ble_eq_true rfl⟩ (Nat.le_of_ble_eq_true rfl) rfl dX5_findReceived_36 (fun r5 u6 h => ?_)
        obtain ⟨g7, h⟩ := h
        refine ok_iast C (kat hk (vw_2 hV)) g7 dX5_findReceived_39 ?_
        refine ok_sub [0, 1] rfl ?_
        exact J40 _ _ h
  have h : f_X5_findReceived_e v L10 Po σ := hvc L10 R10
  unfold f_X5_findReceived_e at h
  refine ok_sub (L2 := [(0, .ref (Ω.2.2.1 v))]) [0] rfl ?_
  refine ok_aload_n C 0 dX5_findReceived_0 rfl rfl ?_
  refine ok_getR C (ci := 5) hinX5 (kat hk (vw_0 hV)) rfl 5 (by decide) W_2_21 (fun _ _ h => h) rfl dX5_findReceived_1 ?_
  refine ok_iconst C (v := 0) dX5_findReceived_4 (by decide) ?_
  refine ok_callSv C (As := [.ref (Ω.2.2.1 (v + 2)), .int 0]) (rest := []) (c_J7_fill_53178 (v + 2) 240 (vw_2 hV) _ _ _ h) W_5_101 W_2_88 W_2_89 W_1_9 hd_J7_fill_53178 rfl ⟨Nat.le_of_ble_eq_true rfl, Nat.le_of_ble_eq_true rfl⟩ (Nat.le_of_ble_eq_true rfl) rfl dX5_findReceived_5 (fun u2 h => ?_)
  refine ok_iconst C (v := 0) dX5_findReceived_8 (by decide) ?_
  refine ok_istore_n C (L2 := [(1, .int 0), (0, .ref (Ω.2.2.1 v))]) dX5_findReceived_9 rfl (by decide) rfl ?_
  refine ok_sub [1, 0] rfl ?_
  exact Eq.mp (gl10 _ _) h
set_option maxRecDepth 100000 in
set_option maxHeartbeats 4000000 in
theorem m_X5_addUnique {l : Launch} {Ω : Wm} (hk : Hk Ω kD) (c_X2_hashWord : CT_X2_hashWord l Ω) (hv : ∀ v : Nat, IsView v → ∀ (x1 : Int32) (x2 : Int32) (σ : Sg) (K : Sg → Prop), sp_X5_addUnique v x1 x2 σ K → vc_X5_addUnique v x1 x2 σ K) : CT_X5_addUnique l Ω := by
  intro v hV x1 x2 σ Po hsp
  have hvc := hv v hV x1 x2 σ Po hsp
  refine Ct.of (by decide +kernel) (Nat.le_of_ble_eq_true rfl) (fun Γ C => ?_)
  obtain ⟨L29, gl29⟩ : ∃ L : Int32 → Sg → Prop, ∀ (x3 : Int32) (σ : Sg), L x3 σ = OK Γ Ω 4 29 [(0, .ref (Ω.2.2.1 v)), (1, .int x1), (2, .int x2), (3, .int x3)] [] σ := ⟨fun x3 σ => OK Γ Ω 4 29 [(0, .ref (Ω.2.2.1 v)), (1, .int x1), (2, .int x2), (3, .int x3)] [] σ, fun _ _ => rfl⟩
  have R29 : ∀ (x3 : Int32) (σ : Sg), f_X5_addUnique_29 v x1 x2 L29 Po x3 σ → L29 x3 σ := by
    intro x3 σ h
    unfold f_X5_addUnique_29 at h
    refine Eq.mpr (gl29 _ _) ?_
    refine ok_iload_n C 3 dX5_addUnique_29 rfl rfl ?_
    refine ok_bipush C (v := 8) dX5_addUnique_30 (by decide) ?_
    obtain ⟨h1, h2⟩ := h
    refine ok_icmp_ge C 64 dX5_addUnique_32 rfl (fun c9 => ?_) (fun c9 => ?_)
    · have h := h1 c9
      exact ok_vret C rfl rfl dX5_addUnique_64 h
    · have h := h2 c9
      refine ok_aload_n C 0 dX5_addUnique_35 rfl rfl ?_
      refine ok_getR C (ci := 5) hinX5 (kat hk (vw_0 hV)) rfl 12 (by decide) W_2_33 (fun _ _ h => h) rfl dX5_addUnique_36 ?_
      refine ok_iload_n C 2 dX5_addUnique_39 rfl rfl ?_
      refine ok_bipush C (v := 8) dX5_addUnique_40 (by decide) ?_
      refine ok_imul C dX5_addUnique_42 ?_
      refine ok_iload_n C 3 dX5_addUnique_43 rfl rfl ?_
      refine ok_iadd C dX5_addUnique_44 ?_
      refine ok_dup2_11 C dX5_addUnique_45 rfl rfl ?_
      obtain ⟨g5, h⟩ := h
      refine ok_iald C (kat hk (vw_9 hV)) g5 dX5_addUnique_46 ?_
      refine ok_aload_n C 0 dX5_addUnique_47 rfl rfl ?_
      refine ok_getR C (ci := 5) hinX5 (kat hk (vw_0 hV)) rfl 1 (by decide) W_2_16 (fun _ _ h => h) rfl dX5_addUnique_48 ?_
      refine ok_iload_n C 1 dX5_addUnique_51 rfl rfl ?_
      refine ok_iload_n C 3 dX5_addUnique_52 rfl rfl ?_
      refine ok_callVi C (As := [.int x1, .int x3]) (rest := [.int (σ.1 (v + 9) ((x2 * 8) + x3).toNatClampNeg), .int ((x2 * 8) + x3), .ref (Ω.2.2.1 (v + 9))]) (q := 7) (ci := 2) (kat hk kD_7) rfl (c_X2_hashWord  _ _ _ _ h) W_5_125 W_2_155 W_2_156 W_2_157 W_1_3 hd_X2_hashWord rfl ⟨Nat.le_of_ble_eq_true rfl, Nat.le_of_ble_eq_true rfl⟩ (Nat.le_of_ble_eq_true rfl) rfl dX5_addUnique_53 (fun r6 u7 h => ?_)
      refine ok_ixor C dX5_addUnique_56 ?_
      obtain ⟨g8, h⟩ := h
      refine ok_iast C (kat hk (vw_9 hV)) g8 dX5_addUnique_57 ?_
      refine ok_iinc C (v := x3 + 1) (L2 := [(3, .int (x3 + 1)), (0, .ref (Ω.2.2.1 v)), (1, .int x1), (2, .int x2)]) 3 dX5_addUnique_58 rfl rfl (by decide) rfl ?_
      refine ok_goto C 29 dX5_addUnique_61 rfl ?_
      refine ok_sub [1, 2, 3, 0] rfl ?_
      exact Eq.mp (gl29 _ _) h
  have h : f_X5_addUnique_e v x1 x2 L29 Po σ := hvc L29 R29
  unfold f_X5_addUnique_e at h
  refine ok_sub (L2 := [(0, .ref (Ω.2.2.1 v)), (1, .int x1), (2, .int x2)]) [0, 1, 2] rfl ?_
  refine ok_aload_n C 0 dX5_addUnique_0 rfl rfl ?_
  refine ok_getR C (ci := 5) hinX5 (kat hk (vw_0 hV)) rfl 10 (by decide) W_2_31 (fun _ _ h => h) rfl dX5_addUnique_1 ?_
  refine ok_iload_n C 2 dX5_addUnique_4 rfl rfl ?_
  refine ok_bipush C (v := 8) dX5_addUnique_5 (by decide) ?_
  refine ok_imul C dX5_addUnique_7 ?_
  refine ok_aload_n C 0 dX5_addUnique_8 rfl rfl ?_
  refine ok_getR C (ci := 5) hinX5 (kat hk (vw_0 hV)) rfl 11 (by decide) W_2_32 (fun _ _ h => h) rfl dX5_addUnique_9 ?_
  refine ok_iload_n C 2 dX5_addUnique_12 rfl rfl ?_
  obtain ⟨g1, h⟩ := h
  refine ok_iald C (kat hk (vw_8 hV)) g1 dX5_addUnique_13 ?_
  refine ok_iadd C dX5_addUnique_14 ?_
  refine ok_iload_n C 1 dX5_addUnique_15 rfl rfl ?_
  obtain ⟨g2, h⟩ := h
  refine ok_iast C (kat hk (vw_7 hV)) g2 dX5_addUnique_16 ?_
  refine ok_aload_n C 0 dX5_addUnique_17 rfl rfl ?_
  refine ok_getR C (ci := 5) hinX5 (kat hk (vw_0 hV)) rfl 11 (by decide) W_2_32 (fun _ _ h => h) rfl dX5_addUnique_18 ?_
  refine ok_iload_n C 2 dX5_addUnique_21 rfl rfl ?_
  refine ok_dup2_11 C dX5_addUnique_22 rfl rfl ?_
  obtain ⟨g3, h⟩ := h
  refine ok_iald C (kat hk (vw_8 hV)) g3 dX5_addUnique_23 ?_
  refine ok_iconst C (v := 1) dX5_addUnique_24 (by decide) ?_
  refine ok_iadd C dX5_addUnique_25 ?_
  obtain ⟨g4, h⟩ := h
  refine ok_iast C (kat hk (vw_8 hV)) g4 dX5_addUnique_26 ?_
  refine ok_iconst C (v := 0) dX5_addUnique_27 (by decide) ?_
  refine ok_istore_n C (L2 := [(3, .int 0), (0, .ref (Ω.2.2.1 v)), (1, .int x1), (2, .int x2)]) dX5_addUnique_28 rfl (by decide) rfl ?_
  refine ok_sub [1, 2, 3, 0] rfl ?_
  exact Eq.mp (gl29 _ _) h
set_option maxRecDepth 100000 in
set_option maxHeartbeats 4000000 in
theorem m_X5_isOnlyFamousOne {l : Launch} {Ω : Wm} (hk : Hk Ω kD)  (hv : ∀ v : Nat, IsView v → ∀ (x1 : Int32) (σ : Sg) (K : Int32 → Sg → Prop), sp_X5_isOnlyFamousOne v x1 σ K → vc_X5_isOnlyFamousOne v x1 σ K) : CT_X5_isOnlyFamousOne l Ω := by
  intro v hV x1 σ Po hsp
  have hvc := hv v hV x1 σ Po hsp
  refine Ct.of (by decide +kernel) (Nat.le_of_ble_eq_true rfl) (fun Γ C => ?_)
  obtain ⟨L2, gl2⟩ : ∃ L : Int32 → Sg → Prop, ∀ (x2 : Int32) (σ : Sg), L x2 σ = OK Γ Ω 4 2 [(0, .ref (Ω.2.2.1 v)), (1, .int x1), (2, .int x2)] [] σ := ⟨fun x2 σ => OK Γ Ω 4 2 [(0, .ref (Ω.2.2.1 v)), (1, .int x1), (2, .int x2)] [] σ, fun _ _ => rfl⟩
  have J82 : ∀ (x2 : Int32) (σ : Sg), f_X5_isOnlyFamousOne_82 v x1 L2 Po x2 σ → OK Γ Ω 4 82 [(0, .ref (Ω.2.2.1 v)), (1, .int x1), (2, .int x2)] [] σ := by
    intro x2 σ h
    unfold f_X5_isOnlyFamousOne_82 at h
    refine ok_iinc C (v := x2 + 1) (L2 := [(2, .int (x2 + 1)), (0, .ref (Ω.2.2.1 v)), (1, .int x1)]) 2 dX5_isOnlyFamousOne_82 rfl rfl (by decide) rfl ?_
    refine ok_goto C 2 dX5_isOnlyFamousOne_85 rfl ?_
    refine ok_sub [1, 2, 0] rfl ?_
    exact Eq.mp (gl2 _ _) h
  have R2 : ∀ (x2 : Int32) (σ : Sg), f_X5_isOnlyFamousOne_2 v x1 L2 Po x2 σ → L2 x2 σ := by
    intro x2 σ h
    unfold f_X5_isOnlyFamousOne_2 at h
    refine Eq.mpr (gl2 _ _) ?_
    refine ok_iload_n C 2 dX5_isOnlyFamousOne_2 rfl rfl ?_
    refine ok_aload_n C 0 dX5_isOnlyFamousOne_3 rfl rfl ?_
    refine ok_getR C (ci := 5) hinX5 (kat hk (vw_0 hV)) rfl 3 (by decide) W_2_18 (fun _ _ h => h) rfl dX5_isOnlyFamousOne_4 ?_
    refine ok_getIN C (ci := 1) hinX1 (kat hk kD_37) rfl 6 (by decide) nbf_33 (fun _ _ h => h) rfl dX5_isOnlyFamousOne_7 ?_
    obtain ⟨h1, h2⟩ := h
    refine ok_icmp_ge C 88 dX5_isOnlyFamousOne_10 rfl (fun c11 => ?_) (fun c11 => ?_)
    · have h := h1 c11
      refine ok_iconst C (v := 1) dX5_isOnlyFamousOne_88 (by decide) ?_
      exact ok_zret C rfl rfl (bz_n isZ_1) dX5_isOnlyFamousOne_89 h
    · have h := h2 c11
      refine ok_aload_n C 0 dX5_isOnlyFamousOne_13 rfl rfl ?_
      refine ok_getR C (ci := 5) hinX5 (kat hk (vw_0 hV)) rfl 3 (by decide) W_2_18 (fun _ _ h => h) rfl dX5_isOnlyFamousOne_14 ?_
      refine ok_getRN C (ci := 1) hinX1 (kat hk kD_37) rfl 2 (by decide) nbf_32 (fun _ _ h => h) rfl dX5_isOnlyFamousOne_17 ?_
      refine ok_iload_n C 2 dX5_isOnlyFamousOne_20 rfl rfl ?_
      obtain ⟨g1, h⟩ := h
      refine ok_iald C (kat hk kD_38) g1 dX5_isOnlyFamousOne_21 ?_
      refine ok_istore_n C (L2 := [(3, .int (σ.1 38 x2.toNatClampNeg)), (0, .ref (Ω.2.2.1 v)), (1, .int x1), (2, .int x2)]) dX5_isOnlyFamousOne_22 rfl (by decide) rfl ?_
      refine ok_iload_n C 0 dX5_isOnlyFamousOne_23 rfl rfl ?_
      refine ok_iload_n C 2 dX5_isOnlyFamousOne_24 rfl rfl ?_
      obtain ⟨h1, h2⟩ := h
      refine ok_icmp_eq C 82 dX5_isOnlyFamousOne_25 rfl (fun c10 => ?_) (fun c10 => ?_)
      · have h := h1 c10
        refine ok_sub [1, 2, 3] rfl ?_
        exact J82 _ _ h
      · have h := h2 c10
        refine ok_aload_n C 1 dX5_isOnlyFamousOne_28 rfl rfl ?_
        refine ok_getR C (ci := 5) hinX5 (kat hk (vw_0 hV)) rfl 4 (by decide) W_2_19 (fun _ _ h => h) rfl dX5_isOnlyFamousOne_29 ?_
        refine ok_iload_n C 0 dX5_isOnlyFamousOne_32 rfl rfl ?_
        obtain ⟨g2, h⟩ := h
        refine ok_iald C (kat hk (vw_1 hV)) g2 dX5_isOnlyFamousOne_33 ?_
        refine ok_iconst C (v := 2) dX5_isOnlyFamousOne_34 (by decide) ?_
        obtain ⟨h1, h2⟩ := h
        refine ok_icmp_lt C 82 dX5_isOnlyFamousOne_35 rfl (fun c9 => ?_) (fun c9 => ?_)
        · have h := h1 c9
          refine ok_sub [1, 2, 3] rfl ?_
          exact J82 _ _ h
        · have h := h2 c9
          refine ok_aload_n C 1 dX5_isOnlyFamousOne_38 rfl rfl ?_
          refine ok_getR C (ci := 5) hinX5 (kat hk (vw_0 hV)) rfl 2 (by decide) W_2_17 (fun _ _ h => h) rfl dX5_isOnlyFamousOne_39 ?_
          refine ok_getRN C (ci := 3) hinX3 (kat hk kD_22) rfl 6 (by decide) nbf_24 (fun _ _ h => h) rfl dX5_isOnlyFamousOne_42 ?_
          refine ok_iload_n C 0 dX5_isOnlyFamousOne_45 rfl rfl ?_
          obtain ⟨g3, h⟩ := h
          refine ok_iald C (kat hk kD_32) g3 dX5_isOnlyFamousOne_46 ?_
          refine ok_aload_n C 1 dX5_isOnlyFamousOne_47 rfl rfl ?_
          refine ok_getR C (ci := 5) hinX5 (kat hk (vw_0 hV)) rfl 2 (by decide) W_2_17 (fun _ _ h => h) rfl dX5_isOnlyFamousOne_48 ?_
          refine ok_getRN C (ci := 3) hinX3 (kat hk kD_22) rfl 6 (by decide) nbf_24 (fun _ _ h => h) rfl dX5_isOnlyFamousOne_51 ?_
          refine ok_iload_n C 2 dX5_isOnlyFamousOne_54 rfl rfl ?_
          obtain ⟨g4, h⟩ := h
          refine ok_iald C (kat hk kD_32) g4 dX5_isOnlyFamousOne_55 ?_
          obtain ⟨h1, h2⟩ := h
          refine ok_icmp_ne C 82 dX5_isOnlyFamousOne_56 rfl (fun c8 => ?_) (fun c8 => ?_)
          · have h := h1 c8
            refine ok_sub [1, 2, 3] rfl ?_
            exact J82 _ _ h
          · have h := h2 c8
            refine ok_aload_n C 1 dX5_isOnlyFamousOne_59 rfl rfl ?_
            refine ok_getR C (ci := 5) hinX5 (kat hk (vw_0 hV)) rfl 1 (by decide) W_2_16 (fun _ _ h => h) rfl dX5_isOnlyFamousOne_60 ?_
            refine ok_getRN C (ci := 2) hinX2 (kat hk kD_7) rfl 1 (by decide) nbf_3 (fun _ _ h => h) rfl dX5_isOnlyFamousOne_63 ?_
            refine ok_iload_n C 0 dX5_isOnlyFamousOne_66 rfl rfl ?_
            obtain ⟨g5, h⟩ := h
            refine ok_iald C (kat hk kD_12) g5 dX5_isOnlyFamousOne_67 ?_
            refine ok_aload_n C 1 dX5_isOnlyFamousOne_68 rfl rfl ?_
            refine ok_getR C (ci := 5) hinX5 (kat hk (vw_0 hV)) rfl 1 (by decide) W_2_16 (fun _ _ h => h) rfl dX5_isOnlyFamousOne_69 ?_
            refine ok_getRN C (ci := 2) hinX2 (kat hk kD_7) rfl 1 (by decide) nbf_3 (fun _ _ h => h) rfl dX5_isOnlyFamousOne_72 ?_
            refine ok_iload_n C 2 dX5_isOnlyFamousOne_75 rfl rfl ?_
            obtain ⟨g6, h⟩ := h
            refine ok_iald C (kat hk kD_12) g6 dX5_isOnlyFamousOne_76 ?_
            obtain ⟨h1, h2⟩ := h
            refine ok_icmp_ne C 82 dX5_isOnlyFamousOne_77 rfl (fun c7 => ?_) (fun c7 => ?_)
            · have h := h1 c7
              refine ok_sub [1, 2, 3] rfl ?_
              exact J82 _ _ h
            · have h := h2 c7
              refine ok_iconst C (v := 0) dX5_isOnlyFamousOne_80 (by decide) ?_
              exact ok_zret C rfl rfl (bz_n isZ_0) dX5_isOnlyFamousOne_81 h
  have h : f_X5_isOnlyFamousOne_e v x1 L2 Po σ := hvc L2 R2
  unfold f_X5_isOnlyFamousOne_e at h
  refine ok_sub (L2 := [(0, .ref (Ω.2.2.1 v)), (1, .int x1)]) [0, 1] rfl ?_
  refine ok_iconst C (v := 0) dX5_isOnlyFamousOne_0 (by decide) ?_
  refine ok_istore_n C (L2 := [(2, .int 0), (0, .ref (Ω.2.2.1 v)), (1, .int x1)]) dX5_isOnlyFamousOne_1 rfl (by decide) rfl ?_
  refine ok_sub [1, 2, 0] rfl ?_
  exact Eq.mp (gl2 _ _) h
set_option maxRecDepth 100000 in
set_option maxHeartbeats 4000000 in
theorem m_X5_findUniques {l : Launch} {Ω : Wm} (hk : Hk Ω kD) (c_X5_addUnique : CT_X5_addUnique l Ω) (c_X5_isOnlyFamousOne : CT_X5_isOnlyFamousOne l Ω) (c_J7_fill_53178 : CT_J7_fill_53178 l Ω) (hv : ∀ v : Nat, IsView v → ∀ (σ : Sg) (K : Sg → Prop), sp_X5_findUniques v σ K → vc_X5_findUniques v σ K) : CT_X5_findUniques l Ω := by
  intro v hV σ Po hsp
  have hvc := hv v hV σ Po hsp
  refine Ct.of (by decide +kernel) (Nat.le_of_ble_eq_true rfl) (fun Γ C => ?_)
  obtain ⟨L18, gl18⟩ : ∃ L : Int32 → Sg → Prop, ∀ (x1 : Int32) (σ : Sg), L x1 σ = OK Γ Ω 3 18 [(0, .ref (Ω.2.2.1 v)), (1, .int x1)] [] σ := ⟨fun x1 σ => OK Γ Ω 3 18 [(0, .ref (Ω.2.2.1 v)), (1, .int x1)] [] σ, fun _ _ => rfl⟩
  have J78 : ∀ (x1 : Int32) (σ : Sg), f_X5_findUniques_78 v L18 Po x1 σ → OK Γ Ω 3 78 [(0, .ref (Ω.2.2.1 v)), (1, .int x1)] [] σ := by
    intro x1 σ h
    unfold f_X5_findUniques_78 at h
    refine ok_iinc C (v := x1 + 1) (L2 := [(1, .int (x1 + 1)), (0, .ref (Ω.2.2.1 v))]) 1 dX5_findUniques_78 rfl rfl (by decide) rfl ?_
    refine ok_goto C 18 dX5_findUniques_81 rfl ?_
    refine ok_sub [1, 0] rfl ?_
    exact Eq.mp (gl18 _ _) h
  have R18 : ∀ (x1 : Int32) (σ : Sg), f_X5_findUniques_18 v L18 Po x1 σ → L18 x1 σ := by
    intro x1 σ h
    unfold f_X5_findUniques_18 at h
    refine Eq.mpr (gl18 _ _) ?_
    refine ok_iload_n C 1 dX5_findUniques_18 rfl rfl ?_
    refine ok_aload_n C 0 dX5_findUniques_19 rfl rfl ?_
    refine ok_getR C (ci := 5) hinX5 (kat hk (vw_0 hV)) rfl 3 (by decide) W_2_18 (fun _ _ h => h) rfl dX5_findUniques_20 ?_
    refine ok_getIN C (ci := 1) hinX1 (kat hk kD_37) rfl 6 (by decide) nbf_33 (fun _ _ h => h) rfl dX5_findUniques_23 ?_
    obtain ⟨h1, h2⟩ := h
    refine ok_icmp_ge C 84 dX5_findUniques_26 rfl (fun c15 => ?_) (fun c15 => ?_)
    · have h := h1 c15
      exact ok_vret C rfl rfl dX5_findUniques_84 h
    · have h := h2 c15
      refine ok_aload_n C 0 dX5_findUniques_29 rfl rfl ?_
      refine ok_getR C (ci := 5) hinX5 (kat hk (vw_0 hV)) rfl 3 (by decide) W_2_18 (fun _ _ h => h) rfl dX5_findUniques_30 ?_
      refine ok_getRN C (ci := 1) hinX1 (kat hk kD_37) rfl 2 (by decide) nbf_32 (fun _ _ h => h) rfl dX5_findUniques_33 ?_
      refine ok_iload_n C 1 dX5_findUniques_36 rfl rfl ?_
      obtain ⟨g5, h⟩ := h
      refine ok_iald C (kat hk kD_38) g5 dX5_findUniques_37 ?_
      refine ok_istore_n C (L2 := [(2, .int (σ.1 38 x1.toNatClampNeg)), (0, .ref (Ω.2.2.1 v)), (1, .int x1)]) dX5_findUniques_38 rfl (by decide) rfl ?_
      refine ok_aload_n C 1 dX5_findUniques_39 rfl rfl ?_
      refine ok_getR C (ci := 5) hinX5 (kat hk (vw_0 hV)) rfl 4 (by decide) W_2_19 (fun _ _ h => h) rfl dX5_findUniques_40 ?_
      refine ok_iload_n C 0 dX5_findUniques_43 rfl rfl ?_
      obtain ⟨g6, h⟩ := h
      refine ok_iald C (kat hk (vw_1 hV)) g6 dX5_findUniques_44 ?_
      refine ok_iconst C (v := 2) dX5_findUniques_45 (by decide) ?_
      obtain ⟨h1, h2⟩ := h
      refine ok_icmp_ne C 78 dX5_findUniques_46 rfl (fun c14 => ?_) (fun c14 => ?_)
      · have h := h1 c14
        refine ok_sub [1, 2] rfl ?_
        exact J78 _ _ h
      · have h := h2 c14
        refine ok_aload_n C 1 dX5_findUniques_49 rfl rfl ?_
        refine ok_iload_n C 0 dX5_findUniques_50 rfl rfl ?_
        refine ok_callVi C (As := [.int (σ.1 38 x1.toNatClampNeg)]) (rest := []) (q := v) (ci := 5) (kat hk (vw_0 hV)) rfl (c_X5_isOnlyFamousOne v hV _ _ _ h) W_5_117 W_5_119 W_0_26 W_5_120 W_1_8 hd_X5_isOnlyFamousOne rfl ⟨Nat.le_of_ble_eq_true rfl, Nat.le_of_ble_eq_true rfl⟩ (Nat.le_of_ble_eq_true rfl) rfl dX5_findUniques_51 (fun r7 u8 h => ?_)
        obtain ⟨h1, h2⟩ := h
        refine ok_if_eq C 78 dX5_findUniques_54 rfl (fun c13 => ?_) (fun c13 => ?_)
        · have h := h1 c13
          refine ok_sub [1, 2] rfl ?_
          exact J78 _ _ h
        · have h := h2 c13
          refine ok_aload_n C 1 dX5_findUniques_57 rfl rfl ?_
          refine ok_getR C (ci := 5) hinX5 (kat hk (vw_0 hV)) rfl 4 (by decide) W_2_19 (fun _ _ h => h) rfl dX5_findUniques_58 ?_
          refine ok_iload_n C 0 dX5_findUniques_61 rfl rfl ?_
          refine ok_iconst C (v := 3) dX5_findUniques_62 (by decide) ?_
          obtain ⟨g9, h⟩ := h
          refine ok_iast C (kat hk (vw_1 hV)) g9 dX5_findUniques_63 ?_
          refine ok_aload_n C 1 dX5_findUniques_64 rfl rfl ?_
          refine ok_iload_n C 0 dX5_findUniques_65 rfl rfl ?_
          refine ok_aload_n C 1 dX5_findUniques_66 rfl rfl ?_
          refine ok_getR C (ci := 5) hinX5 (kat hk (vw_0 hV)) rfl 2 (by decide) W_2_17 (fun _ _ h => h) rfl dX5_findUniques_67 ?_
          refine ok_getRN C (ci := 3) hinX3 (kat hk kD_22) rfl 6 (by decide) nbf_24 (fun _ _ h => h) rfl dX5_findUniques_70 ?_
          refine ok_iload_n C 0 dX5_findUniques_73 rfl rfl ?_
          obtain ⟨g10, h⟩ := h
          refine ok_iald C (kat hk kD_32) g10 dX5_findUniques_74 ?_
          refine ok_callVv C (As := [.int (σ.1 38 x1.toNatClampNeg), .int ((pI u8 (v + 1) (σ.1 38 x1.toNatClampNeg).toNatClampNeg 3).1 32 (σ.1 38 x1.toNatClampNeg).toNatClampNeg)]) (rest := []) (q := v) (ci := 5) (kat hk (vw_0 hV)) rfl (c_X5_addUnique v hV _ _ _ _ h) W_5_121 W_5_123 W_0_27 W_5_124 W_1_8 hd_X5_addUnique rfl ⟨Nat.le_of_ble_eq_true rfl, Nat.le_of_ble_eq_true rfl⟩ (Nat.le_of_ble_eq_true rfl) rfl dX5_findUniques_75 (fun u12 h => ?_)
          refine ok_sub [1, 2] rfl ?_
          exact J78 _ _ h
  have h : f_X5_findUniques_e v L18 Po σ := hvc L18 R18
  unfold f_X5_findUniques_e at h
  refine ok_sub (L2 := [(0, .ref (Ω.2.2.1 v))]) [0] rfl ?_
  refine ok_aload_n C 0 dX5_findUniques_0 rfl rfl ?_
  refine ok_getR C (ci := 5) hinX5 (kat hk (vw_0 hV)) rfl 11 (by decide) W_2_32 (fun _ _ h => h) rfl dX5_findUniques_1 ?_
  refine ok_iconst C (v := 0) dX5_findUniques_4 (by decide) ?_
  refine ok_callSv C (As := [.ref (Ω.2.2.1 (v + 8)), .int 0]) (rest := []) (c_J7_fill_53178 (v + 8) 241 (vw_8 hV) _ _ _ h) W_5_101 W_2_88 W_2_89 W_1_9 hd_J7_fill_53178 rfl ⟨Nat.le_of_ble_eq_true rfl, Nat.le_of_ble_eq_true rfl⟩ (Nat.le_of_ble_eq_true rfl) rfl dX5_findUniques_5 (fun u2 h => ?_)
  refine ok_aload_n C 0 dX5_findUniques_8 rfl rfl ?_
  refine ok_getR C (ci := 5) hinX5 (kat hk (vw_0 hV)) rfl 12 (by decide) W_2_33 (fun _ _ h => h) rfl dX5_findUniques_9 ?_
  refine ok_iconst C (v := 0) dX5_findUniques_12 (by decide) ?_
  refine ok_callSv C (As := [.ref (Ω.2.2.1 (v + 9)), .int 0]) (rest := []) (c_J7_fill_53178 (v + 9) 1928 (vw_9 hV) _ _ _ h) W_5_101 W_2_88 W_2_89 W_1_9 hd_J7_fill_53178 rfl ⟨Nat.le_of_ble_eq_true rfl, Nat.le_of_ble_eq_true rfl⟩ (Nat.le_of_ble_eq_true rfl) rfl dX5_findUniques_13 (fun u4 h => ?_)
  refine ok_iconst C (v := 0) dX5_findUniques_16 (by decide) ?_
  refine ok_istore_n C (L2 := [(1, .int 0), (0, .ref (Ω.2.2.1 v))]) dX5_findUniques_17 rfl (by decide) rfl ?_
  refine ok_sub [1, 0] rfl ?_
  exact Eq.mp (gl18 _ _) h
set_option maxRecDepth 100000 in
set_option maxHeartbeats 4000000 in
theorem m_X5_leastOpenRound {l : Launch} {Ω : Wm} (hk : Hk Ω kD) (c_X5_holds : CT_X5_holds l Ω) (hv : ∀ v : Nat, IsView v → ∀ (σ : Sg) (K : Int32 → Sg → Prop), sp_X5_leastOpenRound v σ K → vc_X5_leastOpenRound v σ K) : CT_X5_leastOpenRound l Ω := by
  intro v hV σ Po hsp
  have hvc := hv v hV σ Po hsp
  refine Ct.of (by decide +kernel) (Nat.le_of_ble_eq_true rfl) (fun Γ C => ?_)
  obtain ⟨L6, gl6⟩ : ∃ L : Int32 → Int32 → Sg → Prop, ∀ (x1 : Int32) (x2 : Int32) (σ : Sg), L x1 x2 σ = OK Γ Ω 4 6 [(0, .ref (Ω.2.2.1 v)), (1, .int x1), (2, .int x2)] [] σ := ⟨fun x1 x2 σ => OK Γ Ω 4 6 [(0, .ref (Ω.2.2.1 v)), (1, .int x1), (2, .int x2)] [] σ, fun _ _ _ => rfl⟩
  have J58 : ∀ (x1 : Int32) (x2 : Int32) (σ : Sg), f_X5_leastOpenRound_58 v L6 Po x1 x2 σ → OK Γ Ω 4 58 [(0, .ref (Ω.2.2.1 v)), (1, .int x1), (2, .int x2)] [] σ := by
    intro x1 x2 σ h
    unfold f_X5_leastOpenRound_58 at h
    refine ok_iinc C (v := x2 + 1) (L2 := [(2, .int (x2 + 1)), (0, .ref (Ω.2.2.1 v)), (1, .int x1)]) 2 dX5_leastOpenRound_58 rfl rfl (by decide) rfl ?_
    refine ok_goto C 6 dX5_leastOpenRound_61 rfl ?_
    refine ok_sub [1, 2, 0] rfl ?_
    exact Eq.mp (gl6 _ _ _) h
  have R6 : ∀ (x1 : Int32) (x2 : Int32) (σ : Sg), f_X5_leastOpenRound_6 v L6 Po x1 x2 σ → L6 x1 x2 σ := by
    intro x1 x2 σ h
    unfold f_X5_leastOpenRound_6 at h
    refine Eq.mpr (gl6 _ _ _) ?_
    refine ok_iload_n C 2 dX5_leastOpenRound_6 rfl rfl ?_
    refine ok_aload_n C 0 dX5_leastOpenRound_7 rfl rfl ?_
    refine ok_getR C (ci := 5) hinX5 (kat hk (vw_0 hV)) rfl 3 (by decide) W_2_18 (fun _ _ h => h) rfl dX5_leastOpenRound_8 ?_
    refine ok_getIN C (ci := 1) hinX1 (kat hk kD_37) rfl 6 (by decide) nbf_33 (fun _ _ h => h) rfl dX5_leastOpenRound_11 ?_
    obtain ⟨h1, h2⟩ := h
    refine ok_icmp_ge C 64 dX5_leastOpenRound_14 rfl (fun c8 => ?_) (fun c8 => ?_)
    · have h := h1 c8
      refine ok_iload_n C 1 dX5_leastOpenRound_64 rfl rfl ?_
      exact ok_iret C rfl rfl dX5_leastOpenRound_65 h
    · have h := h2 c8
      refine ok_aload_n C 0 dX5_leastOpenRound_17 rfl rfl ?_
      refine ok_getR C (ci := 5) hinX5 (kat hk (vw_0 hV)) rfl 3 (by decide) W_2_18 (fun _ _ h => h) rfl dX5_leastOpenRound_18 ?_
      refine ok_getRN C (ci := 1) hinX1 (kat hk kD_37) rfl 2 (by decide) nbf_32 (fun _ _ h => h) rfl dX5_leastOpenRound_21 ?_
      refine ok_iload_n C 2 dX5_leastOpenRound_24 rfl rfl ?_
      obtain ⟨g1, h⟩ := h
      refine ok_iald C (kat hk kD_38) g1 dX5_leastOpenRound_25 ?_
      refine ok_istore_n C (L2 := [(3, .int (σ.1 38 x2.toNatClampNeg)), (0, .ref (Ω.2.2.1 v)), (1, .int x1), (2, .int x2)]) dX5_leastOpenRound_26 rfl (by decide) rfl ?_
      refine ok_aload_n C 1 dX5_leastOpenRound_27 rfl rfl ?_
      refine ok_iload_n C 0 dX5_leastOpenRound_28 rfl rfl ?_
      refine ok_callVi C (As := [.int (σ.1 38 x2.toNatClampNeg)]) (rest := []) (q := v) (ci := 5) (kat hk (vw_0 hV)) rfl (c_X5_holds v hV _ _ _ h) W_5_102 W_5_104 W_0_23 W_5_105 W_1_8 hd_X5_holds rfl ⟨Nat.le_of_ble_eq_true rfl, Nat.le_of_ble_eq_true rfl⟩ (Nat.le_of_ble_eq_true rfl) rfl dX5_leastOpenRound_29 (fun r2 u3 h => ?_)
      obtain ⟨h1, h2⟩ := h
      refine ok_if_eq C 58 dX5_leastOpenRound_32 rfl (fun c7 => ?_) (fun c7 => ?_)
      · have h := h1 c7
        refine ok_sub [1, 2, 3] rfl ?_
        exact J58 _ _ _ h
      · have h := h2 c7
        refine ok_aload_n C 1 dX5_leastOpenRound_35 rfl rfl ?_
        refine ok_getR C (ci := 5) hinX5 (kat hk (vw_0 hV)) rfl 4 (by decide) W_2_19 (fun _ _ h => h) rfl dX5_leastOpenRound_36 ?_
        refine ok_iload_n C 0 dX5_leastOpenRound_39 rfl rfl ?_
        obtain ⟨g4, h⟩ := h
        refine ok_iald C (kat hk (vw_1 hV)) g4 dX5_leastOpenRound_40 ?_
        obtain ⟨h1, h2⟩ := h
        refine ok_if_ne C 58 dX5_leastOpenRound_41 rfl (fun c6 => ?_) (fun c6 => ?_)
        · have h := h1 c6
          refine ok_sub [1, 2, 3] rfl ?_
          exact J58 _ _ _ h
        · have h := h2 c6
          refine ok_iload_n C 2 dX5_leastOpenRound_44 rfl rfl ?_
          refine ok_aload_n C 1 dX5_leastOpenRound_45 rfl rfl ?_
          refine ok_getR C (ci := 5) hinX5 (kat hk (vw_0 hV)) rfl 2 (by decide) W_2_17 (fun _ _ h => h) rfl dX5_leastOpenRound_46 ?_
          refine ok_getRN C (ci := 3) hinX3 (kat hk kD_22) rfl 6 (by decide) nbf_24 (fun _ _ h => h) rfl dX5_leastOpenRound_49 ?_
          refine ok_iload_n C 0 dX5_leastOpenRound_52 rfl rfl ?_
          obtain ⟨g5, h⟩ := h
          refine ok_iald C (kat hk kD_32) g5 dX5_leastOpenRound_53 ?_
          refine ok_mmin C W_5_134 W_3_83 W_1_20 W_3_84 (Nat.le_of_ble_eq_true rfl) (Nat.le_of_ble_eq_true rfl) dX5_leastOpenRound_54 ?_
          refine ok_istore_n C (L2 := [(1, .int (imin x1 (u3.1 32 (σ.1 38 x2.toNatClampNeg).toNatClampNeg))), (3, .int (σ.1 38 x2.toNatClampNeg)), (0, .ref (Ω.2.2.1 v)), (2, .int x2)]) dX5_leastOpenRound_57 rfl (by decide) rfl ?_
          refine ok_sub [2, 0, 3] rfl ?_
          exact J58 _ _ _ h
  have h : f_X5_leastOpenRound_e v L6 Po σ := hvc L6 R6
  unfold f_X5_leastOpenRound_e at h
  refine ok_sub (L2 := [(0, .ref (Ω.2.2.1 v))]) [0] rfl ?_
  refine ok_sipush C (v := 241) dX5_leastOpenRound_0 (by decide) ?_
  refine ok_istore_n C (L2 := [(1, .int 241), (0, .ref (Ω.2.2.1 v))]) dX5_leastOpenRound_3 rfl (by decide) rfl ?_
  refine ok_iconst C (v := 0) dX5_leastOpenRound_4 (by decide) ?_
  refine ok_istore_n C (L2 := [(2, .int 0), (1, .int 241), (0, .ref (Ω.2.2.1 v))]) dX5_leastOpenRound_5 rfl (by decide) rfl ?_
  refine ok_sub [2, 1, 0] rfl ?_
  exact Eq.mp (gl6 _ _ _) h
set_option maxRecDepth 100000 in
set_option maxHeartbeats 4000000 in
theorem m_X5_settleRounds {l : Launch} {Ω : Wm} (hk : Hk Ω kD) (c_X5_leastOpenRound : CT_X5_leastOpenRound l Ω) (hv : ∀ v : Nat, IsView v → ∀ (σ : Sg) (K : Sg → Prop), sp_X5_settleRounds v σ K → vc_X5_settleRounds v σ K) : CT_X5_settleRounds l Ω := by
  intro v hV σ Po hsp
  have hvc := hv v hV σ Po hsp
  refine Ct.of (by decide +kernel) (Nat.le_of_ble_eq_true rfl) (fun Γ C => ?_)
  obtain ⟨L12, gl12⟩ : ∃ L : Int32 → Int32 → Sg → Prop, ∀ (x1 : Int32) (x2 : Int32) (σ : Sg), L x1 x2 σ = OK Γ Ω 3 12 [(0, .ref (Ω.2.2.1 v)), (1, .int x1), (2, .int x2)] [] σ := ⟨fun x1 x2 σ => OK Γ Ω 3 12 [(0, .ref (Ω.2.2.1 v)), (1, .int x1), (2, .int x2)] [] σ, fun _ _ _ => rfl⟩
  have J63 : ∀ (x1 : Int32) (x2 : Int32) (s0 : Int32) (s1 : Int32) (σ : Sg), f_X5_settleRounds_63 v L12 Po x1 x2 s0 s1 σ → OK Γ Ω 3 63 [(0, .ref (Ω.2.2.1 v)), (1, .int x1), (2, .int x2)] [.int s0, .int s1, .ref (Ω.2.2.1 v)] σ := by
    intro x1 x2 s0 s1 σ h
    unfold f_X5_settleRounds_63 at h
    refine ok_iadd C dX5_settleRounds_63 ?_
    refine ok_putI C (ci := 5) hinX5 (kat hk (vw_0 hV)) rfl 16 (by decide) W_2_38 (fun _ _ h => h) tyX5 tyX5_ok nmX5 rfl (by decide +kernel) rfl rfl rfl dX5_settleRounds_64 ?_
    refine ok_iinc C (v := x2 + 1) (L2 := [(2, .int (x2 + 1)), (0, .ref (Ω.2.2.1 v)), (1, .int x1)]) 2 dX5_settleRounds_67 rfl rfl (by decide) rfl ?_
    refine ok_goto C 12 dX5_settleRounds_70 rfl ?_
    refine ok_sub [1, 2, 0] rfl ?_
    exact Eq.mp (gl12 _ _ _) h
  have J43 : ∀ (x1 : Int32) (x2 : Int32) (s0 : Int32) (s1 : Int32) (σ : Sg), f_X5_settleRounds_43 v L12 Po x1 x2 s0 s1 σ → OK Γ Ω 3 43 [(0, .ref (Ω.2.2.1 v)), (1, .int x1), (2, .int x2)] [.int s0, .int s1, .ref (Ω.2.2.1 (v + 10))] σ := by
    intro x1 x2 s0 s1 σ h
    unfold f_X5_settleRounds_43 at h
    obtain ⟨g7, h⟩ := h
    obtain ⟨z8, h⟩ := h
    refine ok_zast C (kat hk (vw_10 hV)) g7 dX5_settleRounds_43 (bz_s z8 ?_)
    refine ok_aload_n C 0 dX5_settleRounds_44 rfl rfl ?_
    refine ok_dup C dX5_settleRounds_45 rfl ?_
    refine ok_getI C (ci := 5) hinX5 (kat hk (vw_0 hV)) rfl 16 (by decide) W_2_38 (fun _ _ h => h) rfl dX5_settleRounds_46 ?_
    refine ok_aload_n C 0 dX5_settleRounds_49 rfl rfl ?_
    refine ok_getR C (ci := 5) hinX5 (kat hk (vw_0 hV)) rfl 13 (by decide) W_2_34 (fun _ _ h => h) rfl dX5_settleRounds_50 ?_
    refine ok_iload_n C 2 dX5_settleRounds_53 rfl rfl ?_
    obtain ⟨g9, h⟩ := h
    refine ok_zald C (kat hk (vw_10 hV)) g9 dX5_settleRounds_54 ?_
    obtain ⟨h1, h2⟩ := h
    refine ok_if_eq C 62 dX5_settleRounds_55 rfl (fun c10 => ?_) (fun c10 => ?_)
    · have h := h1 c10
      refine ok_iconst C (v := 0) dX5_settleRounds_62 (by decide) ?_
      refine ok_sub [0, 1, 2] rfl ?_
      exact J63 _ _ _ _ _ h
    · have h := h2 c10
      refine ok_iconst C (v := 1) dX5_settleRounds_58 (by decide) ?_
      refine ok_goto C 63 dX5_settleRounds_59 rfl ?_
      refine ok_sub [0, 1, 2] rfl ?_
      exact J63 _ _ _ _ _ h
  have J42 : ∀ (x1 : Int32) (x2 : Int32) (s0 : Int32) (σ : Sg), f_X5_settleRounds_42 v L12 Po x1 x2 s0 σ → OK Γ Ω 3 42 [(0, .ref (Ω.2.2.1 v)), (1, .int x1), (2, .int x2)] [.int s0, .ref (Ω.2.2.1 (v + 10))] σ := by
    intro x1 x2 s0 σ h
    unfold f_X5_settleRounds_42 at h
    refine ok_iconst C (v := 0) dX5_settleRounds_42 (by decide) ?_
    refine ok_sub [0, 1, 2] rfl ?_
    exact J43 _ _ _ _ _ h
  have R12 : ∀ (x1 : Int32) (x2 : Int32) (σ : Sg), f_X5_settleRounds_12 v L12 Po x1 x2 σ → L12 x1 x2 σ := by
    intro x1 x2 σ h
    unfold f_X5_settleRounds_12 at h
    refine Eq.mpr (gl12 _ _ _) ?_
    refine ok_iload_n C 2 dX5_settleRounds_12 rfl rfl ?_
    refine ok_sipush C (v := 240) dX5_settleRounds_13 (by decide) ?_
    obtain ⟨h1, h2⟩ := h
    refine ok_icmp_gt C 73 dX5_settleRounds_16 rfl (fun c6 => ?_) (fun c6 => ?_)
    · have h := h1 c6
      exact ok_vret C rfl rfl dX5_settleRounds_73 h
    · have h := h2 c6
      refine ok_aload_n C 0 dX5_settleRounds_19 rfl rfl ?_
      refine ok_getR C (ci := 5) hinX5 (kat hk (vw_0 hV)) rfl 13 (by decide) W_2_34 (fun _ _ h => h) rfl dX5_settleRounds_20 ?_
      refine ok_iload_n C 2 dX5_settleRounds_23 rfl rfl ?_
      refine ok_iload_n C 2 dX5_settleRounds_24 rfl rfl ?_
      refine ok_iload_n C 1 dX5_settleRounds_25 rfl rfl ?_
      obtain ⟨h1, h2⟩ := h
      refine ok_icmp_ge C 42 dX5_settleRounds_26 rfl (fun c5 => ?_) (fun c5 => ?_)
      · have h := h1 c5
        refine ok_sub [0, 1, 2] rfl ?_
        exact J42 _ _ _ _ h
      · have h := h2 c5
        refine ok_aload_n C 0 dX5_settleRounds_29 rfl rfl ?_
        refine ok_getR C (ci := 5) hinX5 (kat hk (vw_0 hV)) rfl 11 (by decide) W_2_32 (fun _ _ h => h) rfl dX5_settleRounds_30 ?_
        refine ok_iload_n C 2 dX5_settleRounds_33 rfl rfl ?_
        obtain ⟨g3, h⟩ := h
        refine ok_iald C (kat hk (vw_8 hV)) g3 dX5_settleRounds_34 ?_
        obtain ⟨h1, h2⟩ := h
        refine ok_if_le C 42 dX5_settleRounds_35 rfl (fun c4 => ?_) (fun c4 => ?_)
        · have h := h1 c4
          refine ok_sub [0, 1, 2] rfl ?_
          exact J42 _ _ _ _ h
        · have h := h2 c4
          refine ok_iconst C (v := 1) dX5_settleRounds_38 (by decide) ?_
          refine ok_goto C 43 dX5_settleRounds_39 rfl ?_
          refine ok_sub [0, 1, 2] rfl ?_
          exact J43 _ _ _ _ _ h
  have h : f_X5_settleRounds_e v L12 Po σ := hvc L12 R12
  unfold f_X5_settleRounds_e at h
  refine ok_sub (L2 := [(0, .ref (Ω.2.2.1 v))]) [0] rfl ?_
  refine ok_aload_n C 0 dX5_settleRounds_0 rfl rfl ?_
  refine ok_callVi C (As := []) (rest := []) (q := v) (ci := 5) (kat hk (vw_0 hV)) rfl (c_X5_leastOpenRound v hV  _ _ h) W_5_130 W_5_132 W_0_29 W_5_133 W_1_8 hd_X5_leastOpenRound rfl ⟨Nat.le_of_ble_eq_true rfl, Nat.le_of_ble_eq_true rfl⟩ (Nat.le_of_ble_eq_true rfl) rfl dX5_settleRounds_1 (fun r1 u2 h => ?_)
  refine ok_istore_n C (L2 := [(1, .int r1), (0, .ref (Ω.2.2.1 v))]) dX5_settleRounds_4 rfl (by decide) rfl ?_
  refine ok_aload_n C 1 dX5_settleRounds_5 rfl rfl ?_
  refine ok_iconst C (v := 0) dX5_settleRounds_6 (by decide) ?_
  refine ok_putI C (ci := 5) hinX5 (kat hk (vw_0 hV)) rfl 16 (by decide) W_2_38 (fun _ _ h => h) tyX5 tyX5_ok nmX5 rfl (by decide +kernel) rfl rfl rfl dX5_settleRounds_7 ?_
  refine ok_iconst C (v := 1) dX5_settleRounds_10 (by decide) ?_
  refine ok_istore_n C (L2 := [(2, .int 1), (1, .int r1), (0, .ref (Ω.2.2.1 v))]) dX5_settleRounds_11 rfl (by decide) rfl ?_
  refine ok_sub [2, 1, 0] rfl ?_
  exact Eq.mp (gl12 _ _ _) h
set_option maxRecDepth 100000 in
set_option maxHeartbeats 4000000 in
theorem m_X5_findAll {l : Launch} {Ω : Wm} (hk : Hk Ω kD) (c_X5_findBalances : CT_X5_findBalances l Ω) (c_X5_findFame : CT_X5_findFame l Ω) (c_X5_findOrder : CT_X5_findOrder l Ω) (c_X5_findReceived : CT_X5_findReceived l Ω) (c_X5_findUniques : CT_X5_findUniques l Ω) (c_X5_settleRounds : CT_X5_settleRounds l Ω) (hv : ∀ v : Nat, IsView v → ∀ (x1 : Int32) (σ : Sg) (K : Sg → Prop), sp_X5_findAll v x1 σ K → vc_X5_findAll v x1 σ K) : CT_X5_findAll l Ω := by
  intro v hV x1 σ Po hsp
  have hvc := hv v hV x1 σ Po hsp
  refine Ct.of (by decide +kernel) (Nat.le_of_ble_eq_true rfl) (fun Γ C => ?_)
  have h : f_X5_findAll_e v x1 Po σ := hvc  
  unfold f_X5_findAll_e at h
  refine ok_sub (L2 := [(0, .ref (Ω.2.2.1 v)), (1, .int x1)]) [0, 1] rfl ?_
  refine ok_aload_n C 0 dX5_findAll_0 rfl rfl ?_
  refine ok_callVv C (As := []) (rest := []) (q := v) (ci := 5) (kat hk (vw_0 hV)) rfl (c_X5_findFame v hV  _ _ h) W_5_97 W_5_99 W_0_22 W_5_100 W_1_8 hd_X5_findFame rfl ⟨Nat.le_of_ble_eq_true rfl, Nat.le_of_ble_eq_true rfl⟩ (Nat.le_of_ble_eq_true rfl) rfl dX5_findAll_1 (fun u2 h => ?_)
  refine ok_aload_n C 0 dX5_findAll_4 rfl rfl ?_
  refine ok_callVv C (As := []) (rest := []) (q := v) (ci := 5) (kat hk (vw_0 hV)) rfl (c_X5_findUniques v hV  _ _ h) W_5_113 W_5_115 W_0_25 W_5_116 W_1_8 hd_X5_findUniques rfl ⟨Nat.le_of_ble_eq_true rfl, Nat.le_of_ble_eq_true rfl⟩ (Nat.le_of_ble_eq_true rfl) rfl dX5_findAll_5 (fun u4 h => ?_)
  refine ok_aload_n C 0 dX5_findAll_8 rfl rfl ?_
  refine ok_callVv C (As := []) (rest := []) (q := v) (ci := 5) (kat hk (vw_0 hV)) rfl (c_X5_settleRounds v hV  _ _ h) W_5_126 W_5_128 W_0_28 W_5_129 W_1_8 hd_X5_settleRounds rfl ⟨Nat.le_of_ble_eq_true rfl, Nat.le_of_ble_eq_true rfl⟩ (Nat.le_of_ble_eq_true rfl) rfl dX5_findAll_9 (fun u6 h => ?_)
  refine ok_aload_n C 0 dX5_findAll_12 rfl rfl ?_
  refine ok_callVv C (As := []) (rest := []) (q := v) (ci := 5) (kat hk (vw_0 hV)) rfl (c_X5_findReceived v hV  _ _ h) W_5_135 W_5_137 W_0_30 W_5_138 W_1_8 hd_X5_findReceived rfl ⟨Nat.le_of_ble_eq_true rfl, Nat.le_of_ble_eq_true rfl⟩ (Nat.le_of_ble_eq_true rfl) rfl dX5_findAll_13 (fun u8 h => ?_)
  refine ok_aload_n C 0 dX5_findAll_16 rfl rfl ?_
  refine ok_callVv C (As := []) (rest := []) (q := v) (ci := 5) (kat hk (vw_0 hV)) rfl (c_X5_findOrder v hV  _ _ h) W_5_155 W_5_157 W_0_35 W_5_158 W_1_8 hd_X5_findOrder rfl ⟨Nat.le_of_ble_eq_true rfl, Nat.le_of_ble_eq_true rfl⟩ (Nat.le_of_ble_eq_true rfl) rfl dX5_findAll_17 (fun u10 h => ?_)
  refine ok_aload_n C 0 dX5_findAll_20 rfl rfl ?_
  refine ok_iload_n C 1 dX5_findAll_21 rfl rfl ?_
  refine ok_callVv C (As := [.int x1]) (rest := []) (q := v) (ci := 5) (kat hk (vw_0 hV)) rfl (c_X5_findBalances v hV _ _ _ h) W_5_168 W_5_170 W_0_38 W_5_171 W_1_8 hd_X5_findBalances rfl ⟨Nat.le_of_ble_eq_true rfl, Nat.le_of_ble_eq_true rfl⟩ (Nat.le_of_ble_eq_true rfl) rfl dX5_findAll_22 (fun u12 h => ?_)
  refine ok_aload_n C 0 dX5_findAll_25 rfl rfl ?_
  refine ok_iconst C (v := 0) dX5_findAll_26 (by decide) ?_
  refine ok_putI C (ci := 5) hinX5 (kat hk (vw_0 hV)) rfl 17 (by decide) W_2_40 (fun _ _ h => h) tyX5 tyX5_ok nmX5 rfl (by decide +kernel) (bz_n isZ_0) (bz_f isZ_0) rfl dX5_findAll_27 ?_
  exact ok_vret C rfl rfl dX5_findAll_30 h
