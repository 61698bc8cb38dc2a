set_option maxRecDepth 100000 in
set_option maxHeartbeats 4000000 in
theorem m_X1_clear {l : Launch} {Ω : Wm} (hk : Hk Ω kD)  (hv : ∀ (x1 : Int32) (σ : Sg) (K : Sg → Prop), sp_X1_clear x1 σ K → vc_X1_clear x1 σ K) : CT_X1_clear l Ω := by
  intro x1 σ Po hsp
  have hvc := hv x1 σ Po hsp
  refine Ct.of (by decide +kernel) (Nat.le_of_ble_eq_true rfl) (fun Γ C => ?_)
  have h : f_X1_clear_e x1 Po σ := hvc  
  unfold f_X1_clear_e at h
  refine ok_sub (L2 := [(0, .ref (Ω.2.2.1 37)), (1, .int x1)]) [0, 1] rfl ?_
  refine ok_aload_n C 0 dX1_clear_0 rfl rfl ?_
  refine ok_iload_n C 1 dX1_clear_1 rfl rfl ?_
  refine ok_putI C (ci := 1) hinX1 (kat hk kD_37) rfl 7 (by decide) W_1_230 (fun _ _ h => h) tyX1 tyX1_ok nmX1 rfl (by decide +kernel) rfl rfl rfl dX1_clear_2 ?_
  refine ok_aload_n C 0 dX1_clear_5 rfl rfl ?_
  refine ok_iconst C (v := 0) dX1_clear_6 (by decide) ?_
  refine ok_putI C (ci := 1) hinX1 (kat hk kD_37) rfl 6 (by decide) W_1_228 (fun _ _ h => h) tyX1 tyX1_ok nmX1 rfl (by decide +kernel) rfl rfl rfl dX1_clear_7 ?_
  exact ok_vret C rfl rfl dX1_clear_10 h
set_option maxRecDepth 100000 in
set_option maxHeartbeats 4000000 in
theorem m_X1_isYes {l : Launch} {Ω : Wm} (hk : Hk Ω kD) (c_X0_has : CT_X0_has l Ω) (hv : ∀ (x1 : Int32) (x2 : Int32) (σ : Sg) (K : Int32 → Sg → Prop), sp_X1_isYes x1 x2 σ K → vc_X1_isYes x1 x2 σ K) : CT_X1_isYes l Ω := by
  intro x1 x2 σ Po hsp
  have hvc := hv x1 x2 σ Po hsp
  refine Ct.of (by decide +kernel) (Nat.le_of_ble_eq_true rfl) (fun Γ C => ?_)
  have h : f_X1_isYes_e x1 x2 Po σ := hvc  
  unfold f_X1_isYes_e at h
  refine ok_sub (L2 := [(0, .ref (Ω.2.2.1 37)), (1, .int x1), (2, .int x2)]) [0, 1, 2] rfl ?_
  refine ok_aload_n C 0 dX1_isYes_0 rfl rfl ?_
  refine ok_getR C (ci := 1) hinX1 (kat hk kD_37) rfl 4 (by decide) W_1_226 (fun _ _ h => h) rfl dX1_isYes_1 ?_
  refine ok_iload_n C 2 dX1_isYes_4 rfl rfl ?_
  refine ok_iload_n C 1 dX1_isYes_5 rfl rfl ?_
  refine ok_callVi C (As := [.int x2, .int x1]) (rest := []) (q := 41) (ci := 0) (kat hk kD_41) rfl (c_X0_has 41 960 bt_41 _ _ _ _ h) W_4_124 W_4_80 W_4_81 W_4_82 W_1_5 hd_X0_has rfl ⟨Nat.le_of_ble_eq_true rfl, Nat.le_of_ble_eq_true rfl⟩ (Nat.le_of_ble_eq_true rfl) rfl dX1_isYes_6 (fun r1 u2 h => ?_)
  obtain ⟨z3, h⟩ := h
  exact ok_zret C rfl rfl (bz_n z3) dX1_isYes_9 h
set_option maxRecDepth 100000 in
set_option maxHeartbeats 4000000 in
theorem m_X1_decides {l : Launch} {Ω : Wm} (hk : Hk Ω kD) (c_X0_has : CT_X0_has l Ω) (hv : ∀ (x1 : Int32) (x2 : Int32) (σ : Sg) (K : Int32 → Sg → Prop), sp_X1_decides x1 x2 σ K → vc_X1_decides x1 x2 σ K) : CT_X1_decides l Ω := by
  intro x1 x2 σ Po hsp
  have hvc := hv x1 x2 σ Po hsp
  refine Ct.of (by decide +kernel) (Nat.le_of_ble_eq_true rfl) (fun Γ C => ?_)
  have h : f_X1_decides_e x1 x2 Po σ := hvc  
  unfold f_X1_decides_e at h
  refine ok_sub (L2 := [(0, .ref (Ω.2.2.1 37)), (1, .int x1), (2, .int x2)]) [0, 1, 2] rfl ?_
  refine ok_aload_n C 0 dX1_decides_0 rfl rfl ?_
  refine ok_getR C (ci := 1) hinX1 (kat hk kD_37) rfl 5 (by decide) W_1_227 (fun _ _ h => h) rfl dX1_decides_1 ?_
  refine ok_iload_n C 2 dX1_decides_4 rfl rfl ?_
  refine ok_iload_n C 1 dX1_decides_5 rfl rfl ?_
  refine ok_callVi C (As := [.int x2, .int x1]) (rest := []) (q := 43) (ci := 0) (kat hk kD_43) rfl (c_X0_has 43 960 bt_43 _ _ _ _ h) W_4_124 W_4_80 W_4_81 W_4_82 W_1_5 hd_X0_has rfl ⟨Nat.le_of_ble_eq_true rfl, Nat.le_of_ble_eq_true rfl⟩ (Nat.le_of_ble_eq_true rfl) rfl dX1_decides_6 (fun r1 u2 h => ?_)
  obtain ⟨z3, h⟩ := h
  exact ok_zret C rfl rfl (bz_n z3) dX1_decides_9 h
set_option maxRecDepth 100000 in
set_option maxHeartbeats 4000000 in
theorem m_X1_write {l : Launch} {Ω : Wm} (hk : Hk Ω kD) (c_X0_put : CT_X0_put l Ω) (hv : ∀ (x1 : Int32) (x2 : Int32) (x3 : Int32) (x4 : Int32) (σ : Sg) (K : Sg → Prop), sp_X1_write x1 x2 x3 x4 σ K → vc_X1_write x1 x2 x3 x4 σ K) : CT_X1_write l Ω := by
  intro x1 x2 x3 x4 σ Po hsp
  have hvc := hv x1 x2 x3 x4 σ Po hsp
  refine Ct.of (by decide +kernel) (Nat.le_of_ble_eq_true rfl) (fun Γ C => ?_)
  have J27 : ∀  (σ : Sg), f_X1_write_27 x1 x2 x3 x4 Po  σ → OK Γ Ω 5 27 [] [] σ := by
    intro  σ h
    unfold f_X1_write_27 at h
    exact ok_vret C rfl rfl dX1_write_27 h
  have J13 : ∀  (σ : Sg), f_X1_write_13 x1 x2 x3 x4 Po  σ → OK Γ Ω 5 13 [(0, .ref (Ω.2.2.1 37)), (1, .int x1), (2, .int x2), (4, .int x4)] [] σ := by
    intro  σ h
    unfold f_X1_write_13 at h
    refine ok_iload C 3 dX1_write_13 rfl ?_
    obtain ⟨h1, h2⟩ := h
    refine ok_if_eq C 27 dX1_write_15 rfl (fun c6 => ?_) (fun c6 => ?_)
    · have h := h1 c6
      refine ok_sub [] rfl ?_
      exact J27  _ h
    · have h := h2 c6
      refine ok_aload_n C 0 dX1_write_18 rfl rfl ?_
      refine ok_getR C (ci := 1) hinX1 (kat hk kD_37) rfl 5 (by decide) W_1_227 (fun _ _ h => h) rfl dX1_write_19 ?_
      refine ok_iload_n C 2 dX1_write_22 rfl rfl ?_
      refine ok_iload_n C 1 dX1_write_23 rfl rfl ?_
      refine ok_callVv C (As := [.int x2, .int x1]) (rest := []) (q := 43) (ci := 0) (kat hk kD_43) rfl (c_X0_put 43 960 bt_43 _ _ _ _ h) W_4_125 W_4_60 W_4_61 W_4_62 W_1_5 hd_X0_put rfl ⟨Nat.le_of_ble_eq_true rfl, Nat.le_of_ble_eq_true rfl⟩ (Nat.le_of_ble_eq_true rfl) rfl dX1_write_24 (fun u5 h => ?_)
      refine ok_sub [] rfl ?_
      exact J27  _ h
  have h : f_X1_write_e x1 x2 x3 x4 Po σ := hvc  
  unfold f_X1_write_e at h
  refine ok_sub (L2 := [(0, .ref (Ω.2.2.1 37)), (1, .int x1), (2, .int x2), (3, .int x3), (4, .int x4)]) [0, 1, 2, 3, 4] rfl ?_
  refine ok_iload_n C 3 dX1_write_0 rfl rfl ?_
  obtain ⟨h1, h2⟩ := h
  refine ok_if_eq C 13 dX1_write_1 rfl (fun c3 => ?_) (fun c3 => ?_)
  · have h := h1 c3
    refine ok_sub [0, 1, 2, 4] rfl ?_
    exact J13  _ h
  · have h := h2 c3
    refine ok_aload_n C 0 dX1_write_4 rfl rfl ?_
    refine ok_getR C (ci := 1) hinX1 (kat hk kD_37) rfl 4 (by decide) W_1_226 (fun _ _ h => h) rfl dX1_write_5 ?_
    refine ok_iload_n C 2 dX1_write_8 rfl rfl ?_
    refine ok_iload_n C 1 dX1_write_9 rfl rfl ?_
    refine ok_callVv C (As := [.int x2, .int x1]) (rest := []) (q := 41) (ci := 0) (kat hk kD_41) rfl (c_X0_put 41 960 bt_41 _ _ _ _ h) W_4_125 W_4_60 W_4_61 W_4_62 W_1_5 hd_X0_put rfl ⟨Nat.le_of_ble_eq_true rfl, Nat.le_of_ble_eq_true rfl⟩ (Nat.le_of_ble_eq_true rfl) rfl dX1_write_10 (fun u2 h => ?_)
    refine ok_sub [0, 1, 2, 4] rfl ?_
    exact J13  _ h
set_option maxRecDepth 100000 in
set_option maxHeartbeats 4000000 in
theorem m_X1_castVote {l : Launch} {Ω : Wm} (hk : Hk Ω kD) (c_X7_isMost : CT_X7_isMost l Ω) (c_X0_has : CT_X0_has l Ω) (c_X0_size : CT_X0_size l Ω) (c_X0_sizeInCommon : CT_X0_sizeInCommon l Ω) (c_X1_write : CT_X1_write l Ω) (c_X2_hashWord : CT_X2_hashWord l Ω) (hv : ∀ (x1 : Int32) (x2 : Int32) (σ : Sg) (K : Sg → Prop), sp_X1_castVote x1 x2 σ K → vc_X1_castVote x1 x2 σ K) : CT_X1_castVote l Ω := by
  intro x1 x2 σ Po hsp
  have hvc := hv x1 x2 σ Po hsp
  refine Ct.of (by decide +kernel) (Nat.le_of_ble_eq_true rfl) (fun Γ C => ?_)
  have J156 : ∀  (σ : Sg), f_X1_castVote_156 x1 x2 Po  σ → OK Γ Ω 8 156 [] [] σ := by
    intro  σ h
    unfold f_X1_castVote_156 at h
    exact ok_vret C rfl rfl dX1_castVote_156 h
  have J152 : ∀ (s0 : Int32) (s1 : Int32) (s2 : Int32) (σ : Sg), f_X1_castVote_152 x1 x2 Po s0 s1 s2 σ → OK Γ Ω 8 152 [] [.int s0, .int s1, .int s2, .ref (Ω.2.2.1 37)] σ := by
    intro s0 s1 s2 σ h
    unfold f_X1_castVote_152 at h
    refine ok_iconst C (v := 0) dX1_castVote_152 (by decide) ?_
    refine ok_callVv C (As := [.int s2, .int s1, .int s0, .int 0]) (rest := []) (q := 37) (ci := 1) (kat hk kD_37) rfl (c_X1_write  _ _ _ _ _ _ h) W_4_130 W_4_132 W_0_16 W_4_133 W_1_7 hd_X1_write rfl ⟨Nat.le_of_ble_eq_true rfl, Nat.le_of_ble_eq_true rfl⟩ (Nat.le_of_ble_eq_true rfl) rfl dX1_castVote_153 (fun u23 h => ?_)
    refine ok_sub [] rfl ?_
    exact J156  _ h
  have J85 : ∀ (x3 : Int32) (x4 : Int32) (x5 : Int32) (s0 : Int32) (σ : Sg), f_X1_castVote_85 x1 x2 Po x3 x4 x5 s0 σ → OK Γ Ω 8 85 [(0, .ref (Ω.2.2.1 37)), (1, .int x1), (2, .int x2), (3, .int x3), (4, .int x4), (5, .int x5)] [.int s0] σ := by
    intro x3 x4 x5 s0 σ h
    unfold f_X1_castVote_85 at h
    refine ok_istore C (L2 := [(6, .int s0), (0, .ref (Ω.2.2.1 37)), (1, .int x1), (2, .int x2), (3, .int x3), (4, .int x4), (5, .int x5)]) dX1_castVote_85 (by decide) rfl ?_
    refine ok_iload C 5 dX1_castVote_87 rfl ?_
    refine ok_iload C 6 dX1_castVote_89 rfl ?_
    refine ok_mmax C W_4_149 W_3_65 W_1_20 W_3_66 (Nat.le_of_ble_eq_true rfl) (Nat.le_of_ble_eq_true rfl) dX1_castVote_91 ?_
    refine ok_aload_n C 1 dX1_castVote_94 rfl rfl ?_
    refine ok_getI C (ci := 1) hinX1 (kat hk kD_37) rfl 7 (by decide) W_1_230 (fun _ _ h => h) rfl dX1_castVote_95 ?_
    refine ok_callSNi C (As := [.int (imax x4 x5), .int (σ.1 37 7)]) (rest := []) (c_X7_isMost  _ _ _ _ h) nbm_4 W_4_99 W_4_100 W_1_1 hd_X7_isMost rfl ⟨Nat.le_of_ble_eq_true rfl, Nat.le_of_ble_eq_true rfl⟩ (Nat.le_of_ble_eq_true rfl) rfl dX1_castVote_98 (fun r13 u14 h => ?_)
    refine ok_istore C (L2 := [(7, .int r13), (6, .int s0), (0, .ref (Ω.2.2.1 37)), (1, .int x1), (2, .int x2), (3, .int x3), (4, .int x4), (5, .int x5)]) dX1_castVote_101 (by decide) rfl ?_
    refine ok_iload_n C 5 dX1_castVote_103 rfl rfl ?_
    refine ok_iconst C (v := 4) dX1_castVote_104 (by decide) ?_
    refine ok_irem C dX1_castVote_105 (by decide) ?_
    obtain ⟨h1, h2⟩ := h
    refine ok_if_eq C 122 dX1_castVote_106 rfl (fun c21 => ?_) (fun c21 => ?_)
    · have h := h1 c21
      refine ok_aload_n C 2 dX1_castVote_122 rfl rfl ?_
      refine ok_iload_n C 3 dX1_castVote_123 rfl rfl ?_
      refine ok_iload_n C 4 dX1_castVote_124 rfl rfl ?_
      refine ok_iload C 0 dX1_castVote_125 rfl ?_
      obtain ⟨h1, h2⟩ := h
      refine ok_if_eq C 135 dX1_castVote_127 rfl (fun c18 => ?_) (fun c18 => ?_)
      · have h := h1 c18
        refine ok_aload_n C 2 dX1_castVote_135 rfl rfl ?_
        refine ok_getR C (ci := 1) hinX1 (kat hk kD_37) rfl 0 (by decide) W_1_221 (fun _ _ h => h) rfl dX1_castVote_136 ?_
        refine ok_iload_n C 3 dX1_castVote_139 rfl rfl ?_
        refine ok_iconst C (v := 4) dX1_castVote_140 (by decide) ?_
        refine ok_callVi C (As := [.int x1, .int 4]) (rest := [.int x2, .int x1, .ref (Ω.2.2.1 37)]) (q := 7) (ci := 2) (kat hk kD_7) rfl (c_X2_hashWord  _ _ _ _ h) W_4_151 W_2_155 W_2_156 W_2_157 W_1_3 hd_X2_hashWord rfl ⟨Nat.le_of_ble_eq_true rfl, Nat.le_of_ble_eq_true rfl⟩ (Nat.le_of_ble_eq_true rfl) rfl dX1_castVote_141 (fun r15 u16 h => ?_)
        obtain ⟨h1, h2⟩ := h
        refine ok_if_ge C 151 dX1_castVote_144 rfl (fun c17 => ?_) (fun c17 => ?_)
        · have h := h1 c17
          refine ok_iconst C (v := 0) dX1_castVote_151 (by decide) ?_
          refine ok_sub [] rfl ?_
          exact J152 _ _ _ _ h
        · have h := h2 c17
          refine ok_iconst C (v := 1) dX1_castVote_147 (by decide) ?_
          refine ok_goto C 152 dX1_castVote_148 rfl ?_
          refine ok_sub [] rfl ?_
          exact J152 _ _ _ _ h
      · have h := h2 c18
        refine ok_iload C 1 dX1_castVote_130 rfl ?_
        refine ok_goto C 152 dX1_castVote_132 rfl ?_
        refine ok_sub [] rfl ?_
        exact J152 _ _ _ _ h
    · have h := h2 c21
      refine ok_aload_n C 2 dX1_castVote_109 rfl rfl ?_
      refine ok_iload_n C 3 dX1_castVote_110 rfl rfl ?_
      refine ok_iload_n C 4 dX1_castVote_111 rfl rfl ?_
      refine ok_iload C 1 dX1_castVote_112 rfl ?_
      refine ok_iload C 0 dX1_castVote_114 rfl ?_
      refine ok_callVv C (As := [.int x1, .int x2, .int s0, .int r13]) (rest := []) (q := 37) (ci := 1) (kat hk kD_37) rfl (c_X1_write  _ _ _ _ _ _ h) W_4_130 W_4_132 W_0_16 W_4_133 W_1_7 hd_X1_write rfl ⟨Nat.le_of_ble_eq_true rfl, Nat.le_of_ble_eq_true rfl⟩ (Nat.le_of_ble_eq_true rfl) rfl dX1_castVote_116 (fun u20 h => ?_)
      refine ok_goto C 156 dX1_castVote_119 rfl ?_
      refine ok_sub [] rfl ?_
      exact J156  _ h
  have h : f_X1_castVote_e x1 x2 Po σ := hvc  
  unfold f_X1_castVote_e at h
  refine ok_sub (L2 := [(0, .ref (Ω.2.2.1 37)), (1, .int x1), (2, .int x2)]) [0, 1, 2] rfl ?_
  refine ok_aload_n C 0 dX1_castVote_0 rfl rfl ?_
  refine ok_getR C (ci := 1) hinX1 (kat hk kD_37) rfl 1 (by decide) W_1_222 (fun _ _ h => h) rfl dX1_castVote_1 ?_
  refine ok_getRN C (ci := 3) hinX3 (kat hk kD_22) rfl 6 (by decide) nbf_25 (fun _ _ h => h) rfl dX1_castVote_4 ?_
  refine ok_iload_n C 1 dX1_castVote_7 rfl rfl ?_
  obtain ⟨g1, h⟩ := h
  refine ok_iald C (kat hk kD_32) g1 dX1_castVote_8 ?_
  refine ok_aload_n C 0 dX1_castVote_9 rfl rfl ?_
  refine ok_getR C (ci := 1) hinX1 (kat hk kD_37) rfl 1 (by decide) W_1_222 (fun _ _ h => h) rfl dX1_castVote_10 ?_
  refine ok_getRN C (ci := 3) hinX3 (kat hk kD_22) rfl 6 (by decide) nbf_25 (fun _ _ h => h) rfl dX1_castVote_13 ?_
  refine ok_iload_n C 2 dX1_castVote_16 rfl rfl ?_
  obtain ⟨g2, h⟩ := h
  refine ok_iald C (kat hk kD_32) g2 dX1_castVote_17 ?_
  refine ok_isub C dX1_castVote_18 ?_
  refine ok_istore_n C (L2 := [(3, .int ((σ.1 32 x1.toNatClampNeg) - (σ.1 32 x2.toNatClampNeg))), (0, .ref (Ω.2.2.1 37)), (1, .int x1), (2, .int x2)]) dX1_castVote_19 rfl (by decide) rfl ?_
  refine ok_iload_n C 0 dX1_castVote_20 rfl rfl ?_
  refine ok_iconst C (v := 1) dX1_castVote_21 (by decide) ?_
  obtain ⟨h1, h2⟩ := h
  refine ok_icmp_ne C 45 dX1_castVote_22 rfl (fun c12 => ?_) (fun c12 => ?_)
  · have h := h1 c12
    refine ok_aload_n C 1 dX1_castVote_45 rfl rfl ?_
    refine ok_getR C (ci := 1) hinX1 (kat hk kD_37) rfl 3 (by decide) W_1_225 (fun _ _ h => h) rfl dX1_castVote_46 ?_
    refine ok_iload_n C 2 dX1_castVote_49 rfl rfl ?_
    refine ok_aload_n C 1 dX1_castVote_50 rfl rfl ?_
    refine ok_getR C (ci := 1) hinX1 (kat hk kD_37) rfl 4 (by decide) W_1_226 (fun _ _ h => h) rfl dX1_castVote_51 ?_
    refine ok_iload_n C 3 dX1_castVote_54 rfl rfl ?_
    refine ok_callVi C (As := [.int x1, .ref (Ω.2.2.1 41), .int x2]) (rest := []) (q := 39) (ci := 0) (kat hk kD_39) rfl (c_X0_sizeInCommon 39 960 41 960 bt_39 bt_41 _ _ _ _ h) W_4_134 W_4_135 W_4_136 W_4_137 W_1_5 hd_X0_sizeInCommon rfl ⟨Nat.le_of_ble_eq_true rfl, Nat.le_of_ble_eq_true rfl⟩ (Nat.le_of_ble_eq_true rfl) rfl dX1_castVote_55 (fun r3 u4 h => ?_)
    refine ok_istore C (L2 := [(4, .int r3), (3, .int ((σ.1 32 x1.toNatClampNeg) - (σ.1 32 x2.toNatClampNeg))), (0, .ref (Ω.2.2.1 37)), (1, .int x1), (2, .int x2)]) dX1_castVote_58 (by decide) rfl ?_
    refine ok_aload_n C 2 dX1_castVote_60 rfl rfl ?_
    refine ok_getR C (ci := 1) hinX1 (kat hk kD_37) rfl 3 (by decide) W_1_225 (fun _ _ h => h) rfl dX1_castVote_61 ?_
    refine ok_iload_n C 3 dX1_castVote_64 rfl rfl ?_
    refine ok_callVi C (As := [.int x1]) (rest := []) (q := 39) (ci := 0) (kat hk kD_39) rfl (c_X0_size 39 960 bt_39 _ _ _ h) W_4_144 W_4_145 W_4_146 W_4_147 W_1_5 hd_X0_size rfl ⟨Nat.le_of_ble_eq_true rfl, Nat.le_of_ble_eq_true rfl⟩ (Nat.le_of_ble_eq_true rfl) rfl dX1_castVote_65 (fun r5 u6 h => ?_)
    refine ok_iload C 0 dX1_castVote_68 rfl ?_
    refine ok_isub C dX1_castVote_70 ?_
    refine ok_istore C (L2 := [(5, .int (r5 - r3)), (4, .int r3), (3, .int ((σ.1 32 x1.toNatClampNeg) - (σ.1 32 x2.toNatClampNeg))), (0, .ref (Ω.2.2.1 37)), (1, .int x1), (2, .int x2)]) dX1_castVote_71 (by decide) rfl ?_
    refine ok_iload C 1 dX1_castVote_73 rfl ?_
    refine ok_iload C 0 dX1_castVote_75 rfl ?_
    obtain ⟨h1, h2⟩ := h
    refine ok_icmp_lt C 84 dX1_castVote_77 rfl (fun c7 => ?_) (fun c7 => ?_)
    · have h := h1 c7
      refine ok_iconst C (v := 0) dX1_castVote_84 (by decide) ?_
      refine ok_sub [3, 4, 5, 2, 1, 0] rfl ?_
      exact J85 _ _ _ _ _ h
    · have h := h2 c7
      refine ok_iconst C (v := 1) dX1_castVote_80 (by decide) ?_
      refine ok_goto C 85 dX1_castVote_81 rfl ?_
      refine ok_sub [3, 4, 5, 2, 1, 0] rfl ?_
      exact J85 _ _ _ _ _ h
  · have h := h2 c12
    refine ok_aload_n C 1 dX1_castVote_25 rfl rfl ?_
    refine ok_iload_n C 2 dX1_castVote_26 rfl rfl ?_
    refine ok_iload_n C 3 dX1_castVote_27 rfl rfl ?_
    refine ok_aload_n C 1 dX1_castVote_28 rfl rfl ?_
    refine ok_getR C (ci := 1) hinX1 (kat hk kD_37) rfl 1 (by decide) W_1_222 (fun _ _ h => h) rfl dX1_castVote_29 ?_
    refine ok_getRN C (ci := 3) hinX3 (kat hk kD_22) rfl 2 (by decide) nbf_20 (fun _ _ h => h) rfl dX1_castVote_32 ?_
    refine ok_iload_n C 2 dX1_castVote_35 rfl rfl ?_
    refine ok_iload_n C 3 dX1_castVote_36 rfl rfl ?_
    refine ok_callVi C (As := [.int x1, .int x2]) (rest := [.int x2, .int x1, .ref (Ω.2.2.1 37)]) (q := 25) (ci := 0) (kat hk kD_25) rfl (c_X0_has 25 960 bt_25 _ _ _ _ h) W_4_124 W_4_80 W_4_81 W_4_82 W_1_5 hd_X0_has rfl ⟨Nat.le_of_ble_eq_true rfl, Nat.le_of_ble_eq_true rfl⟩ (Nat.le_of_ble_eq_true rfl) rfl dX1_castVote_37 (fun r8 u9 h => ?_)
    refine ok_iconst C (v := 0) dX1_castVote_40 (by decide) ?_
    refine ok_callVv C (As := [.int x1, .int x2, .int r8, .int 0]) (rest := []) (q := 37) (ci := 1) (kat hk kD_37) rfl (c_X1_write  _ _ _ _ _ _ h) W_4_130 W_4_132 W_0_16 W_4_133 W_1_7 hd_X1_write rfl ⟨Nat.le_of_ble_eq_true rfl, Nat.le_of_ble_eq_true rfl⟩ (Nat.le_of_ble_eq_true rfl) rfl dX1_castVote_41 (fun u11 h => ?_)
    exact ok_vret C rfl rfl dX1_castVote_44 h
set_option maxRecDepth 100000 in
set_option maxHeartbeats 4000000 in
theorem m_X1_findElectors {l : Launch} {Ω : Wm} (hk : Hk Ω kD) (c_X0_clearRow : CT_X0_clearRow l Ω) (c_X0_has : CT_X0_has l Ω) (c_X0_put : CT_X0_put l Ω) (hv : ∀ (x1 : Int32) (σ : Sg) (K : Sg → Prop), sp_X1_findElectors x1 σ K → vc_X1_findElectors x1 σ K) : CT_X1_findElectors l Ω := by
  intro x1 σ Po hsp
  have hvc := hv x1 σ Po hsp
  refine Ct.of (by decide +kernel) (Nat.le_of_ble_eq_true rfl) (fun Γ C => ?_)
  obtain ⟨L10, gl10⟩ : ∃ L : Int32 → Sg → Prop, ∀ (x2 : Int32) (σ : Sg), L x2 σ = OK Γ Ω 4 10 [(0, .ref (Ω.2.2.1 37)), (1, .int x1), (2, .int x2)] [] σ := ⟨fun x2 σ => OK Γ Ω 4 10 [(0, .ref (Ω.2.2.1 37)), (1, .int x1), (2, .int x2)] [] σ, fun _ _ => rfl⟩
  have J72 : ∀ (x2 : Int32) (σ : Sg), f_X1_findElectors_72 x1 L10 Po x2 σ → OK Γ Ω 4 72 [(0, .ref (Ω.2.2.1 37)), (1, .int x1), (2, .int x2)] [] σ := by
    intro x2 σ h
    unfold f_X1_findElectors_72 at h
    refine ok_iinc C (v := x2 + 1) (L2 := [(2, .int (x2 + 1)), (0, .ref (Ω.2.2.1 37)), (1, .int x1)]) 2 dX1_findElectors_72 rfl rfl (by decide) rfl ?_
    refine ok_goto C 10 dX1_findElectors_75 rfl ?_
    refine ok_sub [1, 2, 0] rfl ?_
    exact Eq.mp (gl10 _ _) h
  have R10 : ∀ (x2 : Int32) (σ : Sg), f_X1_findElectors_10 x1 L10 Po x2 σ → L10 x2 σ := by
    intro x2 σ h
    unfold f_X1_findElectors_10 at h
    refine Eq.mpr (gl10 _ _) ?_
    refine ok_iload_n C 2 dX1_findElectors_10 rfl rfl ?_
    refine ok_aload_n C 0 dX1_findElectors_11 rfl rfl ?_
    refine ok_getI C (ci := 1) hinX1 (kat hk kD_37) rfl 6 (by decide) W_1_228 (fun _ _ h => h) rfl dX1_findElectors_12 ?_
    obtain ⟨h1, h2⟩ := h
    refine ok_icmp_ge C 78 dX1_findElectors_15 rfl (fun c12 => ?_) (fun c12 => ?_)
    · have h := h1 c12
      exact ok_vret C rfl rfl dX1_findElectors_78 h
    · have h := h2 c12
      refine ok_aload_n C 0 dX1_findElectors_18 rfl rfl ?_
      refine ok_getR C (ci := 1) hinX1 (kat hk kD_37) rfl 2 (by decide) W_1_223 (fun _ _ h => h) rfl dX1_findElectors_19 ?_
      refine ok_iload_n C 2 dX1_findElectors_22 rfl rfl ?_
      obtain ⟨g3, h⟩ := h
      refine ok_iald C (kat hk kD_38) g3 dX1_findElectors_23 ?_
      refine ok_istore_n C (L2 := [(3, .int (σ.1 38 x2.toNatClampNeg)), (0, .ref (Ω.2.2.1 37)), (1, .int x1), (2, .int x2)]) dX1_findElectors_24 rfl (by decide) rfl ?_
      refine ok_aload_n C 1 dX1_findElectors_25 rfl rfl ?_
      refine ok_getR C (ci := 1) hinX1 (kat hk kD_37) rfl 1 (by decide) W_1_222 (fun _ _ h => h) rfl dX1_findElectors_26 ?_
      refine ok_getRN C (ci := 3) hinX3 (kat hk kD_22) rfl 6 (by decide) nbf_25 (fun _ _ h => h) rfl dX1_findElectors_29 ?_
      refine ok_iload_n C 0 dX1_findElectors_32 rfl rfl ?_
      obtain ⟨g4, h⟩ := h
      refine ok_iald C (kat hk kD_32) g4 dX1_findElectors_33 ?_
      refine ok_aload_n C 1 dX1_findElectors_34 rfl rfl ?_
      refine ok_getR C (ci := 1) hinX1 (kat hk kD_37) rfl 1 (by decide) W_1_222 (fun _ _ h => h) rfl dX1_findElectors_35 ?_
      refine ok_getRN C (ci := 3) hinX3 (kat hk kD_22) rfl 6 (by decide) nbf_25 (fun _ _ h => h) rfl dX1_findElectors_38 ?_
      refine ok_iload_n C 2 dX1_findElectors_41 rfl rfl ?_
      obtain ⟨g5, h⟩ := h
      refine ok_iald C (kat hk kD_32) g5 dX1_findElectors_42 ?_
      refine ok_iconst C (v := 1) dX1_findElectors_43 (by decide) ?_
      refine ok_isub C dX1_findElectors_44 ?_
      obtain ⟨h1, h2⟩ := h
      refine ok_icmp_ne C 72 dX1_findElectors_45 rfl (fun c11 => ?_) (fun c11 => ?_)
      · have h := h1 c11
        refine ok_sub [1, 2, 3] rfl ?_
        exact J72 _ _ h
      · have h := h2 c11
        refine ok_aload_n C 1 dX1_findElectors_48 rfl rfl ?_
        refine ok_getR C (ci := 1) hinX1 (kat hk kD_37) rfl 1 (by decide) W_1_222 (fun _ _ h => h) rfl dX1_findElectors_49 ?_
        refine ok_getRN C (ci := 3) hinX3 (kat hk kD_22) rfl 3 (by decide) nbf_22 (fun _ _ h => h) rfl dX1_findElectors_52 ?_
        refine ok_iload_n C 2 dX1_findElectors_55 rfl rfl ?_
        refine ok_iload_n C 0 dX1_findElectors_56 rfl rfl ?_
        refine ok_callVi C (As := [.int x1, .int (σ.1 38 x2.toNatClampNeg)]) (rest := []) (q := 27) (ci := 0) (kat hk kD_27) rfl (c_X0_has 27 960 bt_27 _ _ _ _ h) W_4_124 W_4_80 W_4_81 W_4_82 W_1_5 hd_X0_has rfl ⟨Nat.le_of_ble_eq_true rfl, Nat.le_of_ble_eq_true rfl⟩ (Nat.le_of_ble_eq_true rfl) rfl dX1_findElectors_57 (fun r6 u7 h => ?_)
        obtain ⟨h1, h2⟩ := h
        refine ok_if_eq C 72 dX1_findElectors_60 rfl (fun c10 => ?_) (fun c10 => ?_)
        · have h := h1 c10
          refine ok_sub [1, 2, 3] rfl ?_
          exact J72 _ _ h
        · have h := h2 c10
          refine ok_aload_n C 1 dX1_findElectors_63 rfl rfl ?_
          refine ok_getR C (ci := 1) hinX1 (kat hk kD_37) rfl 3 (by decide) W_1_225 (fun _ _ h => h) rfl dX1_findElectors_64 ?_
          refine ok_iload_n C 2 dX1_findElectors_67 rfl rfl ?_
          refine ok_iload_n C 0 dX1_findElectors_68 rfl rfl ?_
          refine ok_callVv C (As := [.int x1, .int (σ.1 38 x2.toNatClampNeg)]) (rest := []) (q := 39) (ci := 0) (kat hk kD_39) rfl (c_X0_put 39 960 bt_39 _ _ _ _ h) W_4_125 W_4_60 W_4_61 W_4_62 W_1_5 hd_X0_put rfl ⟨Nat.le_of_ble_eq_true rfl, Nat.le_of_ble_eq_true rfl⟩ (Nat.le_of_ble_eq_true rfl) rfl dX1_findElectors_69 (fun u9 h => ?_)
          refine ok_sub [1, 2, 3] rfl ?_
          exact J72 _ _ h
  have h : f_X1_findElectors_e x1 L10 Po σ := hvc L10 R10
  unfold f_X1_findElectors_e at h
  refine ok_sub (L2 := [(0, .ref (Ω.2.2.1 37)), (1, .int x1)]) [0, 1] rfl ?_
  refine ok_aload_n C 0 dX1_findElectors_0 rfl rfl ?_
  refine ok_getR C (ci := 1) hinX1 (kat hk kD_37) rfl 3 (by decide) W_1_225 (fun _ _ h => h) rfl dX1_findElectors_1 ?_
  refine ok_iload_n C 1 dX1_findElectors_4 rfl rfl ?_
  refine ok_callVv C (As := [.int x1]) (rest := []) (q := 39) (ci := 0) (kat hk kD_39) rfl (c_X0_clearRow 39 960 bt_39 _ _ _ h) W_4_123 W_2_197 W_2_198 W_2_199 W_1_5 hd_X0_clearRow rfl ⟨Nat.le_of_ble_eq_true rfl, Nat.le_of_ble_eq_true rfl⟩ (Nat.le_of_ble_eq_true rfl) rfl dX1_findElectors_5 (fun u2 h => ?_)
  refine ok_iconst C (v := 0) dX1_findElectors_8 (by decide) ?_
  refine ok_istore_n C (L2 := [(2, .int 0), (0, .ref (Ω.2.2.1 37)), (1, .int x1)]) dX1_findElectors_9 rfl (by decide) rfl ?_
  refine ok_sub [1, 2, 0] rfl ?_
  exact Eq.mp (gl10 _ _) h
set_option maxRecDepth 100000 in
set_option maxHeartbeats 4000000 in
theorem m_X1_take {l : Launch} {Ω : Wm} (hk : Hk Ω kD) (c_X0_clearRow : CT_X0_clearRow l Ω) (c_X1_castVote : CT_X1_castVote l Ω) (c_X1_findElectors : CT_X1_findElectors l Ω) (hv : ∀ (x1 : Int32) (σ : Sg) (K : Sg → Prop), sp_X1_take x1 σ K → vc_X1_take x1 σ K) : CT_X1_take l Ω := by
  intro x1 σ Po hsp
  have hvc := hv x1 σ Po hsp
  refine Ct.of (by decide +kernel) (Nat.le_of_ble_eq_true rfl) (fun Γ C => ?_)
  obtain ⟨L36, gl36⟩ : ∃ L : Int32 → Sg → Prop, ∀ (x2 : Int32) (σ : Sg), L x2 σ = OK Γ Ω 3 36 [(0, .ref (Ω.2.2.1 37)), (1, .int x1), (2, .int x2)] [] σ := ⟨fun x2 σ => OK Γ Ω 3 36 [(0, .ref (Ω.2.2.1 37)), (1, .int x1), (2, .int x2)] [] σ, fun _ _ => rfl⟩
  obtain ⟨L89, gl89⟩ : ∃ L : Int32 → Sg → Prop, ∀ (x2 : Int32) (σ : Sg), L x2 σ = OK Γ Ω 3 89 [(0, .ref (Ω.2.2.1 37)), (1, .int x1), (2, .int x2)] [] σ := ⟨fun x2 σ => OK Γ Ω 3 89 [(0, .ref (Ω.2.2.1 37)), (1, .int x1), (2, .int x2)] [] σ, fun _ _ => rfl⟩
  have J134 : ∀ (x2 : Int32) (σ : Sg), f_X1_take_134 x1 L36 L89 Po x2 σ → OK Γ Ω 3 134 [(0, .ref (Ω.2.2.1 37)), (1, .int x1), (2, .int x2)] [] σ := by
    intro x2 σ h
    unfold f_X1_take_134 at h
    refine ok_iinc C (v := x2 + 1) (L2 := [(2, .int (x2 + 1)), (0, .ref (Ω.2.2.1 37)), (1, .int x1)]) 2 dX1_take_134 rfl rfl (by decide) rfl ?_
    refine ok_goto C 89 dX1_take_137 rfl ?_
    refine ok_sub [1, 2, 0] rfl ?_
    exact Eq.mp (gl89 _ _) h
  have J81 : ∀ (x2 : Int32) (σ : Sg), f_X1_take_81 x1 L36 L89 Po x2 σ → OK Γ Ω 3 81 [(0, .ref (Ω.2.2.1 37)), (1, .int x1), (2, .int x2)] [] σ := by
    intro x2 σ h
    unfold f_X1_take_81 at h
    refine ok_iinc C (v := x2 + 1) (L2 := [(2, .int (x2 + 1)), (0, .ref (Ω.2.2.1 37)), (1, .int x1)]) 2 dX1_take_81 rfl rfl (by decide) rfl ?_
    refine ok_goto C 36 dX1_take_84 rfl ?_
    refine ok_sub [1, 2, 0] rfl ?_
    exact Eq.mp (gl36 _ _) h
  have R36 : ∀ (x2 : Int32) (σ : Sg), f_X1_take_36 x1 L36 L89 Po x2 σ → L36 x2 σ := by
    intro x2 σ h
    unfold f_X1_take_36 at h
    refine Eq.mpr (gl36 _ _) ?_
    refine ok_iload_n C 2 dX1_take_36 rfl rfl ?_
    refine ok_aload_n C 0 dX1_take_37 rfl rfl ?_
    refine ok_getI C (ci := 1) hinX1 (kat hk kD_37) rfl 6 (by decide) W_1_228 (fun _ _ h => h) rfl dX1_take_38 ?_
    obtain ⟨h1, h2⟩ := h
    refine ok_icmp_ge C 87 dX1_take_41 rfl (fun c16 => ?_) (fun c16 => ?_)
    · have h := h1 c16
      refine ok_iconst C (v := 0) dX1_take_87 (by decide) ?_
      refine ok_istore_n C (L2 := [(2, .int 0), (0, .ref (Ω.2.2.1 37)), (1, .int x1)]) dX1_take_88 rfl (by decide) rfl ?_
      refine ok_sub [1, 2, 0] rfl ?_
      exact Eq.mp (gl89 _ _) h
    · have h := h2 c16
      refine ok_aload_n C 0 dX1_take_44 rfl rfl ?_
      refine ok_getR C (ci := 1) hinX1 (kat hk kD_37) rfl 1 (by decide) W_1_222 (fun _ _ h => h) rfl dX1_take_45 ?_
      refine ok_getRN C (ci := 3) hinX3 (kat hk kD_22) rfl 6 (by decide) nbf_25 (fun _ _ h => h) rfl dX1_take_48 ?_
      refine ok_aload_n C 0 dX1_take_51 rfl rfl ?_
      refine ok_getR C (ci := 1) hinX1 (kat hk kD_37) rfl 2 (by decide) W_1_223 (fun _ _ h => h) rfl dX1_take_52 ?_
      refine ok_iload_n C 2 dX1_take_55 rfl rfl ?_
      obtain ⟨g9, h⟩ := h
      refine ok_iald C (kat hk kD_38) g9 dX1_take_56 ?_
      obtain ⟨g10, h⟩ := h
      refine ok_iald C (kat hk kD_32) g10 dX1_take_57 ?_
      refine ok_aload_n C 0 dX1_take_58 rfl rfl ?_
      refine ok_getR C (ci := 1) hinX1 (kat hk kD_37) rfl 1 (by decide) W_1_222 (fun _ _ h => h) rfl dX1_take_59 ?_
      refine ok_getRN C (ci := 3) hinX3 (kat hk kD_22) rfl 6 (by decide) nbf_25 (fun _ _ h => h) rfl dX1_take_62 ?_
      refine ok_iload_n C 1 dX1_take_65 rfl rfl ?_
      obtain ⟨g11, h⟩ := h
      refine ok_iald C (kat hk kD_32) g11 dX1_take_66 ?_
      obtain ⟨h1, h2⟩ := h
      refine ok_icmp_ge C 81 dX1_take_67 rfl (fun c15 => ?_) (fun c15 => ?_)
      · have h := h1 c15
        refine ok_sub [0, 1, 2] rfl ?_
        exact J81 _ _ h
      · have h := h2 c15
        refine ok_aload_n C 0 dX1_take_70 rfl rfl ?_
        refine ok_iload_n C 1 dX1_take_71 rfl rfl ?_
        refine ok_aload_n C 0 dX1_take_72 rfl rfl ?_
        refine ok_getR C (ci := 1) hinX1 (kat hk kD_37) rfl 2 (by decide) W_1_223 (fun _ _ h => h) rfl dX1_take_73 ?_
        refine ok_iload_n C 2 dX1_take_76 rfl rfl ?_
        obtain ⟨g12, h⟩ := h
        refine ok_iald C (kat hk kD_38) g12 dX1_take_77 ?_
        refine ok_callVv C (As := [.int x1, .int (σ.1 38 x2.toNatClampNeg)]) (rest := []) (q := 37) (ci := 1) (kat hk kD_37) rfl (c_X1_castVote  _ _ _ _ h) W_4_126 W_4_128 W_0_15 W_4_129 W_1_7 hd_X1_castVote rfl ⟨Nat.le_of_ble_eq_true rfl, Nat.le_of_ble_eq_true rfl⟩ (Nat.le_of_ble_eq_true rfl) rfl dX1_take_78 (fun u14 h => ?_)
        refine ok_sub [0, 1, 2] rfl ?_
        exact J81 _ _ h
  have R89 : ∀ (x2 : Int32) (σ : Sg), f_X1_take_89 x1 L36 L89 Po x2 σ → L89 x2 σ := by
    intro x2 σ h
    unfold f_X1_take_89 at h
    refine Eq.mpr (gl89 _ _) ?_
    refine ok_iload_n C 2 dX1_take_89 rfl rfl ?_
    refine ok_aload_n C 0 dX1_take_90 rfl rfl ?_
    refine ok_getI C (ci := 1) hinX1 (kat hk kD_37) rfl 6 (by decide) W_1_228 (fun _ _ h => h) rfl dX1_take_91 ?_
    obtain ⟨h1, h2⟩ := h
    refine ok_icmp_ge C 140 dX1_take_94 rfl (fun c25 => ?_) (fun c25 => ?_)
    · have h := h1 c25
      refine ok_aload_n C 0 dX1_take_140 rfl rfl ?_
      refine ok_getR C (ci := 1) hinX1 (kat hk kD_37) rfl 2 (by decide) W_1_223 (fun _ _ h => h) rfl dX1_take_141 ?_
      refine ok_aload_n C 0 dX1_take_144 rfl rfl ?_
      refine ok_getI C (ci := 1) hinX1 (kat hk kD_37) rfl 6 (by decide) W_1_228 (fun _ _ h => h) rfl dX1_take_145 ?_
      refine ok_iload_n C 1 dX1_take_148 rfl rfl ?_
      obtain ⟨g17, h⟩ := h
      refine ok_iast C (kat hk kD_38) g17 dX1_take_149 ?_
      refine ok_aload_n C 0 dX1_take_150 rfl rfl ?_
      refine ok_dup C dX1_take_151 rfl ?_
      refine ok_getI C (ci := 1) hinX1 (kat hk kD_37) rfl 6 (by decide) W_1_228 (fun _ _ h => h) rfl dX1_take_152 ?_
      refine ok_iconst C (v := 1) dX1_take_155 (by decide) ?_
      refine ok_iadd C dX1_take_156 ?_
      refine ok_putI C (ci := 1) hinX1 (kat hk kD_37) rfl 6 (by decide) W_1_228 (fun _ _ h => h) tyX1 tyX1_ok nmX1 rfl (by decide +kernel) rfl rfl rfl dX1_take_157 ?_
      exact ok_vret C rfl rfl dX1_take_160 h
    · have h := h2 c25
      refine ok_aload_n C 0 dX1_take_97 rfl rfl ?_
      refine ok_getR C (ci := 1) hinX1 (kat hk kD_37) rfl 1 (by decide) W_1_222 (fun _ _ h => h) rfl dX1_take_98 ?_
      refine ok_getRN C (ci := 3) hinX3 (kat hk kD_22) rfl 6 (by decide) nbf_25 (fun _ _ h => h) rfl dX1_take_101 ?_
      refine ok_aload_n C 0 dX1_take_104 rfl rfl ?_
      refine ok_getR C (ci := 1) hinX1 (kat hk kD_37) rfl 2 (by decide) W_1_223 (fun _ _ h => h) rfl dX1_take_105 ?_
      refine ok_iload_n C 2 dX1_take_108 rfl rfl ?_
      obtain ⟨g18, h⟩ := h
      refine ok_iald C (kat hk kD_38) g18 dX1_take_109 ?_
      obtain ⟨g19, h⟩ := h
      refine ok_iald C (kat hk kD_32) g19 dX1_take_110 ?_
      refine ok_aload_n C 0 dX1_take_111 rfl rfl ?_
      refine ok_getR C (ci := 1) hinX1 (kat hk kD_37) rfl 1 (by decide) W_1_222 (fun _ _ h => h) rfl dX1_take_112 ?_
      refine ok_getRN C (ci := 3) hinX3 (kat hk kD_22) rfl 6 (by decide) nbf_25 (fun _ _ h => h) rfl dX1_take_115 ?_
      refine ok_iload_n C 1 dX1_take_118 rfl rfl ?_
      obtain ⟨g20, h⟩ := h
      refine ok_iald C (kat hk kD_32) g20 dX1_take_119 ?_
      obtain ⟨h1, h2⟩ := h
      refine ok_icmp_le C 134 dX1_take_120 rfl (fun c24 => ?_) (fun c24 => ?_)
      · have h := h1 c24
        refine ok_sub [0, 1, 2] rfl ?_
        exact J134 _ _ h
      · have h := h2 c24
        refine ok_aload_n C 0 dX1_take_123 rfl rfl ?_
        refine ok_aload_n C 0 dX1_take_124 rfl rfl ?_
        refine ok_getR C (ci := 1) hinX1 (kat hk kD_37) rfl 2 (by decide) W_1_223 (fun _ _ h => h) rfl dX1_take_125 ?_
        refine ok_iload_n C 2 dX1_take_128 rfl rfl ?_
        obtain ⟨g21, h⟩ := h
        refine ok_iald C (kat hk kD_38) g21 dX1_take_129 ?_
        refine ok_iload_n C 1 dX1_take_130 rfl rfl ?_
        refine ok_callVv C (As := [.int (σ.1 38 x2.toNatClampNeg), .int x1]) (rest := []) (q := 37) (ci := 1) (kat hk kD_37) rfl (c_X1_castVote  _ _ _ _ h) W_4_126 W_4_128 W_0_15 W_4_129 W_1_7 hd_X1_castVote rfl ⟨Nat.le_of_ble_eq_true rfl, Nat.le_of_ble_eq_true rfl⟩ (Nat.le_of_ble_eq_true rfl) rfl dX1_take_131 (fun u23 h => ?_)
        refine ok_sub [0, 1, 2] rfl ?_
        exact J134 _ _ h
  have h : f_X1_take_e x1 L36 L89 Po σ := hvc L36 L89 R36 R89
  unfold f_X1_take_e at h
  refine ok_sub (L2 := [(0, .ref (Ω.2.2.1 37)), (1, .int x1)]) [0, 1] rfl ?_
  refine ok_aload_n C 0 dX1_take_0 rfl rfl ?_
  refine ok_getR C (ci := 1) hinX1 (kat hk kD_37) rfl 1 (by decide) W_1_222 (fun _ _ h => h) rfl dX1_take_1 ?_
  refine ok_getRN C (ci := 3) hinX3 (kat hk kD_22) rfl 7 (by decide) nbf_27 (fun _ _ h => h) rfl dX1_take_4 ?_
  refine ok_iload_n C 1 dX1_take_7 rfl rfl ?_
  obtain ⟨g1, h⟩ := h
  refine ok_zald C (kat hk kD_33) g1 dX1_take_8 ?_
  obtain ⟨h1, h2⟩ := h
  refine ok_if_ne C 13 dX1_take_9 rfl (fun c8 => ?_) (fun c8 => ?_)
  · have h := h1 c8
    refine ok_aload_n C 0 dX1_take_13 rfl rfl ?_
    refine ok_iload_n C 1 dX1_take_14 rfl rfl ?_
    refine ok_callVv C (As := [.int x1]) (rest := []) (q := 37) (ci := 1) (kat hk kD_37) rfl (c_X1_findElectors  _ _ _ h) W_4_119 W_4_121 W_0_14 W_4_122 W_1_7 hd_X1_findElectors rfl ⟨Nat.le_of_ble_eq_true rfl, Nat.le_of_ble_eq_true rfl⟩ (Nat.le_of_ble_eq_true rfl) rfl dX1_take_15 (fun u3 h => ?_)
    refine ok_aload_n C 0 dX1_take_18 rfl rfl ?_
    refine ok_getR C (ci := 1) hinX1 (kat hk kD_37) rfl 4 (by decide) W_1_226 (fun _ _ h => h) rfl dX1_take_19 ?_
    refine ok_iload_n C 1 dX1_take_22 rfl rfl ?_
    refine ok_callVv C (As := [.int x1]) (rest := []) (q := 41) (ci := 0) (kat hk kD_41) rfl (c_X0_clearRow 41 960 bt_41 _ _ _ h) W_4_123 W_2_197 W_2_198 W_2_199 W_1_5 hd_X0_clearRow rfl ⟨Nat.le_of_ble_eq_true rfl, Nat.le_of_ble_eq_true rfl⟩ (Nat.le_of_ble_eq_true rfl) rfl dX1_take_23 (fun u5 h => ?_)
    refine ok_aload_n C 0 dX1_take_26 rfl rfl ?_
    refine ok_getR C (ci := 1) hinX1 (kat hk kD_37) rfl 5 (by decide) W_1_227 (fun _ _ h => h) rfl dX1_take_27 ?_
    refine ok_iload_n C 1 dX1_take_30 rfl rfl ?_
    refine ok_callVv C (As := [.int x1]) (rest := []) (q := 43) (ci := 0) (kat hk kD_43) rfl (c_X0_clearRow 43 960 bt_43 _ _ _ h) W_4_123 W_2_197 W_2_198 W_2_199 W_1_5 hd_X0_clearRow rfl ⟨Nat.le_of_ble_eq_true rfl, Nat.le_of_ble_eq_true rfl⟩ (Nat.le_of_ble_eq_true rfl) rfl dX1_take_31 (fun u7 h => ?_)
    refine ok_iconst C (v := 0) dX1_take_34 (by decide) ?_
    refine ok_istore_n C (L2 := [(2, .int 0), (0, .ref (Ω.2.2.1 37)), (1, .int x1)]) dX1_take_35 rfl (by decide) rfl ?_
    refine ok_sub [1, 2, 0] rfl ?_
    exact Eq.mp (gl36 _ _) h
  · have h := h2 c8
    exact ok_vret C rfl rfl dX1_take_12 h
