set_option maxRecDepth 100000 in
set_option maxHeartbeats 4000000 in
theorem m_J7_fill_53178 {l : Launch} {Ω : Wm} (hk : Hk Ω kD)  (hv : ∀ k : Nat, ∀ n : Nat, kD[k]? = some (0, n, []) → ∀ (x1 : Int32) (σ : Sg) (K : Sg → Prop), sp_J7_fill_53178 k n x1 σ K → vc_J7_fill_53178 k n x1 σ K) : CT_J7_fill_53178 l Ω := by
  intro k n hk0 x1 σ Po hsp
  have hvc := hv k n hk0 x1 σ Po hsp
  refine Ct.of (by decide +kernel) (Nat.le_of_ble_eq_true rfl) (fun Γ C => ?_)
  obtain ⟨L5, gl5⟩ : ∃ L : Int32 → Int32 → Sg → Prop, ∀ (x2 : Int32) (x3 : Int32) (σ : Sg), L x2 x3 σ = OK Γ Ω 4 5 [(0, .ref (Ω.2.2.1 k)), (1, .int x1), (2, .int x2), (3, .int x3)] [] σ := ⟨fun x2 x3 σ => OK Γ Ω 4 5 [(0, .ref (Ω.2.2.1 k)), (1, .int x1), (2, .int x2), (3, .int x3)] [] σ, fun _ _ _ => rfl⟩
  have R5 : ∀ (x2 : Int32) (x3 : Int32) (σ : Sg), f_J7_fill_53178_5 k n x1 L5 Po x2 x3 σ → L5 x2 x3 σ := by
    intro x2 x3 σ h
    unfold f_J7_fill_53178_5 at h
    refine Eq.mpr (gl5 _ _ _) ?_
    refine ok_iload_n C 2 dJ7_fill_53178_5 rfl rfl ?_
    refine ok_iload_n C 3 dJ7_fill_53178_6 rfl rfl ?_
    obtain ⟨h1, h2⟩ := h
    refine ok_icmp_ge C 20 dJ7_fill_53178_7 rfl (fun c2 => ?_) (fun c2 => ?_)
    · have h := h1 c2
      exact ok_vret C rfl rfl dJ7_fill_53178_20 h
    · have h := h2 c2
      refine ok_aload_n C 0 dJ7_fill_53178_10 rfl rfl ?_
      refine ok_iload_n C 2 dJ7_fill_53178_11 rfl rfl ?_
      refine ok_iload_n C 1 dJ7_fill_53178_12 rfl rfl ?_
      obtain ⟨g1, h⟩ := h
      refine ok_iast C (kat hk hk0) g1 dJ7_fill_53178_13 ?_
      refine ok_iinc C (v := x2 + 1) (L2 := [(2, .int (x2 + 1)), (0, .ref (Ω.2.2.1 k)), (1, .int x1), (3, .int x3)]) 2 dJ7_fill_53178_14 rfl rfl (by decide) rfl ?_
      refine ok_goto C 5 dJ7_fill_53178_17 rfl ?_
      refine ok_sub [1, 2, 0, 3] rfl ?_
      exact Eq.mp (gl5 _ _ _) h
  have h : f_J7_fill_53178_e k n x1 L5 Po σ := hvc L5 R5
  unfold f_J7_fill_53178_e at h
  refine ok_sub (L2 := [(0, .ref (Ω.2.2.1 k)), (1, .int x1)]) [0, 1] rfl ?_
  refine ok_iconst C (v := 0) dJ7_fill_53178_0 (by decide) ?_
  refine ok_istore_n C (L2 := [(2, .int 0), (0, .ref (Ω.2.2.1 k)), (1, .int x1)]) dJ7_fill_53178_1 rfl (by decide) rfl ?_
  refine ok_aload_n C 1 dJ7_fill_53178_2 rfl rfl ?_
  refine ok_alen C 0 (by decide) (kat hk hk0) dJ7_fill_53178_3 ?_
  refine ok_istore_n C (L2 := [(3, .int (nI n)), (2, .int 0), (0, .ref (Ω.2.2.1 k)), (1, .int x1)]) dJ7_fill_53178_4 rfl (by decide) rfl ?_
  refine ok_sub [2, 3, 1, 0] rfl ?_
  exact Eq.mp (gl5 _ _ _) h
set_option maxRecDepth 100000 in
set_option maxHeartbeats 4000000 in
theorem m_J7_rangeCheck_23922 {l : Launch} {Ω : Wm} (hk : Hk Ω kD)  (hv : ∀ (x0 : Int32) (x1 : Int32) (x2 : Int32) (σ : Sg) (K : Sg → Prop), sp_J7_rangeCheck_23922 x0 x1 x2 σ K → vc_J7_rangeCheck_23922 x0 x1 x2 σ K) : CT_J7_rangeCheck_23922 l Ω := by
  intro x0 x1 x2 σ Po hsp
  have hvc := hv x0 x1 x2 σ Po hsp
  refine Ct.of (by decide +kernel) (Nat.le_of_ble_eq_true rfl) (fun Γ C => ?_)
  have h : f_J7_rangeCheck_23922_e x0 x1 x2 Po σ := hvc  
  unfold f_J7_rangeCheck_23922_e at h
  refine ok_sub (L2 := [(0, .int x0), (1, .int x1), (2, .int x2)]) [0, 1, 2] rfl ?_
  refine ok_iload_n C 1 dJ7_rangeCheck_23922_0 rfl rfl ?_
  refine ok_iload_n C 2 dJ7_rangeCheck_23922_1 rfl rfl ?_
  obtain ⟨h1, h2⟩ := h
  refine ok_icmp_le C 46 dJ7_rangeCheck_23922_2 rfl (fun c3 => ?_) (fun c3 => ?_)
  · have h := h1 c3
    refine ok_iload_n C 1 dJ7_rangeCheck_23922_46 rfl rfl ?_
    obtain ⟨h1, h2⟩ := h
    refine ok_if_ge C 59 dJ7_rangeCheck_23922_47 rfl (fun c2 => ?_) (fun c2 => ?_)
    · have h := h1 c2
      refine ok_iload_n C 2 dJ7_rangeCheck_23922_59 rfl rfl ?_
      refine ok_iload_n C 0 dJ7_rangeCheck_23922_60 rfl rfl ?_
      obtain ⟨h1, h2⟩ := h
      refine ok_icmp_le C 73 dJ7_rangeCheck_23922_61 rfl (fun c1 => ?_) (fun c1 => ?_)
      · have h := h1 c1
        exact ok_vret C rfl rfl dJ7_rangeCheck_23922_73 h
      · have h := h2 c1
        exact h.elim
    · have h := h2 c2
      exact h.elim
  · have h := h2 c3
    exact h.elim
set_option maxRecDepth 100000 in
set_option maxHeartbeats 4000000 in
theorem m_J7_fill_fda19 {l : Launch} {Ω : Wm} (hk : Hk Ω kD) (c_J7_rangeCheck_23922 : CT_J7_rangeCheck_23922 l Ω) (hv : ∀ k : Nat, ∀ n : Nat, kD[k]? = some (0, n, []) → ∀ (x1 : Int32) (x2 : Int32) (x3 : Int32) (σ : Sg) (K : Sg → Prop), sp_J7_fill_fda19 k n x1 x2 x3 σ K → vc_J7_fill_fda19 k n x1 x2 x3 σ K) : CT_J7_fill_fda19 l Ω := by
  intro k n hk0 x1 x2 x3 σ Po hsp
  have hvc := hv k n hk0 x1 x2 x3 σ Po hsp
  refine Ct.of (by decide +kernel) (Nat.le_of_ble_eq_true rfl) (fun Γ C => ?_)
  obtain ⟨L10, gl10⟩ : ∃ L : Int32 → Sg → Prop, ∀ (x4 : Int32) (σ : Sg), L x4 σ = OK Γ Ω 5 10 [(0, .ref (Ω.2.2.1 k)), (2, .int x2), (3, .int x3), (4, .int x4)] [] σ := ⟨fun x4 σ => OK Γ Ω 5 10 [(0, .ref (Ω.2.2.1 k)), (2, .int x2), (3, .int x3), (4, .int x4)] [] σ, fun _ _ => rfl⟩
  have R10 : ∀ (x4 : Int32) (σ : Sg), f_J7_fill_fda19_10 k n x1 x2 x3 L10 Po x4 σ → L10 x4 σ := by
    intro x4 σ h
    unfold f_J7_fill_fda19_10 at h
    refine Eq.mpr (gl10 _ _) ?_
    refine ok_iload C 3 dJ7_fill_fda19_10 rfl ?_
    refine ok_iload_n C 1 dJ7_fill_fda19_12 rfl rfl ?_
    obtain ⟨h1, h2⟩ := h
    refine ok_icmp_ge C 27 dJ7_fill_fda19_13 rfl (fun c4 => ?_) (fun c4 => ?_)
    · have h := h1 c4
      exact ok_vret C rfl rfl dJ7_fill_fda19_27 h
    · have h := h2 c4
      refine ok_aload_n C 0 dJ7_fill_fda19_16 rfl rfl ?_
      refine ok_iload C 3 dJ7_fill_fda19_17 rfl ?_
      refine ok_iload_n C 2 dJ7_fill_fda19_19 rfl rfl ?_
      obtain ⟨g3, h⟩ := h
      refine ok_iast C (kat hk hk0) g3 dJ7_fill_fda19_20 ?_
      refine ok_iinc C (v := x4 + 1) (L2 := [(4, .int (x4 + 1)), (0, .ref (Ω.2.2.1 k)), (2, .int x2), (3, .int x3)]) 3 dJ7_fill_fda19_21 rfl rfl (by decide) rfl ?_
      refine ok_goto C 10 dJ7_fill_fda19_24 rfl ?_
      refine ok_sub [1, 2, 3, 0] rfl ?_
      exact Eq.mp (gl10 _ _) h
  have h : f_J7_fill_fda19_e k n x1 x2 x3 L10 Po σ := hvc L10 R10
  unfold f_J7_fill_fda19_e at h
  refine ok_sub (L2 := [(0, .ref (Ω.2.2.1 k)), (1, .int x1), (2, .int x2), (3, .int x3)]) [0, 1, 2, 3] rfl ?_
  refine ok_aload_n C 0 dJ7_fill_fda19_0 rfl rfl ?_
  refine ok_alen C 0 (by decide) (kat hk hk0) dJ7_fill_fda19_1 ?_
  refine ok_iload_n C 1 dJ7_fill_fda19_2 rfl rfl ?_
  refine ok_iload_n C 2 dJ7_fill_fda19_3 rfl rfl ?_
  refine ok_callSv C (As := [.int (nI n), .int x1, .int x2]) (rest := []) (c_J7_rangeCheck_23922  _ _ _ _ _ h) W_2_203 W_2_204 W_2_205 W_1_9 hd_J7_rangeCheck_23922 rfl ⟨Nat.le_of_ble_eq_true rfl, Nat.le_of_ble_eq_true rfl⟩ (Nat.le_of_ble_eq_true rfl) rfl dJ7_fill_fda19_4 (fun u2 h => ?_)
  refine ok_iload_n C 1 dJ7_fill_fda19_7 rfl rfl ?_
  refine ok_istore C (L2 := [(4, .int x1), (0, .ref (Ω.2.2.1 k)), (1, .int x1), (2, .int x2), (3, .int x3)]) dJ7_fill_fda19_8 (by decide) rfl ?_
  refine ok_sub [1, 3, 4, 0] rfl ?_
  exact Eq.mp (gl10 _ _) h
set_option maxRecDepth 100000 in
set_option maxHeartbeats 4000000 in
theorem m_J7_fill_bad5a {l : Launch} {Ω : Wm} (hk : Hk Ω kD) (c_J7_rangeCheck_23922 : CT_J7_rangeCheck_23922 l Ω) (hv : ∀ k : Nat, ∀ n : Nat, kD[k]? = some (1, n, []) → ∀ (x1 : Int32) (x2 : Int32) (x3 : Int64) (σ : Sg) (K : Sg → Prop), sp_J7_fill_bad5a k n x1 x2 x3 σ K → vc_J7_fill_bad5a k n x1 x2 x3 σ K) : CT_J7_fill_bad5a l Ω := by
  intro k n hk0 x1 x2 x3 σ Po hsp
  have hvc := hv k n hk0 x1 x2 x3 σ Po hsp
  refine Ct.of (by decide +kernel) (Nat.le_of_ble_eq_true rfl) (fun Γ C => ?_)
  obtain ⟨L10, gl10⟩ : ∃ L : Int32 → Sg → Prop, ∀ (x5 : Int32) (σ : Sg), L x5 σ = OK Γ Ω 6 10 [(0, .ref (Ω.2.2.1 k)), (2, .int x2), (3, .long x3), (5, .int x5)] [] σ := ⟨fun x5 σ => OK Γ Ω 6 10 [(0, .ref (Ω.2.2.1 k)), (2, .int x2), (3, .long x3), (5, .int x5)] [] σ, fun _ _ => rfl⟩
  have R10 : ∀ (x5 : Int32) (σ : Sg), f_J7_fill_bad5a_10 k n x1 x2 x3 L10 Po x5 σ → L10 x5 σ := by
    intro x5 σ h
    unfold f_J7_fill_bad5a_10 at h
    refine Eq.mpr (gl10 _ _) ?_
    refine ok_iload C 3 dJ7_fill_bad5a_10 rfl ?_
    refine ok_iload_n C 1 dJ7_fill_bad5a_12 rfl rfl ?_
    obtain ⟨h1, h2⟩ := h
    refine ok_icmp_ge C 27 dJ7_fill_bad5a_13 rfl (fun c4 => ?_) (fun c4 => ?_)
    · have h := h1 c4
      exact ok_vret C rfl rfl dJ7_fill_bad5a_27 h
    · have h := h2 c4
      refine ok_aload_n C 0 dJ7_fill_bad5a_16 rfl rfl ?_
      refine ok_iload C 3 dJ7_fill_bad5a_17 rfl ?_
      refine ok_lload_n C 2 dJ7_fill_bad5a_19 rfl rfl ?_
      obtain ⟨g3, h⟩ := h
      refine ok_last C (kat hk hk0) g3 dJ7_fill_bad5a_20 ?_
      refine ok_iinc C (v := x5 + 1) (L2 := [(5, .int (x5 + 1)), (0, .ref (Ω.2.2.1 k)), (2, .int x2), (3, .long x3)]) 3 dJ7_fill_bad5a_21 rfl rfl (by decide) rfl ?_
      refine ok_goto C 10 dJ7_fill_bad5a_24 rfl ?_
      refine ok_sub [1, 2, 3, 0] rfl ?_
      exact Eq.mp (gl10 _ _) h
  have h : f_J7_fill_bad5a_e k n x1 x2 x3 L10 Po σ := hvc L10 R10
  unfold f_J7_fill_bad5a_e at h
  refine ok_sub (L2 := [(0, .ref (Ω.2.2.1 k)), (1, .int x1), (2, .int x2), (3, .long x3)]) [0, 1, 2, 3] rfl ?_
  refine ok_aload_n C 0 dJ7_fill_bad5a_0 rfl rfl ?_
  refine ok_alen C 1 (by decide) (kat hk hk0) dJ7_fill_bad5a_1 ?_
  refine ok_iload_n C 1 dJ7_fill_bad5a_2 rfl rfl ?_
  refine ok_iload_n C 2 dJ7_fill_bad5a_3 rfl rfl ?_
  refine ok_callSv C (As := [.int (nI n), .int x1, .int x2]) (rest := []) (c_J7_rangeCheck_23922  _ _ _ _ _ h) W_2_203 W_2_204 W_2_205 W_1_9 hd_J7_rangeCheck_23922 rfl ⟨Nat.le_of_ble_eq_true rfl, Nat.le_of_ble_eq_true rfl⟩ (Nat.le_of_ble_eq_true rfl) rfl dJ7_fill_bad5a_4 (fun u2 h => ?_)
  refine ok_iload_n C 1 dJ7_fill_bad5a_7 rfl rfl ?_
  refine ok_istore C (L2 := [(5, .int x1), (0, .ref (Ω.2.2.1 k)), (1, .int x1), (2, .int x2), (3, .long x3)]) dJ7_fill_bad5a_8 (by decide) rfl ?_
  refine ok_sub [1, 3, 4, 0] rfl ?_
  exact Eq.mp (gl10 _ _) h
set_option maxRecDepth 100000 in
set_option maxHeartbeats 4000000 in
theorem m_J7_fill_d0a16 {l : Launch} {Ω : Wm} (hk : Hk Ω kD)  (hv : ∀ k : Nat, ∀ n : Nat, kD[k]? = some (1, n, []) → ∀ (x1 : Int64) (σ : Sg) (K : Sg → Prop), sp_J7_fill_d0a16 k n x1 σ K → vc_J7_fill_d0a16 k n x1 σ K) : CT_J7_fill_d0a16 l Ω := by
  intro k n hk0 x1 σ Po hsp
  have hvc := hv k n hk0 x1 σ Po hsp
  refine Ct.of (by decide +kernel) (Nat.le_of_ble_eq_true rfl) (fun Γ C => ?_)
  obtain ⟨L6, gl6⟩ : ∃ L : Int32 → Int32 → Sg → Prop, ∀ (x3 : Int32) (x4 : Int32) (σ : Sg), L x3 x4 σ = OK Γ Ω 5 6 [(0, .ref (Ω.2.2.1 k)), (1, .long x1), (3, .int x3), (4, .int x4)] [] σ := ⟨fun x3 x4 σ => OK Γ Ω 5 6 [(0, .ref (Ω.2.2.1 k)), (1, .long x1), (3, .int x3), (4, .int x4)] [] σ, fun _ _ _ => rfl⟩
  have R6 : ∀ (x3 : Int32) (x4 : Int32) (σ : Sg), f_J7_fill_d0a16_6 k n x1 L6 Po x3 x4 σ → L6 x3 x4 σ := by
    intro x3 x4 σ h
    unfold f_J7_fill_d0a16_6 at h
    refine Eq.mpr (gl6 _ _ _) ?_
    refine ok_iload_n C 2 dJ7_fill_d0a16_6 rfl rfl ?_
    refine ok_iload C 3 dJ7_fill_d0a16_7 rfl ?_
    obtain ⟨h1, h2⟩ := h
    refine ok_icmp_ge C 22 dJ7_fill_d0a16_9 rfl (fun c2 => ?_) (fun c2 => ?_)
    · have h := h1 c2
      exact ok_vret C rfl rfl dJ7_fill_d0a16_22 h
    · have h := h2 c2
      refine ok_aload_n C 0 dJ7_fill_d0a16_12 rfl rfl ?_
      refine ok_iload_n C 2 dJ7_fill_d0a16_13 rfl rfl ?_
      refine ok_lload_n C 1 dJ7_fill_d0a16_14 rfl rfl ?_
      obtain ⟨g1, h⟩ := h
      refine ok_last C (kat hk hk0) g1 dJ7_fill_d0a16_15 ?_
      refine ok_iinc C (v := x3 + 1) (L2 := [(3, .int (x3 + 1)), (0, .ref (Ω.2.2.1 k)), (1, .long x1), (4, .int x4)]) 2 dJ7_fill_d0a16_16 rfl rfl (by decide) rfl ?_
      refine ok_goto C 6 dJ7_fill_d0a16_19 rfl ?_
      refine ok_sub [1, 2, 0, 3] rfl ?_
      exact Eq.mp (gl6 _ _ _) h
  have h : f_J7_fill_d0a16_e k n x1 L6 Po σ := hvc L6 R6
  unfold f_J7_fill_d0a16_e at h
  refine ok_sub (L2 := [(0, .ref (Ω.2.2.1 k)), (1, .long x1)]) [0, 1] rfl ?_
  refine ok_iconst C (v := 0) dJ7_fill_d0a16_0 (by decide) ?_
  refine ok_istore_n C (L2 := [(3, .int 0), (0, .ref (Ω.2.2.1 k)), (1, .long x1)]) dJ7_fill_d0a16_1 rfl (by decide) rfl ?_
  refine ok_aload_n C 1 dJ7_fill_d0a16_2 rfl rfl ?_
  refine ok_alen C 1 (by decide) (kat hk hk0) dJ7_fill_d0a16_3 ?_
  refine ok_istore C (L2 := [(4, .int (nI n)), (3, .int 0), (0, .ref (Ω.2.2.1 k)), (1, .long x1)]) dJ7_fill_d0a16_4 (by decide) rfl ?_
  refine ok_sub [2, 3, 1, 0] rfl ?_
  exact Eq.mp (gl6 _ _ _) h
set_option maxRecDepth 100000 in
set_option maxHeartbeats 4000000 in
theorem m_J6_bitCount_0f7a4 {l : Launch} {Ω : Wm} (hk : Hk Ω kD)  (hv : ∀ (x0 : Int32) (σ : Sg) (K : Int32 → Sg → Prop), sp_J6_bitCount_0f7a4 x0 σ K → vc_J6_bitCount_0f7a4 x0 σ K) : CT_J6_bitCount_0f7a4 l Ω := by
  intro x0 σ Po hsp
  have hvc := hv x0 σ Po hsp
  refine Ct.of (by decide +kernel) (Nat.le_of_ble_eq_true rfl) (fun Γ C => ?_)
  have h : f_J6_bitCount_0f7a4_e Po x0 σ := hvc  
  unfold f_J6_bitCount_0f7a4_e at h
  refine ok_sub (L2 := [(0, .int x0)]) [0] rfl ?_
  refine ok_iload_n C 0 dJ6_bitCount_0f7a4_0 rfl rfl ?_
  refine ok_iload_n C 0 dJ6_bitCount_0f7a4_1 rfl rfl ?_
  refine ok_iconst C (v := 1) dJ6_bitCount_0f7a4_2 (by decide) ?_
  refine ok_iushr C dJ6_bitCount_0f7a4_3 ?_
  refine ok_ldcw C W_4_112 dJ6_bitCount_0f7a4_4 ?_
  refine ok_iand C dJ6_bitCount_0f7a4_7 ?_
  refine ok_isub C dJ6_bitCount_0f7a4_8 ?_
  refine ok_istore_n C (L2 := [(0, .int (x0 - ((iush x0 1) &&& 1431655765)))]) dJ6_bitCount_0f7a4_9 rfl (by decide) rfl ?_
  refine ok_iload_n C 0 dJ6_bitCount_0f7a4_10 rfl rfl ?_
  refine ok_ldcw C W_4_113 dJ6_bitCount_0f7a4_11 ?_
  refine ok_iand C dJ6_bitCount_0f7a4_14 ?_
  refine ok_iload_n C 0 dJ6_bitCount_0f7a4_15 rfl rfl ?_
  refine ok_iconst C (v := 2) dJ6_bitCount_0f7a4_16 (by decide) ?_
  refine ok_iushr C dJ6_bitCount_0f7a4_17 ?_
  refine ok_ldcw C W_4_113 dJ6_bitCount_0f7a4_18 ?_
  refine ok_iand C dJ6_bitCount_0f7a4_21 ?_
  refine ok_iadd C dJ6_bitCount_0f7a4_22 ?_
  refine ok_istore_n C (L2 := [(0, .int (((x0 - ((iush x0 1) &&& 1431655765)) &&& 858993459) + ((iush (x0 - ((iush x0 1) &&& 1431655765)) 2) &&& 858993459)))]) dJ6_bitCount_0f7a4_23 rfl (by decide) rfl ?_
  refine ok_iload_n C 0 dJ6_bitCount_0f7a4_24 rfl rfl ?_
  refine ok_iload_n C 0 dJ6_bitCount_0f7a4_25 rfl rfl ?_
  refine ok_iconst C (v := 4) dJ6_bitCount_0f7a4_26 (by decide) ?_
  refine ok_iushr C dJ6_bitCount_0f7a4_27 ?_
  refine ok_iadd C dJ6_bitCount_0f7a4_28 ?_
  refine ok_ldcw C W_4_114 dJ6_bitCount_0f7a4_29 ?_
  refine ok_iand C dJ6_bitCount_0f7a4_32 ?_
  refine ok_istore_n C (L2 := [(0, .int (((((x0 - ((iush x0 1) &&& 1431655765)) &&& 858993459) + ((iush (x0 - ((iush x0 1) &&& 1431655765)) 2) &&& 858993459)) + (iush (((x0 - ((iush x0 1) &&& 1431655765)) &&& 858993459) + ((iush (x0 - ((iush x0 1) &&& 1431655765)) 2) &&& 858993459)) 4)) &&& 252645135))]) dJ6_bitCount_0f7a4_33 rfl (by decide) rfl ?_
  refine ok_iload_n C 0 dJ6_bitCount_0f7a4_34 rfl rfl ?_
  refine ok_iload_n C 0 dJ6_bitCount_0f7a4_35 rfl rfl ?_
  refine ok_bipush C (v := 8) dJ6_bitCount_0f7a4_36 (by decide) ?_
  refine ok_iushr C dJ6_bitCount_0f7a4_38 ?_
  refine ok_iadd C dJ6_bitCount_0f7a4_39 ?_
  refine ok_istore_n C (L2 := [(0, .int ((((((x0 - ((iush x0 1) &&& 1431655765)) &&& 858993459) + ((iush (x0 - ((iush x0 1) &&& 1431655765)) 2) &&& 858993459)) + (iush (((x0 - ((iush x0 1) &&& 1431655765)) &&& 858993459) + ((iush (x0 - ((iush x0 1) &&& 1431655765)) 2) &&& 858993459)) 4)) &&& 252645135) + (iush (((((x0 - ((iush x0 1) &&& 1431655765)) &&& 858993459) + ((iush (x0 - ((iush x0 1) &&& 1431655765)) 2) &&& 858993459)) + (iush (((x0 - ((iush x0 1) &&& 1431655765)) &&& 858993459) + ((iush (x0 - ((iush x0 1) &&& 1431655765)) 2) &&& 858993459)) 4)) &&& 252645135) 8)))]) dJ6_bitCount_0f7a4_40 rfl (by decide) rfl ?_
  refine ok_iload_n C 0 dJ6_bitCount_0f7a4_41 rfl rfl ?_
  refine ok_iload_n C 0 dJ6_bitCount_0f7a4_42 rfl rfl ?_
  refine ok_bipush C (v := 16) dJ6_bitCount_0f7a4_43 (by decide) ?_
  refine ok_iushr C dJ6_bitCount_0f7a4_45 ?_
  refine ok_iadd C dJ6_bitCount_0f7a4_46 ?_
  refine ok_istore_n C (L2 := [(0, .int (((((((x0 - ((iush x0 1) &&& 1431655765)) &&& 858993459) + ((iush (x0 - ((iush x0 1) &&& 1431655765)) 2) &&& 858993459)) + (iush (((x0 - ((iush x0 1) &&& 1431655765)) &&& 858993459) + ((iush (x0 - ((iush x0 1) &&& 1431655765)) 2) &&& 858993459)) 4)) &&& 252645135) + (iush (((((x0 - ((iush x0 1) &&& 1431655765)) &&& 858993459) + ((iush (x0 - ((iush x0 1) &&& 1431655765)) 2) &&& 858993459)) + (iush (((x0 - ((iush x0 1) &&& 1431655765)) &&& 858993459) + ((iush (x0 - ((iush x0 1) &&& 1431655765)) 2) &&& 858993459)) 4)) &&& 252645135) 8)) + (iush ((((((x0 - ((iush x0 1) &&& 1431655765)) &&& 858993459) + ((iush (x0 - ((iush x0 1) &&& 1431655765)) 2) &&& 858993459)) + (iush (((x0 - ((iush x0 1) &&& 1431655765)) &&& 858993459) + ((iush (x0 - ((iush x0 1) &&& 1431655765)) 2) &&& 858993459)) 4)) &&& 252645135) + (iush (((((x0 - ((iush x0 1) &&& 1431655765)) &&& 858993459) + ((iush (x0 - ((iush x0 1) &&& 1431655765)) 2) &&& 858993459)) + (iush (((x0 - ((iush x0 1) &&& 1431655765)) &&& 858993459) + ((iush (x0 - ((iush x0 1) &&& 1431655765)) 2) &&& 858993459)) 4)) &&& 252645135) 8)) 16)))]) dJ6_bitCount_0f7a4_47 rfl (by decide) rfl ?_
  refine ok_iload_n C 0 dJ6_bitCount_0f7a4_48 rfl rfl ?_
  refine ok_bipush C (v := 63) dJ6_bitCount_0f7a4_49 (by decide) ?_
  refine ok_iand C dJ6_bitCount_0f7a4_51 ?_
  exact ok_iret C rfl rfl dJ6_bitCount_0f7a4_52 h
set_option maxRecDepth 100000 in
set_option maxHeartbeats 4000000 in
theorem m_J13_bitCount_95d88 {l : Launch} {Ω : Wm} (hk : Hk Ω kD)  (hv : ∀ (x0 : Int64) (σ : Sg) (K : Int32 → Sg → Prop), sp_J13_bitCount_95d88 x0 σ K → vc_J13_bitCount_95d88 x0 σ K) : CT_J13_bitCount_95d88 l Ω := by
  intro x0 σ Po hsp
  have hvc := hv x0 σ Po hsp
  refine Ct.of (by decide +kernel) (Nat.le_of_ble_eq_true rfl) (fun Γ C => ?_)
  have h : f_J13_bitCount_95d88_e Po x0 σ := hvc  
  unfold f_J13_bitCount_95d88_e at h
  refine ok_sub (L2 := [(0, .long x0)]) [0] rfl ?_
  refine ok_lload_n C 0 dJ13_bitCount_95d88_0 rfl rfl ?_
  refine ok_lload_n C 0 dJ13_bitCount_95d88_1 rfl rfl ?_
  refine ok_iconst C (v := 1) dJ13_bitCount_95d88_2 (by decide) ?_
  refine ok_lushr C dJ13_bitCount_95d88_3 ?_
  refine ok_ldc2 C W_4_141 dJ13_bitCount_95d88_4 ?_
  refine ok_land C dJ13_bitCount_95d88_7 ?_
  refine ok_lsub C dJ13_bitCount_95d88_8 ?_
  refine ok_lstore_n C (L2 := [(0, .long (x0 - ((lush x0 1) &&& 6148914691236517205)))]) dJ13_bitCount_95d88_9 rfl (by decide) rfl ?_
  refine ok_lload_n C 0 dJ13_bitCount_95d88_10 rfl rfl ?_
  refine ok_ldc2 C W_4_142 dJ13_bitCount_95d88_11 ?_
  refine ok_land C dJ13_bitCount_95d88_14 ?_
  refine ok_lload_n C 0 dJ13_bitCount_95d88_15 rfl rfl ?_
  refine ok_iconst C (v := 2) dJ13_bitCount_95d88_16 (by decide) ?_
  refine ok_lushr C dJ13_bitCount_95d88_17 ?_
  refine ok_ldc2 C W_4_142 dJ13_bitCount_95d88_18 ?_
  refine ok_land C dJ13_bitCount_95d88_21 ?_
  refine ok_ladd C dJ13_bitCount_95d88_22 ?_
  refine ok_lstore_n C (L2 := [(0, .long (((x0 - ((lush x0 1) &&& 6148914691236517205)) &&& 3689348814741910323) + ((lush (x0 - ((lush x0 1) &&& 6148914691236517205)) 2) &&& 3689348814741910323)))]) dJ13_bitCount_95d88_23 rfl (by decide) rfl ?_
  refine ok_lload_n C 0 dJ13_bitCount_95d88_24 rfl rfl ?_
  refine ok_lload_n C 0 dJ13_bitCount_95d88_25 rfl rfl ?_
  refine ok_iconst C (v := 4) dJ13_bitCount_95d88_26 (by decide) ?_
  refine ok_lushr C dJ13_bitCount_95d88_27 ?_
  refine ok_ladd C dJ13_bitCount_95d88_28 ?_
  refine ok_ldc2 C W_4_143 dJ13_bitCount_95d88_29 ?_
  refine ok_land C dJ13_bitCount_95d88_32 ?_
  refine ok_lstore_n C (L2 := [(0, .long (((((x0 - ((lush x0 1) &&& 6148914691236517205)) &&& 3689348814741910323) + ((lush (x0 - ((lush x0 1) &&& 6148914691236517205)) 2) &&& 3689348814741910323)) + (lush (((x0 - ((lush x0 1) &&& 6148914691236517205)) &&& 3689348814741910323) + ((lush (x0 - ((lush x0 1) &&& 6148914691236517205)) 2) &&& 3689348814741910323)) 4)) &&& 1085102592571150095))]) dJ13_bitCount_95d88_33 rfl (by decide) rfl ?_
  refine ok_lload_n C 0 dJ13_bitCount_95d88_34 rfl rfl ?_
  refine ok_lload_n C 0 dJ13_bitCount_95d88_35 rfl rfl ?_
  refine ok_bipush C (v := 8) dJ13_bitCount_95d88_36 (by decide) ?_
  refine ok_lushr C dJ13_bitCount_95d88_38 ?_
  refine ok_ladd C dJ13_bitCount_95d88_39 ?_
  refine ok_lstore_n C (L2 := [(0, .long ((((((x0 - ((lush x0 1) &&& 6148914691236517205)) &&& 3689348814741910323) + ((lush (x0 - ((lush x0 1) &&& 6148914691236517205)) 2) &&& 3689348814741910323)) + (lush (((x0 - ((lush x0 1) &&& 6148914691236517205)) &&& 3689348814741910323) + ((lush (x0 - ((lush x0 1) &&& 6148914691236517205)) 2) &&& 3689348814741910323)) 4)) &&& 1085102592571150095) + (lush (((((x0 - ((lush x0 1) &&& 6148914691236517205)) &&& 3689348814741910323) + ((lush (x0 - ((lush x0 1) &&& 6148914691236517205)) 2) &&& 3689348814741910323)) + (lush (((x0 - ((lush x0 1) &&& 6148914691236517205)) &&& 3689348814741910323) + ((lush (x0 - ((lush x0 1) &&& 6148914691236517205)) 2) &&& 3689348814741910323)) 4)) &&& 1085102592571150095) 8)))]) dJ13_bitCount_95d88_40 rfl (by decide) rfl ?_
  refine ok_lload_n C 0 dJ13_bitCount_95d88_41 rfl rfl ?_
  refine ok_lload_n C 0 dJ13_bitCount_95d88_42 rfl rfl ?_
  refine ok_bipush C (v := 16) dJ13_bitCount_95d88_43 (by decide) ?_
  refine ok_lushr C dJ13_bitCount_95d88_45 ?_
  refine ok_ladd C dJ13_bitCount_95d88_46 ?_
  refine ok_lstore_n C (L2 := [(0, .long (((((((x0 - ((lush x0 1) &&& 6148914691236517205)) &&& 3689348814741910323) + ((lush (x0 - ((lush x0 1) &&& 6148914691236517205)) 2) &&& 3689348814741910323)) + (lush (((x0 - ((lush x0 1) &&& 6148914691236517205)) &&& 3689348814741910323) + ((lush (x0 - ((lush x0 1) &&& 6148914691236517205)) 2) &&& 3689348814741910323)) 4)) &&& 1085102592571150095) + (lush (((((x0 - ((lush x0 1) &&& 6148914691236517205)) &&& 3689348814741910323) + ((lush (x0 - ((lush x0 1) &&& 6148914691236517205)) 2) &&& 3689348814741910323)) + (lush (((x0 - ((lush x0 1) &&& 6148914691236517205)) &&& 3689348814741910323) + ((lush (x0 - ((lush x0 1) &&& 6148914691236517205)) 2) &&& 3689348814741910323)) 4)) &&& 1085102592571150095) 8)) + (lush ((((((x0 - ((lush x0 1) &&& 6148914691236517205)) &&& 3689348814741910323) + ((lush (x0 - ((lush x0 1) &&& 6148914691236517205)) 2) &&& 3689348814741910323)) + (lush (((x0 - ((lush x0 1) &&& 6148914691236517205)) &&& 3689348814741910323) + ((lush (x0 - ((lush x0 1) &&& 6148914691236517205)) 2) &&& 3689348814741910323)) 4)) &&& 1085102592571150095) + (lush (((((x0 - ((lush x0 1) &&& 6148914691236517205)) &&& 3689348814741910323) + ((lush (x0 - ((lush x0 1) &&& 6148914691236517205)) 2) &&& 3689348814741910323)) + (lush (((x0 - ((lush x0 1) &&& 6148914691236517205)) &&& 3689348814741910323) + ((lush (x0 - ((lush x0 1) &&& 6148914691236517205)) 2) &&& 3689348814741910323)) 4)) &&& 1085102592571150095) 8)) 16)))]) dJ13_bitCount_95d88_47 rfl (by decide) rfl ?_
  refine ok_lload_n C 0 dJ13_bitCount_95d88_48 rfl rfl ?_
  refine ok_lload_n C 0 dJ13_bitCount_95d88_49 rfl rfl ?_
  refine ok_bipush C (v := 32) dJ13_bitCount_95d88_50 (by decide) ?_
  refine ok_lushr C dJ13_bitCount_95d88_52 ?_
  refine ok_ladd C dJ13_bitCount_95d88_53 ?_
  refine ok_lstore_n C (L2 := [(0, .long ((((((((x0 - ((lush x0 1) &&& 6148914691236517205)) &&& 3689348814741910323) + ((lush (x0 - ((lush x0 1) &&& 6148914691236517205)) 2) &&& 3689348814741910323)) + (lush (((x0 - ((lush x0 1) &&& 6148914691236517205)) &&& 3689348814741910323) + ((lush (x0 - ((lush x0 1) &&& 6148914691236517205)) 2) &&& 3689348814741910323)) 4)) &&& 1085102592571150095) + (lush (((((x0 - ((lush x0 1) &&& 6148914691236517205)) &&& 3689348814741910323) + ((lush (x0 - ((lush x0 1) &&& 6148914691236517205)) 2) &&& 3689348814741910323)) + (lush (((x0 - ((lush x0 1) &&& 6148914691236517205)) &&& 3689348814741910323) + ((lush (x0 - ((lush x0 1) &&& 6148914691236517205)) 2) &&& 3689348814741910323)) 4)) &&& 1085102592571150095) 8)) + (lush ((((((x0 - ((lush x0 1) &&& 6148914691236517205)) &&& 3689348814741910323) + ((lush (x0 - ((lush x0 1) &&& 6148914691236517205)) 2) &&& 3689348814741910323)) + (lush (((x0 - ((lush x0 1) &&& 6148914691236517205)) &&& 3689348814741910323) + ((lush (x0 - ((lush x0 1) &&& 6148914691236517205)) 2) &&& 3689348814741910323)) 4)) &&& 1085102592571150095) + (lush (((((x0 - ((lush x0 1) &&& 6148914691236517205)) &&& 3689348814741910323) + ((lush (x0 - ((lush x0 1) &&& 6148914691236517205)) 2) &&& 3689348814741910323)) + (lush (((x0 - ((lush x0 1) &&& 6148914691236517205)) &&& 3689348814741910323) + ((lush (x0 - ((lush x0 1) &&& 6148914691236517205)) 2) &&& 3689348814741910323)) 4)) &&& 1085102592571150095) 8)) 16)) + (lush (((((((x0 - ((lush x0 1) &&& 6148914691236517205)) &&& 3689348814741910323) + ((lush (x0 - ((lush x0 1) &&& 6148914691236517205)) 2) &&& 3689348814741910323)) + (lush (((x0 - ((lush x0 1) &&& 6148914691236517205)) &&& 3689348814741910323) + ((lush (x0 - ((lush x0 1) &&& 6148914691236517205)) 2) &&& 3689348814741910323)) 4)) &&& 1085102592571150095) + (lush (((((x0 - ((lush x0 1) &&& 6148914691236517205)) &&& 3689348814741910323) + ((lush (x0 - ((lush x0 1) &&& 6148914691236517205)) 2) &&& 3689348814741910323)) + (lush (((x0 - ((lush x0 1) &&& 6148914691236517205)) &&& 3689348814741910323) + ((lush (x0 - ((lush x0 1) &&& 6148914691236517205)) 2) &&& 3689348814741910323)) 4)) &&& 1085102592571150095) 8)) + (lush ((((((x0 - ((lush x0 1) &&& 6148914691236517205)) &&& 3689348814741910323) + ((lush (x0 - ((lush x0 1) &&& 6148914691236517205)) 2) &&& 3689348814741910323)) + (lush (((x0 - ((lush x0 1) &&& 6148914691236517205)) &&& 3689348814741910323) + ((lush (x0 - ((lush x0 1) &&& 6148914691236517205)) 2) &&& 3689348814741910323)) 4)) &&& 1085102592571150095) + (lush (((((x0 - ((lush x0 1) &&& 6148914691236517205)) &&& 3689348814741910323) + ((lush (x0 - ((lush x0 1) &&& 6148914691236517205)) 2) &&& 3689348814741910323)) + (lush (((x0 - ((lush x0 1) &&& 6148914691236517205)) &&& 3689348814741910323) + ((lush (x0 - ((lush x0 1) &&& 6148914691236517205)) 2) &&& 3689348814741910323)) 4)) &&& 1085102592571150095) 8)) 16)) 32)))]) dJ13_bitCount_95d88_54 rfl (by decide) rfl ?_
  refine ok_lload_n C 0 dJ13_bitCount_95d88_55 rfl rfl ?_
  refine ok_l2i C dJ13_bitCount_95d88_56 ?_
  refine ok_bipush C (v := 127) dJ13_bitCount_95d88_57 (by decide) ?_
  refine ok_iand C dJ13_bitCount_95d88_59 ?_
  exact ok_iret C rfl rfl dJ13_bitCount_95d88_60 h
set_option maxRecDepth 100000 in
set_option maxHeartbeats 4000000 in
theorem m_X0_clear {l : Launch} {Ω : Wm} (hk : Hk Ω kD) (c_J7_fill_d0a16 : CT_J7_fill_d0a16 l Ω) (hv : ∀ t : Nat, ∀ n : Nat, IsBT t n → ∀ (σ : Sg) (K : Sg → Prop), sp_X0_clear t n σ K → vc_X0_clear t n σ K) : CT_X0_clear l Ω := by
  intro t n hT σ Po hsp
  have hvc := hv t n hT σ Po hsp
  refine Ct.of (by decide +kernel) (Nat.le_of_ble_eq_true rfl) (fun Γ C => ?_)
  have h : f_X0_clear_e t n Po σ := hvc  
  unfold f_X0_clear_e at h
  refine ok_sub (L2 := [(0, .ref (Ω.2.2.1 t))]) [0] rfl ?_
  refine ok_aload_n C 0 dX0_clear_0 rfl rfl ?_
  refine ok_getR C (ci := 0) hinX0 (kat hk hT.1) rfl 1 (by decide) W_1_89 (fun _ _ h => h) rfl dX0_clear_1 ?_
  refine ok_lconst C (v := 0) dX0_clear_4 (by decide) ?_
  refine ok_callSv C (As := [.ref (Ω.2.2.1 (t + 1)), .long 0]) (rest := []) (c_J7_fill_d0a16 (t + 1) n hT.2 _ _ _ h) W_2_98 W_2_99 W_2_100 W_1_9 hd_J7_fill_d0a16 rfl ⟨Nat.le_of_ble_eq_true rfl, Nat.le_of_ble_eq_true rfl⟩ (Nat.le_of_ble_eq_true rfl) rfl dX0_clear_5 (fun u2 h => ?_)
  exact ok_vret C rfl rfl dX0_clear_8 h
set_option maxRecDepth 100000 in
set_option maxHeartbeats 4000000 in
theorem m_X0_clearRow {l : Launch} {Ω : Wm} (hk : Hk Ω kD) (c_J7_fill_bad5a : CT_J7_fill_bad5a l Ω) (hv : ∀ t : Nat, ∀ n : Nat, IsBT t n → ∀ (x1 : Int32) (σ : Sg) (K : Sg → Prop), sp_X0_clearRow t n x1 σ K → vc_X0_clearRow t n x1 σ K) : CT_X0_clearRow l Ω := by
  intro t n hT x1 σ Po hsp
  have hvc := hv t n hT x1 σ Po hsp
  refine Ct.of (by decide +kernel) (Nat.le_of_ble_eq_true rfl) (fun Γ C => ?_)
  have h : f_X0_clearRow_e t n x1 Po σ := hvc  
  unfold f_X0_clearRow_e at h
  refine ok_sub (L2 := [(0, .ref (Ω.2.2.1 t)), (1, .int x1)]) [0, 1] rfl ?_
  refine ok_aload_n C 0 dX0_clearRow_0 rfl rfl ?_
  refine ok_getR C (ci := 0) hinX0 (kat hk hT.1) rfl 1 (by decide) W_1_89 (fun _ _ h => h) rfl dX0_clearRow_1 ?_
  refine ok_iload_n C 1 dX0_clearRow_4 rfl rfl ?_
  refine ok_iconst C (v := 4) dX0_clearRow_5 (by decide) ?_
  refine ok_imul C dX0_clearRow_6 ?_
  refine ok_iload_n C 1 dX0_clearRow_7 rfl rfl ?_
  refine ok_iconst C (v := 1) dX0_clearRow_8 (by decide) ?_
  refine ok_iadd C dX0_clearRow_9 ?_
  refine ok_iconst C (v := 4) dX0_clearRow_10 (by decide) ?_
  refine ok_imul C dX0_clearRow_11 ?_
  refine ok_lconst C (v := 0) dX0_clearRow_12 (by decide) ?_
  refine ok_callSv C (As := [.ref (Ω.2.2.1 (t + 1)), .int (x1 * 4), .int ((x1 + 1) * 4), .long 0]) (rest := []) (c_J7_fill_bad5a (t + 1) n hT.2 _ _ _ _ _ h) W_2_200 W_2_201 W_2_202 W_1_9 hd_J7_fill_bad5a rfl ⟨Nat.le_of_ble_eq_true rfl, Nat.le_of_ble_eq_true rfl⟩ (Nat.le_of_ble_eq_true rfl) rfl dX0_clearRow_13 (fun u2 h => ?_)
  exact ok_vret C rfl rfl dX0_clearRow_16 h
set_option maxRecDepth 100000 in
set_option maxHeartbeats 4000000 in
theorem m_X0_has {l : Launch} {Ω : Wm} (hk : Hk Ω kD)  (hv : ∀ t : Nat, ∀ n : Nat, IsBT t n → ∀ (x1 : Int32) (x2 : Int32) (σ : Sg) (K : Int32 → Sg → Prop), sp_X0_has t n x1 x2 σ K → vc_X0_has t n x1 x2 σ K) : CT_X0_has l Ω := by
  intro t n hT x1 x2 σ Po hsp
  have hvc := hv t n hT x1 x2 σ Po hsp
  refine Ct.of (by decide +kernel) (Nat.le_of_ble_eq_true rfl) (fun Γ C => ?_)
  have J30 : ∀ (s0 : Int32) (σ : Sg), f_X0_has_30 t n x1 x2 Po s0 σ → OK Γ Ω 3 30 [] [.int s0] σ := by
    intro s0 σ h
    unfold f_X0_has_30 at h
    obtain ⟨z3, h⟩ := h
    exact ok_zret C rfl rfl (bz_n z3) dX0_has_30 h
  have h : f_X0_has_e t n x1 x2 Po σ := hvc  
  unfold f_X0_has_e at h
  refine ok_sub (L2 := [(0, .ref (Ω.2.2.1 t)), (1, .int x1), (2, .int x2)]) [0, 1, 2] rfl ?_
  refine ok_aload_n C 0 dX0_has_0 rfl rfl ?_
  refine ok_getR C (ci := 0) hinX0 (kat hk hT.1) rfl 1 (by decide) W_1_89 (fun _ _ h => h) rfl dX0_has_1 ?_
  refine ok_iload_n C 1 dX0_has_4 rfl rfl ?_
  refine ok_iconst C (v := 4) dX0_has_5 (by decide) ?_
  refine ok_imul C dX0_has_6 ?_
  refine ok_iload_n C 2 dX0_has_7 rfl rfl ?_
  refine ok_bipush C (v := 6) dX0_has_8 (by decide) ?_
  refine ok_ishr C dX0_has_10 ?_
  refine ok_iadd C dX0_has_11 ?_
  obtain ⟨g1, h⟩ := h
  refine ok_lald C (kat hk hT.2) g1 dX0_has_12 ?_
  refine ok_iload_n C 2 dX0_has_13 rfl rfl ?_
  refine ok_bipush C (v := 63) dX0_has_14 (by decide) ?_
  refine ok_iand C dX0_has_16 ?_
  refine ok_lushr C dX0_has_17 ?_
  refine ok_lconst C (v := 1) dX0_has_18 (by decide) ?_
  refine ok_land C dX0_has_19 ?_
  refine ok_lconst C (v := 0) dX0_has_20 (by decide) ?_
  refine ok_lcmp C dX0_has_21 ?_
  obtain ⟨h1, h2⟩ := h
  refine ok_if_eq C 29 dX0_has_22 rfl (fun c2 => ?_) (fun c2 => ?_)
  · have h := h1 c2
    refine ok_iconst C (v := 0) dX0_has_29 (by decide) ?_
    refine ok_sub [] rfl ?_
    exact J30 _ _ h
  · have h := h2 c2
    refine ok_iconst C (v := 1) dX0_has_25 (by decide) ?_
    refine ok_goto C 30 dX0_has_26 rfl ?_
    refine ok_sub [] rfl ?_
    exact J30 _ _ h
set_option maxRecDepth 100000 in
set_option maxHeartbeats 4000000 in
theorem m_X0_put {l : Launch} {Ω : Wm} (hk : Hk Ω kD)  (hv : ∀ t : Nat, ∀ n : Nat, IsBT t n → ∀ (x1 : Int32) (x2 : Int32) (σ : Sg) (K : Sg → Prop), sp_X0_put t n x1 x2 σ K → vc_X0_put t n x1 x2 σ K) : CT_X0_put l Ω := by
  intro t n hT x1 x2 σ Po hsp
  have hvc := hv t n hT x1 x2 σ Po hsp
  refine Ct.of (by decide +kernel) (Nat.le_of_ble_eq_true rfl) (fun Γ C => ?_)
  have h : f_X0_put_e t n x1 x2 Po σ := hvc  
  unfold f_X0_put_e at h
  refine ok_sub (L2 := [(0, .ref (Ω.2.2.1 t)), (1, .int x1), (2, .int x2)]) [0, 1, 2] rfl ?_
  refine ok_aload_n C 0 dX0_put_0 rfl rfl ?_
  refine ok_getR C (ci := 0) hinX0 (kat hk hT.1) rfl 1 (by decide) W_1_89 (fun _ _ h => h) rfl dX0_put_1 ?_
  refine ok_iload_n C 1 dX0_put_4 rfl rfl ?_
  refine ok_iconst C (v := 4) dX0_put_5 (by decide) ?_
  refine ok_imul C dX0_put_6 ?_
  refine ok_iload_n C 2 dX0_put_7 rfl rfl ?_
  refine ok_bipush C (v := 6) dX0_put_8 (by decide) ?_
  refine ok_ishr C dX0_put_10 ?_
  refine ok_iadd C dX0_put_11 ?_
  refine ok_dup2_11 C dX0_put_12 rfl rfl ?_
  obtain ⟨g1, h⟩ := h
  refine ok_lald C (kat hk hT.2) g1 dX0_put_13 ?_
  refine ok_lconst C (v := 1) dX0_put_14 (by decide) ?_
  refine ok_iload_n C 2 dX0_put_15 rfl rfl ?_
  refine ok_bipush C (v := 63) dX0_put_16 (by decide) ?_
  refine ok_iand C dX0_put_18 ?_
  refine ok_lshl C dX0_put_19 ?_
  refine ok_lor C dX0_put_20 ?_
  obtain ⟨g2, h⟩ := h
  refine ok_last C (kat hk hT.2) g2 dX0_put_21 ?_
  exact ok_vret C rfl rfl dX0_put_22 h
set_option maxRecDepth 100000 in
set_option maxHeartbeats 4000000 in
theorem m_X0_join {l : Launch} {Ω : Wm} (hk : Hk Ω kD)  (hv : ∀ t : Nat, ∀ n : Nat, ∀ t2 : Nat, ∀ n2 : Nat, IsBT t n → IsBT t2 n2 → ∀ (x1 : Int32) (x3 : Int32) (σ : Sg) (K : Sg → Prop), sp_X0_join t n t2 n2 x1 x3 σ K → vc_X0_join t n t2 n2 x1 x3 σ K) : CT_X0_join l Ω := by
  intro t n t2 n2 hT hT2 x1 x3 σ Po hsp
  have hvc := hv t n t2 n2 hT hT2 x1 x3 σ Po hsp
  refine Ct.of (by decide +kernel) (Nat.le_of_ble_eq_true rfl) (fun Γ C => ?_)
  obtain ⟨L3, gl3⟩ : ∃ L : Int32 → Sg → Prop, ∀ (x4 : Int32) (σ : Sg), L x4 σ = OK Γ Ω 5 3 [(0, .ref (Ω.2.2.1 t)), (1, .int x1), (2, .ref (Ω.2.2.1 t2)), (3, .int x3), (4, .int x4)] [] σ := ⟨fun x4 σ => OK Γ Ω 5 3 [(0, .ref (Ω.2.2.1 t)), (1, .int x1), (2, .ref (Ω.2.2.1 t2)), (3, .int x3), (4, .int x4)] [] σ, fun _ _ => rfl⟩
  have R3 : ∀ (x4 : Int32) (σ : Sg), f_X0_join_3 t n t2 n2 x1 x3 L3 Po x4 σ → L3 x4 σ := by
    intro x4 σ h
    unfold f_X0_join_3 at h
    refine Eq.mpr (gl3 _ _) ?_
    refine ok_iload C 4 dX0_join_3 rfl ?_
    refine ok_iconst C (v := 4) dX0_join_5 (by decide) ?_
    obtain ⟨h1, h2⟩ := h
    refine ok_icmp_ge C 40 dX0_join_6 rfl (fun c4 => ?_) (fun c4 => ?_)
    · have h := h1 c4
      exact ok_vret C rfl rfl dX0_join_40 h
    · have h := h2 c4
      refine ok_aload_n C 0 dX0_join_9 rfl rfl ?_
      refine ok_getR C (ci := 0) hinX0 (kat hk hT.1) rfl 1 (by decide) W_1_89 (fun _ _ h => h) rfl dX0_join_10 ?_
      refine ok_iload_n C 1 dX0_join_13 rfl rfl ?_
      refine ok_iconst C (v := 4) dX0_join_14 (by decide) ?_
      refine ok_imul C dX0_join_15 ?_
      refine ok_iload C 4 dX0_join_16 rfl ?_
      refine ok_iadd C dX0_join_18 ?_
      refine ok_dup2_11 C dX0_join_19 rfl rfl ?_
      obtain ⟨g1, h⟩ := h
      refine ok_lald C (kat hk hT.2) g1 dX0_join_20 ?_
      refine ok_aload_n C 2 dX0_join_21 rfl rfl ?_
      refine ok_getR C (ci := 0) hinX0 (kat hk hT2.1) rfl 1 (by decide) W_1_89 (fun _ _ h => h) rfl dX0_join_22 ?_
      refine ok_iload_n C 3 dX0_join_25 rfl rfl ?_
      refine ok_iconst C (v := 4) dX0_join_26 (by decide) ?_
      refine ok_imul C dX0_join_27 ?_
      refine ok_iload C 4 dX0_join_28 rfl ?_
      refine ok_iadd C dX0_join_30 ?_
      obtain ⟨g2, h⟩ := h
      refine ok_lald C (kat hk hT2.2) g2 dX0_join_31 ?_
      refine ok_lor C dX0_join_32 ?_
      obtain ⟨g3, h⟩ := h
      refine ok_last C (kat hk hT.2) g3 dX0_join_33 ?_
      refine ok_iinc C (v := x4 + 1) (L2 := [(4, .int (x4 + 1)), (0, .ref (Ω.2.2.1 t)), (1, .int x1), (2, .ref (Ω.2.2.1 t2)), (3, .int x3)]) 4 dX0_join_34 rfl rfl (by decide) rfl ?_
      refine ok_goto C 3 dX0_join_37 rfl ?_
      refine ok_sub [1, 2, 3, 4, 0] rfl ?_
      exact Eq.mp (gl3 _ _) h
  have h : f_X0_join_e t n t2 n2 x1 x3 L3 Po σ := hvc L3 R3
  unfold f_X0_join_e at h
  refine ok_sub (L2 := [(0, .ref (Ω.2.2.1 t)), (1, .int x1), (2, .ref (Ω.2.2.1 t2)), (3, .int x3)]) [0, 1, 2, 3] rfl ?_
  refine ok_iconst C (v := 0) dX0_join_0 (by decide) ?_
  refine ok_istore C (L2 := [(4, .int 0), (0, .ref (Ω.2.2.1 t)), (1, .int x1), (2, .ref (Ω.2.2.1 t2)), (3, .int x3)]) dX0_join_1 (by decide) rfl ?_
  refine ok_sub [1, 2, 3, 4, 0] rfl ?_
  exact Eq.mp (gl3 _ _) h
set_option maxRecDepth 100000 in
set_option maxHeartbeats 4000000 in
theorem m_X0_sizeInCommon {l : Launch} {Ω : Wm} (hk : Hk Ω kD) (c_J13_bitCount_95d88 : CT_J13_bitCount_95d88 l Ω) (hv : ∀ t : Nat, ∀ n : Nat, ∀ t2 : Nat, ∀ n2 : Nat, IsBT t n → IsBT t2 n2 → ∀ (x1 : Int32) (x3 : Int32) (σ : Sg) (K : Int32 → Sg → Prop), sp_X0_sizeInCommon t n t2 n2 x1 x3 σ K → vc_X0_sizeInCommon t n t2 n2 x1 x3 σ K) : CT_X0_sizeInCommon l Ω := by
  intro t n t2 n2 hT hT2 x1 x3 σ Po hsp
  have hvc := hv t n t2 n2 hT hT2 x1 x3 σ Po hsp
  refine Ct.of (by decide +kernel) (Nat.le_of_ble_eq_true rfl) (fun Γ C => ?_)
  obtain ⟨L6, gl6⟩ : ∃ L : Int32 → Int32 → Sg → Prop, ∀ (x4 : Int32) (x5 : Int32) (σ : Sg), L x4 x5 σ = OK Γ Ω 6 6 [(0, .ref (Ω.2.2.1 t)), (1, .int x1), (2, .ref (Ω.2.2.1 t2)), (3, .int x3), (4, .int x4), (5, .int x5)] [] σ := ⟨fun x4 x5 σ => OK Γ Ω 6 6 [(0, .ref (Ω.2.2.1 t)), (1, .int x1), (2, .ref (Ω.2.2.1 t2)), (3, .int x3), (4, .int x4), (5, .int x5)] [] σ, fun _ _ _ => rfl⟩
  have R6 : ∀ (x4 : Int32) (x5 : Int32) (σ : Sg), f_X0_sizeInCommon_6 t n t2 n2 x1 x3 L6 Po x4 x5 σ → L6 x4 x5 σ := by
    intro x4 x5 σ h
    unfold f_X0_sizeInCommon_6 at h
    refine Eq.mpr (gl6 _ _ _) ?_
    refine ok_iload C 5 dX0_sizeInCommon_6 rfl ?_
    refine ok_iconst C (v := 4) dX0_sizeInCommon_8 (by decide) ?_
    obtain ⟨h1, h2⟩ := h
    refine ok_icmp_ge C 49 dX0_sizeInCommon_9 rfl (fun c5 => ?_) (fun c5 => ?_)
    · have h := h1 c5
      refine ok_iload C 4 dX0_sizeInCommon_49 rfl ?_
      exact ok_iret C rfl rfl dX0_sizeInCommon_51 h
    · have h := h2 c5
      refine ok_iload C 4 dX0_sizeInCommon_12 rfl ?_
      refine ok_aload_n C 0 dX0_sizeInCommon_14 rfl rfl ?_
      refine ok_getR C (ci := 0) hinX0 (kat hk hT.1) rfl 1 (by decide) W_1_89 (fun _ _ h => h) rfl dX0_sizeInCommon_15 ?_
      refine ok_iload_n C 1 dX0_sizeInCommon_18 rfl rfl ?_
      refine ok_iconst C (v := 4) dX0_sizeInCommon_19 (by decide) ?_
      refine ok_imul C dX0_sizeInCommon_20 ?_
      refine ok_iload C 5 dX0_sizeInCommon_21 rfl ?_
      refine ok_iadd C dX0_sizeInCommon_23 ?_
      obtain ⟨g1, h⟩ := h
      refine ok_lald C (kat hk hT.2) g1 dX0_sizeInCommon_24 ?_
      refine ok_aload_n C 2 dX0_sizeInCommon_25 rfl rfl ?_
      refine ok_getR C (ci := 0) hinX0 (kat hk hT2.1) rfl 1 (by decide) W_1_89 (fun _ _ h => h) rfl dX0_sizeInCommon_26 ?_
      refine ok_iload_n C 3 dX0_sizeInCommon_29 rfl rfl ?_
      refine ok_iconst C (v := 4) dX0_sizeInCommon_30 (by decide) ?_
      refine ok_imul C dX0_sizeInCommon_31 ?_
      refine ok_iload C 5 dX0_sizeInCommon_32 rfl ?_
      refine ok_iadd C dX0_sizeInCommon_34 ?_
      obtain ⟨g2, h⟩ := h
      refine ok_lald C (kat hk hT2.2) g2 dX0_sizeInCommon_35 ?_
      refine ok_land C dX0_sizeInCommon_36 ?_
      refine ok_callSi C (As := [.long ((σ.2 (t + 1) ((x1 * 4) + x5).toNatClampNeg) &&& (σ.2 (t2 + 1) ((x3 * 4) + x5).toNatClampNeg))]) (rest := [.int x4]) (c_J13_bitCount_95d88  _ _ _ h) W_4_138 W_4_139 W_4_140 W_1_27 hd_J13_bitCount_95d88 rfl ⟨Nat.le_of_ble_eq_true rfl, Nat.le_of_ble_eq_true rfl⟩ (Nat.le_of_ble_eq_true rfl) rfl dX0_sizeInCommon_37 (fun r3 u4 h => ?_)
      refine ok_iadd C dX0_sizeInCommon_40 ?_
      refine ok_istore C (L2 := [(4, .int (x4 + r3)), (0, .ref (Ω.2.2.1 t)), (1, .int x1), (2, .ref (Ω.2.2.1 t2)), (3, .int x3), (5, .int x5)]) dX0_sizeInCommon_41 (by decide) rfl ?_
      refine ok_iinc C (v := x5 + 1) (L2 := [(5, .int (x5 + 1)), (4, .int (x4 + r3)), (0, .ref (Ω.2.2.1 t)), (1, .int x1), (2, .ref (Ω.2.2.1 t2)), (3, .int x3)]) 5 dX0_sizeInCommon_43 rfl rfl (by decide) rfl ?_
      refine ok_goto C 6 dX0_sizeInCommon_46 rfl ?_
      refine ok_sub [2, 3, 4, 5, 1, 0] rfl ?_
      exact Eq.mp (gl6 _ _ _) h
  have h : f_X0_sizeInCommon_e t n t2 n2 x1 x3 L6 Po σ := hvc L6 R6
  unfold f_X0_sizeInCommon_e at h
  refine ok_sub (L2 := [(0, .ref (Ω.2.2.1 t)), (1, .int x1), (2, .ref (Ω.2.2.1 t2)), (3, .int x3)]) [0, 1, 2, 3] rfl ?_
  refine ok_iconst C (v := 0) dX0_sizeInCommon_0 (by decide) ?_
  refine ok_istore C (L2 := [(4, .int 0), (0, .ref (Ω.2.2.1 t)), (1, .int x1), (2, .ref (Ω.2.2.1 t2)), (3, .int x3)]) dX0_sizeInCommon_1 (by decide) rfl ?_
  refine ok_iconst C (v := 0) dX0_sizeInCommon_3 (by decide) ?_
  refine ok_istore C (L2 := [(5, .int 0), (4, .int 0), (0, .ref (Ω.2.2.1 t)), (1, .int x1), (2, .ref (Ω.2.2.1 t2)), (3, .int x3)]) dX0_sizeInCommon_4 (by decide) rfl ?_
  refine ok_sub [2, 3, 4, 5, 1, 0] rfl ?_
  exact Eq.mp (gl6 _ _ _) h
set_option maxRecDepth 100000 in
set_option maxHeartbeats 4000000 in
theorem m_X0_size {l : Launch} {Ω : Wm} (hk : Hk Ω kD) (c_X0_sizeInCommon : CT_X0_sizeInCommon l Ω) (hv : ∀ t : Nat, ∀ n : Nat, IsBT t n → ∀ (x1 : Int32) (σ : Sg) (K : Int32 → Sg → Prop), sp_X0_size t n x1 σ K → vc_X0_size t n x1 σ K) : CT_X0_size l Ω := by
  intro t n hT x1 σ Po hsp
  have hvc := hv t n hT x1 σ Po hsp
  refine Ct.of (by decide +kernel) (Nat.le_of_ble_eq_true rfl) (fun Γ C => ?_)
  have h : f_X0_size_e t n x1 Po σ := hvc  
  unfold f_X0_size_e at h
  refine ok_sub (L2 := [(0, .ref (Ω.2.2.1 t)), (1, .int x1)]) [0, 1] rfl ?_
  refine ok_aload_n C 0 dX0_size_0 rfl rfl ?_
  refine ok_iload_n C 1 dX0_size_1 rfl rfl ?_
  refine ok_aload_n C 0 dX0_size_2 rfl rfl ?_
  refine ok_iload_n C 1 dX0_size_3 rfl rfl ?_
  refine ok_callVi C (As := [.int x1, .ref (Ω.2.2.1 t), .int x1]) (rest := []) (q := t) (ci := 0) (kat hk hT.1) rfl (c_X0_sizeInCommon t n t n hT hT _ _ _ _ h) W_4_148 W_4_135 W_4_136 W_4_137 W_1_5 hd_X0_sizeInCommon rfl ⟨Nat.le_of_ble_eq_true rfl, Nat.le_of_ble_eq_true rfl⟩ (Nat.le_of_ble_eq_true rfl) rfl dX0_size_4 (fun r1 u2 h => ?_)
  exact ok_iret C rfl rfl dX0_size_7 h
set_option maxRecDepth 100000 in
set_option maxHeartbeats 4000000 in
theorem m_X0_rowsWith {l : Launch} {Ω : Wm} (hk : Hk Ω kD) (c_X0_has : CT_X0_has l Ω) (hv : ∀ t : Nat, ∀ n : Nat, IsBT t n → ∀ (x1 : Int32) (σ : Sg) (K : Int32 → Sg → Prop), sp_X0_rowsWith t n x1 σ K → vc_X0_rowsWith t n x1 σ K) : CT_X0_rowsWith l Ω := by
  intro t n hT x1 σ Po hsp
  have hvc := hv t n hT x1 σ Po hsp
  refine Ct.of (by decide +kernel) (Nat.le_of_ble_eq_true rfl) (fun Γ C => ?_)
  obtain ⟨L4, gl4⟩ : ∃ L : Int32 → Int32 → Sg → Prop, ∀ (x2 : Int32) (x3 : Int32) (σ : Sg), L x2 x3 σ = OK Γ Ω 4 4 [(0, .ref (Ω.2.2.1 t)), (1, .int x1), (2, .int x2), (3, .int x3)] [] σ := ⟨fun x2 x3 σ => OK Γ Ω 4 4 [(0, .ref (Ω.2.2.1 t)), (1, .int x1), (2, .int x2), (3, .int x3)] [] σ, fun _ _ _ => rfl⟩
  have J27 : ∀ (x3 : Int32) (s0 : Int32) (s1 : Int32) (σ : Sg), f_X0_rowsWith_27 t n x1 L4 Po x3 s0 s1 σ → OK Γ Ω 4 27 [(0, .ref (Ω.2.2.1 t)), (1, .int x1), (3, .int x3)] [.int s0, .int s1] σ := by
    intro x3 s0 s1 σ h
    unfold f_X0_rowsWith_27 at h
    refine ok_iadd C dX0_rowsWith_27 ?_
    refine ok_istore_n C (L2 := [(2, .int (s1 + s0)), (0, .ref (Ω.2.2.1 t)), (1, .int x1), (3, .int x3)]) dX0_rowsWith_28 rfl (by decide) rfl ?_
    refine ok_iinc C (v := x3 + 1) (L2 := [(3, .int (x3 + 1)), (2, .int (s1 + s0)), (0, .ref (Ω.2.2.1 t)), (1, .int x1)]) 3 dX0_rowsWith_29 rfl rfl (by decide) rfl ?_
    refine ok_goto C 4 dX0_rowsWith_32 rfl ?_
    refine ok_sub [2, 3, 1, 0] rfl ?_
    exact Eq.mp (gl4 _ _ _) h
  have R4 : ∀ (x2 : Int32) (x3 : Int32) (σ : Sg), f_X0_rowsWith_4 t n x1 L4 Po x2 x3 σ → L4 x2 x3 σ := by
    intro x2 x3 σ h
    unfold f_X0_rowsWith_4 at h
    refine Eq.mpr (gl4 _ _ _) ?_
    refine ok_iload_n C 3 dX0_rowsWith_4 rfl rfl ?_
    refine ok_aload_n C 0 dX0_rowsWith_5 rfl rfl ?_
    refine ok_getI C (ci := 0) hinX0 (kat hk hT.1) rfl 0 (by decide) W_1_88 (fun _ _ h => h) rfl dX0_rowsWith_6 ?_
    obtain ⟨h1, h2⟩ := h
    refine ok_icmp_ge C 35 dX0_rowsWith_9 rfl (fun c4 => ?_) (fun c4 => ?_)
    · have h := h1 c4
      refine ok_iload_n C 2 dX0_rowsWith_35 rfl rfl ?_
      exact ok_iret C rfl rfl dX0_rowsWith_36 h
    · have h := h2 c4
      refine ok_iload_n C 2 dX0_rowsWith_12 rfl rfl ?_
      refine ok_aload_n C 0 dX0_rowsWith_13 rfl rfl ?_
      refine ok_iload_n C 3 dX0_rowsWith_14 rfl rfl ?_
      refine ok_iload_n C 1 dX0_rowsWith_15 rfl rfl ?_
      refine ok_callVi C (As := [.int x3, .int x1]) (rest := [.int x2]) (q := t) (ci := 0) (kat hk hT.1) rfl (c_X0_has t n hT _ _ _ _ h) W_4_97 W_4_80 W_4_81 W_4_82 W_1_5 hd_X0_has rfl ⟨Nat.le_of_ble_eq_true rfl, Nat.le_of_ble_eq_true rfl⟩ (Nat.le_of_ble_eq_true rfl) rfl dX0_rowsWith_16 (fun r1 u2 h => ?_)
      obtain ⟨h1, h2⟩ := h
      refine ok_if_eq C 26 dX0_rowsWith_19 rfl (fun c3 => ?_) (fun c3 => ?_)
      · have h := h1 c3
        refine ok_iconst C (v := 0) dX0_rowsWith_26 (by decide) ?_
        refine ok_sub [0, 1, 3] rfl ?_
        exact J27 _ _ _ _ h
      · have h := h2 c3
        refine ok_iconst C (v := 1) dX0_rowsWith_22 (by decide) ?_
        refine ok_goto C 27 dX0_rowsWith_23 rfl ?_
        refine ok_sub [0, 1, 3] rfl ?_
        exact J27 _ _ _ _ h
  have h : f_X0_rowsWith_e t n x1 L4 Po σ := hvc L4 R4
  unfold f_X0_rowsWith_e at h
  refine ok_sub (L2 := [(0, .ref (Ω.2.2.1 t)), (1, .int x1)]) [0, 1] rfl ?_
  refine ok_iconst C (v := 0) dX0_rowsWith_0 (by decide) ?_
  refine ok_istore_n C (L2 := [(2, .int 0), (0, .ref (Ω.2.2.1 t)), (1, .int x1)]) dX0_rowsWith_1 rfl (by decide) rfl ?_
  refine ok_iconst C (v := 0) dX0_rowsWith_2 (by decide) ?_
  refine ok_istore_n C (L2 := [(3, .int 0), (2, .int 0), (0, .ref (Ω.2.2.1 t)), (1, .int x1)]) dX0_rowsWith_3 rfl (by decide) rfl ?_
  refine ok_sub [2, 3, 1, 0] rfl ?_
  exact Eq.mp (gl4 _ _ _) h
