set_option maxRecDepth 100000 in
set_option maxHeartbeats 4000000 in
theorem m_X8_receive {l : Launch} {Ω : Wm} (hk : Hk Ω kM) (c_X8_comesBefore : CT_X8_comesBefore l Ω) (c_X8_isUnique : CT_X8_isUnique l Ω) (hv : ∀ (x1 : Int32) (x2 : Int32) (σ : Sg) (K : Sg → Prop), sp_X8_receive x1 x2 σ K → vc_X8_receive x1 x2 σ K) : CT_X8_receive l Ω := by
  intro x1 x2 σ Po hsp
  have hvc := hv x1 x2 σ Po hsp
  refine Ct.of (by decide +kernel) (Nat.le_of_ble_eq_true rfl) (fun Γ C => ?_)
  obtain ⟨L8, gl8⟩ : ∃ L : Int32 → Int32 → Sg → Prop, ∀ (x3 : Int32) (x4 : Int32) (σ : Sg), L x3 x4 σ = OK Γ Ω 10 8 [(0, .ref (Ω.2.2.1 0)), (1, .int x1), (2, .int x2), (3, .int x3), (4, .int x4)] [] σ := ⟨fun x3 x4 σ => OK Γ Ω 10 8 [(0, .ref (Ω.2.2.1 0)), (1, .int x1), (2, .int x2), (3, .int x3), (4, .int x4)] [] σ, fun _ _ _ => rfl⟩
  obtain ⟨L32, gl32⟩ : ∃ L : Int32 → Int32 → Sg → Prop, ∀ (x3 : Int32) (x4 : Int32) (σ : Sg), L x3 x4 σ = OK Γ Ω 10 32 [(0, .ref (Ω.2.2.1 0)), (1, .int x1), (2, .int x2), (3, .int x3), (4, .int x4)] [] σ := ⟨fun x3 x4 σ => OK Γ Ω 10 32 [(0, .ref (Ω.2.2.1 0)), (1, .int x1), (2, .int x2), (3, .int x3), (4, .int x4)] [] σ, fun _ _ _ => rfl⟩
  obtain ⟨L54, gl54⟩ : ∃ L : Int32 → Int32 → Int32 → Sg → Prop, ∀ (x3 : Int32) (x4 : Int32) (x5 : Int32) (σ : Sg), L x3 x4 x5 σ = OK Γ Ω 10 54 [(0, .ref (Ω.2.2.1 0)), (1, .int x1), (2, .int x2), (3, .int x3), (4, .int x4), (5, .int x5)] [] σ := ⟨fun x3 x4 x5 σ => OK Γ Ω 10 54 [(0, .ref (Ω.2.2.1 0)), (1, .int x1), (2, .int x2), (3, .int x3), (4, .int x4), (5, .int x5)] [] σ, fun _ _ _ _ => rfl⟩
  obtain ⟨L99, gl99⟩ : ∃ L : Int32 → Int32 → Sg → Prop, ∀ (x3 : Int32) (x4 : Int32) (σ : Sg), L x3 x4 σ = OK Γ Ω 10 99 [(0, .ref (Ω.2.2.1 0)), (1, .int x1), (2, .int x2), (3, .int x3), (4, .int x4)] [] σ := ⟨fun x3 x4 σ => OK Γ Ω 10 99 [(0, .ref (Ω.2.2.1 0)), (1, .int x1), (2, .int x2), (3, .int x3), (4, .int x4)] [] σ, fun _ _ _ => rfl⟩
  obtain ⟨L146, gl146⟩ : ∃ L : Int32 → Int32 → Int32 → Int32 → Int32 → Sg → Prop, ∀ (x3 : Int32) (x4 : Int32) (x5 : Int32) (x6 : Int32) (x7 : Int32) (σ : Sg), L x3 x4 x5 x6 x7 σ = OK Γ Ω 10 146 [(0, .ref (Ω.2.2.1 0)), (1, .int x1), (2, .int x2), (3, .int x3), (4, .int x4), (5, .int x5), (6, .int x6), (7, .int x7)] [] σ := ⟨fun x3 x4 x5 x6 x7 σ => OK Γ Ω 10 146 [(0, .ref (Ω.2.2.1 0)), (1, .int x1), (2, .int x2), (3, .int x3), (4, .int x4), (5, .int x5), (6, .int x6), (7, .int x7)] [] σ, fun _ _ _ _ _ _ => rfl⟩
  obtain ⟨L195, gl195⟩ : ∃ L : Int32 → Int32 → Int32 → Int32 → Int32 → Int32 → Sg → Prop, ∀ (x3 : Int32) (x4 : Int32) (x5 : Int32) (x6 : Int32) (x7 : Int32) (x8 : Int32) (σ : Sg), L x3 x4 x5 x6 x7 x8 σ = OK Γ Ω 10 195 [(0, .ref (Ω.2.2.1 0)), (1, .int x1), (2, .int x2), (3, .int x3), (4, .int x4), (5, .int x5), (6, .int x6), (7, .int x7), (8, .int x8)] [] σ := ⟨fun x3 x4 x5 x6 x7 x8 σ => OK Γ Ω 10 195 [(0, .ref (Ω.2.2.1 0)), (1, .int x1), (2, .int x2), (3, .int x3), (4, .int x4), (5, .int x5), (6, .int x6), (7, .int x7), (8, .int x8)] [] σ, fun _ _ _ _ _ _ _ => rfl⟩
  obtain ⟨L246, gl246⟩ : ∃ L : Int32 → Int32 → Int32 → Int32 → Int32 → Int32 → Int32 → Sg → Prop, ∀ (x3 : Int32) (x4 : Int32) (x5 : Int32) (x6 : Int32) (x7 : Int32) (x8 : Int32) (x9 : Int32) (σ : Sg), L x3 x4 x5 x6 x7 x8 x9 σ = OK Γ Ω 10 246 [(0, .ref (Ω.2.2.1 0)), (1, .int x1), (2, .int x2), (3, .int x3), (4, .int x4), (5, .int x5), (6, .int x6), (7, .int x7), (8, .int x8), (9, .int x9)] [] σ := ⟨fun x3 x4 x5 x6 x7 x8 x9 σ => OK Γ Ω 10 246 [(0, .ref (Ω.2.2.1 0)), (1, .int x1), (2, .int x2), (3, .int x3), (4, .int x4), (5, .int x5), (6, .int x6), (7, .int x7), (8, .int x8), (9, .int x9)] [] σ, fun _ _ _ _ _ _ _ _ => rfl⟩
  obtain ⟨L358, gl358⟩ : ∃ L : Int32 → Int32 → Int32 → Sg → Prop, ∀ (x3 : Int32) (x4 : Int32) (x7 : Int32) (σ : Sg), L x3 x4 x7 σ = OK Γ Ω 10 358 [(0, .ref (Ω.2.2.1 0)), (1, .int x1), (2, .int x2), (3, .int x3), (4, .int x4), (7, .int x7)] [] σ := ⟨fun x3 x4 x7 σ => OK Γ Ω 10 358 [(0, .ref (Ω.2.2.1 0)), (1, .int x1), (2, .int x2), (3, .int x3), (4, .int x4), (7, .int x7)] [] σ, fun _ _ _ _ => rfl⟩
  have J413 : ∀ (x3 : Int32) (x4 : Int32) (σ : Sg), f_X8_receive_413 x1 x2 L8 L32 L54 L99 L146 L195 L246 L358 Po x3 x4 σ → OK Γ Ω 10 413 [(0, .ref (Ω.2.2.1 0)), (1, .int x1), (2, .int x2), (3, .int x3), (4, .int x4)] [] σ := by
    intro x3 x4 σ h
    unfold f_X8_receive_413 at h
    refine ok_iinc C (v := x4 + 1) (L2 := [(4, .int (x4 + 1)), (0, .ref (Ω.2.2.1 0)), (1, .int x1), (2, .int x2), (3, .int x3)]) 4 dX8_receive_413 rfl rfl (by decide) rfl ?_
    refine ok_goto C 99 dX8_receive_416 rfl ?_
    refine ok_sub [1, 2, 3, 4, 0] rfl ?_
    exact Eq.mp (gl99 _ _ _) h
  have J404 : ∀ (x3 : Int32) (x4 : Int32) (x7 : Int32) (σ : Sg), f_X8_receive_404 x1 x2 L8 L32 L54 L99 L146 L195 L246 L358 Po x3 x4 x7 σ → OK Γ Ω 10 404 [(0, .ref (Ω.2.2.1 0)), (1, .int x1), (2, .int x2), (3, .int x3), (4, .int x4), (7, .int x7)] [] σ := by
    intro x3 x4 x7 σ h
    unfold f_X8_receive_404 at h
    refine ok_aload_n C 0 dX8_receive_404 rfl rfl ?_
    refine ok_getR C (ci := 8) hinX8 (kat hk kM_0) rfl 28 (by decide) W_6_154 (fun _ _ h => h) rfl dX8_receive_405 ?_
    refine ok_iload C 5 dX8_receive_408 rfl ?_
    refine ok_iload C 4 dX8_receive_410 rfl ?_
    obtain ⟨g47, h⟩ := h
    refine ok_iast C (kat hk kM_23) g47 dX8_receive_412 ?_
    refine ok_sub [0, 1, 2, 3, 4] rfl ?_
    exact J413 _ _ _ h
  have J307 : ∀ (x3 : Int32) (x4 : Int32) (x5 : Int32) (x6 : Int32) (x7 : Int32) (σ : Sg), f_X8_receive_307 x1 x2 L8 L32 L54 L99 L146 L195 L246 L358 Po x3 x4 x5 x6 x7 σ → OK Γ Ω 10 307 [(0, .ref (Ω.2.2.1 0)), (1, .int x1), (2, .int x2), (3, .int x3), (4, .int x4), (5, .int x5), (6, .int x6), (7, .int x7)] [] σ := by
    intro x3 x4 x5 x6 x7 σ h
    unfold f_X8_receive_307 at h
    refine ok_iinc C (v := x7 + 1) (L2 := [(7, .int (x7 + 1)), (0, .ref (Ω.2.2.1 0)), (1, .int x1), (2, .int x2), (3, .int x3), (4, .int x4), (5, .int x5), (6, .int x6)]) 7 dX8_receive_307 rfl rfl (by decide) rfl ?_
    refine ok_goto C 146 dX8_receive_310 rfl ?_
    refine ok_sub [1, 2, 3, 4, 5, 6, 7, 0] rfl ?_
    exact Eq.mp (gl146 _ _ _ _ _ _) h
  have J293 : ∀ (x3 : Int32) (x4 : Int32) (x5 : Int32) (x6 : Int32) (x7 : Int32) (x8 : Int32) (x9 : Int32) (σ : Sg), f_X8_receive_293 x1 x2 L8 L32 L54 L99 L146 L195 L246 L358 Po x3 x4 x5 x6 x7 x8 x9 σ → OK Γ Ω 10 293 [(0, .ref (Ω.2.2.1 0)), (1, .int x1), (2, .int x2), (3, .int x3), (4, .int x4), (5, .int x5), (6, .int x6), (7, .int x7), (8, .int x8), (9, .int x9)] [] σ := by
    intro x3 x4 x5 x6 x7 x8 x9 σ h
    unfold f_X8_receive_293 at h
    refine ok_aload_n C 0 dX8_receive_293 rfl rfl ?_
    refine ok_getR C (ci := 8) hinX8 (kat hk kM_0) rfl 32 (by decide) W_6_158 (fun _ _ h => h) rfl dX8_receive_294 ?_
    refine ok_iload C 9 dX8_receive_297 rfl ?_
    refine ok_aload_n C 0 dX8_receive_299 rfl rfl ?_
    refine ok_getR C (ci := 8) hinX8 (kat hk kM_0) rfl 15 (by decide) W_6_141 (fun _ _ h => h) rfl dX8_receive_300 ?_
    refine ok_iload C 8 dX8_receive_303 rfl ?_
    obtain ⟨g38, h⟩ := h
    refine ok_lald C (kat hk kM_13) g38 dX8_receive_305 ?_
    obtain ⟨g39, h⟩ := h
    refine ok_last C (kat hk kM_27) g39 dX8_receive_306 ?_
    refine ok_sub [0, 1, 2, 3, 4, 5, 6, 7] rfl ?_
    exact J307 _ _ _ _ _ _ h
  have J239 : ∀ (x3 : Int32) (x4 : Int32) (x5 : Int32) (x6 : Int32) (x7 : Int32) (x8 : Int32) (σ : Sg), f_X8_receive_239 x1 x2 L8 L32 L54 L99 L146 L195 L246 L358 Po x3 x4 x5 x6 x7 x8 σ → OK Γ Ω 10 239 [(0, .ref (Ω.2.2.1 0)), (1, .int x1), (2, .int x2), (3, .int x3), (4, .int x4), (5, .int x5), (6, .int x6), (7, .int x7), (8, .int x8)] [] σ := by
    intro x3 x4 x5 x6 x7 x8 σ h
    unfold f_X8_receive_239 at h
    refine ok_iload C 5 dX8_receive_239 rfl ?_
    refine ok_iinc C (v := x5 + 1) (L2 := [(5, .int (x5 + 1)), (0, .ref (Ω.2.2.1 0)), (1, .int x1), (2, .int x2), (3, .int x3), (4, .int x4), (6, .int x6), (7, .int x7), (8, .int x8)]) 5 dX8_receive_241 rfl rfl (by decide) rfl ?_
    refine ok_istore C (L2 := [(9, .int x5), (5, .int (x5 + 1)), (0, .ref (Ω.2.2.1 0)), (1, .int x1), (2, .int x2), (3, .int x3), (4, .int x4), (6, .int x6), (7, .int x7), (8, .int x8)]) dX8_receive_244 (by decide) rfl ?_
    refine ok_sub [2, 3, 4, 5, 6, 1, 7, 8, 9, 0] rfl ?_
    exact Eq.mp (gl246 _ _ _ _ _ _ _ _) h
  have J90 : ∀ (x3 : Int32) (x4 : Int32) (σ : Sg), f_X8_receive_90 x1 x2 L8 L32 L54 L99 L146 L195 L246 L358 Po x3 x4 σ → OK Γ Ω 10 90 [(0, .ref (Ω.2.2.1 0)), (1, .int x1), (2, .int x2), (3, .int x3), (4, .int x4)] [] σ := by
    intro x3 x4 σ h
    unfold f_X8_receive_90 at h
    refine ok_iinc C (v := x4 + 1) (L2 := [(4, .int (x4 + 1)), (0, .ref (Ω.2.2.1 0)), (1, .int x1), (2, .int x2), (3, .int x3)]) 4 dX8_receive_90 rfl rfl (by decide) rfl ?_
    refine ok_goto C 32 dX8_receive_93 rfl ?_
    refine ok_sub [1, 2, 3, 4, 0] rfl ?_
    exact Eq.mp (gl32 _ _ _) h
  have R8 : ∀ (x3 : Int32) (x4 : Int32) (σ : Sg), f_X8_receive_8 x1 x2 L8 L32 L54 L99 L146 L195 L246 L358 Po x3 x4 σ → L8 x3 x4 σ := by
    intro x3 x4 σ h
    unfold f_X8_receive_8 at h
    refine Eq.mpr (gl8 _ _ _) ?_
    refine ok_iload C 4 dX8_receive_8 rfl ?_
    refine ok_bipush C (v := 8) dX8_receive_10 (by decide) ?_
    obtain ⟨h1, h2⟩ := h
    refine ok_icmp_ge C 29 dX8_receive_12 rfl (fun c2 => ?_) (fun c2 => ?_)
    · have h := h1 c2
      refine ok_iconst C (v := 0) dX8_receive_29 (by decide) ?_
      refine ok_istore C (L2 := [(4, .int 0), (0, .ref (Ω.2.2.1 0)), (1, .int x1), (2, .int x2), (3, .int x3)]) dX8_receive_30 (by decide) rfl ?_
      refine ok_sub [1, 2, 3, 4, 0] rfl ?_
      exact Eq.mp (gl32 _ _ _) h
    · have h := h2 c2
      refine ok_aload_n C 0 dX8_receive_15 rfl rfl ?_
      refine ok_getR C (ci := 8) hinX8 (kat hk kM_0) rfl 30 (by decide) W_6_156 (fun _ _ h => h) rfl dX8_receive_16 ?_
      refine ok_iload C 4 dX8_receive_19 rfl ?_
      refine ok_iconst C (v := 0) dX8_receive_21 (by decide) ?_
      obtain ⟨g1, h⟩ := h
      refine ok_iast C (kat hk kM_25) g1 dX8_receive_22 ?_
      refine ok_iinc C (v := x4 + 1) (L2 := [(4, .int (x4 + 1)), (0, .ref (Ω.2.2.1 0)), (1, .int x1), (2, .int x2), (3, .int x3)]) 4 dX8_receive_23 rfl rfl (by decide) rfl ?_
      refine ok_goto C 8 dX8_receive_26 rfl ?_
      refine ok_sub [1, 2, 3, 4, 0] rfl ?_
      exact Eq.mp (gl8 _ _ _) h
  have R32 : ∀ (x3 : Int32) (x4 : Int32) (σ : Sg), f_X8_receive_32 x1 x2 L8 L32 L54 L99 L146 L195 L246 L358 Po x3 x4 σ → L32 x3 x4 σ := by
    intro x3 x4 σ h
    unfold f_X8_receive_32 at h
    refine Eq.mpr (gl32 _ _ _) ?_
    refine ok_iload C 4 dX8_receive_32 rfl ?_
    refine ok_aload_n C 0 dX8_receive_34 rfl rfl ?_
    refine ok_getI C (ci := 8) hinX8 (kat hk kM_0) rfl 2 (by decide) W_6_128 (fun _ _ h => h) rfl dX8_receive_35 ?_
    obtain ⟨h1, h2⟩ := h
    refine ok_icmp_ge C 96 dX8_receive_38 rfl (fun c6 => ?_) (fun c6 => ?_)
    · have h := h1 c6
      refine ok_iconst C (v := 0) dX8_receive_96 (by decide) ?_
      refine ok_istore C (L2 := [(4, .int 0), (0, .ref (Ω.2.2.1 0)), (1, .int x1), (2, .int x2), (3, .int x3)]) dX8_receive_97 (by decide) rfl ?_
      refine ok_sub [1, 2, 3, 4, 0] rfl ?_
      exact Eq.mp (gl99 _ _ _) h
    · have h := h2 c6
      refine ok_aload_n C 0 dX8_receive_41 rfl rfl ?_
      refine ok_iload C 4 dX8_receive_42 rfl ?_
      refine ok_iload_n C 2 dX8_receive_44 rfl rfl ?_
      refine ok_callVi C (As := [.int x4, .int x2]) (rest := []) (q := 0) (ci := 8) (kat hk kM_0) rfl (c_X8_isUnique  _ _ _ _ h) W_7_76 W_7_78 W_0_59 W_7_79 W_1_28 hd_X8_isUnique rfl ⟨Nat.le_of_ble_eq_true rfl, Nat.le_of_ble_eq_true rfl⟩ (Nat.le_of_ble_eq_true rfl) rfl dX8_receive_45 (fun r3 u4 h => ?_)
      obtain ⟨h1, h2⟩ := h
      refine ok_if_eq C 90 dX8_receive_48 rfl (fun c5 => ?_) (fun c5 => ?_)
      · have h := h1 c5
        refine ok_sub [0, 1, 2, 3, 4] rfl ?_
        exact J90 _ _ _ h
      · have h := h2 c5
        refine ok_iconst C (v := 0) dX8_receive_51 (by decide) ?_
        refine ok_istore C (L2 := [(5, .int 0), (0, .ref (Ω.2.2.1 0)), (1, .int x1), (2, .int x2), (3, .int x3), (4, .int x4)]) dX8_receive_52 (by decide) rfl ?_
        refine ok_sub [1, 2, 3, 4, 5, 0] rfl ?_
        exact Eq.mp (gl54 _ _ _ _) h
  have R54 : ∀ (x3 : Int32) (x4 : Int32) (x5 : Int32) (σ : Sg), f_X8_receive_54 x1 x2 L8 L32 L54 L99 L146 L195 L246 L358 Po x3 x4 x5 σ → L54 x3 x4 x5 σ := by
    intro x3 x4 x5 σ h
    unfold f_X8_receive_54 at h
    refine Eq.mpr (gl54 _ _ _ _) ?_
    refine ok_iload C 5 dX8_receive_54 rfl ?_
    refine ok_bipush C (v := 8) dX8_receive_56 (by decide) ?_
    obtain ⟨h1, h2⟩ := h
    refine ok_icmp_ge C 90 dX8_receive_58 rfl (fun c10 => ?_) (fun c10 => ?_)
    · have h := h1 c10
      refine ok_sub [0, 1, 2, 3, 4] rfl ?_
      exact J90 _ _ _ h
    · have h := h2 c10
      refine ok_aload_n C 0 dX8_receive_61 rfl rfl ?_
      refine ok_getR C (ci := 8) hinX8 (kat hk kM_0) rfl 30 (by decide) W_6_156 (fun _ _ h => h) rfl dX8_receive_62 ?_
      refine ok_iload C 5 dX8_receive_65 rfl ?_
      refine ok_dup2_11 C dX8_receive_67 rfl rfl ?_
      obtain ⟨g7, h⟩ := h
      refine ok_iald C (kat hk kM_25) g7 dX8_receive_68 ?_
      refine ok_aload_n C 0 dX8_receive_69 rfl rfl ?_
      refine ok_getR C (ci := 8) hinX8 (kat hk kM_0) rfl 10 (by decide) W_6_136 (fun _ _ h => h) rfl dX8_receive_70 ?_
      refine ok_bipush C (v := 8) dX8_receive_73 (by decide) ?_
      refine ok_iload C 4 dX8_receive_75 rfl ?_
      refine ok_imul C dX8_receive_77 ?_
      refine ok_iload C 5 dX8_receive_78 rfl ?_
      refine ok_iadd C dX8_receive_80 ?_
      obtain ⟨g8, h⟩ := h
      refine ok_iald C (kat hk kM_8) g8 dX8_receive_81 ?_
      refine ok_ixor C dX8_receive_82 ?_
      obtain ⟨g9, h⟩ := h
      refine ok_iast C (kat hk kM_25) g9 dX8_receive_83 ?_
      refine ok_iinc C (v := x5 + 1) (L2 := [(5, .int (x5 + 1)), (0, .ref (Ω.2.2.1 0)), (1, .int x1), (2, .int x2), (3, .int x3), (4, .int x4)]) 5 dX8_receive_84 rfl rfl (by decide) rfl ?_
      refine ok_goto C 54 dX8_receive_87 rfl ?_
      refine ok_sub [1, 2, 3, 4, 5, 0] rfl ?_
      exact Eq.mp (gl54 _ _ _ _) h
  have R99 : ∀ (x3 : Int32) (x4 : Int32) (σ : Sg), f_X8_receive_99 x1 x2 L8 L32 L54 L99 L146 L195 L246 L358 Po x3 x4 σ → L99 x3 x4 σ := by
    intro x3 x4 σ h
    unfold f_X8_receive_99 at h
    refine Eq.mpr (gl99 _ _ _) ?_
    refine ok_iload C 4 dX8_receive_99 rfl ?_
    refine ok_aload_n C 0 dX8_receive_101 rfl rfl ?_
    refine ok_getI C (ci := 8) hinX8 (kat hk kM_0) rfl 2 (by decide) W_6_128 (fun _ _ h => h) rfl dX8_receive_102 ?_
    obtain ⟨h1, h2⟩ := h
    refine ok_icmp_ge C 419 dX8_receive_105 rfl (fun c15 => ?_) (fun c15 => ?_)
    · have h := h1 c15
      exact ok_vret C rfl rfl dX8_receive_419 h
    · have h := h2 c15
      refine ok_aload_n C 0 dX8_receive_108 rfl rfl ?_
      refine ok_getR C (ci := 8) hinX8 (kat hk kM_0) rfl 17 (by decide) W_6_143 (fun _ _ h => h) rfl dX8_receive_109 ?_
      refine ok_sipush C (v := 240) dX8_receive_112 (by decide) ?_
      refine ok_iload_n C 1 dX8_receive_115 rfl rfl ?_
      refine ok_imul C dX8_receive_116 ?_
      refine ok_iload C 4 dX8_receive_117 rfl ?_
      refine ok_iadd C dX8_receive_119 ?_
      obtain ⟨g11, h⟩ := h
      refine ok_zald C (kat hk kM_15) g11 dX8_receive_120 ?_
      obtain ⟨h1, h2⟩ := h
      refine ok_if_eq C 413 dX8_receive_121 rfl (fun c14 => ?_) (fun c14 => ?_)
      · have h := h1 c14
        refine ok_sub [0, 1, 2, 3, 4] rfl ?_
        exact J413 _ _ _ h
      · have h := h2 c14
        refine ok_aload_n C 0 dX8_receive_124 rfl rfl ?_
        refine ok_getR C (ci := 8) hinX8 (kat hk kM_0) rfl 26 (by decide) W_6_152 (fun _ _ h => h) rfl dX8_receive_125 ?_
        refine ok_iload C 4 dX8_receive_128 rfl ?_
        obtain ⟨g12, h⟩ := h
        refine ok_iald C (kat hk kM_21) g12 dX8_receive_130 ?_
        obtain ⟨h1, h2⟩ := h
        refine ok_if_eq C 137 dX8_receive_131 rfl (fun c13 => ?_) (fun c13 => ?_)
        · have h := h1 c13
          refine ok_iconst C (v := 0) dX8_receive_137 (by decide) ?_
          refine ok_istore C (L2 := [(5, .int 0), (0, .ref (Ω.2.2.1 0)), (1, .int x1), (2, .int x2), (3, .int x3), (4, .int x4)]) dX8_receive_138 (by decide) rfl ?_
          refine ok_iconst C (v := 1) dX8_receive_140 (by decide) ?_
          refine ok_istore C (L2 := [(6, .int 1), (5, .int 0), (0, .ref (Ω.2.2.1 0)), (1, .int x1), (2, .int x2), (3, .int x3), (4, .int x4)]) dX8_receive_141 (by decide) rfl ?_
          refine ok_iconst C (v := 0) dX8_receive_143 (by decide) ?_
          refine ok_istore C (L2 := [(7, .int 0), (6, .int 1), (5, .int 0), (0, .ref (Ω.2.2.1 0)), (1, .int x1), (2, .int x2), (3, .int x3), (4, .int x4)]) dX8_receive_144 (by decide) rfl ?_
          refine ok_sub [3, 4, 5, 6, 7, 2, 1, 0] rfl ?_
          exact Eq.mp (gl146 _ _ _ _ _ _) h
        · have h := h2 c13
          refine ok_goto C 413 dX8_receive_134 rfl ?_
          refine ok_sub [0, 1, 2, 3, 4] rfl ?_
          exact J413 _ _ _ h
  have R146 : ∀ (x3 : Int32) (x4 : Int32) (x5 : Int32) (x6 : Int32) (x7 : Int32) (σ : Sg), f_X8_receive_146 x1 x2 L8 L32 L54 L99 L146 L195 L246 L358 Po x3 x4 x5 x6 x7 σ → L146 x3 x4 x5 x6 x7 σ := by
    intro x3 x4 x5 x6 x7 σ h
    unfold f_X8_receive_146 at h
    refine Eq.mpr (gl146 _ _ _ _ _ _) ?_
    refine ok_iload C 7 dX8_receive_146 rfl ?_
    refine ok_aload_n C 0 dX8_receive_148 rfl rfl ?_
    refine ok_getI C (ci := 8) hinX8 (kat hk kM_0) rfl 2 (by decide) W_6_128 (fun _ _ h => h) rfl dX8_receive_149 ?_
    obtain ⟨h1, h2⟩ := h
    refine ok_icmp_ge C 313 dX8_receive_152 rfl (fun c25 => ?_) (fun c25 => ?_)
    · have h := h1 c25
      refine ok_iload C 6 dX8_receive_313 rfl ?_
      obtain ⟨h1, h2⟩ := h
      refine ok_if_ne C 321 dX8_receive_315 rfl (fun c19 => ?_) (fun c19 => ?_)
      · have h := h1 c19
        refine ok_aload_n C 0 dX8_receive_321 rfl rfl ?_
        refine ok_getR C (ci := 8) hinX8 (kat hk kM_0) rfl 26 (by decide) W_6_152 (fun _ _ h => h) rfl dX8_receive_322 ?_
        refine ok_iload C 4 dX8_receive_325 rfl ?_
        refine ok_iload_n C 2 dX8_receive_327 rfl rfl ?_
        obtain ⟨g16, h⟩ := h
        refine ok_iast C (kat hk kM_21) g16 dX8_receive_328 ?_
        refine ok_aload_n C 0 dX8_receive_329 rfl rfl ?_
        refine ok_getR C (ci := 8) hinX8 (kat hk kM_0) rfl 31 (by decide) W_6_157 (fun _ _ h => h) rfl dX8_receive_330 ?_
        refine ok_iload C 4 dX8_receive_333 rfl ?_
        refine ok_aload_n C 0 dX8_receive_335 rfl rfl ?_
        refine ok_getR C (ci := 8) hinX8 (kat hk kM_0) rfl 32 (by decide) W_6_158 (fun _ _ h => h) rfl dX8_receive_336 ?_
        refine ok_iload C 5 dX8_receive_339 rfl ?_
        refine ok_iconst C (v := 2) dX8_receive_341 (by decide) ?_
        refine ok_idiv C dX8_receive_342 (by decide) ?_
        obtain ⟨g17, h⟩ := h
        refine ok_lald C (kat hk kM_27) g17 dX8_receive_343 ?_
        obtain ⟨g18, h⟩ := h
        refine ok_last C (kat hk kM_26) g18 dX8_receive_344 ?_
        refine ok_aload_n C 0 dX8_receive_345 rfl rfl ?_
        refine ok_dup C dX8_receive_346 rfl ?_
        refine ok_getI C (ci := 8) hinX8 (kat hk kM_0) rfl 23 (by decide) W_6_149 (fun _ _ h => h) rfl dX8_receive_347 ?_
        refine ok_dup_x1 C dX8_receive_350 rfl rfl ?_
        refine ok_iconst C (v := 1) dX8_receive_351 (by decide) ?_
        refine ok_iadd C dX8_receive_352 ?_
        refine ok_putI C (ci := 8) hinX8 (kat hk kM_0) rfl 23 (by decide) W_6_149 (fun _ _ h => h) tyX8 tyX8_ok nmX8 rfl (by decide +kernel) rfl rfl rfl dX8_receive_353 ?_
        refine ok_istore C (L2 := [(7, .int (((pJ (pI σ 21 x4.toNatClampNeg x2) 26 x4.toNatClampNeg ((pI σ 21 x4.toNatClampNeg x2).2 27 (x5 / 2).toNatClampNeg))).1 0 23)), (0, .ref (Ω.2.2.1 0)), (1, .int x1), (2, .int x2), (3, .int x3), (4, .int x4), (5, .int x5), (6, .int x6)]) dX8_receive_356 (by decide) rfl ?_
        refine ok_sub [1, 2, 3, 4, 5, 0] rfl ?_
        exact Eq.mp (gl358 _ _ _ _) h
      · have h := h2 c19
        refine ok_goto C 413 dX8_receive_318 rfl ?_
        refine ok_sub [0, 1, 2, 3, 4] rfl ?_
        exact J413 _ _ _ h
    · have h := h2 c25
      refine ok_aload_n C 0 dX8_receive_155 rfl rfl ?_
      refine ok_iload C 7 dX8_receive_156 rfl ?_
      refine ok_iload_n C 2 dX8_receive_158 rfl rfl ?_
      refine ok_callVi C (As := [.int x7, .int x2]) (rest := []) (q := 0) (ci := 8) (kat hk kM_0) rfl (c_X8_isUnique  _ _ _ _ h) W_7_76 W_7_78 W_0_59 W_7_79 W_1_28 hd_X8_isUnique rfl ⟨Nat.le_of_ble_eq_true rfl, Nat.le_of_ble_eq_true rfl⟩ (Nat.le_of_ble_eq_true rfl) rfl dX8_receive_159 (fun r20 u21 h => ?_)
      obtain ⟨h1, h2⟩ := h
      refine ok_if_ne C 168 dX8_receive_162 rfl (fun c24 => ?_) (fun c24 => ?_)
      · have h := h1 c24
        refine ok_aload_n C 0 dX8_receive_168 rfl rfl ?_
        refine ok_getR C (ci := 8) hinX8 (kat hk kM_0) rfl 16 (by decide) W_6_142 (fun _ _ h => h) rfl dX8_receive_169 ?_
        refine ok_sipush C (v := 240) dX8_receive_172 (by decide) ?_
        refine ok_iload C 7 dX8_receive_175 rfl ?_
        refine ok_imul C dX8_receive_177 ?_
        refine ok_iload C 4 dX8_receive_178 rfl ?_
        refine ok_iadd C dX8_receive_180 ?_
        obtain ⟨g22, h⟩ := h
        refine ok_zald C (kat hk kM_14) g22 dX8_receive_181 ?_
        obtain ⟨h1, h2⟩ := h
        refine ok_if_ne C 191 dX8_receive_182 rfl (fun c23 => ?_) (fun c23 => ?_)
        · have h := h1 c23
          refine ok_iload C 7 dX8_receive_191 rfl ?_
          refine ok_istore C (L2 := [(8, .int x7), (0, .ref (Ω.2.2.1 0)), (1, .int x1), (2, .int x2), (3, .int x3), (4, .int x4), (5, .int x5), (6, .int x6), (7, .int x7)]) dX8_receive_193 (by decide) rfl ?_
          refine ok_sub [1, 2, 3, 4, 5, 6, 7, 8, 0] rfl ?_
          exact Eq.mp (gl195 _ _ _ _ _ _ _) h
        · have h := h2 c23
          refine ok_iconst C (v := 0) dX8_receive_185 (by decide) ?_
          refine ok_istore C (L2 := [(6, .int 0), (0, .ref (Ω.2.2.1 0)), (1, .int x1), (2, .int x2), (3, .int x3), (4, .int x4), (5, .int x5), (7, .int x7)]) dX8_receive_186 (by decide) rfl ?_
          refine ok_goto C 307 dX8_receive_188 rfl ?_
          refine ok_sub [1, 2, 3, 4, 5, 6, 0, 7] rfl ?_
          exact J307 _ _ _ _ _ _ h
      · have h := h2 c24
        refine ok_goto C 307 dX8_receive_165 rfl ?_
        refine ok_sub [0, 1, 2, 3, 4, 5, 6, 7] rfl ?_
        exact J307 _ _ _ _ _ _ h
  have R195 : ∀ (x3 : Int32) (x4 : Int32) (x5 : Int32) (x6 : Int32) (x7 : Int32) (x8 : Int32) (σ : Sg), f_X8_receive_195 x1 x2 L8 L32 L54 L99 L146 L195 L246 L358 Po x3 x4 x5 x6 x7 x8 σ → L195 x3 x4 x5 x6 x7 x8 σ := by
    intro x3 x4 x5 x6 x7 x8 σ h
    unfold f_X8_receive_195 at h
    refine Eq.mpr (gl195 _ _ _ _ _ _ _) ?_
    refine ok_aload_n C 0 dX8_receive_195 rfl rfl ?_
    refine ok_getR C (ci := 8) hinX8 (kat hk kM_0) rfl 4 (by decide) W_6_130 (fun _ _ h => h) rfl dX8_receive_196 ?_
    refine ok_iload C 8 dX8_receive_199 rfl ?_
    obtain ⟨g26, h⟩ := h
    refine ok_iald C (kat hk kM_2) g26 dX8_receive_201 ?_
    obtain ⟨h1, h2⟩ := h
    refine ok_if_lt C 239 dX8_receive_202 rfl (fun c31 => ?_) (fun c31 => ?_)
    · have h := h1 c31
      refine ok_sub [0, 1, 2, 3, 4, 5, 6, 7, 8] rfl ?_
      exact J239 _ _ _ _ _ _ _ h
    · have h := h2 c31
      refine ok_aload_n C 0 dX8_receive_205 rfl rfl ?_
      refine ok_getR C (ci := 8) hinX8 (kat hk kM_0) rfl 16 (by decide) W_6_142 (fun _ _ h => h) rfl dX8_receive_206 ?_
      refine ok_sipush C (v := 240) dX8_receive_209 (by decide) ?_
      refine ok_aload_n C 0 dX8_receive_212 rfl rfl ?_
      refine ok_getR C (ci := 8) hinX8 (kat hk kM_0) rfl 4 (by decide) W_6_130 (fun _ _ h => h) rfl dX8_receive_213 ?_
      refine ok_iload C 8 dX8_receive_216 rfl ?_
      obtain ⟨g27, h⟩ := h
      refine ok_iald C (kat hk kM_2) g27 dX8_receive_218 ?_
      refine ok_imul C dX8_receive_219 ?_
      refine ok_iload C 4 dX8_receive_220 rfl ?_
      refine ok_iadd C dX8_receive_222 ?_
      obtain ⟨g28, h⟩ := h
      refine ok_zald C (kat hk kM_14) g28 dX8_receive_223 ?_
      obtain ⟨h1, h2⟩ := h
      refine ok_if_eq C 239 dX8_receive_224 rfl (fun c30 => ?_) (fun c30 => ?_)
      · have h := h1 c30
        refine ok_sub [0, 1, 2, 3, 4, 5, 6, 7, 8] rfl ?_
        exact J239 _ _ _ _ _ _ _ h
      · have h := h2 c30
        refine ok_aload_n C 0 dX8_receive_227 rfl rfl ?_
        refine ok_getR C (ci := 8) hinX8 (kat hk kM_0) rfl 4 (by decide) W_6_130 (fun _ _ h => h) rfl dX8_receive_228 ?_
        refine ok_iload C 8 dX8_receive_231 rfl ?_
        obtain ⟨g29, h⟩ := h
        refine ok_iald C (kat hk kM_2) g29 dX8_receive_233 ?_
        refine ok_istore C (L2 := [(8, .int (σ.1 2 x8.toNatClampNeg)), (0, .ref (Ω.2.2.1 0)), (1, .int x1), (2, .int x2), (3, .int x3), (4, .int x4), (5, .int x5), (6, .int x6), (7, .int x7)]) dX8_receive_234 (by decide) rfl ?_
        refine ok_goto C 195 dX8_receive_236 rfl ?_
        refine ok_sub [1, 2, 3, 4, 5, 6, 7, 8, 0] rfl ?_
        exact Eq.mp (gl195 _ _ _ _ _ _ _) h
  have R246 : ∀ (x3 : Int32) (x4 : Int32) (x5 : Int32) (x6 : Int32) (x7 : Int32) (x8 : Int32) (x9 : Int32) (σ : Sg), f_X8_receive_246 x1 x2 L8 L32 L54 L99 L146 L195 L246 L358 Po x3 x4 x5 x6 x7 x8 x9 σ → L246 x3 x4 x5 x6 x7 x8 x9 σ := by
    intro x3 x4 x5 x6 x7 x8 x9 σ h
    unfold f_X8_receive_246 at h
    refine Eq.mpr (gl246 _ _ _ _ _ _ _ _) ?_
    refine ok_iload C 9 dX8_receive_246 rfl ?_
    obtain ⟨h1, h2⟩ := h
    refine ok_if_le C 293 dX8_receive_248 rfl (fun c37 => ?_) (fun c37 => ?_)
    · have h := h1 c37
      refine ok_sub [0, 1, 2, 3, 4, 5, 6, 7, 8, 9] rfl ?_
      exact J293 _ _ _ _ _ _ _ _ h
    · have h := h2 c37
      refine ok_aload_n C 0 dX8_receive_251 rfl rfl ?_
      refine ok_getR C (ci := 8) hinX8 (kat hk kM_0) rfl 32 (by decide) W_6_158 (fun _ _ h => h) rfl dX8_receive_252 ?_
      refine ok_iload C 9 dX8_receive_255 rfl ?_
      refine ok_iconst C (v := 1) dX8_receive_257 (by decide) ?_
      refine ok_isub C dX8_receive_258 ?_
      obtain ⟨g32, h⟩ := h
      refine ok_lald C (kat hk kM_27) g32 dX8_receive_259 ?_
      refine ok_aload_n C 0 dX8_receive_260 rfl rfl ?_
      refine ok_getR C (ci := 8) hinX8 (kat hk kM_0) rfl 15 (by decide) W_6_141 (fun _ _ h => h) rfl dX8_receive_261 ?_
      refine ok_iload C 8 dX8_receive_264 rfl ?_
      obtain ⟨g33, h⟩ := h
      refine ok_lald C (kat hk kM_13) g33 dX8_receive_266 ?_
      refine ok_lcmp C dX8_receive_267 ?_
      obtain ⟨h1, h2⟩ := h
      refine ok_if_le C 293 dX8_receive_268 rfl (fun c36 => ?_) (fun c36 => ?_)
      · have h := h1 c36
        refine ok_sub [0, 1, 2, 3, 4, 5, 6, 7, 8, 9] rfl ?_
        exact J293 _ _ _ _ _ _ _ _ h
      · have h := h2 c36
        refine ok_aload_n C 0 dX8_receive_271 rfl rfl ?_
        refine ok_getR C (ci := 8) hinX8 (kat hk kM_0) rfl 32 (by decide) W_6_158 (fun _ _ h => h) rfl dX8_receive_272 ?_
        refine ok_iload C 9 dX8_receive_275 rfl ?_
        refine ok_aload_n C 0 dX8_receive_277 rfl rfl ?_
        refine ok_getR C (ci := 8) hinX8 (kat hk kM_0) rfl 32 (by decide) W_6_158 (fun _ _ h => h) rfl dX8_receive_278 ?_
        refine ok_iload C 9 dX8_receive_281 rfl ?_
        refine ok_iconst C (v := 1) dX8_receive_283 (by decide) ?_
        refine ok_isub C dX8_receive_284 ?_
        obtain ⟨g34, h⟩ := h
        refine ok_lald C (kat hk kM_27) g34 dX8_receive_285 ?_
        obtain ⟨g35, h⟩ := h
        refine ok_last C (kat hk kM_27) g35 dX8_receive_286 ?_
        refine ok_iinc C (v := x9 + (-1)) (L2 := [(9, .int (x9 + (-1))), (0, .ref (Ω.2.2.1 0)), (1, .int x1), (2, .int x2), (3, .int x3), (4, .int x4), (5, .int x5), (6, .int x6), (7, .int x7), (8, .int x8)]) 9 dX8_receive_287 rfl rfl (by decide) rfl ?_
        refine ok_goto C 246 dX8_receive_290 rfl ?_
        refine ok_sub [1, 2, 3, 4, 5, 6, 7, 8, 9, 0] rfl ?_
        exact Eq.mp (gl246 _ _ _ _ _ _ _ _) h
  have R358 : ∀ (x3 : Int32) (x4 : Int32) (x7 : Int32) (σ : Sg), f_X8_receive_358 x1 x2 L8 L32 L54 L99 L146 L195 L246 L358 Po x3 x4 x7 σ → L358 x3 x4 x7 σ := by
    intro x3 x4 x7 σ h
    unfold f_X8_receive_358 at h
    refine Eq.mpr (gl358 _ _ _ _) ?_
    refine ok_iload C 5 dX8_receive_358 rfl ?_
    refine ok_iload_n C 3 dX8_receive_360 rfl rfl ?_
    obtain ⟨h1, h2⟩ := h
    refine ok_icmp_le C 404 dX8_receive_361 rfl (fun c46 => ?_) (fun c46 => ?_)
    · have h := h1 c46
      refine ok_sub [0, 1, 2, 3, 4, 5] rfl ?_
      exact J404 _ _ _ _ h
    · have h := h2 c46
      refine ok_aload_n C 0 dX8_receive_364 rfl rfl ?_
      refine ok_iload C 4 dX8_receive_365 rfl ?_
      refine ok_aload_n C 0 dX8_receive_367 rfl rfl ?_
      refine ok_getR C (ci := 8) hinX8 (kat hk kM_0) rfl 28 (by decide) W_6_154 (fun _ _ h => h) rfl dX8_receive_368 ?_
      refine ok_iload C 5 dX8_receive_371 rfl ?_
      refine ok_iconst C (v := 1) dX8_receive_373 (by decide) ?_
      refine ok_isub C dX8_receive_374 ?_
      obtain ⟨g40, h⟩ := h
      refine ok_iald C (kat hk kM_23) g40 dX8_receive_375 ?_
      refine ok_callVi C (As := [.int x4, .int (σ.1 23 (x7 - 1).toNatClampNeg)]) (rest := []) (q := 0) (ci := 8) (kat hk kM_0) rfl (c_X8_comesBefore  _ _ _ _ h) W_7_80 W_7_82 W_0_60 W_7_83 W_1_28 hd_X8_comesBefore rfl ⟨Nat.le_of_ble_eq_true rfl, Nat.le_of_ble_eq_true rfl⟩ (Nat.le_of_ble_eq_true rfl) rfl dX8_receive_376 (fun r41 u42 h => ?_)
      obtain ⟨h1, h2⟩ := h
      refine ok_if_eq C 404 dX8_receive_379 rfl (fun c45 => ?_) (fun c45 => ?_)
      · have h := h1 c45
        refine ok_sub [0, 1, 2, 3, 4, 5] rfl ?_
        exact J404 _ _ _ _ h
      · have h := h2 c45
        refine ok_aload_n C 0 dX8_receive_382 rfl rfl ?_
        refine ok_getR C (ci := 8) hinX8 (kat hk kM_0) rfl 28 (by decide) W_6_154 (fun _ _ h => h) rfl dX8_receive_383 ?_
        refine ok_iload C 5 dX8_receive_386 rfl ?_
        refine ok_aload_n C 0 dX8_receive_388 rfl rfl ?_
        refine ok_getR C (ci := 8) hinX8 (kat hk kM_0) rfl 28 (by decide) W_6_154 (fun _ _ h => h) rfl dX8_receive_389 ?_
        refine ok_iload C 5 dX8_receive_392 rfl ?_
        refine ok_iconst C (v := 1) dX8_receive_394 (by decide) ?_
        refine ok_isub C dX8_receive_395 ?_
        obtain ⟨g43, h⟩ := h
        refine ok_iald C (kat hk kM_23) g43 dX8_receive_396 ?_
        obtain ⟨g44, h⟩ := h
        refine ok_iast C (kat hk kM_23) g44 dX8_receive_397 ?_
        refine ok_iinc C (v := x7 + (-1)) (L2 := [(7, .int (x7 + (-1))), (0, .ref (Ω.2.2.1 0)), (1, .int x1), (2, .int x2), (3, .int x3), (4, .int x4)]) 5 dX8_receive_398 rfl rfl (by decide) rfl ?_
        refine ok_goto C 358 dX8_receive_401 rfl ?_
        refine ok_sub [1, 2, 3, 4, 5, 0] rfl ?_
        exact Eq.mp (gl358 _ _ _ _) h
  have h : f_X8_receive_e x1 x2 L8 L32 L54 L99 L146 L195 L246 L358 Po σ := hvc L8 L32 L54 L99 L146 L195 L246 L358 R8 R32 R54 R99 R146 R195 R246 R358
  unfold f_X8_receive_e at h
  refine ok_sub (L2 := [(0, .ref (Ω.2.2.1 0)), (1, .int x1), (2, .int x2)]) [0, 1, 2] rfl ?_
  refine ok_aload_n C 0 dX8_receive_0 rfl rfl ?_
  refine ok_getI C (ci := 8) hinX8 (kat hk kM_0) rfl 23 (by decide) W_6_149 (fun _ _ h => h) rfl dX8_receive_1 ?_
  refine ok_istore_n C (L2 := [(3, .int (σ.1 0 23)), (0, .ref (Ω.2.2.1 0)), (1, .int x1), (2, .int x2)]) dX8_receive_4 rfl (by decide) rfl ?_
  refine ok_iconst C (v := 0) dX8_receive_5 (by decide) ?_
  refine ok_istore C (L2 := [(4, .int 0), (3, .int (σ.1 0 23)), (0, .ref (Ω.2.2.1 0)), (1, .int x1), (2, .int x2)]) dX8_receive_6 (by decide) rfl ?_
  refine ok_sub [2, 3, 4, 1, 0] rfl ?_
  exact Eq.mp (gl8 _ _ _) h
