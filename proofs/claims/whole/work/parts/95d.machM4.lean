set_option maxRecDepth 100000 in
set_option maxHeartbeats 4000000 in
theorem m_X8_inject {l : Launch} {Ω : Wm} (hk : Hk Ω kM) (c_X8_fails : CT_X8_fails l Ω) (c_X8_holds : CT_X8_holds l Ω) (c_X8_isNode : CT_X8_isNode l Ω) (c_X8_make : CT_X8_make l Ω) (hv : ∀ (x1 : Int32) (x2 : Int32) (x3 : Int32) (x4 : Int32) (x5 : Int64) (σ : Sg) (K : Int32 → Sg → Prop), sp_X8_inject x1 x2 x3 x4 x5 σ K → vc_X8_inject x1 x2 x3 x4 x5 σ K) : CT_X8_inject l Ω := by
  intro x1 x2 x3 x4 x5 σ Po hsp
  have hvc := hv x1 x2 x3 x4 x5 σ Po hsp
  refine Ct.of (by decide +kernel) (Nat.le_of_ble_eq_true rfl) (fun Γ C => ?_)
  obtain ⟨L90, gl90⟩ : ∃ L : Int32 → Sg → Prop, ∀ (x7 : Int32) (σ : Sg), L x7 σ = OK Γ Ω 8 90 [(0, .ref (Ω.2.2.1 0)), (1, .int x1), (2, .int x2), (3, .int x3), (4, .int x4), (5, .long x5), (7, .int x7)] [] σ := ⟨fun x7 σ => OK Γ Ω 8 90 [(0, .ref (Ω.2.2.1 0)), (1, .int x1), (2, .int x2), (3, .int x3), (4, .int x4), (5, .long x5), (7, .int x7)] [] σ, fun _ _ => rfl⟩
  have J193 : ∀ (s0 : Int32) (σ : Sg), f_X8_inject_193 x1 x2 x3 x4 x5 L90 Po s0 σ → OK Γ Ω 8 193 [(0, .ref (Ω.2.2.1 0)), (1, .int x1), (2, .int x2), (3, .int x3), (4, .int x4), (5, .long x5)] [.int s0, .ref (Ω.2.2.1 0)] σ := by
    intro s0 σ h
    unfold f_X8_inject_193 at h
    refine ok_iconst C (v := 3) dX8_inject_193 (by decide) ?_
    refine ok_callVi C (As := [.int s0, .int 3]) (rest := []) (q := 0) (ci := 8) (kat hk kM_0) rfl (c_X8_fails  _ _ _ _ h) W_7_15 W_7_17 W_0_52 W_7_18 W_1_28 hd_X8_fails rfl ⟨Nat.le_of_ble_eq_true rfl, Nat.le_of_ble_eq_true rfl⟩ (Nat.le_of_ble_eq_true rfl) rfl dX8_inject_194 (fun r37 u38 h => ?_)
    obtain ⟨h1, h2⟩ := h
    refine ok_if_eq C 202 dX8_inject_197 rfl (fun c43 => ?_) (fun c43 => ?_)
    · have h := h1 c43
      refine ok_aload_n C 0 dX8_inject_202 rfl rfl ?_
      refine ok_getR C (ci := 8) hinX8 (kat hk kM_0) rfl 6 (by decide) W_6_132 (fun _ _ h => h) rfl dX8_inject_203 ?_
      refine ok_aload_n C 0 dX8_inject_206 rfl rfl ?_
      refine ok_getI C (ci := 8) hinX8 (kat hk kM_0) rfl 2 (by decide) W_6_128 (fun _ _ h => h) rfl dX8_inject_207 ?_
      refine ok_iconst C (v := 0) dX8_inject_210 (by decide) ?_
      obtain ⟨g39, h⟩ := h
      refine ok_iast C (kat hk kM_4) g39 dX8_inject_211 ?_
      refine ok_aload_n C 0 dX8_inject_212 rfl rfl ?_
      refine ok_iload_n C 2 dX8_inject_213 rfl rfl ?_
      refine ok_iload_n C 3 dX8_inject_214 rfl rfl ?_
      refine ok_iload C 4 dX8_inject_215 rfl ?_
      refine ok_lload C 5 dX8_inject_217 rfl ?_
      refine ok_callVi C (As := [.int x2, .int x3, .int x4, .long x5]) (rest := []) (q := 0) (ci := 8) (kat hk kM_0) rfl (c_X8_make  _ _ _ _ _ _ h) W_6_78 W_6_80 W_0_41 W_6_81 W_1_28 hd_X8_make rfl ⟨Nat.le_of_ble_eq_true rfl, Nat.le_of_ble_eq_true rfl⟩ (Nat.le_of_ble_eq_true rfl) rfl dX8_inject_219 (fun r40 u41 h => ?_)
      refine ok_istore C (L2 := [(7, .int r40), (0, .ref (Ω.2.2.1 0)), (1, .int x1), (2, .int x2), (3, .int x3), (4, .int x4), (5, .long x5)]) dX8_inject_222 (by decide) rfl ?_
      refine ok_aload_n C 1 dX8_inject_224 rfl rfl ?_
      refine ok_getR C (ci := 8) hinX8 (kat hk kM_0) rfl 17 (by decide) W_6_143 (fun _ _ h => h) rfl dX8_inject_225 ?_
      refine ok_sipush C (v := 240) dX8_inject_228 (by decide) ?_
      refine ok_iload_n C 2 dX8_inject_231 rfl rfl ?_
      refine ok_imul C dX8_inject_232 ?_
      refine ok_iload C 0 dX8_inject_233 rfl ?_
      refine ok_iadd C dX8_inject_235 ?_
      refine ok_iconst C (v := 1) dX8_inject_236 (by decide) ?_
      obtain ⟨g42, h⟩ := h
      refine ok_zast C (kat hk kM_15) g42 dX8_inject_237 (bz_s isZ_1 ?_)
      refine ok_iload C 0 dX8_inject_238 rfl ?_
      exact ok_iret C rfl rfl dX8_inject_240 h
    · have h := h2 c43
      refine ok_iconst C (v := 0) dX8_inject_200 (by decide) ?_
      exact ok_iret C rfl rfl dX8_inject_201 h
  have J162 : ∀ (x7 : Int32) (s0 : Int32) (σ : Sg), f_X8_inject_162 x1 x2 x3 x4 x5 L90 Po x7 s0 σ → OK Γ Ω 8 162 [(0, .ref (Ω.2.2.1 0)), (1, .int x1), (2, .int x2), (3, .int x3), (4, .int x4), (5, .long x5), (7, .int x7)] [.int s0, .ref (Ω.2.2.1 0)] σ := by
    intro x7 s0 σ h
    unfold f_X8_inject_162 at h
    refine ok_iconst C (v := 2) dX8_inject_162 (by decide) ?_
    refine ok_callVi C (As := [.int s0, .int 2]) (rest := []) (q := 0) (ci := 8) (kat hk kM_0) rfl (c_X8_fails  _ _ _ _ h) W_7_15 W_7_17 W_0_52 W_7_18 W_1_28 hd_X8_fails rfl ⟨Nat.le_of_ble_eq_true rfl, Nat.le_of_ble_eq_true rfl⟩ (Nat.le_of_ble_eq_true rfl) rfl dX8_inject_163 (fun r34 u35 h => ?_)
    obtain ⟨h1, h2⟩ := h
    refine ok_if_eq C 171 dX8_inject_166 rfl (fun c36 => ?_) (fun c36 => ?_)
    · have h := h1 c36
      refine ok_iinc C (v := x7 + 1) (L2 := [(7, .int (x7 + 1)), (0, .ref (Ω.2.2.1 0)), (1, .int x1), (2, .int x2), (3, .int x3), (4, .int x4), (5, .long x5)]) 6 dX8_inject_171 rfl rfl (by decide) rfl ?_
      refine ok_goto C 90 dX8_inject_174 rfl ?_
      refine ok_sub [1, 2, 3, 4, 5, 6, 0] rfl ?_
      exact Eq.mp (gl90 _ _) h
    · have h := h2 c36
      refine ok_iconst C (v := 0) dX8_inject_169 (by decide) ?_
      exact ok_iret C rfl rfl dX8_inject_170 h
  have J161 : ∀ (x7 : Int32) (σ : Sg), f_X8_inject_161 x1 x2 x3 x4 x5 L90 Po x7 σ → OK Γ Ω 8 161 [(0, .ref (Ω.2.2.1 0)), (1, .int x1), (2, .int x2), (3, .int x3), (4, .int x4), (5, .long x5), (7, .int x7)] [.ref (Ω.2.2.1 0)] σ := by
    intro x7 σ h
    unfold f_X8_inject_161 at h
    refine ok_iconst C (v := 0) dX8_inject_161 (by decide) ?_
    refine ok_sub [0, 1, 2, 3, 4, 5, 6] rfl ?_
    exact J162 _ _ _ h
  have J78 : ∀ (s0 : Int32) (σ : Sg), f_X8_inject_78 x1 x2 x3 x4 x5 L90 Po s0 σ → OK Γ Ω 8 78 [(0, .ref (Ω.2.2.1 0)), (1, .int x1), (2, .int x2), (3, .int x3), (4, .int x4), (5, .long x5)] [.int s0, .ref (Ω.2.2.1 0)] σ := by
    intro s0 σ h
    unfold f_X8_inject_78 at h
    refine ok_iconst C (v := 1) dX8_inject_78 (by decide) ?_
    refine ok_callVi C (As := [.int s0, .int 1]) (rest := []) (q := 0) (ci := 8) (kat hk kM_0) rfl (c_X8_fails  _ _ _ _ h) W_7_15 W_7_17 W_0_52 W_7_18 W_1_28 hd_X8_fails rfl ⟨Nat.le_of_ble_eq_true rfl, Nat.le_of_ble_eq_true rfl⟩ (Nat.le_of_ble_eq_true rfl) rfl dX8_inject_79 (fun r19 u20 h => ?_)
    obtain ⟨h1, h2⟩ := h
    refine ok_if_eq C 87 dX8_inject_82 rfl (fun c21 => ?_) (fun c21 => ?_)
    · have h := h1 c21
      refine ok_iconst C (v := 0) dX8_inject_87 (by decide) ?_
      refine ok_istore C (L2 := [(7, .int 0), (0, .ref (Ω.2.2.1 0)), (1, .int x1), (2, .int x2), (3, .int x3), (4, .int x4), (5, .long x5)]) dX8_inject_88 (by decide) rfl ?_
      refine ok_sub [1, 2, 3, 4, 5, 6, 0] rfl ?_
      exact Eq.mp (gl90 _ _) h
    · have h := h2 c21
      refine ok_iconst C (v := 0) dX8_inject_85 (by decide) ?_
      exact ok_iret C rfl rfl dX8_inject_86 h
  have J77 : ∀  (σ : Sg), f_X8_inject_77 x1 x2 x3 x4 x5 L90 Po  σ → OK Γ Ω 8 77 [(0, .ref (Ω.2.2.1 0)), (1, .int x1), (2, .int x2), (3, .int x3), (4, .int x4), (5, .long x5)] [.ref (Ω.2.2.1 0)] σ := by
    intro  σ h
    unfold f_X8_inject_77 at h
    refine ok_iconst C (v := 0) dX8_inject_77 (by decide) ?_
    refine ok_sub [0, 1, 2, 3, 4, 5] rfl ?_
    exact J78 _ _ h
  have J73 : ∀  (σ : Sg), f_X8_inject_73 x1 x2 x3 x4 x5 L90 Po  σ → OK Γ Ω 8 73 [(0, .ref (Ω.2.2.1 0)), (1, .int x1), (2, .int x2), (3, .int x3), (4, .int x4), (5, .long x5)] [.ref (Ω.2.2.1 0)] σ := by
    intro  σ h
    unfold f_X8_inject_73 at h
    refine ok_iconst C (v := 1) dX8_inject_73 (by decide) ?_
    refine ok_goto C 78 dX8_inject_74 rfl ?_
    refine ok_sub [0, 1, 2, 3, 4, 5] rfl ?_
    exact J78 _ _ h
  have R90 : ∀ (x7 : Int32) (σ : Sg), f_X8_inject_90 x1 x2 x3 x4 x5 L90 Po x7 σ → L90 x7 σ := by
    intro x7 σ h
    unfold f_X8_inject_90 at h
    refine Eq.mpr (gl90 _ _) ?_
    refine ok_iload C 6 dX8_inject_90 rfl ?_
    refine ok_aload_n C 0 dX8_inject_92 rfl rfl ?_
    refine ok_getI C (ci := 8) hinX8 (kat hk kM_0) rfl 2 (by decide) W_6_128 (fun _ _ h => h) rfl dX8_inject_93 ?_
    obtain ⟨h1, h2⟩ := h
    refine ok_icmp_ge C 177 dX8_inject_96 rfl (fun c33 => ?_) (fun c33 => ?_)
    · have h := h1 c33
      refine ok_aload_n C 0 dX8_inject_177 rfl rfl ?_
      refine ok_aload_n C 0 dX8_inject_178 rfl rfl ?_
      refine ok_getI C (ci := 8) hinX8 (kat hk kM_0) rfl 2 (by decide) W_6_128 (fun _ _ h => h) rfl dX8_inject_179 ?_
      refine ok_sipush C (v := 240) dX8_inject_182 (by decide) ?_
      obtain ⟨h1, h2⟩ := h
      refine ok_icmp_ne C 192 dX8_inject_185 rfl (fun c22 => ?_) (fun c22 => ?_)
      · have h := h1 c22
        refine ok_iconst C (v := 0) dX8_inject_192 (by decide) ?_
        refine ok_sub [0, 1, 2, 3, 4, 5] rfl ?_
        exact J193 _ _ h
      · have h := h2 c22
        refine ok_iconst C (v := 1) dX8_inject_188 (by decide) ?_
        refine ok_goto C 193 dX8_inject_189 rfl ?_
        refine ok_sub [0, 1, 2, 3, 4, 5] rfl ?_
        exact J193 _ _ h
    · have h := h2 c33
      refine ok_aload_n C 0 dX8_inject_99 rfl rfl ?_
      refine ok_aload_n C 0 dX8_inject_100 rfl rfl ?_
      refine ok_getR C (ci := 8) hinX8 (kat hk kM_0) rfl 3 (by decide) W_6_129 (fun _ _ h => h) rfl dX8_inject_101 ?_
      refine ok_iload C 6 dX8_inject_104 rfl ?_
      obtain ⟨g23, h⟩ := h
      refine ok_iald C (kat hk kM_1) g23 dX8_inject_106 ?_
      refine ok_iload_n C 2 dX8_inject_107 rfl rfl ?_
      obtain ⟨h1, h2⟩ := h
      refine ok_icmp_ne C 161 dX8_inject_108 rfl (fun c32 => ?_) (fun c32 => ?_)
      · have h := h1 c32
        refine ok_sub [0, 1, 2, 3, 4, 5, 6] rfl ?_
        exact J161 _ _ h
      · have h := h2 c32
        refine ok_aload_n C 0 dX8_inject_111 rfl rfl ?_
        refine ok_getR C (ci := 8) hinX8 (kat hk kM_0) rfl 4 (by decide) W_6_130 (fun _ _ h => h) rfl dX8_inject_112 ?_
        refine ok_iload C 6 dX8_inject_115 rfl ?_
        obtain ⟨g24, h⟩ := h
        refine ok_iald C (kat hk kM_2) g24 dX8_inject_117 ?_
        refine ok_iload_n C 3 dX8_inject_118 rfl rfl ?_
        obtain ⟨h1, h2⟩ := h
        refine ok_icmp_ne C 161 dX8_inject_119 rfl (fun c31 => ?_) (fun c31 => ?_)
        · have h := h1 c31
          refine ok_sub [0, 1, 2, 3, 4, 5, 6] rfl ?_
          exact J161 _ _ h
        · have h := h2 c31
          refine ok_aload_n C 0 dX8_inject_122 rfl rfl ?_
          refine ok_getR C (ci := 8) hinX8 (kat hk kM_0) rfl 5 (by decide) W_6_131 (fun _ _ h => h) rfl dX8_inject_123 ?_
          refine ok_iload C 6 dX8_inject_126 rfl ?_
          obtain ⟨g25, h⟩ := h
          refine ok_iald C (kat hk kM_3) g25 dX8_inject_128 ?_
          refine ok_iload C 4 dX8_inject_129 rfl ?_
          obtain ⟨h1, h2⟩ := h
          refine ok_icmp_ne C 161 dX8_inject_131 rfl (fun c30 => ?_) (fun c30 => ?_)
          · have h := h1 c30
            refine ok_sub [0, 1, 2, 3, 4, 5, 6] rfl ?_
            exact J161 _ _ h
          · have h := h2 c30
            refine ok_aload_n C 0 dX8_inject_134 rfl rfl ?_
            refine ok_getR C (ci := 8) hinX8 (kat hk kM_0) rfl 15 (by decide) W_6_141 (fun _ _ h => h) rfl dX8_inject_135 ?_
            refine ok_iload C 6 dX8_inject_138 rfl ?_
            obtain ⟨g26, h⟩ := h
            refine ok_lald C (kat hk kM_13) g26 dX8_inject_140 ?_
            refine ok_lload C 5 dX8_inject_141 rfl ?_
            refine ok_lcmp C dX8_inject_143 ?_
            obtain ⟨h1, h2⟩ := h
            refine ok_if_ne C 161 dX8_inject_144 rfl (fun c29 => ?_) (fun c29 => ?_)
            · have h := h1 c29
              refine ok_sub [0, 1, 2, 3, 4, 5, 6] rfl ?_
              exact J161 _ _ h
            · have h := h2 c29
              refine ok_aload_n C 0 dX8_inject_147 rfl rfl ?_
              refine ok_getR C (ci := 8) hinX8 (kat hk kM_0) rfl 6 (by decide) W_6_132 (fun _ _ h => h) rfl dX8_inject_148 ?_
              refine ok_iload C 6 dX8_inject_151 rfl ?_
              obtain ⟨g27, h⟩ := h
              refine ok_iald C (kat hk kM_4) g27 dX8_inject_153 ?_
              obtain ⟨h1, h2⟩ := h
              refine ok_if_ne C 161 dX8_inject_154 rfl (fun c28 => ?_) (fun c28 => ?_)
              · have h := h1 c28
                refine ok_sub [0, 1, 2, 3, 4, 5, 6] rfl ?_
                exact J161 _ _ h
              · have h := h2 c28
                refine ok_iconst C (v := 1) dX8_inject_157 (by decide) ?_
                refine ok_goto C 162 dX8_inject_158 rfl ?_
                refine ok_sub [0, 1, 2, 3, 4, 5, 6] rfl ?_
                exact J162 _ _ _ h
  have h : f_X8_inject_e x1 x2 x3 x4 x5 L90 Po σ := hvc L90 R90
  unfold f_X8_inject_e at h
  refine ok_sub (L2 := [(0, .ref (Ω.2.2.1 0)), (1, .int x1), (2, .int x2), (3, .int x3), (4, .int x4), (5, .long x5)]) [0, 1, 2, 3, 4, 5] rfl ?_
  refine ok_aload_n C 0 dX8_inject_0 rfl rfl ?_
  refine ok_iconst C (v := 0) dX8_inject_1 (by decide) ?_
  refine ok_putI C (ci := 8) hinX8 (kat hk kM_0) rfl 0 (by decide) W_6_126 (fun _ _ h => h) tyX8 tyX8_ok nmX8 rfl (by decide +kernel) rfl rfl rfl dX8_inject_2 ?_
  refine ok_aload_n C 0 dX8_inject_5 rfl rfl ?_
  refine ok_aload_n C 0 dX8_inject_6 rfl rfl ?_
  refine ok_iload_n C 1 dX8_inject_7 rfl rfl ?_
  refine ok_callVi C (As := [.int x1]) (rest := [.ref (Ω.2.2.1 0)]) (q := 0) (ci := 8) (kat hk kM_0) rfl (c_X8_isNode  _ _ _ h) W_7_23 W_7_25 W_0_53 W_7_26 W_1_28 hd_X8_isNode rfl ⟨Nat.le_of_ble_eq_true rfl, Nat.le_of_ble_eq_true rfl⟩ (Nat.le_of_ble_eq_true rfl) rfl dX8_inject_8 (fun r1 u2 h => ?_)
  obtain ⟨h1, h2⟩ := h
  refine ok_if_eq C 73 dX8_inject_11 rfl (fun c18 => ?_) (fun c18 => ?_)
  · have h := h1 c18
    refine ok_sub [0, 1, 2, 3, 4, 5] rfl ?_
    exact J73  _ h
  · have h := h2 c18
    refine ok_aload_n C 0 dX8_inject_14 rfl rfl ?_
    refine ok_iload_n C 2 dX8_inject_15 rfl rfl ?_
    refine ok_callVi C (As := [.int x2]) (rest := [.ref (Ω.2.2.1 0)]) (q := 0) (ci := 8) (kat hk kM_0) rfl (c_X8_isNode  _ _ _ h) W_7_23 W_7_25 W_0_53 W_7_26 W_1_28 hd_X8_isNode rfl ⟨Nat.le_of_ble_eq_true rfl, Nat.le_of_ble_eq_true rfl⟩ (Nat.le_of_ble_eq_true rfl) rfl dX8_inject_16 (fun r3 u4 h => ?_)
    obtain ⟨h1, h2⟩ := h
    refine ok_if_eq C 73 dX8_inject_19 rfl (fun c17 => ?_) (fun c17 => ?_)
    · have h := h1 c17
      refine ok_sub [0, 1, 2, 3, 4, 5] rfl ?_
      exact J73  _ h
    · have h := h2 c17
      refine ok_iload_n C 1 dX8_inject_22 rfl rfl ?_
      refine ok_iload_n C 2 dX8_inject_23 rfl rfl ?_
      obtain ⟨h1, h2⟩ := h
      refine ok_icmp_eq C 73 dX8_inject_24 rfl (fun c16 => ?_) (fun c16 => ?_)
      · have h := h1 c16
        refine ok_sub [0, 1, 2, 3, 4, 5] rfl ?_
        exact J73  _ h
      · have h := h2 c16
        refine ok_aload_n C 0 dX8_inject_27 rfl rfl ?_
        refine ok_iload_n C 1 dX8_inject_28 rfl rfl ?_
        refine ok_iload_n C 3 dX8_inject_29 rfl rfl ?_
        refine ok_callVi C (As := [.int x1, .int x3]) (rest := [.ref (Ω.2.2.1 0)]) (q := 0) (ci := 8) (kat hk kM_0) rfl (c_X8_holds  _ _ _ _ h) W_7_36 W_7_38 W_0_54 W_7_39 W_1_28 hd_X8_holds rfl ⟨Nat.le_of_ble_eq_true rfl, Nat.le_of_ble_eq_true rfl⟩ (Nat.le_of_ble_eq_true rfl) rfl dX8_inject_30 (fun r5 u6 h => ?_)
        obtain ⟨h1, h2⟩ := h
        refine ok_if_eq C 73 dX8_inject_33 rfl (fun c15 => ?_) (fun c15 => ?_)
        · have h := h1 c15
          refine ok_sub [0, 1, 2, 3, 4, 5] rfl ?_
          exact J73  _ h
        · have h := h2 c15
          refine ok_aload_n C 0 dX8_inject_36 rfl rfl ?_
          refine ok_getR C (ci := 8) hinX8 (kat hk kM_0) rfl 3 (by decide) W_6_129 (fun _ _ h => h) rfl dX8_inject_37 ?_
          refine ok_iload_n C 3 dX8_inject_40 rfl rfl ?_
          obtain ⟨g7, h⟩ := h
          refine ok_iald C (kat hk kM_1) g7 dX8_inject_41 ?_
          refine ok_iload_n C 2 dX8_inject_42 rfl rfl ?_
          obtain ⟨h1, h2⟩ := h
          refine ok_icmp_ne C 73 dX8_inject_43 rfl (fun c14 => ?_) (fun c14 => ?_)
          · have h := h1 c14
            refine ok_sub [0, 1, 2, 3, 4, 5] rfl ?_
            exact J73  _ h
          · have h := h2 c14
            refine ok_iload C 4 dX8_inject_46 rfl ?_
            refine ok_iconst C (v := (-1)) dX8_inject_48 (by decide) ?_
            obtain ⟨h1, h2⟩ := h
            refine ok_icmp_eq C 77 dX8_inject_49 rfl (fun c13 => ?_) (fun c13 => ?_)
            · have h := h1 c13
              refine ok_sub [0, 1, 2, 3, 4, 5] rfl ?_
              exact J77  _ h
            · have h := h2 c13
              refine ok_aload_n C 0 dX8_inject_52 rfl rfl ?_
              refine ok_iload_n C 1 dX8_inject_53 rfl rfl ?_
              refine ok_iload C 4 dX8_inject_54 rfl ?_
              refine ok_callVi C (As := [.int x1, .int x4]) (rest := [.ref (Ω.2.2.1 0)]) (q := 0) (ci := 8) (kat hk kM_0) rfl (c_X8_holds  _ _ _ _ h) W_7_36 W_7_38 W_0_54 W_7_39 W_1_28 hd_X8_holds rfl ⟨Nat.le_of_ble_eq_true rfl, Nat.le_of_ble_eq_true rfl⟩ (Nat.le_of_ble_eq_true rfl) rfl dX8_inject_56 (fun r8 u9 h => ?_)
              obtain ⟨h1, h2⟩ := h
              refine ok_if_eq C 73 dX8_inject_59 rfl (fun c12 => ?_) (fun c12 => ?_)
              · have h := h1 c12
                refine ok_sub [0, 1, 2, 3, 4, 5] rfl ?_
                exact J73  _ h
              · have h := h2 c12
                refine ok_aload_n C 0 dX8_inject_62 rfl rfl ?_
                refine ok_getR C (ci := 8) hinX8 (kat hk kM_0) rfl 3 (by decide) W_6_129 (fun _ _ h => h) rfl dX8_inject_63 ?_
                refine ok_iload C 4 dX8_inject_66 rfl ?_
                obtain ⟨g10, h⟩ := h
                refine ok_iald C (kat hk kM_1) g10 dX8_inject_68 ?_
                refine ok_iload_n C 2 dX8_inject_69 rfl rfl ?_
                obtain ⟨h1, h2⟩ := h
                refine ok_icmp_ne C 77 dX8_inject_70 rfl (fun c11 => ?_) (fun c11 => ?_)
                · have h := h1 c11
                  refine ok_sub [0, 1, 2, 3, 4, 5] rfl ?_
                  exact J77  _ h
                · have h := h2 c11
                  refine ok_sub [0, 1, 2, 3, 4, 5] rfl ?_
                  exact J73  _ h
set_option maxRecDepth 100000 in
set_option maxHeartbeats 4000000 in
theorem m_X8_event {l : Launch} {Ω : Wm} (hk : Hk Ω kM) (c_X8_fails : CT_X8_fails l Ω) (c_X8_in : CT_X8_in l Ω) (c_X8_isEvent : CT_X8_isEvent l Ω) (hv : ∀ (x1 : Int32) (x2 : Int32) (σ : Sg) (K : Int32 → Sg → Prop), sp_X8_event x1 x2 σ K → vc_X8_event x1 x2 σ K) : CT_X8_event l Ω := by
  intro x1 x2 σ Po hsp
  have hvc := hv x1 x2 σ Po hsp
  refine Ct.of (by decide +kernel) (Nat.le_of_ble_eq_true rfl) (fun Γ C => ?_)
  obtain ⟨L149, gl149⟩ : ∃ L : Int32 → Int32 → Sg → Prop, ∀ (x3 : Int32) (x4 : Int32) (σ : Sg), L x3 x4 σ = OK Γ Ω 5 149 [(0, .ref (Ω.2.2.1 0)), (1, .int x1), (3, .int x3), (4, .int x4)] [] σ := ⟨fun x3 x4 σ => OK Γ Ω 5 149 [(0, .ref (Ω.2.2.1 0)), (1, .int x1), (3, .int x3), (4, .int x4)] [] σ, fun _ _ _ => rfl⟩
  obtain ⟨L188, gl188⟩ : ∃ L : Int32 → Int32 → Sg → Prop, ∀ (x3 : Int32) (x4 : Int32) (σ : Sg), L x3 x4 σ = OK Γ Ω 5 188 [(0, .ref (Ω.2.2.1 0)), (1, .int x1), (3, .int x3), (4, .int x4)] [] σ := ⟨fun x3 x4 σ => OK Γ Ω 5 188 [(0, .ref (Ω.2.2.1 0)), (1, .int x1), (3, .int x3), (4, .int x4)] [] σ, fun _ _ _ => rfl⟩
  have J213 : ∀ (x3 : Int32) (x4 : Int32) (σ : Sg), f_X8_event_213 x1 x2 L149 L188 Po x3 x4 σ → OK Γ Ω 5 213 [(0, .ref (Ω.2.2.1 0)), (1, .int x1), (3, .int x3), (4, .int x4)] [] σ := by
    intro x3 x4 σ h
    unfold f_X8_event_213 at h
    refine ok_iinc C (v := x4 + 1) (L2 := [(4, .int (x4 + 1)), (0, .ref (Ω.2.2.1 0)), (1, .int x1), (3, .int x3)]) 3 dX8_event_213 rfl rfl (by decide) rfl ?_
    refine ok_goto C 188 dX8_event_216 rfl ?_
    refine ok_sub [1, 2, 3, 0] rfl ?_
    exact Eq.mp (gl188 _ _ _) h
  have J177 : ∀ (x3 : Int32) (x4 : Int32) (σ : Sg), f_X8_event_177 x1 x2 L149 L188 Po x3 x4 σ → OK Γ Ω 5 177 [(0, .ref (Ω.2.2.1 0)), (1, .int x1), (3, .int x3), (4, .int x4)] [] σ := by
    intro x3 x4 σ h
    unfold f_X8_event_177 at h
    refine ok_iinc C (v := x4 + 1) (L2 := [(4, .int (x4 + 1)), (0, .ref (Ω.2.2.1 0)), (1, .int x1), (3, .int x3)]) 3 dX8_event_177 rfl rfl (by decide) rfl ?_
    refine ok_goto C 149 dX8_event_180 rfl ?_
    refine ok_sub [1, 2, 3, 0] rfl ?_
    exact Eq.mp (gl149 _ _ _) h
  have J138 : ∀ (s0 : Int32) (σ : Sg), f_X8_event_138 x1 x2 L149 L188 Po s0 σ → OK Γ Ω 5 138 [] [.int s0] σ := by
    intro s0 σ h
    unfold f_X8_event_138 at h
    exact ok_iret C rfl rfl dX8_event_138 h
  have J49 : ∀  (σ : Sg), f_X8_event_49 x1 x2 L149 L188 Po  σ → OK Γ Ω 5 49 [] [] σ := by
    intro  σ h
    unfold f_X8_event_49 at h
    refine ok_iconst C (v := 0) dX8_event_49 (by decide) ?_
    exact ok_iret C rfl rfl dX8_event_50 h
  have J42 : ∀ (s0 : Int32) (σ : Sg), f_X8_event_42 x1 x2 L149 L188 Po s0 σ → OK Γ Ω 5 42 [(0, .ref (Ω.2.2.1 0)), (1, .int x1), (2, .int x2)] [.int s0, .ref (Ω.2.2.1 0)] σ := by
    intro s0 σ h
    unfold f_X8_event_42 at h
    refine ok_iconst C (v := 2) dX8_event_42 (by decide) ?_
    refine ok_callVi C (As := [.int s0, .int 2]) (rest := []) (q := 0) (ci := 8) (kat hk kM_0) rfl (c_X8_fails  _ _ _ _ h) W_7_15 W_7_17 W_0_52 W_7_18 W_1_28 hd_X8_fails rfl ⟨Nat.le_of_ble_eq_true rfl, Nat.le_of_ble_eq_true rfl⟩ (Nat.le_of_ble_eq_true rfl) rfl dX8_event_43 (fun r10 u11 h => ?_)
    obtain ⟨h1, h2⟩ := h
    refine ok_if_eq C 51 dX8_event_46 rfl (fun c19 => ?_) (fun c19 => ?_)
    · have h := h1 c19
      refine ok_iconst C (v := 0) dX8_event_51 (by decide) ?_
      refine ok_istore_n C (L2 := [(3, .int 0), (0, .ref (Ω.2.2.1 0)), (1, .int x1), (2, .int x2)]) dX8_event_52 rfl (by decide) rfl ?_
      refine ok_iload_n C 3 dX8_event_53 rfl rfl ?_
      rcases (show (x2.toInt < 0 ∨ 6 < x2.toInt) ∨ x2.toInt = 0 ∨ x2.toInt = 1 ∨ x2.toInt = 2 ∨ x2.toInt = 3 ∨ x2.toInt = 4 ∨ x2.toInt = 5 ∨ x2.toInt = 6 by omega) with c | c | c | c | c | c | c | c
      · have h := h.1 c
        refine ok_tableOut C 185 dX8_event_54 c rfl ?_
        refine ok_iconst C (v := 0) dX8_event_185 (by decide) ?_
        refine ok_istore C (L2 := [(4, .int 0), (3, .int 0), (0, .ref (Ω.2.2.1 0)), (1, .int x1), (2, .int x2)]) dX8_event_186 (by decide) rfl ?_
        refine ok_sub [2, 3, 1, 0] rfl ?_
        exact Eq.mp (gl188 _ _ _) h
      · have h := h.2.1 c
        refine ok_tableIn C 96 dX8_event_54 (by omega) (by omega) (by rw [c]; rfl) rfl ?_
        refine ok_aload_n C 1 dX8_event_96 rfl rfl ?_
        refine ok_getR C (ci := 8) hinX8 (kat hk kM_0) rfl 3 (by decide) W_6_129 (fun _ _ h => h) rfl dX8_event_97 ?_
        refine ok_iload_n C 2 dX8_event_100 rfl rfl ?_
        obtain ⟨g12, h⟩ := h
        refine ok_iald C (kat hk kM_1) g12 dX8_event_101 ?_
        exact ok_iret C rfl rfl dX8_event_102 h
      · have h := h.2.2.1 c
        refine ok_tableIn C 103 dX8_event_54 (by omega) (by omega) (by rw [c]; rfl) rfl ?_
        refine ok_aload_n C 1 dX8_event_103 rfl rfl ?_
        refine ok_getR C (ci := 8) hinX8 (kat hk kM_0) rfl 4 (by decide) W_6_130 (fun _ _ h => h) rfl dX8_event_104 ?_
        refine ok_iload_n C 2 dX8_event_107 rfl rfl ?_
        obtain ⟨g13, h⟩ := h
        refine ok_iald C (kat hk kM_2) g13 dX8_event_108 ?_
        exact ok_iret C rfl rfl dX8_event_109 h
      · have h := h.2.2.2.1 c
        refine ok_tableIn C 110 dX8_event_54 (by omega) (by omega) (by rw [c]; rfl) rfl ?_
        refine ok_aload_n C 1 dX8_event_110 rfl rfl ?_
        refine ok_getR C (ci := 8) hinX8 (kat hk kM_0) rfl 5 (by decide) W_6_131 (fun _ _ h => h) rfl dX8_event_111 ?_
        refine ok_iload_n C 2 dX8_event_114 rfl rfl ?_
        obtain ⟨g14, h⟩ := h
        refine ok_iald C (kat hk kM_3) g14 dX8_event_115 ?_
        exact ok_iret C rfl rfl dX8_event_116 h
      · have h := h.2.2.2.2.1 c
        refine ok_tableIn C 117 dX8_event_54 (by omega) (by omega) (by rw [c]; rfl) rfl ?_
        refine ok_aload_n C 1 dX8_event_117 rfl rfl ?_
        refine ok_getR C (ci := 8) hinX8 (kat hk kM_0) rfl 9 (by decide) W_6_135 (fun _ _ h => h) rfl dX8_event_118 ?_
        refine ok_iload_n C 2 dX8_event_121 rfl rfl ?_
        obtain ⟨g15, h⟩ := h
        refine ok_iald C (kat hk kM_7) g15 dX8_event_122 ?_
        exact ok_iret C rfl rfl dX8_event_123 h
      · have h := h.2.2.2.2.2.1 c
        refine ok_tableIn C 124 dX8_event_54 (by omega) (by omega) (by rw [c]; rfl) rfl ?_
        refine ok_aload_n C 1 dX8_event_124 rfl rfl ?_
        refine ok_getR C (ci := 8) hinX8 (kat hk kM_0) rfl 19 (by decide) W_6_145 (fun _ _ h => h) rfl dX8_event_125 ?_
        refine ok_iload_n C 2 dX8_event_128 rfl rfl ?_
        obtain ⟨g16, h⟩ := h
        refine ok_zald C (kat hk kM_17) g16 dX8_event_129 ?_
        obtain ⟨h1, h2⟩ := h
        refine ok_if_eq C 137 dX8_event_130 rfl (fun c17 => ?_) (fun c17 => ?_)
        · have h := h1 c17
          refine ok_iconst C (v := 0) dX8_event_137 (by decide) ?_
          refine ok_sub [] rfl ?_
          exact J138 _ _ h
        · have h := h2 c17
          refine ok_iconst C (v := 1) dX8_event_133 (by decide) ?_
          refine ok_goto C 138 dX8_event_134 rfl ?_
          refine ok_sub [] rfl ?_
          exact J138 _ _ h
      · have h := h.2.2.2.2.2.2.1 c
        refine ok_tableIn C 139 dX8_event_54 (by omega) (by omega) (by rw [c]; rfl) rfl ?_
        refine ok_aload_n C 1 dX8_event_139 rfl rfl ?_
        refine ok_getR C (ci := 8) hinX8 (kat hk kM_0) rfl 6 (by decide) W_6_132 (fun _ _ h => h) rfl dX8_event_140 ?_
        refine ok_iload_n C 2 dX8_event_143 rfl rfl ?_
        obtain ⟨g18, h⟩ := h
        refine ok_iald C (kat hk kM_4) g18 dX8_event_144 ?_
        exact ok_iret C rfl rfl dX8_event_145 h
      · have h := h.2.2.2.2.2.2.2 c
        refine ok_tableIn C 146 dX8_event_54 (by omega) (by omega) (by rw [c]; rfl) rfl ?_
        refine ok_iconst C (v := 0) dX8_event_146 (by decide) ?_
        refine ok_istore C (L2 := [(4, .int 0), (3, .int 0), (0, .ref (Ω.2.2.1 0)), (1, .int x1), (2, .int x2)]) dX8_event_147 (by decide) rfl ?_
        refine ok_sub [2, 3, 1, 0] rfl ?_
        exact Eq.mp (gl149 _ _ _) h
    · have h := h2 c19
      refine ok_sub [] rfl ?_
      exact J49  _ h
  have J21 : ∀ (s0 : Int32) (σ : Sg), f_X8_event_21 x1 x2 L149 L188 Po s0 σ → OK Γ Ω 5 21 [(0, .ref (Ω.2.2.1 0)), (1, .int x1), (2, .int x2)] [.int s0, .ref (Ω.2.2.1 0)] σ := by
    intro s0 σ h
    unfold f_X8_event_21 at h
    refine ok_iconst C (v := 1) dX8_event_21 (by decide) ?_
    refine ok_callVi C (As := [.int s0, .int 1]) (rest := []) (q := 0) (ci := 8) (kat hk kM_0) rfl (c_X8_fails  _ _ _ _ h) W_7_15 W_7_17 W_0_52 W_7_18 W_1_28 hd_X8_fails rfl ⟨Nat.le_of_ble_eq_true rfl, Nat.le_of_ble_eq_true rfl⟩ (Nat.le_of_ble_eq_true rfl) rfl dX8_event_22 (fun r4 u5 h => ?_)
    obtain ⟨h1, h2⟩ := h
    refine ok_if_ne C 49 dX8_event_25 rfl (fun c9 => ?_) (fun c9 => ?_)
    · have h := h1 c9
      refine ok_sub [] rfl ?_
      exact J49  _ h
    · have h := h2 c9
      refine ok_aload_n C 0 dX8_event_28 rfl rfl ?_
      refine ok_aload_n C 0 dX8_event_29 rfl rfl ?_
      refine ok_iload_n C 1 dX8_event_30 rfl rfl ?_
      refine ok_callVi C (As := [.int x1]) (rest := [.ref (Ω.2.2.1 0)]) (q := 0) (ci := 8) (kat hk kM_0) rfl (c_X8_isEvent  _ _ _ h) W_7_40 W_7_42 W_0_55 W_7_43 W_1_28 hd_X8_isEvent rfl ⟨Nat.le_of_ble_eq_true rfl, Nat.le_of_ble_eq_true rfl⟩ (Nat.le_of_ble_eq_true rfl) rfl dX8_event_31 (fun r6 u7 h => ?_)
      obtain ⟨h1, h2⟩ := h
      refine ok_if_ne C 41 dX8_event_34 rfl (fun c8 => ?_) (fun c8 => ?_)
      · have h := h1 c8
        refine ok_iconst C (v := 0) dX8_event_41 (by decide) ?_
        refine ok_sub [0, 1, 2] rfl ?_
        exact J42 _ _ h
      · have h := h2 c8
        refine ok_iconst C (v := 1) dX8_event_37 (by decide) ?_
        refine ok_goto C 42 dX8_event_38 rfl ?_
        refine ok_sub [0, 1, 2] rfl ?_
        exact J42 _ _ h
  have R149 : ∀ (x3 : Int32) (x4 : Int32) (σ : Sg), f_X8_event_149 x1 x2 L149 L188 Po x3 x4 σ → L149 x3 x4 σ := by
    intro x3 x4 σ h
    unfold f_X8_event_149 at h
    refine Eq.mpr (gl149 _ _ _) ?_
    refine ok_iload C 3 dX8_event_149 rfl ?_
    refine ok_aload_n C 0 dX8_event_151 rfl rfl ?_
    refine ok_getI C (ci := 8) hinX8 (kat hk kM_0) rfl 1 (by decide) W_6_127 (fun _ _ h => h) rfl dX8_event_152 ?_
    obtain ⟨h1, h2⟩ := h
    refine ok_icmp_ge C 183 dX8_event_155 rfl (fun c22 => ?_) (fun c22 => ?_)
    · have h := h1 c22
      refine ok_iload_n C 2 dX8_event_183 rfl rfl ?_
      exact ok_iret C rfl rfl dX8_event_184 h
    · have h := h2 c22
      refine ok_aload_n C 0 dX8_event_158 rfl rfl ?_
      refine ok_getR C (ci := 8) hinX8 (kat hk kM_0) rfl 17 (by decide) W_6_143 (fun _ _ h => h) rfl dX8_event_159 ?_
      refine ok_sipush C (v := 240) dX8_event_162 (by decide) ?_
      refine ok_iload C 3 dX8_event_165 rfl ?_
      refine ok_imul C dX8_event_167 ?_
      refine ok_iload_n C 1 dX8_event_168 rfl rfl ?_
      refine ok_iadd C dX8_event_169 ?_
      obtain ⟨g20, h⟩ := h
      refine ok_zald C (kat hk kM_15) g20 dX8_event_170 ?_
      obtain ⟨h1, h2⟩ := h
      refine ok_if_eq C 177 dX8_event_171 rfl (fun c21 => ?_) (fun c21 => ?_)
      · have h := h1 c21
        refine ok_sub [0, 1, 2, 3] rfl ?_
        exact J177 _ _ _ h
      · have h := h2 c21
        refine ok_iinc C (v := x3 + 1) (L2 := [(3, .int (x3 + 1)), (0, .ref (Ω.2.2.1 0)), (1, .int x1), (4, .int x4)]) 2 dX8_event_174 rfl rfl (by decide) rfl ?_
        refine ok_sub [1, 2, 0, 3] rfl ?_
        exact J177 _ _ _ h
  have R188 : ∀ (x3 : Int32) (x4 : Int32) (σ : Sg), f_X8_event_188 x1 x2 L149 L188 Po x3 x4 σ → L188 x3 x4 σ := by
    intro x3 x4 σ h
    unfold f_X8_event_188 at h
    refine Eq.mpr (gl188 _ _ _) ?_
    refine ok_iload C 3 dX8_event_188 rfl ?_
    refine ok_iload_n C 1 dX8_event_190 rfl rfl ?_
    obtain ⟨h1, h2⟩ := h
    refine ok_icmp_gt C 219 dX8_event_191 rfl (fun c25 => ?_) (fun c25 => ?_)
    · have h := h1 c25
      refine ok_iload_n C 2 dX8_event_219 rfl rfl ?_
      exact ok_iret C rfl rfl dX8_event_220 h
    · have h := h2 c25
      refine ok_aload_n C 0 dX8_event_194 rfl rfl ?_
      refine ok_getR C (ci := 8) hinX8 (kat hk kM_0) rfl 16 (by decide) W_6_142 (fun _ _ h => h) rfl dX8_event_195 ?_
      refine ok_sipush C (v := 240) dX8_event_198 (by decide) ?_
      refine ok_iload_n C 1 dX8_event_201 rfl rfl ?_
      refine ok_imul C dX8_event_202 ?_
      refine ok_iload C 3 dX8_event_203 rfl ?_
      refine ok_iadd C dX8_event_205 ?_
      obtain ⟨g23, h⟩ := h
      refine ok_zald C (kat hk kM_14) g23 dX8_event_206 ?_
      obtain ⟨h1, h2⟩ := h
      refine ok_if_eq C 213 dX8_event_207 rfl (fun c24 => ?_) (fun c24 => ?_)
      · have h := h1 c24
        refine ok_sub [0, 1, 2, 3] rfl ?_
        exact J213 _ _ _ h
      · have h := h2 c24
        refine ok_iinc C (v := x3 + 1) (L2 := [(3, .int (x3 + 1)), (0, .ref (Ω.2.2.1 0)), (1, .int x1), (4, .int x4)]) 2 dX8_event_210 rfl rfl (by decide) rfl ?_
        refine ok_sub [1, 2, 0, 3] rfl ?_
        exact J213 _ _ _ h
  have h : f_X8_event_e x1 x2 L149 L188 Po σ := hvc L149 L188 R149 R188
  unfold f_X8_event_e at h
  refine ok_sub (L2 := [(0, .ref (Ω.2.2.1 0)), (1, .int x1), (2, .int x2)]) [0, 1, 2] rfl ?_
  refine ok_aload_n C 0 dX8_event_0 rfl rfl ?_
  refine ok_iconst C (v := 0) dX8_event_1 (by decide) ?_
  refine ok_putI C (ci := 8) hinX8 (kat hk kM_0) rfl 0 (by decide) W_6_126 (fun _ _ h => h) tyX8 tyX8_ok nmX8 rfl (by decide +kernel) rfl rfl rfl dX8_event_2 ?_
  refine ok_aload_n C 0 dX8_event_5 rfl rfl ?_
  refine ok_iload_n C 2 dX8_event_6 rfl rfl ?_
  refine ok_iconst C (v := 0) dX8_event_7 (by decide) ?_
  refine ok_bipush C (v := 7) dX8_event_8 (by decide) ?_
  refine ok_callSi C (As := [.int x2, .int 0, .int 7]) (rest := [.ref (Ω.2.2.1 0)]) (c_X8_in  _ _ _ _ _ h) W_7_12 W_7_13 W_7_14 W_1_28 hd_X8_in rfl ⟨Nat.le_of_ble_eq_true rfl, Nat.le_of_ble_eq_true rfl⟩ (Nat.le_of_ble_eq_true rfl) rfl dX8_event_10 (fun r1 u2 h => ?_)
  obtain ⟨h1, h2⟩ := h
  refine ok_if_ne C 20 dX8_event_13 rfl (fun c3 => ?_) (fun c3 => ?_)
  · have h := h1 c3
    refine ok_iconst C (v := 0) dX8_event_20 (by decide) ?_
    refine ok_sub [0, 1, 2] rfl ?_
    exact J21 _ _ h
  · have h := h2 c3
    refine ok_iconst C (v := 1) dX8_event_16 (by decide) ?_
    refine ok_goto C 21 dX8_event_17 rfl ?_
    refine ok_sub [0, 1, 2] rfl ?_
    exact J21 _ _ h
set_option maxRecDepth 100000 in
set_option maxHeartbeats 4000000 in
theorem m_X8_hash_ {l : Launch} {Ω : Wm} (hk : Hk Ω kM) (c_X8_fails : CT_X8_fails l Ω) (c_X8_in : CT_X8_in l Ω) (c_X8_isEvent : CT_X8_isEvent l Ω) (hv : ∀ (x1 : Int32) (x2 : Int32) (σ : Sg) (K : Int32 → Sg → Prop), sp_X8_hash_ x1 x2 σ K → vc_X8_hash_ x1 x2 σ K) : CT_X8_hash_ l Ω := by
  intro x1 x2 σ Po hsp
  have hvc := hv x1 x2 σ Po hsp
  refine Ct.of (by decide +kernel) (Nat.le_of_ble_eq_true rfl) (fun Γ C => ?_)
  have J51 : ∀ (s0 : Int32) (σ : Sg), f_X8_hash__51 x1 x2 Po s0 σ → OK Γ Ω 3 51 [] [.int s0] σ := by
    intro s0 σ h
    unfold f_X8_hash__51 at h
    exact ok_iret C rfl rfl dX8_hash__51 h
  have J29 : ∀ (s0 : Int32) (σ : Sg), f_X8_hash__29 x1 x2 Po s0 σ → OK Γ Ω 3 29 [(0, .ref (Ω.2.2.1 0)), (1, .int x1), (2, .int x2)] [.int s0, .ref (Ω.2.2.1 0)] σ := by
    intro s0 σ h
    unfold f_X8_hash__29 at h
    refine ok_iconst C (v := 1) dX8_hash__29 (by decide) ?_
    refine ok_callVi C (As := [.int s0, .int 1]) (rest := []) (q := 0) (ci := 8) (kat hk kM_0) rfl (c_X8_fails  _ _ _ _ h) W_7_15 W_7_17 W_0_52 W_7_18 W_1_28 hd_X8_fails rfl ⟨Nat.le_of_ble_eq_true rfl, Nat.le_of_ble_eq_true rfl⟩ (Nat.le_of_ble_eq_true rfl) rfl dX8_hash__30 (fun r7 u8 h => ?_)
    obtain ⟨h1, h2⟩ := h
    refine ok_if_eq C 40 dX8_hash__33 rfl (fun c10 => ?_) (fun c10 => ?_)
    · have h := h1 c10
      refine ok_aload_n C 0 dX8_hash__40 rfl rfl ?_
      refine ok_getR C (ci := 8) hinX8 (kat hk kM_0) rfl 10 (by decide) W_6_136 (fun _ _ h => h) rfl dX8_hash__41 ?_
      refine ok_bipush C (v := 8) dX8_hash__44 (by decide) ?_
      refine ok_iload_n C 1 dX8_hash__46 rfl rfl ?_
      refine ok_imul C dX8_hash__47 ?_
      refine ok_iload_n C 2 dX8_hash__48 rfl rfl ?_
      refine ok_iadd C dX8_hash__49 ?_
      obtain ⟨g9, h⟩ := h
      refine ok_iald C (kat hk kM_8) g9 dX8_hash__50 ?_
      refine ok_sub [] rfl ?_
      exact J51 _ _ h
    · have h := h2 c10
      refine ok_iconst C (v := 0) dX8_hash__36 (by decide) ?_
      refine ok_goto C 51 dX8_hash__37 rfl ?_
      refine ok_sub [] rfl ?_
      exact J51 _ _ h
  have J24 : ∀  (σ : Sg), f_X8_hash__24 x1 x2 Po  σ → OK Γ Ω 3 24 [(0, .ref (Ω.2.2.1 0)), (1, .int x1), (2, .int x2)] [.ref (Ω.2.2.1 0)] σ := by
    intro  σ h
    unfold f_X8_hash__24 at h
    refine ok_iconst C (v := 1) dX8_hash__24 (by decide) ?_
    refine ok_goto C 29 dX8_hash__25 rfl ?_
    refine ok_sub [0, 1, 2] rfl ?_
    exact J29 _ _ h
  have h : f_X8_hash__e x1 x2 Po σ := hvc  
  unfold f_X8_hash__e at h
  refine ok_sub (L2 := [(0, .ref (Ω.2.2.1 0)), (1, .int x1), (2, .int x2)]) [0, 1, 2] rfl ?_
  refine ok_aload_n C 0 dX8_hash__0 rfl rfl ?_
  refine ok_iconst C (v := 0) dX8_hash__1 (by decide) ?_
  refine ok_putI C (ci := 8) hinX8 (kat hk kM_0) rfl 0 (by decide) W_6_126 (fun _ _ h => h) tyX8 tyX8_ok nmX8 rfl (by decide +kernel) rfl rfl rfl dX8_hash__2 ?_
  refine ok_aload_n C 0 dX8_hash__5 rfl rfl ?_
  refine ok_aload_n C 0 dX8_hash__6 rfl rfl ?_
  refine ok_iload_n C 1 dX8_hash__7 rfl rfl ?_
  refine ok_callVi C (As := [.int x1]) (rest := [.ref (Ω.2.2.1 0)]) (q := 0) (ci := 8) (kat hk kM_0) rfl (c_X8_isEvent  _ _ _ h) W_7_40 W_7_42 W_0_55 W_7_43 W_1_28 hd_X8_isEvent rfl ⟨Nat.le_of_ble_eq_true rfl, Nat.le_of_ble_eq_true rfl⟩ (Nat.le_of_ble_eq_true rfl) rfl dX8_hash__8 (fun r1 u2 h => ?_)
  obtain ⟨h1, h2⟩ := h
  refine ok_if_eq C 24 dX8_hash__11 rfl (fun c6 => ?_) (fun c6 => ?_)
  · have h := h1 c6
    refine ok_sub [0, 1, 2] rfl ?_
    exact J24  _ h
  · have h := h2 c6
    refine ok_iload_n C 2 dX8_hash__14 rfl rfl ?_
    refine ok_iconst C (v := 0) dX8_hash__15 (by decide) ?_
    refine ok_bipush C (v := 7) dX8_hash__16 (by decide) ?_
    refine ok_callSi C (As := [.int x2, .int 0, .int 7]) (rest := [.ref (Ω.2.2.1 0)]) (c_X8_in  _ _ _ _ _ h) W_7_12 W_7_13 W_7_14 W_1_28 hd_X8_in rfl ⟨Nat.le_of_ble_eq_true rfl, Nat.le_of_ble_eq_true rfl⟩ (Nat.le_of_ble_eq_true rfl) rfl dX8_hash__18 (fun r3 u4 h => ?_)
    obtain ⟨h1, h2⟩ := h
    refine ok_if_ne C 28 dX8_hash__21 rfl (fun c5 => ?_) (fun c5 => ?_)
    · have h := h1 c5
      refine ok_iconst C (v := 0) dX8_hash__28 (by decide) ?_
      refine ok_sub [0, 1, 2] rfl ?_
      exact J29 _ _ h
    · have h := h2 c5
      refine ok_sub [0, 1, 2] rfl ?_
      exact J24  _ h
set_option maxRecDepth 100000 in
set_option maxHeartbeats 4000000 in
theorem m_X8_sees_ {l : Launch} {Ω : Wm} (hk : Hk Ω kM) (c_X8_fails : CT_X8_fails l Ω) (c_X8_isEvent : CT_X8_isEvent l Ω) (c_X8_sees : CT_X8_sees l Ω) (c_X8_strongly : CT_X8_strongly l Ω) (hv : ∀ (x1 : Int32) (x2 : Int32) (x3 : Int32) (σ : Sg) (K : Int32 → Sg → Prop), sp_X8_sees_ x1 x2 x3 σ K → vc_X8_sees_ x1 x2 x3 σ K) : CT_X8_sees_ l Ω := by
  intro x1 x2 x3 σ Po hsp
  have hvc := hv x1 x2 x3 σ Po hsp
  refine Ct.of (by decide +kernel) (Nat.le_of_ble_eq_true rfl) (fun Γ C => ?_)
  have J55 : ∀ (s0 : Int32) (σ : Sg), f_X8_sees__55 x1 x2 x3 Po s0 σ → OK Γ Ω 4 55 [] [.int s0] σ := by
    intro s0 σ h
    unfold f_X8_sees__55 at h
    obtain ⟨z15, h⟩ := h
    exact ok_zret C rfl rfl (bz_n z15) dX8_sees__55 h
  have J27 : ∀ (s0 : Int32) (σ : Sg), f_X8_sees__27 x1 x2 x3 Po s0 σ → OK Γ Ω 4 27 [(0, .ref (Ω.2.2.1 0)), (1, .int x1), (2, .int x2), (3, .int x3)] [.int s0, .ref (Ω.2.2.1 0)] σ := by
    intro s0 σ h
    unfold f_X8_sees__27 at h
    refine ok_iconst C (v := 1) dX8_sees__27 (by decide) ?_
    refine ok_callVi C (As := [.int s0, .int 1]) (rest := []) (q := 0) (ci := 8) (kat hk kM_0) rfl (c_X8_fails  _ _ _ _ h) W_7_15 W_7_17 W_0_52 W_7_18 W_1_28 hd_X8_fails rfl ⟨Nat.le_of_ble_eq_true rfl, Nat.le_of_ble_eq_true rfl⟩ (Nat.le_of_ble_eq_true rfl) rfl dX8_sees__28 (fun r7 u8 h => ?_)
    obtain ⟨h1, h2⟩ := h
    refine ok_if_eq C 36 dX8_sees__31 rfl (fun c14 => ?_) (fun c14 => ?_)
    · have h := h1 c14
      refine ok_iload_n C 3 dX8_sees__36 rfl rfl ?_
      obtain ⟨h1, h2⟩ := h
      refine ok_if_eq C 49 dX8_sees__37 rfl (fun c13 => ?_) (fun c13 => ?_)
      · have h := h1 c13
        refine ok_aload_n C 0 dX8_sees__49 rfl rfl ?_
        refine ok_iload_n C 1 dX8_sees__50 rfl rfl ?_
        refine ok_iload_n C 2 dX8_sees__51 rfl rfl ?_
        refine ok_callVi C (As := [.int x1, .int x2]) (rest := []) (q := 0) (ci := 8) (kat hk kM_0) rfl (c_X8_sees  _ _ _ _ h) W_6_117 W_6_119 W_0_50 W_6_120 W_1_28 hd_X8_sees rfl ⟨Nat.le_of_ble_eq_true rfl, Nat.le_of_ble_eq_true rfl⟩ (Nat.le_of_ble_eq_true rfl) rfl dX8_sees__52 (fun r9 u10 h => ?_)
        refine ok_sub [] rfl ?_
        exact J55 _ _ h
      · have h := h2 c13
        refine ok_aload_n C 0 dX8_sees__40 rfl rfl ?_
        refine ok_iload_n C 1 dX8_sees__41 rfl rfl ?_
        refine ok_iload_n C 2 dX8_sees__42 rfl rfl ?_
        refine ok_callVi C (As := [.int x1, .int x2]) (rest := []) (q := 0) (ci := 8) (kat hk kM_0) rfl (c_X8_strongly  _ _ _ _ h) W_6_113 W_6_115 W_0_49 W_6_116 W_1_28 hd_X8_strongly rfl ⟨Nat.le_of_ble_eq_true rfl, Nat.le_of_ble_eq_true rfl⟩ (Nat.le_of_ble_eq_true rfl) rfl dX8_sees__43 (fun r11 u12 h => ?_)
        refine ok_goto C 55 dX8_sees__46 rfl ?_
        refine ok_sub [] rfl ?_
        exact J55 _ _ h
    · have h := h2 c14
      refine ok_iconst C (v := 0) dX8_sees__34 (by decide) ?_
      exact ok_zret C rfl rfl (bz_n isZ_0) dX8_sees__35 h
  have J22 : ∀  (σ : Sg), f_X8_sees__22 x1 x2 x3 Po  σ → OK Γ Ω 4 22 [(0, .ref (Ω.2.2.1 0)), (1, .int x1), (2, .int x2), (3, .int x3)] [.ref (Ω.2.2.1 0)] σ := by
    intro  σ h
    unfold f_X8_sees__22 at h
    refine ok_iconst C (v := 1) dX8_sees__22 (by decide) ?_
    refine ok_goto C 27 dX8_sees__23 rfl ?_
    refine ok_sub [0, 1, 2, 3] rfl ?_
    exact J27 _ _ h
  have h : f_X8_sees__e x1 x2 x3 Po σ := hvc  
  unfold f_X8_sees__e at h
  refine ok_sub (L2 := [(0, .ref (Ω.2.2.1 0)), (1, .int x1), (2, .int x2), (3, .int x3)]) [0, 1, 2, 3] rfl ?_
  refine ok_aload_n C 0 dX8_sees__0 rfl rfl ?_
  refine ok_iconst C (v := 0) dX8_sees__1 (by decide) ?_
  refine ok_putI C (ci := 8) hinX8 (kat hk kM_0) rfl 0 (by decide) W_6_126 (fun _ _ h => h) tyX8 tyX8_ok nmX8 rfl (by decide +kernel) rfl rfl rfl dX8_sees__2 ?_
  refine ok_aload_n C 0 dX8_sees__5 rfl rfl ?_
  refine ok_aload_n C 0 dX8_sees__6 rfl rfl ?_
  refine ok_iload_n C 1 dX8_sees__7 rfl rfl ?_
  refine ok_callVi C (As := [.int x1]) (rest := [.ref (Ω.2.2.1 0)]) (q := 0) (ci := 8) (kat hk kM_0) rfl (c_X8_isEvent  _ _ _ h) W_7_40 W_7_42 W_0_55 W_7_43 W_1_28 hd_X8_isEvent rfl ⟨Nat.le_of_ble_eq_true rfl, Nat.le_of_ble_eq_true rfl⟩ (Nat.le_of_ble_eq_true rfl) rfl dX8_sees__8 (fun r1 u2 h => ?_)
  obtain ⟨h1, h2⟩ := h
  refine ok_if_eq C 22 dX8_sees__11 rfl (fun c6 => ?_) (fun c6 => ?_)
  · have h := h1 c6
    refine ok_sub [0, 1, 2, 3] rfl ?_
    exact J22  _ h
  · have h := h2 c6
    refine ok_aload_n C 0 dX8_sees__14 rfl rfl ?_
    refine ok_iload_n C 2 dX8_sees__15 rfl rfl ?_
    refine ok_callVi C (As := [.int x2]) (rest := [.ref (Ω.2.2.1 0)]) (q := 0) (ci := 8) (kat hk kM_0) rfl (c_X8_isEvent  _ _ _ h) W_7_40 W_7_42 W_0_55 W_7_43 W_1_28 hd_X8_isEvent rfl ⟨Nat.le_of_ble_eq_true rfl, Nat.le_of_ble_eq_true rfl⟩ (Nat.le_of_ble_eq_true rfl) rfl dX8_sees__16 (fun r3 u4 h => ?_)
    obtain ⟨h1, h2⟩ := h
    refine ok_if_ne C 26 dX8_sees__19 rfl (fun c5 => ?_) (fun c5 => ?_)
    · have h := h1 c5
      refine ok_iconst C (v := 0) dX8_sees__26 (by decide) ?_
      refine ok_sub [0, 1, 2, 3] rfl ?_
      exact J27 _ _ h
    · have h := h2 c5
      refine ok_sub [0, 1, 2, 3] rfl ?_
      exact J22  _ h
set_option maxRecDepth 100000 in
set_option maxHeartbeats 4000000 in
theorem m_X8_vote {l : Launch} {Ω : Wm} (hk : Hk Ω kM) (c_X8_fails : CT_X8_fails l Ω) (c_X8_isEvent : CT_X8_isEvent l Ω) (c_X8_voteOf : CT_X8_voteOf l Ω) (hv : ∀ (x1 : Int32) (x2 : Int32) (σ : Sg) (K : Int32 → Sg → Prop), sp_X8_vote x1 x2 σ K → vc_X8_vote x1 x2 σ K) : CT_X8_vote l Ω := by
  intro x1 x2 σ Po hsp
  have hvc := hv x1 x2 σ Po hsp
  refine Ct.of (by decide +kernel) (Nat.le_of_ble_eq_true rfl) (fun Γ C => ?_)
  have J80 : ∀  (σ : Sg), f_X8_vote_80 x1 x2 Po  σ → OK Γ Ω 3 80 [] [] σ := by
    intro  σ h
    unfold f_X8_vote_80 at h
    refine ok_iconst C (v := 0) dX8_vote_80 (by decide) ?_
    exact ok_iret C rfl rfl dX8_vote_81 h
  have J73 : ∀ (s0 : Int32) (σ : Sg), f_X8_vote_73 x1 x2 Po s0 σ → OK Γ Ω 3 73 [(0, .ref (Ω.2.2.1 0)), (1, .int x1), (2, .int x2)] [.int s0, .ref (Ω.2.2.1 0)] σ := by
    intro s0 σ h
    unfold f_X8_vote_73 at h
    refine ok_iconst C (v := 2) dX8_vote_73 (by decide) ?_
    refine ok_callVi C (As := [.int s0, .int 2]) (rest := []) (q := 0) (ci := 8) (kat hk kM_0) rfl (c_X8_fails  _ _ _ _ h) W_7_15 W_7_17 W_0_52 W_7_18 W_1_28 hd_X8_fails rfl ⟨Nat.le_of_ble_eq_true rfl, Nat.le_of_ble_eq_true rfl⟩ (Nat.le_of_ble_eq_true rfl) rfl dX8_vote_74 (fun r17 u18 h => ?_)
    obtain ⟨h1, h2⟩ := h
    refine ok_if_eq C 82 dX8_vote_77 rfl (fun c21 => ?_) (fun c21 => ?_)
    · have h := h1 c21
      refine ok_aload_n C 0 dX8_vote_82 rfl rfl ?_
      refine ok_iload_n C 1 dX8_vote_83 rfl rfl ?_
      refine ok_iload_n C 2 dX8_vote_84 rfl rfl ?_
      refine ok_callVi C (As := [.int x1, .int x2]) (rest := []) (q := 0) (ci := 8) (kat hk kM_0) rfl (c_X8_voteOf  _ _ _ _ h) W_7_60 W_7_62 W_0_56 W_7_63 W_1_28 hd_X8_voteOf rfl ⟨Nat.le_of_ble_eq_true rfl, Nat.le_of_ble_eq_true rfl⟩ (Nat.le_of_ble_eq_true rfl) rfl dX8_vote_85 (fun r19 u20 h => ?_)
      exact ok_iret C rfl rfl dX8_vote_88 h
    · have h := h2 c21
      refine ok_sub [] rfl ?_
      exact J80  _ h
  have J68 : ∀  (σ : Sg), f_X8_vote_68 x1 x2 Po  σ → OK Γ Ω 3 68 [(0, .ref (Ω.2.2.1 0)), (1, .int x1), (2, .int x2)] [.ref (Ω.2.2.1 0)] σ := by
    intro  σ h
    unfold f_X8_vote_68 at h
    refine ok_iconst C (v := 1) dX8_vote_68 (by decide) ?_
    refine ok_goto C 73 dX8_vote_69 rfl ?_
    refine ok_sub [0, 1, 2] rfl ?_
    exact J73 _ _ h
  have J27 : ∀ (s0 : Int32) (σ : Sg), f_X8_vote_27 x1 x2 Po s0 σ → OK Γ Ω 3 27 [(0, .ref (Ω.2.2.1 0)), (1, .int x1), (2, .int x2)] [.int s0, .ref (Ω.2.2.1 0)] σ := by
    intro s0 σ h
    unfold f_X8_vote_27 at h
    refine ok_iconst C (v := 1) dX8_vote_27 (by decide) ?_
    refine ok_callVi C (As := [.int s0, .int 1]) (rest := []) (q := 0) (ci := 8) (kat hk kM_0) rfl (c_X8_fails  _ _ _ _ h) W_7_15 W_7_17 W_0_52 W_7_18 W_1_28 hd_X8_fails rfl ⟨Nat.le_of_ble_eq_true rfl, Nat.le_of_ble_eq_true rfl⟩ (Nat.le_of_ble_eq_true rfl) rfl dX8_vote_28 (fun r7 u8 h => ?_)
    obtain ⟨h1, h2⟩ := h
    refine ok_if_ne C 80 dX8_vote_31 rfl (fun c16 => ?_) (fun c16 => ?_)
    · have h := h1 c16
      refine ok_sub [] rfl ?_
      exact J80  _ h
    · have h := h2 c16
      refine ok_aload_n C 0 dX8_vote_34 rfl rfl ?_
      refine ok_aload_n C 0 dX8_vote_35 rfl rfl ?_
      refine ok_getR C (ci := 8) hinX8 (kat hk kM_0) rfl 19 (by decide) W_6_145 (fun _ _ h => h) rfl dX8_vote_36 ?_
      refine ok_iload_n C 2 dX8_vote_39 rfl rfl ?_
      obtain ⟨g9, h⟩ := h
      refine ok_zald C (kat hk kM_17) g9 dX8_vote_40 ?_
      obtain ⟨h1, h2⟩ := h
      refine ok_if_eq C 68 dX8_vote_41 rfl (fun c15 => ?_) (fun c15 => ?_)
      · have h := h1 c15
        refine ok_sub [0, 1, 2] rfl ?_
        exact J68  _ h
      · have h := h2 c15
        refine ok_aload_n C 0 dX8_vote_44 rfl rfl ?_
        refine ok_getR C (ci := 8) hinX8 (kat hk kM_0) rfl 19 (by decide) W_6_145 (fun _ _ h => h) rfl dX8_vote_45 ?_
        refine ok_iload_n C 1 dX8_vote_48 rfl rfl ?_
        obtain ⟨g10, h⟩ := h
        refine ok_zald C (kat hk kM_17) g10 dX8_vote_49 ?_
        obtain ⟨h1, h2⟩ := h
        refine ok_if_eq C 68 dX8_vote_50 rfl (fun c14 => ?_) (fun c14 => ?_)
        · have h := h1 c14
          refine ok_sub [0, 1, 2] rfl ?_
          exact J68  _ h
        · have h := h2 c14
          refine ok_aload_n C 0 dX8_vote_53 rfl rfl ?_
          refine ok_getR C (ci := 8) hinX8 (kat hk kM_0) rfl 9 (by decide) W_6_135 (fun _ _ h => h) rfl dX8_vote_54 ?_
          refine ok_iload_n C 1 dX8_vote_57 rfl rfl ?_
          obtain ⟨g11, h⟩ := h
          refine ok_iald C (kat hk kM_7) g11 dX8_vote_58 ?_
          refine ok_aload_n C 0 dX8_vote_59 rfl rfl ?_
          refine ok_getR C (ci := 8) hinX8 (kat hk kM_0) rfl 9 (by decide) W_6_135 (fun _ _ h => h) rfl dX8_vote_60 ?_
          refine ok_iload_n C 2 dX8_vote_63 rfl rfl ?_
          obtain ⟨g12, h⟩ := h
          refine ok_iald C (kat hk kM_7) g12 dX8_vote_64 ?_
          obtain ⟨h1, h2⟩ := h
          refine ok_icmp_gt C 72 dX8_vote_65 rfl (fun c13 => ?_) (fun c13 => ?_)
          · have h := h1 c13
            refine ok_iconst C (v := 0) dX8_vote_72 (by decide) ?_
            refine ok_sub [0, 1, 2] rfl ?_
            exact J73 _ _ h
          · have h := h2 c13
            refine ok_sub [0, 1, 2] rfl ?_
            exact J68  _ h
  have J22 : ∀  (σ : Sg), f_X8_vote_22 x1 x2 Po  σ → OK Γ Ω 3 22 [(0, .ref (Ω.2.2.1 0)), (1, .int x1), (2, .int x2)] [.ref (Ω.2.2.1 0)] σ := by
    intro  σ h
    unfold f_X8_vote_22 at h
    refine ok_iconst C (v := 1) dX8_vote_22 (by decide) ?_
    refine ok_goto C 27 dX8_vote_23 rfl ?_
    refine ok_sub [0, 1, 2] rfl ?_
    exact J27 _ _ h
  have h : f_X8_vote_e x1 x2 Po σ := hvc  
  unfold f_X8_vote_e at h
  refine ok_sub (L2 := [(0, .ref (Ω.2.2.1 0)), (1, .int x1), (2, .int x2)]) [0, 1, 2] rfl ?_
  refine ok_aload_n C 0 dX8_vote_0 rfl rfl ?_
  refine ok_iconst C (v := 0) dX8_vote_1 (by decide) ?_
  refine ok_putI C (ci := 8) hinX8 (kat hk kM_0) rfl 0 (by decide) W_6_126 (fun _ _ h => h) tyX8 tyX8_ok nmX8 rfl (by decide +kernel) rfl rfl rfl dX8_vote_2 ?_
  refine ok_aload_n C 0 dX8_vote_5 rfl rfl ?_
  refine ok_aload_n C 0 dX8_vote_6 rfl rfl ?_
  refine ok_iload_n C 2 dX8_vote_7 rfl rfl ?_
  refine ok_callVi C (As := [.int x2]) (rest := [.ref (Ω.2.2.1 0)]) (q := 0) (ci := 8) (kat hk kM_0) rfl (c_X8_isEvent  _ _ _ h) W_7_40 W_7_42 W_0_55 W_7_43 W_1_28 hd_X8_isEvent rfl ⟨Nat.le_of_ble_eq_true rfl, Nat.le_of_ble_eq_true rfl⟩ (Nat.le_of_ble_eq_true rfl) rfl dX8_vote_8 (fun r1 u2 h => ?_)
  obtain ⟨h1, h2⟩ := h
  refine ok_if_eq C 22 dX8_vote_11 rfl (fun c6 => ?_) (fun c6 => ?_)
  · have h := h1 c6
    refine ok_sub [0, 1, 2] rfl ?_
    exact J22  _ h
  · have h := h2 c6
    refine ok_aload_n C 0 dX8_vote_14 rfl rfl ?_
    refine ok_iload_n C 1 dX8_vote_15 rfl rfl ?_
    refine ok_callVi C (As := [.int x1]) (rest := [.ref (Ω.2.2.1 0)]) (q := 0) (ci := 8) (kat hk kM_0) rfl (c_X8_isEvent  _ _ _ h) W_7_40 W_7_42 W_0_55 W_7_43 W_1_28 hd_X8_isEvent rfl ⟨Nat.le_of_ble_eq_true rfl, Nat.le_of_ble_eq_true rfl⟩ (Nat.le_of_ble_eq_true rfl) rfl dX8_vote_16 (fun r3 u4 h => ?_)
    obtain ⟨h1, h2⟩ := h
    refine ok_if_ne C 26 dX8_vote_19 rfl (fun c5 => ?_) (fun c5 => ?_)
    · have h := h1 c5
      refine ok_iconst C (v := 0) dX8_vote_26 (by decide) ?_
      refine ok_sub [0, 1, 2] rfl ?_
      exact J27 _ _ h
    · have h := h2 c5
      refine ok_sub [0, 1, 2] rfl ?_
      exact J22  _ h
set_option maxRecDepth 100000 in
set_option maxHeartbeats 4000000 in
theorem m_X8_comesBefore {l : Launch} {Ω : Wm} (hk : Hk Ω kM)  (hv : ∀ (x1 : Int32) (x2 : Int32) (σ : Sg) (K : Int32 → Sg → Prop), sp_X8_comesBefore x1 x2 σ K → vc_X8_comesBefore x1 x2 σ K) : CT_X8_comesBefore l Ω := by
  intro x1 x2 σ Po hsp
  have hvc := hv x1 x2 σ Po hsp
  refine Ct.of (by decide +kernel) (Nat.le_of_ble_eq_true rfl) (fun Γ C => ?_)
  obtain ⟨L40, gl40⟩ : ∃ L : Int32 → Sg → Prop, ∀ (x3 : Int32) (σ : Sg), L x3 σ = OK Γ Ω 8 40 [(0, .ref (Ω.2.2.1 0)), (1, .int x1), (2, .int x2), (3, .int x3)] [] σ := ⟨fun x3 σ => OK Γ Ω 8 40 [(0, .ref (Ω.2.2.1 0)), (1, .int x1), (2, .int x2), (3, .int x3)] [] σ, fun _ _ => rfl⟩
  have J134 : ∀ (s0 : Int32) (σ : Sg), f_X8_comesBefore_134 x1 x2 L40 Po s0 σ → OK Γ Ω 8 134 [] [.int s0] σ := by
    intro s0 σ h
    unfold f_X8_comesBefore_134 at h
    obtain ⟨z17, h⟩ := h
    exact ok_zret C rfl rfl (bz_n z17) dX8_comesBefore_134 h
  have J117 : ∀ (s0 : Int32) (σ : Sg), f_X8_comesBefore_117 x1 x2 L40 Po s0 σ → OK Γ Ω 8 117 [] [.int s0] σ := by
    intro s0 σ h
    unfold f_X8_comesBefore_117 at h
    obtain ⟨z16, h⟩ := h
    exact ok_zret C rfl rfl (bz_n z16) dX8_comesBefore_117 h
  have J37 : ∀ (s0 : Int32) (σ : Sg), f_X8_comesBefore_37 x1 x2 L40 Po s0 σ → OK Γ Ω 8 37 [] [.int s0] σ := by
    intro s0 σ h
    unfold f_X8_comesBefore_37 at h
    obtain ⟨z7, h⟩ := h
    exact ok_zret C rfl rfl (bz_n z7) dX8_comesBefore_37 h
  have R40 : ∀ (x3 : Int32) (σ : Sg), f_X8_comesBefore_40 x1 x2 L40 Po x3 σ → L40 x3 σ := by
    intro x3 σ h
    unfold f_X8_comesBefore_40 at h
    refine Eq.mpr (gl40 _ _) ?_
    refine ok_iload_n C 3 dX8_comesBefore_40 rfl rfl ?_
    refine ok_bipush C (v := 8) dX8_comesBefore_41 (by decide) ?_
    obtain ⟨h1, h2⟩ := h
    refine ok_icmp_ge C 124 dX8_comesBefore_43 rfl (fun c15 => ?_) (fun c15 => ?_)
    · have h := h1 c15
      refine ok_iload_n C 1 dX8_comesBefore_124 rfl rfl ?_
      refine ok_iload_n C 2 dX8_comesBefore_125 rfl rfl ?_
      obtain ⟨h1, h2⟩ := h
      refine ok_icmp_ge C 133 dX8_comesBefore_126 rfl (fun c8 => ?_) (fun c8 => ?_)
      · have h := h1 c8
        refine ok_iconst C (v := 0) dX8_comesBefore_133 (by decide) ?_
        refine ok_sub [] rfl ?_
        exact J134 _ _ h
      · have h := h2 c8
        refine ok_iconst C (v := 1) dX8_comesBefore_129 (by decide) ?_
        refine ok_goto C 134 dX8_comesBefore_130 rfl ?_
        refine ok_sub [] rfl ?_
        exact J134 _ _ h
    · have h := h2 c15
      refine ok_aload_n C 0 dX8_comesBefore_46 rfl rfl ?_
      refine ok_getR C (ci := 8) hinX8 (kat hk kM_0) rfl 10 (by decide) W_6_136 (fun _ _ h => h) rfl dX8_comesBefore_47 ?_
      refine ok_bipush C (v := 8) dX8_comesBefore_50 (by decide) ?_
      refine ok_iload_n C 1 dX8_comesBefore_52 rfl rfl ?_
      refine ok_imul C dX8_comesBefore_53 ?_
      refine ok_iload_n C 3 dX8_comesBefore_54 rfl rfl ?_
      refine ok_iadd C dX8_comesBefore_55 ?_
      obtain ⟨g9, h⟩ := h
      refine ok_iald C (kat hk kM_8) g9 dX8_comesBefore_56 ?_
      refine ok_aload_n C 0 dX8_comesBefore_57 rfl rfl ?_
      refine ok_getR C (ci := 8) hinX8 (kat hk kM_0) rfl 30 (by decide) W_6_156 (fun _ _ h => h) rfl dX8_comesBefore_58 ?_
      refine ok_iload_n C 3 dX8_comesBefore_61 rfl rfl ?_
      obtain ⟨g10, h⟩ := h
      refine ok_iald C (kat hk kM_25) g10 dX8_comesBefore_62 ?_
      refine ok_ixor C dX8_comesBefore_63 ?_
      refine ok_i2l C dX8_comesBefore_64 ?_
      refine ok_ldc2 C W_7_84 dX8_comesBefore_65 ?_
      refine ok_land C dX8_comesBefore_68 ?_
      refine ok_lstore C (L2 := [(4, .long ((((σ.1 8 ((8 * x1) + x3).toNatClampNeg) ^^^ (σ.1 25 x3.toNatClampNeg)).toInt64) &&& 4294967295)), (0, .ref (Ω.2.2.1 0)), (1, .int x1), (2, .int x2), (3, .int x3)]) dX8_comesBefore_69 (by decide) rfl ?_
      refine ok_aload_n C 1 dX8_comesBefore_71 rfl rfl ?_
      refine ok_getR C (ci := 8) hinX8 (kat hk kM_0) rfl 10 (by decide) W_6_136 (fun _ _ h => h) rfl dX8_comesBefore_72 ?_
      refine ok_bipush C (v := 8) dX8_comesBefore_75 (by decide) ?_
      refine ok_iload_n C 3 dX8_comesBefore_77 rfl rfl ?_
      refine ok_imul C dX8_comesBefore_78 ?_
      refine ok_iload_n C 4 dX8_comesBefore_79 rfl rfl ?_
      refine ok_iadd C dX8_comesBefore_80 ?_
      obtain ⟨g11, h⟩ := h
      refine ok_iald C (kat hk kM_8) g11 dX8_comesBefore_81 ?_
      refine ok_aload_n C 1 dX8_comesBefore_82 rfl rfl ?_
      refine ok_getR C (ci := 8) hinX8 (kat hk kM_0) rfl 30 (by decide) W_6_156 (fun _ _ h => h) rfl dX8_comesBefore_83 ?_
      refine ok_iload_n C 4 dX8_comesBefore_86 rfl rfl ?_
      obtain ⟨g12, h⟩ := h
      refine ok_iald C (kat hk kM_25) g12 dX8_comesBefore_87 ?_
      refine ok_ixor C dX8_comesBefore_88 ?_
      refine ok_i2l C dX8_comesBefore_89 ?_
      refine ok_ldc2 C W_7_84 dX8_comesBefore_90 ?_
      refine ok_land C dX8_comesBefore_93 ?_
      refine ok_lstore C (L2 := [(6, .long ((((σ.1 8 ((8 * x2) + x3).toNatClampNeg) ^^^ (σ.1 25 x3.toNatClampNeg)).toInt64) &&& 4294967295)), (4, .long ((((σ.1 8 ((8 * x1) + x3).toNatClampNeg) ^^^ (σ.1 25 x3.toNatClampNeg)).toInt64) &&& 4294967295)), (0, .ref (Ω.2.2.1 0)), (1, .int x1), (2, .int x2), (3, .int x3)]) dX8_comesBefore_94 (by decide) rfl ?_
      refine ok_lload C 1 dX8_comesBefore_96 rfl ?_
      refine ok_lload C 0 dX8_comesBefore_98 rfl ?_
      refine ok_lcmp C dX8_comesBefore_100 ?_
      obtain ⟨h1, h2⟩ := h
      refine ok_if_eq C 118 dX8_comesBefore_101 rfl (fun c14 => ?_) (fun c14 => ?_)
      · have h := h1 c14
        refine ok_iinc C (v := x3 + 1) (L2 := [(3, .int (x3 + 1)), (6, .long ((((σ.1 8 ((8 * x2) + x3).toNatClampNeg) ^^^ (σ.1 25 x3.toNatClampNeg)).toInt64) &&& 4294967295)), (4, .long ((((σ.1 8 ((8 * x1) + x3).toNatClampNeg) ^^^ (σ.1 25 x3.toNatClampNeg)).toInt64) &&& 4294967295)), (0, .ref (Ω.2.2.1 0)), (1, .int x1), (2, .int x2)]) 5 dX8_comesBefore_118 rfl rfl (by decide) rfl ?_
        refine ok_goto C 40 dX8_comesBefore_121 rfl ?_
        refine ok_sub [3, 4, 5, 0] rfl ?_
        exact Eq.mp (gl40 _ _) h
      · have h := h2 c14
        refine ok_lload C 1 dX8_comesBefore_104 rfl ?_
        refine ok_lload C 0 dX8_comesBefore_106 rfl ?_
        refine ok_lcmp C dX8_comesBefore_108 ?_
        obtain ⟨h1, h2⟩ := h
        refine ok_if_ge C 116 dX8_comesBefore_109 rfl (fun c13 => ?_) (fun c13 => ?_)
        · have h := h1 c13
          refine ok_iconst C (v := 0) dX8_comesBefore_116 (by decide) ?_
          refine ok_sub [] rfl ?_
          exact J117 _ _ h
        · have h := h2 c13
          refine ok_iconst C (v := 1) dX8_comesBefore_112 (by decide) ?_
          refine ok_goto C 117 dX8_comesBefore_113 rfl ?_
          refine ok_sub [] rfl ?_
          exact J117 _ _ h
  have h : f_X8_comesBefore_e x1 x2 L40 Po σ := hvc L40 R40
  unfold f_X8_comesBefore_e at h
  refine ok_sub (L2 := [(0, .ref (Ω.2.2.1 0)), (1, .int x1), (2, .int x2)]) [0, 1, 2] rfl ?_
  refine ok_aload_n C 0 dX8_comesBefore_0 rfl rfl ?_
  refine ok_getR C (ci := 8) hinX8 (kat hk kM_0) rfl 31 (by decide) W_6_157 (fun _ _ h => h) rfl dX8_comesBefore_1 ?_
  refine ok_iload_n C 1 dX8_comesBefore_4 rfl rfl ?_
  obtain ⟨g1, h⟩ := h
  refine ok_lald C (kat hk kM_26) g1 dX8_comesBefore_5 ?_
  refine ok_aload_n C 0 dX8_comesBefore_6 rfl rfl ?_
  refine ok_getR C (ci := 8) hinX8 (kat hk kM_0) rfl 31 (by decide) W_6_157 (fun _ _ h => h) rfl dX8_comesBefore_7 ?_
  refine ok_iload_n C 2 dX8_comesBefore_10 rfl rfl ?_
  obtain ⟨g2, h⟩ := h
  refine ok_lald C (kat hk kM_26) g2 dX8_comesBefore_11 ?_
  refine ok_lcmp C dX8_comesBefore_12 ?_
  obtain ⟨h1, h2⟩ := h
  refine ok_if_eq C 38 dX8_comesBefore_13 rfl (fun c6 => ?_) (fun c6 => ?_)
  · have h := h1 c6
    refine ok_iconst C (v := 0) dX8_comesBefore_38 (by decide) ?_
    refine ok_istore_n C (L2 := [(3, .int 0), (0, .ref (Ω.2.2.1 0)), (1, .int x1), (2, .int x2)]) dX8_comesBefore_39 rfl (by decide) rfl ?_
    refine ok_sub [1, 2, 3, 0] rfl ?_
    exact Eq.mp (gl40 _ _) h
  · have h := h2 c6
    refine ok_aload_n C 0 dX8_comesBefore_16 rfl rfl ?_
    refine ok_getR C (ci := 8) hinX8 (kat hk kM_0) rfl 31 (by decide) W_6_157 (fun _ _ h => h) rfl dX8_comesBefore_17 ?_
    refine ok_iload_n C 1 dX8_comesBefore_20 rfl rfl ?_
    obtain ⟨g3, h⟩ := h
    refine ok_lald C (kat hk kM_26) g3 dX8_comesBefore_21 ?_
    refine ok_aload_n C 0 dX8_comesBefore_22 rfl rfl ?_
    refine ok_getR C (ci := 8) hinX8 (kat hk kM_0) rfl 31 (by decide) W_6_157 (fun _ _ h => h) rfl dX8_comesBefore_23 ?_
    refine ok_iload_n C 2 dX8_comesBefore_26 rfl rfl ?_
    obtain ⟨g4, h⟩ := h
    refine ok_lald C (kat hk kM_26) g4 dX8_comesBefore_27 ?_
    refine ok_lcmp C dX8_comesBefore_28 ?_
    obtain ⟨h1, h2⟩ := h
    refine ok_if_ge C 36 dX8_comesBefore_29 rfl (fun c5 => ?_) (fun c5 => ?_)
    · have h := h1 c5
      refine ok_iconst C (v := 0) dX8_comesBefore_36 (by decide) ?_
      refine ok_sub [] rfl ?_
      exact J37 _ _ h
    · have h := h2 c5
      refine ok_iconst C (v := 1) dX8_comesBefore_32 (by decide) ?_
      refine ok_goto C 37 dX8_comesBefore_33 rfl ?_
      refine ok_sub [] rfl ?_
      exact J37 _ _ h
set_option maxRecDepth 100000 in
set_option maxHeartbeats 4000000 in
theorem m_X8_isUnique {l : Launch} {Ω : Wm} (hk : Hk Ω kM)  (hv : ∀ (x1 : Int32) (x2 : Int32) (σ : Sg) (K : Int32 → Sg → Prop), sp_X8_isUnique x1 x2 σ K → vc_X8_isUnique x1 x2 σ K) : CT_X8_isUnique l Ω := by
  intro x1 x2 σ Po hsp
  have hvc := hv x1 x2 σ Po hsp
  refine Ct.of (by decide +kernel) (Nat.le_of_ble_eq_true rfl) (fun Γ C => ?_)
  have J25 : ∀ (s0 : Int32) (σ : Sg), f_X8_isUnique_25 x1 x2 Po s0 σ → OK Γ Ω 3 25 [] [.int s0] σ := by
    intro s0 σ h
    unfold f_X8_isUnique_25 at h
    obtain ⟨z5, h⟩ := h
    exact ok_zret C rfl rfl (bz_n z5) dX8_isUnique_25 h
  have J24 : ∀  (σ : Sg), f_X8_isUnique_24 x1 x2 Po  σ → OK Γ Ω 3 24 [] [] σ := by
    intro  σ h
    unfold f_X8_isUnique_24 at h
    refine ok_iconst C (v := 0) dX8_isUnique_24 (by decide) ?_
    refine ok_sub [] rfl ?_
    exact J25 _ _ h
  have h : f_X8_isUnique_e x1 x2 Po σ := hvc  
  unfold f_X8_isUnique_e at h
  refine ok_sub (L2 := [(0, .ref (Ω.2.2.1 0)), (1, .int x1), (2, .int x2)]) [0, 1, 2] rfl ?_
  refine ok_aload_n C 0 dX8_isUnique_0 rfl rfl ?_
  refine ok_getR C (ci := 8) hinX8 (kat hk kM_0) rfl 25 (by decide) W_6_151 (fun _ _ h => h) rfl dX8_isUnique_1 ?_
  refine ok_iload_n C 1 dX8_isUnique_4 rfl rfl ?_
  obtain ⟨g1, h⟩ := h
  refine ok_iald C (kat hk kM_20) g1 dX8_isUnique_5 ?_
  refine ok_iconst C (v := 3) dX8_isUnique_6 (by decide) ?_
  obtain ⟨h1, h2⟩ := h
  refine ok_icmp_ne C 24 dX8_isUnique_7 rfl (fun c4 => ?_) (fun c4 => ?_)
  · have h := h1 c4
    refine ok_sub [] rfl ?_
    exact J24  _ h
  · have h := h2 c4
    refine ok_aload_n C 0 dX8_isUnique_10 rfl rfl ?_
    refine ok_getR C (ci := 8) hinX8 (kat hk kM_0) rfl 9 (by decide) W_6_135 (fun _ _ h => h) rfl dX8_isUnique_11 ?_
    refine ok_iload_n C 1 dX8_isUnique_14 rfl rfl ?_
    obtain ⟨g2, h⟩ := h
    refine ok_iald C (kat hk kM_7) g2 dX8_isUnique_15 ?_
    refine ok_iload_n C 2 dX8_isUnique_16 rfl rfl ?_
    obtain ⟨h1, h2⟩ := h
    refine ok_icmp_ne C 24 dX8_isUnique_17 rfl (fun c3 => ?_) (fun c3 => ?_)
    · have h := h1 c3
      refine ok_sub [] rfl ?_
      exact J24  _ h
    · have h := h2 c3
      refine ok_iconst C (v := 1) dX8_isUnique_20 (by decide) ?_
      refine ok_goto C 25 dX8_isUnique_21 rfl ?_
      refine ok_sub [] rfl ?_
      exact J25 _ _ h
