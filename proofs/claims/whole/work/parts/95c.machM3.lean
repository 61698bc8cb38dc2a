set_option maxRecDepth 100000 in
set_option maxHeartbeats 4000000 in
theorem m_X8_voteOf {l : Launch} {Ω : Wm} (hk : Hk Ω kM) (c_X8_isMost : CT_X8_isMost l Ω) (c_X8_sees : CT_X8_sees l Ω) (c_X8_strongly : CT_X8_strongly l Ω) (hv : ∀ (x1 : Int32) (x2 : Int32) (σ : Sg) (K : Int32 → Sg → Prop), sp_X8_voteOf x1 x2 σ K → vc_X8_voteOf x1 x2 σ K) : CT_X8_voteOf l Ω := by
  have key : ∀ (d : Nat) (x1 x2 : Int32) (σ : Sg) (K : Int32 → Sg → Prop), sp_X8_voteOf x1 x2 σ K → x1.toNatClampNeg < d → Ct l yX8_voteOf cX8_voteOf 9 (some .int) (d + 60) (80 * d + 800) Ω [.ref (Ω.2.2.1 0), .int x1, .int x2] σ (QI Ω K) := by
    intro d
    induction d with
    | zero => intro x1 x2 σ K _ h; exact absurd h (Nat.not_lt_zero _)
    | succ d ihd =>
      intro x1 x2 σ Po hsp hdep
      have hy1 : ∃ y1, x1 = nI y1 ∧ y1 < 240 := by
        obtain ⟨gg, hh, MM, yy, xx, z1, z2, z3, z4, z5, z6, z7, z8, -⟩ := id hsp
        exact ⟨yy, z1, by have := z8.1.1; omega⟩
      obtain ⟨y1, ey1, ly1⟩ := hy1
      have hvc := hv x1 x2 σ Po hsp
      refine Ct.of (by decide +kernel) (Nat.le_of_ble_eq_true rfl) (fun Γ C => ?_)
      obtain ⟨L75, gl75⟩ : ∃ L : Int32 → Int32 → Int32 → Int32 → Int32 → Sg → Prop, ∀ (x3 : Int32) (x4 : Int32) (x6 : Int32) (x7 : Int32) (x8 : Int32) (σ : Sg), L x3 x4 x6 x7 x8 σ = OK Γ Ω 9 75 [(0, .ref (Ω.2.2.1 0)), (1, .int x1), (2, .int x2), (3, .int x3), (4, .int x4), (6, .int x6), (7, .int x7), (8, .int x8)] [] σ := ⟨fun x3 x4 x6 x7 x8 σ => OK Γ Ω 9 75 [(0, .ref (Ω.2.2.1 0)), (1, .int x1), (2, .int x2), (3, .int x3), (4, .int x4), (6, .int x6), (7, .int x7), (8, .int x8)] [] σ, fun _ _ _ _ _ _ => rfl⟩
      have J234 : ∀ (x3 : Int32) (x5 : Int32) (σ : Sg), f_X8_voteOf_234 x1 x2 L75 Po x3 x5 σ → OK Γ Ω 9 234 [(0, .ref (Ω.2.2.1 0)), (3, .int x3), (5, .int x5)] [] σ := by
        intro x3 x5 σ h
        unfold f_X8_voteOf_234 at h
        refine ok_aload_n C 0 dX8_voteOf_234 rfl rfl ?_
        refine ok_getR C (ci := 8) hinX8 (kat hk kM_0) rfl 21 (by decide) W_6_147 (fun _ _ h => h) rfl dX8_voteOf_235 ?_
        refine ok_iload_n C 1 dX8_voteOf_238 rfl rfl ?_
        refine ok_iload C 2 dX8_voteOf_239 rfl ?_
        refine ok_iconst C (v := 1) dX8_voteOf_241 (by decide) ?_
        refine ok_iadd C dX8_voteOf_242 ?_
        refine ok_i2b C dX8_voteOf_243 ?_
        obtain ⟨g31, h⟩ := h
        refine ok_bast C (kat hk kM_19) g31 dX8_voteOf_244 ?_
        refine ok_iload C 2 dX8_voteOf_245 rfl ?_
        exact ok_iret C rfl rfl dX8_voteOf_247 h
      have J232 : ∀ (x3 : Int32) (s0 : Int32) (σ : Sg), f_X8_voteOf_232 x1 x2 L75 Po x3 s0 σ → OK Γ Ω 9 232 [(0, .ref (Ω.2.2.1 0)), (3, .int x3)] [.int s0] σ := by
        intro x3 s0 σ h
        unfold f_X8_voteOf_232 at h
        refine ok_istore C (L2 := [(5, .int s0), (0, .ref (Ω.2.2.1 0)), (3, .int x3)]) dX8_voteOf_232 (by decide) rfl ?_
        refine ok_sub [1, 2, 0] rfl ?_
        exact J234 _ _ _ h
      have J202 : ∀ (x3 : Int32) (s0 : Int32) (s1 : Int32) (σ : Sg), f_X8_voteOf_202 x1 x2 L75 Po x3 s0 s1 σ → OK Γ Ω 9 202 [(0, .ref (Ω.2.2.1 0)), (3, .int x3)] [.int s0, .int s1] σ := by
        intro x3 s0 s1 σ h
        unfold f_X8_voteOf_202 at h
        refine ok_iadd C dX8_voteOf_202 ?_
        refine ok_istore C (L2 := [(5, .int (s1 + s0)), (0, .ref (Ω.2.2.1 0)), (3, .int x3)]) dX8_voteOf_203 (by decide) rfl ?_
        refine ok_goto C 234 dX8_voteOf_205 rfl ?_
        refine ok_sub [1, 2, 0] rfl ?_
        exact J234 _ _ _ h
      have J178 : ∀ (x3 : Int32) (x4 : Int32) (x5 : Int32) (s0 : Int32) (σ : Sg), f_X8_voteOf_178 x1 x2 L75 Po x3 x4 x5 s0 σ → OK Γ Ω 9 178 [(0, .ref (Ω.2.2.1 0)), (1, .int x1), (3, .int x3), (4, .int x4), (5, .int x5)] [.int s0, .ref (Ω.2.2.1 0)] σ := by
        intro x3 x4 x5 s0 σ h
        unfold f_X8_voteOf_178 at h
        refine ok_callVi C (As := [.int s0]) (rest := []) (q := 0) (ci := 8) (kat hk kM_0) rfl (c_X8_isMost  _ _ _ h) W_6_122 W_6_124 W_0_51 W_6_125 W_1_28 hd_X8_isMost rfl ⟨by omega, by omega⟩ (Nat.le_of_ble_eq_true rfl) rfl dX8_voteOf_178 (fun r24 u25 h => ?_)
        refine ok_istore C (L2 := [(8, .int r24), (0, .ref (Ω.2.2.1 0)), (1, .int x1), (3, .int x3), (4, .int x4), (5, .int x5)]) dX8_voteOf_181 (by decide) rfl ?_
        refine ok_iload C 4 dX8_voteOf_183 rfl ?_
        refine ok_iconst C (v := 4) dX8_voteOf_185 (by decide) ?_
        refine ok_irem C dX8_voteOf_186 (by decide) ?_
        obtain ⟨h1, h2⟩ := h
        refine ok_if_eq C 208 dX8_voteOf_187 rfl (fun c30 => ?_) (fun c30 => ?_)
        · have h := h1 c30
          refine ok_iload C 0 dX8_voteOf_208 rfl ?_
          obtain ⟨h1, h2⟩ := h
          refine ok_if_ne C 234 dX8_voteOf_210 rfl (fun c28 => ?_) (fun c28 => ?_)
          · have h := h1 c28
            refine ok_sub [1, 3, 5] rfl ?_
            exact J234 _ _ _ h
          · have h := h2 c28
            refine ok_aload_n C 1 dX8_voteOf_213 rfl rfl ?_
            refine ok_getR C (ci := 8) hinX8 (kat hk kM_0) rfl 10 (by decide) W_6_136 (fun _ _ h => h) rfl dX8_voteOf_214 ?_
            refine ok_bipush C (v := 8) dX8_voteOf_217 (by decide) ?_
            refine ok_iload_n C 2 dX8_voteOf_219 rfl rfl ?_
            refine ok_imul C dX8_voteOf_220 ?_
            refine ok_iconst C (v := 4) dX8_voteOf_221 (by decide) ?_
            refine ok_iadd C dX8_voteOf_222 ?_
            obtain ⟨g26, h⟩ := h
            refine ok_iald C (kat hk kM_8) g26 dX8_voteOf_223 ?_
            obtain ⟨h1, h2⟩ := h
            refine ok_if_ge C 231 dX8_voteOf_224 rfl (fun c27 => ?_) (fun c27 => ?_)
            · have h := h1 c27
              refine ok_iconst C (v := 0) dX8_voteOf_231 (by decide) ?_
              refine ok_sub [1, 3] rfl ?_
              exact J232 _ _ _ h
            · have h := h2 c27
              refine ok_iconst C (v := 1) dX8_voteOf_227 (by decide) ?_
              refine ok_goto C 232 dX8_voteOf_228 rfl ?_
              refine ok_sub [1, 3] rfl ?_
              exact J232 _ _ _ h
        · have h := h2 c30
          refine ok_iload C 5 dX8_voteOf_190 rfl ?_
          refine ok_iload C 0 dX8_voteOf_192 rfl ?_
          obtain ⟨h1, h2⟩ := h
          refine ok_if_eq C 201 dX8_voteOf_194 rfl (fun c29 => ?_) (fun c29 => ?_)
          · have h := h1 c29
            refine ok_iconst C (v := 0) dX8_voteOf_201 (by decide) ?_
            refine ok_sub [1, 3] rfl ?_
            exact J202 _ _ _ _ h
          · have h := h2 c29
            refine ok_iconst C (v := 2) dX8_voteOf_197 (by decide) ?_
            refine ok_goto C 202 dX8_voteOf_198 rfl ?_
            refine ok_sub [1, 3] rfl ?_
            exact J202 _ _ _ _ h
      have J162 : ∀ (x3 : Int32) (x4 : Int32) (x6 : Int32) (x7 : Int32) (s0 : Int32) (σ : Sg), f_X8_voteOf_162 x1 x2 L75 Po x3 x4 x6 x7 s0 σ → OK Γ Ω 9 162 [(0, .ref (Ω.2.2.1 0)), (1, .int x1), (3, .int x3), (4, .int x4), (6, .int x6), (7, .int x7)] [.int s0] σ := by
        intro x3 x4 x6 x7 s0 σ h
        unfold f_X8_voteOf_162 at h
        refine ok_istore C (L2 := [(5, .int s0), (0, .ref (Ω.2.2.1 0)), (1, .int x1), (3, .int x3), (4, .int x4), (6, .int x6), (7, .int x7)]) dX8_voteOf_162 (by decide) rfl ?_
        refine ok_aload_n C 1 dX8_voteOf_164 rfl rfl ?_
        refine ok_iload C 0 dX8_voteOf_165 rfl ?_
        refine ok_iconst C (v := 1) dX8_voteOf_167 (by decide) ?_
        obtain ⟨h1, h2⟩ := h
        refine ok_icmp_ne C 176 dX8_voteOf_168 rfl (fun c23 => ?_) (fun c23 => ?_)
        · have h := h1 c23
          refine ok_iload C 6 dX8_voteOf_176 rfl ?_
          refine ok_sub [1, 2, 3, 4, 0] rfl ?_
          exact J178 _ _ _ _ _ h
        · have h := h2 c23
          refine ok_iload C 5 dX8_voteOf_171 rfl ?_
          refine ok_goto C 178 dX8_voteOf_173 rfl ?_
          refine ok_sub [1, 2, 3, 4, 0] rfl ?_
          exact J178 _ _ _ _ _ h
      have J144 : ∀ (x3 : Int32) (x4 : Int32) (x6 : Int32) (x7 : Int32) (x8 : Int32) (σ : Sg), f_X8_voteOf_144 x1 x2 L75 Po x3 x4 x6 x7 x8 σ → OK Γ Ω 9 144 [(0, .ref (Ω.2.2.1 0)), (1, .int x1), (2, .int x2), (3, .int x3), (4, .int x4), (6, .int x6), (7, .int x7), (8, .int x8)] [] σ := by
        intro x3 x4 x6 x7 x8 σ h
        unfold f_X8_voteOf_144 at h
        refine ok_iinc C (v := x8 + 1) (L2 := [(8, .int (x8 + 1)), (0, .ref (Ω.2.2.1 0)), (1, .int x1), (2, .int x2), (3, .int x3), (4, .int x4), (6, .int x6), (7, .int x7)]) 7 dX8_voteOf_144 rfl rfl (by decide) rfl ?_
        refine ok_goto C 75 dX8_voteOf_147 rfl ?_
        refine ok_sub [1, 2, 3, 4, 5, 6, 7, 0] rfl ?_
        exact Eq.mp (gl75 _ _ _ _ _ _) h
      have J61 : ∀ (x3 : Int32) (s0 : Int32) (σ : Sg), f_X8_voteOf_61 x1 x2 L75 Po x3 s0 σ → OK Γ Ω 9 61 [(0, .ref (Ω.2.2.1 0)), (3, .int x3)] [.int s0] σ := by
        intro x3 s0 σ h
        unfold f_X8_voteOf_61 at h
        refine ok_istore C (L2 := [(5, .int s0), (0, .ref (Ω.2.2.1 0)), (3, .int x3)]) dX8_voteOf_61 (by decide) rfl ?_
        refine ok_goto C 234 dX8_voteOf_63 rfl ?_
        refine ok_sub [1, 2, 0] rfl ?_
        exact J234 _ _ _ h
      have R75 : ∀ (x3 : Int32) (x4 : Int32) (x6 : Int32) (x7 : Int32) (x8 : Int32) (σ : Sg), f_X8_voteOf_75 x1 x2 L75 Po x3 x4 x6 x7 x8 σ → L75 x3 x4 x6 x7 x8 σ := by
        intro x3 x4 x6 x7 x8 σ h
        unfold f_X8_voteOf_75 at h
        refine Eq.mpr (gl75 _ _ _ _ _ _) ?_
        refine ok_iload C 7 dX8_voteOf_75 rfl ?_
        refine ok_iload_n C 1 dX8_voteOf_77 rfl rfl ?_
        obtain ⟨h1, h2⟩ := h
        refine ok_icmp_ge C 150 dX8_voteOf_78 rfl (fun c22 => ?_) (fun c22 => ?_)
        · have h := h1 c22
          refine ok_iload C 5 dX8_voteOf_150 rfl ?_
          refine ok_iload C 6 dX8_voteOf_152 rfl ?_
          obtain ⟨h1, h2⟩ := h
          refine ok_icmp_lt C 161 dX8_voteOf_154 rfl (fun c10 => ?_) (fun c10 => ?_)
          · have h := h1 c10
            refine ok_iconst C (v := 0) dX8_voteOf_161 (by decide) ?_
            refine ok_sub [0, 1, 3, 4, 5, 6] rfl ?_
            exact J162 _ _ _ _ _ _ h
          · have h := h2 c10
            refine ok_iconst C (v := 1) dX8_voteOf_157 (by decide) ?_
            refine ok_goto C 162 dX8_voteOf_158 rfl ?_
            refine ok_sub [0, 1, 3, 4, 5, 6] rfl ?_
            exact J162 _ _ _ _ _ _ h
        · have h := h2 c22
          refine ok_aload_n C 0 dX8_voteOf_81 rfl rfl ?_
          refine ok_getR C (ci := 8) hinX8 (kat hk kM_0) rfl 19 (by decide) W_6_145 (fun _ _ h => h) rfl dX8_voteOf_82 ?_
          refine ok_iload C 7 dX8_voteOf_85 rfl ?_
          obtain ⟨g11, h⟩ := h
          refine ok_zald C (kat hk kM_17) g11 dX8_voteOf_87 ?_
          obtain ⟨h1, h2⟩ := h
          refine ok_if_eq C 144 dX8_voteOf_88 rfl (fun c21 => ?_) (fun c21 => ?_)
          · have h := h1 c21
            refine ok_sub [0, 1, 2, 3, 4, 5, 6, 7] rfl ?_
            exact J144 _ _ _ _ _ _ h
          · have h := h2 c21
            refine ok_aload_n C 0 dX8_voteOf_91 rfl rfl ?_
            refine ok_getR C (ci := 8) hinX8 (kat hk kM_0) rfl 9 (by decide) W_6_135 (fun _ _ h => h) rfl dX8_voteOf_92 ?_
            refine ok_iload C 7 dX8_voteOf_95 rfl ?_
            obtain ⟨g12, h⟩ := h
            refine ok_iald C (kat hk kM_7) g12 dX8_voteOf_97 ?_
            refine ok_aload_n C 0 dX8_voteOf_98 rfl rfl ?_
            refine ok_getR C (ci := 8) hinX8 (kat hk kM_0) rfl 9 (by decide) W_6_135 (fun _ _ h => h) rfl dX8_voteOf_99 ?_
            refine ok_iload_n C 1 dX8_voteOf_102 rfl rfl ?_
            obtain ⟨g13, h⟩ := h
            refine ok_iald C (kat hk kM_7) g13 dX8_voteOf_103 ?_
            refine ok_iconst C (v := 1) dX8_voteOf_104 (by decide) ?_
            refine ok_isub C dX8_voteOf_105 ?_
            obtain ⟨h1, h2⟩ := h
            refine ok_icmp_ne C 144 dX8_voteOf_106 rfl (fun c20 => ?_) (fun c20 => ?_)
            · have h := h1 c20
              refine ok_sub [0, 1, 2, 3, 4, 5, 6, 7] rfl ?_
              exact J144 _ _ _ _ _ _ h
            · have h := h2 c20
              refine ok_aload_n C 0 dX8_voteOf_109 rfl rfl ?_
              refine ok_iload_n C 1 dX8_voteOf_110 rfl rfl ?_
              refine ok_iload C 7 dX8_voteOf_111 rfl ?_
              refine ok_callVi C (As := [.int x1, .int x8]) (rest := []) (q := 0) (ci := 8) (kat hk kM_0) rfl (c_X8_strongly  _ _ _ _ h) W_6_113 W_6_115 W_0_49 W_6_116 W_1_28 hd_X8_strongly rfl ⟨by omega, by omega⟩ (Nat.le_of_ble_eq_true rfl) rfl dX8_voteOf_113 (fun r14 u15 h => ?_)
              obtain ⟨h1, h2⟩ := h
              refine ok_if_ne C 122 dX8_voteOf_116 rfl (fun c19 => ?_) (fun c19 => ?_)
              · have h := h1 c19
                refine ok_aload_n C 0 dX8_voteOf_122 rfl rfl ?_
                refine ok_iload C 7 dX8_voteOf_123 rfl ?_
                refine ok_iload_n C 2 dX8_voteOf_125 rfl rfl ?_
                have hy2 : ∃ y2, x8 = nI y2 ∧ y2 < 240 := by
                  obtain ⟨gg, hh, MM, yy, xx, z1, z2, z3, z4, z5, z6, z7, z8, -⟩ := id h
                  exact ⟨yy, z1, by have := z8.1.1; omega⟩
                have hrec : x8.toNatClampNeg < d := by
                  obtain ⟨y2, ey2, ly2⟩ := hy2
                  rw [ey1, cl_nI (show y1 < 2 ^ 31 by omega)] at hdep
                  rw [ey2, cl_nI (show y2 < 2 ^ 31 by omega)]
                  apply Classical.byContradiction
                  intro z
                  exact c22 (by rw [ey1, ey2]; exact nI_le (by omega) (by omega))
                refine ok_callVi C (As := [.int x8, .int x2]) (rest := []) (q := 0) (ci := 8) (kat hk kM_0) rfl (ihd _ _ _ _ h hrec) W_7_60 W_7_62 W_0_56 W_7_63 W_1_28 hd_X8_voteOf rfl ⟨by omega, by omega⟩ (Nat.le_of_ble_eq_true rfl) rfl dX8_voteOf_126 (fun r16 u17 h => ?_)
                refine ok_iconst C (v := 1) dX8_voteOf_129 (by decide) ?_
                refine ok_iand C dX8_voteOf_130 ?_
                refine ok_iconst C (v := 1) dX8_voteOf_131 (by decide) ?_
                obtain ⟨h1, h2⟩ := h
                refine ok_icmp_ne C 141 dX8_voteOf_132 rfl (fun c18 => ?_) (fun c18 => ?_)
                · have h := h1 c18
                  refine ok_iinc C (v := x7 + 1) (L2 := [(7, .int (x7 + 1)), (0, .ref (Ω.2.2.1 0)), (1, .int x1), (2, .int x2), (3, .int x3), (4, .int x4), (6, .int x6), (8, .int x8)]) 6 dX8_voteOf_141 rfl rfl (by decide) rfl ?_
                  refine ok_sub [1, 2, 3, 4, 5, 6, 0, 7] rfl ?_
                  exact J144 _ _ _ _ _ _ h
                · have h := h2 c18
                  refine ok_iinc C (v := x6 + 1) (L2 := [(6, .int (x6 + 1)), (0, .ref (Ω.2.2.1 0)), (1, .int x1), (2, .int x2), (3, .int x3), (4, .int x4), (7, .int x7), (8, .int x8)]) 5 dX8_voteOf_135 rfl rfl (by decide) rfl ?_
                  refine ok_goto C 144 dX8_voteOf_138 rfl ?_
                  refine ok_sub [1, 2, 3, 4, 5, 0, 6, 7] rfl ?_
                  exact J144 _ _ _ _ _ _ h
              · have h := h2 c19
                refine ok_goto C 144 dX8_voteOf_119 rfl ?_
                refine ok_sub [0, 1, 2, 3, 4, 5, 6, 7] rfl ?_
                exact J144 _ _ _ _ _ _ h
      have h : f_X8_voteOf_e x1 x2 L75 Po σ := hvc L75 R75
      unfold f_X8_voteOf_e at h
      refine ok_sub (L2 := [(0, .ref (Ω.2.2.1 0)), (1, .int x1), (2, .int x2)]) [0, 1, 2] rfl ?_
      refine ok_sipush C (v := 240) dX8_voteOf_0 (by decide) ?_
      refine ok_iload_n C 1 dX8_voteOf_3 rfl rfl ?_
      refine ok_imul C dX8_voteOf_4 ?_
      refine ok_iload_n C 2 dX8_voteOf_5 rfl rfl ?_
      refine ok_iadd C dX8_voteOf_6 ?_
      refine ok_istore_n C (L2 := [(3, .int ((240 * x1) + x2)), (0, .ref (Ω.2.2.1 0)), (1, .int x1), (2, .int x2)]) dX8_voteOf_7 rfl (by decide) rfl ?_
      refine ok_aload_n C 1 dX8_voteOf_8 rfl rfl ?_
      refine ok_getR C (ci := 8) hinX8 (kat hk kM_0) rfl 21 (by decide) W_6_147 (fun _ _ h => h) rfl dX8_voteOf_9 ?_
      refine ok_iload_n C 0 dX8_voteOf_12 rfl rfl ?_
      obtain ⟨g1, h⟩ := h
      refine ok_bald C (kat hk kM_19) g1 dX8_voteOf_13 ?_
      obtain ⟨h1, h2⟩ := h
      refine ok_if_eq C 26 dX8_voteOf_14 rfl (fun c9 => ?_) (fun c9 => ?_)
      · have h := h1 c9
        refine ok_aload_n C 1 dX8_voteOf_26 rfl rfl ?_
        refine ok_getR C (ci := 8) hinX8 (kat hk kM_0) rfl 9 (by decide) W_6_135 (fun _ _ h => h) rfl dX8_voteOf_27 ?_
        refine ok_iload_n C 2 dX8_voteOf_30 rfl rfl ?_
        obtain ⟨g2, h⟩ := h
        refine ok_iald C (kat hk kM_7) g2 dX8_voteOf_31 ?_
        refine ok_aload_n C 1 dX8_voteOf_32 rfl rfl ?_
        refine ok_getR C (ci := 8) hinX8 (kat hk kM_0) rfl 9 (by decide) W_6_135 (fun _ _ h => h) rfl dX8_voteOf_33 ?_
        refine ok_iload_n C 3 dX8_voteOf_36 rfl rfl ?_
        obtain ⟨g3, h⟩ := h
        refine ok_iald C (kat hk kM_7) g3 dX8_voteOf_37 ?_
        refine ok_isub C dX8_voteOf_38 ?_
        refine ok_istore C (L2 := [(4, .int ((σ.1 7 x1.toNatClampNeg) - (σ.1 7 x2.toNatClampNeg))), (3, .int ((240 * x1) + x2)), (0, .ref (Ω.2.2.1 0)), (1, .int x1), (2, .int x2)]) dX8_voteOf_39 (by decide) rfl ?_
        refine ok_iload C 0 dX8_voteOf_41 rfl ?_
        refine ok_iconst C (v := 1) dX8_voteOf_43 (by decide) ?_
        obtain ⟨h1, h2⟩ := h
        refine ok_icmp_ne C 66 dX8_voteOf_44 rfl (fun c7 => ?_) (fun c7 => ?_)
        · have h := h1 c7
          refine ok_iconst C (v := 0) dX8_voteOf_66 (by decide) ?_
          refine ok_istore C (L2 := [(6, .int 0), (4, .int ((σ.1 7 x1.toNatClampNeg) - (σ.1 7 x2.toNatClampNeg))), (3, .int ((240 * x1) + x2)), (0, .ref (Ω.2.2.1 0)), (1, .int x1), (2, .int x2)]) dX8_voteOf_67 (by decide) rfl ?_
          refine ok_iconst C (v := 0) dX8_voteOf_69 (by decide) ?_
          refine ok_istore C (L2 := [(7, .int 0), (6, .int 0), (4, .int ((σ.1 7 x1.toNatClampNeg) - (σ.1 7 x2.toNatClampNeg))), (3, .int ((240 * x1) + x2)), (0, .ref (Ω.2.2.1 0)), (1, .int x1), (2, .int x2)]) dX8_voteOf_70 (by decide) rfl ?_
          refine ok_iconst C (v := 0) dX8_voteOf_72 (by decide) ?_
          refine ok_istore C (L2 := [(8, .int 0), (7, .int 0), (6, .int 0), (4, .int ((σ.1 7 x1.toNatClampNeg) - (σ.1 7 x2.toNatClampNeg))), (3, .int ((240 * x1) + x2)), (0, .ref (Ω.2.2.1 0)), (1, .int x1), (2, .int x2)]) dX8_voteOf_73 (by decide) rfl ?_
          refine ok_sub [5, 6, 7, 4, 3, 2, 1, 0] rfl ?_
          exact Eq.mp (gl75 _ _ _ _ _ _) h
        · have h := h2 c7
          refine ok_aload_n C 2 dX8_voteOf_47 rfl rfl ?_
          refine ok_iload_n C 3 dX8_voteOf_48 rfl rfl ?_
          refine ok_iload_n C 4 dX8_voteOf_49 rfl rfl ?_
          refine ok_callVi C (As := [.int x1, .int x2]) (rest := []) (q := 0) (ci := 8) (kat hk kM_0) rfl (c_X8_sees  _ _ _ _ h) W_6_117 W_6_119 W_0_50 W_6_120 W_1_28 hd_X8_sees rfl ⟨by omega, by omega⟩ (Nat.le_of_ble_eq_true rfl) rfl dX8_voteOf_50 (fun r4 u5 h => ?_)
          obtain ⟨h1, h2⟩ := h
          refine ok_if_eq C 60 dX8_voteOf_53 rfl (fun c6 => ?_) (fun c6 => ?_)
          · have h := h1 c6
            refine ok_iconst C (v := 0) dX8_voteOf_60 (by decide) ?_
            refine ok_sub [2, 1] rfl ?_
            exact J61 _ _ _ h
          · have h := h2 c6
            refine ok_iconst C (v := 1) dX8_voteOf_56 (by decide) ?_
            refine ok_goto C 61 dX8_voteOf_57 rfl ?_
            refine ok_sub [2, 1] rfl ?_
            exact J61 _ _ _ h
      · have h := h2 c9
        refine ok_aload_n C 1 dX8_voteOf_17 rfl rfl ?_
        refine ok_getR C (ci := 8) hinX8 (kat hk kM_0) rfl 21 (by decide) W_6_147 (fun _ _ h => h) rfl dX8_voteOf_18 ?_
        refine ok_iload_n C 0 dX8_voteOf_21 rfl rfl ?_
        obtain ⟨g8, h⟩ := h
        refine ok_bald C (kat hk kM_19) g8 dX8_voteOf_22 ?_
        refine ok_iconst C (v := 1) dX8_voteOf_23 (by decide) ?_
        refine ok_isub C dX8_voteOf_24 ?_
        exact ok_iret C rfl rfl dX8_voteOf_25 h
  intro x1 x2 σ K hsp
  refine key 240 x1 x2 σ K hsp ?_
  obtain ⟨gg, hh, MM, yy, xx, z1, z2, z3, z4, z5, z6, z7, z8, -⟩ := hsp
  rw [z1, cl_nI (by have := z8.1.1; omega)]
  have := z8.1.1
  omega
set_option maxRecDepth 100000 in
set_option maxHeartbeats 4000000 in
theorem m_X8_submit {l : Launch} {Ω : Wm} (hk : Hk Ω kM) (c_X8_fails : CT_X8_fails l Ω) (c_X8_in : CT_X8_in l Ω) (c_X8_isNode : CT_X8_isNode l Ω) (hv : ∀ (x1 : Int32) (x2 : Int32) (x3 : Int32) (σ : Sg) (K : Int32 → Sg → Prop), sp_X8_submit x1 x2 x3 σ K → vc_X8_submit x1 x2 x3 σ K) : CT_X8_submit l Ω := by
  intro x1 x2 x3 σ Po hsp
  have hvc := hv x1 x2 x3 σ Po hsp
  refine Ct.of (by decide +kernel) (Nat.le_of_ble_eq_true rfl) (fun Γ C => ?_)
  have J69 : ∀  (σ : Sg), f_X8_submit_69 x1 x2 x3 Po  σ → OK Γ Ω 4 69 [] [] σ := by
    intro  σ h
    unfold f_X8_submit_69 at h
    refine ok_iconst C (v := 0) dX8_submit_69 (by decide) ?_
    exact ok_iret C rfl rfl dX8_submit_70 h
  have J62 : ∀ (s0 : Int32) (σ : Sg), f_X8_submit_62 x1 x2 x3 Po s0 σ → OK Γ Ω 4 62 [(0, .ref (Ω.2.2.1 0)), (1, .int x1), (2, .int x2), (3, .int x3)] [.int s0, .ref (Ω.2.2.1 0)] σ := by
    intro s0 σ h
    unfold f_X8_submit_62 at h
    refine ok_iconst C (v := 2) dX8_submit_62 (by decide) ?_
    refine ok_callVi C (As := [.int s0, .int 2]) (rest := []) (q := 0) (ci := 8) (kat hk kM_0) rfl (c_X8_fails  _ _ _ _ h) W_7_15 W_7_17 W_0_52 W_7_18 W_1_28 hd_X8_fails rfl ⟨Nat.le_of_ble_eq_true rfl, Nat.le_of_ble_eq_true rfl⟩ (Nat.le_of_ble_eq_true rfl) rfl dX8_submit_63 (fun r15 u16 h => ?_)
    obtain ⟨h1, h2⟩ := h
    refine ok_if_eq C 71 dX8_submit_66 rfl (fun c23 => ?_) (fun c23 => ?_)
    · have h := h1 c23
      refine ok_aload_n C 0 dX8_submit_71 rfl rfl ?_
      refine ok_getR C (ci := 8) hinX8 (kat hk kM_0) rfl 13 (by decide) W_6_139 (fun _ _ h => h) rfl dX8_submit_72 ?_
      refine ok_bipush C (v := 8) dX8_submit_75 (by decide) ?_
      refine ok_iload_n C 1 dX8_submit_77 rfl rfl ?_
      refine ok_imul C dX8_submit_78 ?_
      refine ok_aload_n C 0 dX8_submit_79 rfl rfl ?_
      refine ok_getR C (ci := 8) hinX8 (kat hk kM_0) rfl 12 (by decide) W_6_138 (fun _ _ h => h) rfl dX8_submit_80 ?_
      refine ok_iload_n C 1 dX8_submit_83 rfl rfl ?_
      obtain ⟨g17, h⟩ := h
      refine ok_iald C (kat hk kM_10) g17 dX8_submit_84 ?_
      refine ok_iadd C dX8_submit_85 ?_
      refine ok_iload_n C 2 dX8_submit_86 rfl rfl ?_
      obtain ⟨g18, h⟩ := h
      refine ok_iast C (kat hk kM_11) g18 dX8_submit_87 ?_
      refine ok_aload_n C 0 dX8_submit_88 rfl rfl ?_
      refine ok_getR C (ci := 8) hinX8 (kat hk kM_0) rfl 14 (by decide) W_6_140 (fun _ _ h => h) rfl dX8_submit_89 ?_
      refine ok_bipush C (v := 8) dX8_submit_92 (by decide) ?_
      refine ok_iload_n C 1 dX8_submit_94 rfl rfl ?_
      refine ok_imul C dX8_submit_95 ?_
      refine ok_aload_n C 0 dX8_submit_96 rfl rfl ?_
      refine ok_getR C (ci := 8) hinX8 (kat hk kM_0) rfl 12 (by decide) W_6_138 (fun _ _ h => h) rfl dX8_submit_97 ?_
      refine ok_iload_n C 1 dX8_submit_100 rfl rfl ?_
      obtain ⟨g19, h⟩ := h
      refine ok_iald C (kat hk kM_10) g19 dX8_submit_101 ?_
      refine ok_iadd C dX8_submit_102 ?_
      refine ok_iload_n C 3 dX8_submit_103 rfl rfl ?_
      obtain ⟨g20, h⟩ := h
      refine ok_iast C (kat hk kM_12) g20 dX8_submit_104 ?_
      refine ok_aload_n C 0 dX8_submit_105 rfl rfl ?_
      refine ok_getR C (ci := 8) hinX8 (kat hk kM_0) rfl 12 (by decide) W_6_138 (fun _ _ h => h) rfl dX8_submit_106 ?_
      refine ok_iload_n C 1 dX8_submit_109 rfl rfl ?_
      refine ok_dup2_11 C dX8_submit_110 rfl rfl ?_
      obtain ⟨g21, h⟩ := h
      refine ok_iald C (kat hk kM_10) g21 dX8_submit_111 ?_
      refine ok_iconst C (v := 1) dX8_submit_112 (by decide) ?_
      refine ok_iadd C dX8_submit_113 ?_
      refine ok_dup_x2 C dX8_submit_114 rfl rfl rfl ?_
      obtain ⟨g22, h⟩ := h
      refine ok_iast C (kat hk kM_10) g22 dX8_submit_115 ?_
      exact ok_iret C rfl rfl dX8_submit_116 h
    · have h := h2 c23
      refine ok_sub [] rfl ?_
      exact J69  _ h
  have J38 : ∀ (s0 : Int32) (σ : Sg), f_X8_submit_38 x1 x2 x3 Po s0 σ → OK Γ Ω 4 38 [(0, .ref (Ω.2.2.1 0)), (1, .int x1), (2, .int x2), (3, .int x3)] [.int s0, .ref (Ω.2.2.1 0)] σ := by
    intro s0 σ h
    unfold f_X8_submit_38 at h
    refine ok_iconst C (v := 1) dX8_submit_38 (by decide) ?_
    refine ok_callVi C (As := [.int s0, .int 1]) (rest := []) (q := 0) (ci := 8) (kat hk kM_0) rfl (c_X8_fails  _ _ _ _ h) W_7_15 W_7_17 W_0_52 W_7_18 W_1_28 hd_X8_fails rfl ⟨Nat.le_of_ble_eq_true rfl, Nat.le_of_ble_eq_true rfl⟩ (Nat.le_of_ble_eq_true rfl) rfl dX8_submit_39 (fun r10 u11 h => ?_)
    obtain ⟨h1, h2⟩ := h
    refine ok_if_ne C 69 dX8_submit_42 rfl (fun c14 => ?_) (fun c14 => ?_)
    · have h := h1 c14
      refine ok_sub [] rfl ?_
      exact J69  _ h
    · have h := h2 c14
      refine ok_aload_n C 0 dX8_submit_45 rfl rfl ?_
      refine ok_aload_n C 0 dX8_submit_46 rfl rfl ?_
      refine ok_getR C (ci := 8) hinX8 (kat hk kM_0) rfl 12 (by decide) W_6_138 (fun _ _ h => h) rfl dX8_submit_47 ?_
      refine ok_iload_n C 1 dX8_submit_50 rfl rfl ?_
      obtain ⟨g12, h⟩ := h
      refine ok_iald C (kat hk kM_10) g12 dX8_submit_51 ?_
      refine ok_bipush C (v := 8) dX8_submit_52 (by decide) ?_
      obtain ⟨h1, h2⟩ := h
      refine ok_icmp_ne C 61 dX8_submit_54 rfl (fun c13 => ?_) (fun c13 => ?_)
      · have h := h1 c13
        refine ok_iconst C (v := 0) dX8_submit_61 (by decide) ?_
        refine ok_sub [0, 1, 2, 3] rfl ?_
        exact J62 _ _ h
      · have h := h2 c13
        refine ok_iconst C (v := 1) dX8_submit_57 (by decide) ?_
        refine ok_goto C 62 dX8_submit_58 rfl ?_
        refine ok_sub [0, 1, 2, 3] rfl ?_
        exact J62 _ _ h
  have J33 : ∀  (σ : Sg), f_X8_submit_33 x1 x2 x3 Po  σ → OK Γ Ω 4 33 [(0, .ref (Ω.2.2.1 0)), (1, .int x1), (2, .int x2), (3, .int x3)] [.ref (Ω.2.2.1 0)] σ := by
    intro  σ h
    unfold f_X8_submit_33 at h
    refine ok_iconst C (v := 1) dX8_submit_33 (by decide) ?_
    refine ok_goto C 38 dX8_submit_34 rfl ?_
    refine ok_sub [0, 1, 2, 3] rfl ?_
    exact J38 _ _ h
  have h : f_X8_submit_e x1 x2 x3 Po σ := hvc  
  unfold f_X8_submit_e at h
  refine ok_sub (L2 := [(0, .ref (Ω.2.2.1 0)), (1, .int x1), (2, .int x2), (3, .int x3)]) [0, 1, 2, 3] rfl ?_
  refine ok_aload_n C 0 dX8_submit_0 rfl rfl ?_
  refine ok_iconst C (v := 0) dX8_submit_1 (by decide) ?_
  refine ok_putI C (ci := 8) hinX8 (kat hk kM_0) rfl 0 (by decide) W_6_126 (fun _ _ h => h) tyX8 tyX8_ok nmX8 rfl (by decide +kernel) rfl rfl rfl dX8_submit_2 ?_
  refine ok_aload_n C 0 dX8_submit_5 rfl rfl ?_
  refine ok_aload_n C 0 dX8_submit_6 rfl rfl ?_
  refine ok_iload_n C 1 dX8_submit_7 rfl rfl ?_
  refine ok_callVi C (As := [.int x1]) (rest := [.ref (Ω.2.2.1 0)]) (q := 0) (ci := 8) (kat hk kM_0) rfl (c_X8_isNode  _ _ _ h) W_7_23 W_7_25 W_0_53 W_7_26 W_1_28 hd_X8_isNode rfl ⟨Nat.le_of_ble_eq_true rfl, Nat.le_of_ble_eq_true rfl⟩ (Nat.le_of_ble_eq_true rfl) rfl dX8_submit_8 (fun r1 u2 h => ?_)
  obtain ⟨h1, h2⟩ := h
  refine ok_if_eq C 33 dX8_submit_11 rfl (fun c9 => ?_) (fun c9 => ?_)
  · have h := h1 c9
    refine ok_sub [0, 1, 2, 3] rfl ?_
    exact J33  _ h
  · have h := h2 c9
    refine ok_aload_n C 0 dX8_submit_14 rfl rfl ?_
    refine ok_iload_n C 2 dX8_submit_15 rfl rfl ?_
    refine ok_callVi C (As := [.int x2]) (rest := [.ref (Ω.2.2.1 0)]) (q := 0) (ci := 8) (kat hk kM_0) rfl (c_X8_isNode  _ _ _ h) W_7_23 W_7_25 W_0_53 W_7_26 W_1_28 hd_X8_isNode rfl ⟨Nat.le_of_ble_eq_true rfl, Nat.le_of_ble_eq_true rfl⟩ (Nat.le_of_ble_eq_true rfl) rfl dX8_submit_16 (fun r3 u4 h => ?_)
    obtain ⟨h1, h2⟩ := h
    refine ok_if_eq C 33 dX8_submit_19 rfl (fun c8 => ?_) (fun c8 => ?_)
    · have h := h1 c8
      refine ok_sub [0, 1, 2, 3] rfl ?_
      exact J33  _ h
    · have h := h2 c8
      refine ok_iload_n C 3 dX8_submit_22 rfl rfl ?_
      refine ok_iconst C (v := 0) dX8_submit_23 (by decide) ?_
      refine ok_ldcw C W_7_27 dX8_submit_24 ?_
      refine ok_callSi C (As := [.int x3, .int 0, .int 1000000]) (rest := [.ref (Ω.2.2.1 0)]) (c_X8_in  _ _ _ _ _ h) W_7_12 W_7_13 W_7_14 W_1_28 hd_X8_in rfl ⟨Nat.le_of_ble_eq_true rfl, Nat.le_of_ble_eq_true rfl⟩ (Nat.le_of_ble_eq_true rfl) rfl dX8_submit_27 (fun r5 u6 h => ?_)
      obtain ⟨h1, h2⟩ := h
      refine ok_if_ne C 37 dX8_submit_30 rfl (fun c7 => ?_) (fun c7 => ?_)
      · have h := h1 c7
        refine ok_iconst C (v := 0) dX8_submit_37 (by decide) ?_
        refine ok_sub [0, 1, 2, 3] rfl ?_
        exact J38 _ _ h
      · have h := h2 c7
        refine ok_sub [0, 1, 2, 3] rfl ?_
        exact J33  _ h
set_option maxRecDepth 100000 in
set_option maxHeartbeats 4000000 in
theorem m_X8_sync {l : Launch} {Ω : Wm} (hk : Hk Ω kM) (c_X8_fails : CT_X8_fails l Ω) (c_X8_isNode : CT_X8_isNode l Ω) (c_X8_make : CT_X8_make l Ω) (hv : ∀ (x1 : Int32) (x2 : Int32) (x3 : Int64) (σ : Sg) (K : Int32 → Sg → Prop), sp_X8_sync x1 x2 x3 σ K → vc_X8_sync x1 x2 x3 σ K) : CT_X8_sync l Ω := by
  intro x1 x2 x3 σ Po hsp
  have hvc := hv x1 x2 x3 σ Po hsp
  refine Ct.of (by decide +kernel) (Nat.le_of_ble_eq_true rfl) (fun Γ C => ?_)
  obtain ⟨L67, gl67⟩ : ∃ L : Int32 → Sg → Prop, ∀ (x5 : Int32) (σ : Sg), L x5 σ = OK Γ Ω 7 67 [(0, .ref (Ω.2.2.1 0)), (1, .int x1), (2, .int x2), (3, .long x3), (5, .int x5)] [] σ := ⟨fun x5 σ => OK Γ Ω 7 67 [(0, .ref (Ω.2.2.1 0)), (1, .int x1), (2, .int x2), (3, .long x3), (5, .int x5)] [] σ, fun _ _ => rfl⟩
  obtain ⟨L148, gl148⟩ : ∃ L : Int32 → Int32 → Sg → Prop, ∀ (x5 : Int32) (x6 : Int32) (σ : Sg), L x5 x6 σ = OK Γ Ω 7 148 [(0, .ref (Ω.2.2.1 0)), (1, .int x1), (2, .int x2), (3, .long x3), (5, .int x5), (6, .int x6)] [] σ := ⟨fun x5 x6 σ => OK Γ Ω 7 148 [(0, .ref (Ω.2.2.1 0)), (1, .int x1), (2, .int x2), (3, .long x3), (5, .int x5), (6, .int x6)] [] σ, fun _ _ _ => rfl⟩
  obtain ⟨L217, gl217⟩ : ∃ L : Int32 → Int32 → Sg → Prop, ∀ (x5 : Int32) (x6 : Int32) (σ : Sg), L x5 x6 σ = OK Γ Ω 7 217 [(0, .ref (Ω.2.2.1 0)), (1, .int x1), (2, .int x2), (3, .long x3), (5, .int x5), (6, .int x6)] [] σ := ⟨fun x5 x6 σ => OK Γ Ω 7 217 [(0, .ref (Ω.2.2.1 0)), (1, .int x1), (2, .int x2), (3, .long x3), (5, .int x5), (6, .int x6)] [] σ, fun _ _ _ => rfl⟩
  have J132 : ∀ (s0 : Int32) (σ : Sg), f_X8_sync_132 x1 x2 x3 L67 L148 L217 Po s0 σ → OK Γ Ω 7 132 [(0, .ref (Ω.2.2.1 0)), (1, .int x1), (2, .int x2), (3, .long x3)] [.int s0] σ := by
    intro s0 σ h
    unfold f_X8_sync_132 at h
    refine ok_istore C (L2 := [(5, .int s0), (0, .ref (Ω.2.2.1 0)), (1, .int x1), (2, .int x2), (3, .long x3)]) dX8_sync_132 (by decide) rfl ?_
    refine ok_aload_n C 1 dX8_sync_134 rfl rfl ?_
    refine ok_getR C (ci := 8) hinX8 (kat hk kM_0) rfl 6 (by decide) W_6_132 (fun _ _ h => h) rfl dX8_sync_135 ?_
    refine ok_aload_n C 1 dX8_sync_138 rfl rfl ?_
    refine ok_getI C (ci := 8) hinX8 (kat hk kM_0) rfl 2 (by decide) W_6_128 (fun _ _ h => h) rfl dX8_sync_139 ?_
    refine ok_iload C 0 dX8_sync_142 rfl ?_
    obtain ⟨g22, h⟩ := h
    refine ok_iast C (kat hk kM_4) g22 dX8_sync_144 ?_
    refine ok_iconst C (v := 0) dX8_sync_145 (by decide) ?_
    refine ok_istore C (L2 := [(6, .int 0), (5, .int s0), (0, .ref (Ω.2.2.1 0)), (1, .int x1), (2, .int x2), (3, .long x3)]) dX8_sync_146 (by decide) rfl ?_
    refine ok_sub [2, 3, 4, 5, 1, 0] rfl ?_
    exact Eq.mp (gl148 _ _ _) h
  have J106 : ∀ (x5 : Int32) (σ : Sg), f_X8_sync_106 x1 x2 x3 L67 L148 L217 Po x5 σ → OK Γ Ω 7 106 [(0, .ref (Ω.2.2.1 0)), (1, .int x1), (2, .int x2), (3, .long x3), (5, .int x5)] [] σ := by
    intro x5 σ h
    unfold f_X8_sync_106 at h
    refine ok_iinc C (v := x5 + 1) (L2 := [(5, .int (x5 + 1)), (0, .ref (Ω.2.2.1 0)), (1, .int x1), (2, .int x2), (3, .long x3)]) 4 dX8_sync_106 rfl rfl (by decide) rfl ?_
    refine ok_goto C 67 dX8_sync_109 rfl ?_
    refine ok_sub [1, 2, 3, 4, 0] rfl ?_
    exact Eq.mp (gl67 _ _) h
  have J62 : ∀  (σ : Sg), f_X8_sync_62 x1 x2 x3 L67 L148 L217 Po  σ → OK Γ Ω 7 62 [] [] σ := by
    intro  σ h
    unfold f_X8_sync_62 at h
    refine ok_iconst C (v := 0) dX8_sync_62 (by decide) ?_
    exact ok_iret C rfl rfl dX8_sync_63 h
  have J55 : ∀ (s0 : Int32) (σ : Sg), f_X8_sync_55 x1 x2 x3 L67 L148 L217 Po s0 σ → OK Γ Ω 7 55 [(0, .ref (Ω.2.2.1 0)), (1, .int x1), (2, .int x2), (3, .long x3)] [.int s0, .ref (Ω.2.2.1 0)] σ := by
    intro s0 σ h
    unfold f_X8_sync_55 at h
    refine ok_iconst C (v := 2) dX8_sync_55 (by decide) ?_
    refine ok_callVi C (As := [.int s0, .int 2]) (rest := []) (q := 0) (ci := 8) (kat hk kM_0) rfl (c_X8_fails  _ _ _ _ h) W_7_15 W_7_17 W_0_52 W_7_18 W_1_28 hd_X8_fails rfl ⟨Nat.le_of_ble_eq_true rfl, Nat.le_of_ble_eq_true rfl⟩ (Nat.le_of_ble_eq_true rfl) rfl dX8_sync_56 (fun r12 u13 h => ?_)
    obtain ⟨h1, h2⟩ := h
    refine ok_if_eq C 64 dX8_sync_59 rfl (fun c14 => ?_) (fun c14 => ?_)
    · have h := h1 c14
      refine ok_iconst C (v := 0) dX8_sync_64 (by decide) ?_
      refine ok_istore C (L2 := [(5, .int 0), (0, .ref (Ω.2.2.1 0)), (1, .int x1), (2, .int x2), (3, .long x3)]) dX8_sync_65 (by decide) rfl ?_
      refine ok_sub [1, 2, 3, 4, 0] rfl ?_
      exact Eq.mp (gl67 _ _) h
    · have h := h2 c14
      refine ok_sub [] rfl ?_
      exact J62  _ h
  have J32 : ∀ (s0 : Int32) (σ : Sg), f_X8_sync_32 x1 x2 x3 L67 L148 L217 Po s0 σ → OK Γ Ω 7 32 [(0, .ref (Ω.2.2.1 0)), (1, .int x1), (2, .int x2), (3, .long x3)] [.int s0, .ref (Ω.2.2.1 0)] σ := by
    intro s0 σ h
    unfold f_X8_sync_32 at h
    refine ok_iconst C (v := 1) dX8_sync_32 (by decide) ?_
    refine ok_callVi C (As := [.int s0, .int 1]) (rest := []) (q := 0) (ci := 8) (kat hk kM_0) rfl (c_X8_fails  _ _ _ _ h) W_7_15 W_7_17 W_0_52 W_7_18 W_1_28 hd_X8_fails rfl ⟨Nat.le_of_ble_eq_true rfl, Nat.le_of_ble_eq_true rfl⟩ (Nat.le_of_ble_eq_true rfl) rfl dX8_sync_33 (fun r8 u9 h => ?_)
    obtain ⟨h1, h2⟩ := h
    refine ok_if_ne C 62 dX8_sync_36 rfl (fun c11 => ?_) (fun c11 => ?_)
    · have h := h1 c11
      refine ok_sub [] rfl ?_
      exact J62  _ h
    · have h := h2 c11
      refine ok_aload_n C 0 dX8_sync_39 rfl rfl ?_
      refine ok_aload_n C 0 dX8_sync_40 rfl rfl ?_
      refine ok_getI C (ci := 8) hinX8 (kat hk kM_0) rfl 2 (by decide) W_6_128 (fun _ _ h => h) rfl dX8_sync_41 ?_
      refine ok_sipush C (v := 240) dX8_sync_44 (by decide) ?_
      obtain ⟨h1, h2⟩ := h
      refine ok_icmp_ne C 54 dX8_sync_47 rfl (fun c10 => ?_) (fun c10 => ?_)
      · have h := h1 c10
        refine ok_iconst C (v := 0) dX8_sync_54 (by decide) ?_
        refine ok_sub [0, 1, 2, 3] rfl ?_
        exact J55 _ _ h
      · have h := h2 c10
        refine ok_iconst C (v := 1) dX8_sync_50 (by decide) ?_
        refine ok_goto C 55 dX8_sync_51 rfl ?_
        refine ok_sub [0, 1, 2, 3] rfl ?_
        exact J55 _ _ h
  have J27 : ∀  (σ : Sg), f_X8_sync_27 x1 x2 x3 L67 L148 L217 Po  σ → OK Γ Ω 7 27 [(0, .ref (Ω.2.2.1 0)), (1, .int x1), (2, .int x2), (3, .long x3)] [.ref (Ω.2.2.1 0)] σ := by
    intro  σ h
    unfold f_X8_sync_27 at h
    refine ok_iconst C (v := 1) dX8_sync_27 (by decide) ?_
    refine ok_goto C 32 dX8_sync_28 rfl ?_
    refine ok_sub [0, 1, 2, 3] rfl ?_
    exact J32 _ _ h
  have R67 : ∀ (x5 : Int32) (σ : Sg), f_X8_sync_67 x1 x2 x3 L67 L148 L217 Po x5 σ → L67 x5 σ := by
    intro x5 σ h
    unfold f_X8_sync_67 at h
    refine Eq.mpr (gl67 _ _) ?_
    refine ok_iload C 4 dX8_sync_67 rfl ?_
    refine ok_aload_n C 0 dX8_sync_69 rfl rfl ?_
    refine ok_getI C (ci := 8) hinX8 (kat hk kM_0) rfl 2 (by decide) W_6_128 (fun _ _ h => h) rfl dX8_sync_70 ?_
    obtain ⟨h1, h2⟩ := h
    refine ok_icmp_ge C 112 dX8_sync_73 rfl (fun c21 => ?_) (fun c21 => ?_)
    · have h := h1 c21
      refine ok_aload_n C 0 dX8_sync_112 rfl rfl ?_
      refine ok_getR C (ci := 8) hinX8 (kat hk kM_0) rfl 12 (by decide) W_6_138 (fun _ _ h => h) rfl dX8_sync_113 ?_
      refine ok_iload_n C 2 dX8_sync_116 rfl rfl ?_
      obtain ⟨g15, h⟩ := h
      refine ok_iald C (kat hk kM_10) g15 dX8_sync_117 ?_
      refine ok_iconst C (v := 3) dX8_sync_118 (by decide) ?_
      obtain ⟨h1, h2⟩ := h
      refine ok_icmp_ge C 131 dX8_sync_119 rfl (fun c17 => ?_) (fun c17 => ?_)
      · have h := h1 c17
        refine ok_iconst C (v := 3) dX8_sync_131 (by decide) ?_
        refine ok_sub [0, 1, 2, 3] rfl ?_
        exact J132 _ _ h
      · have h := h2 c17
        refine ok_aload_n C 0 dX8_sync_122 rfl rfl ?_
        refine ok_getR C (ci := 8) hinX8 (kat hk kM_0) rfl 12 (by decide) W_6_138 (fun _ _ h => h) rfl dX8_sync_123 ?_
        refine ok_iload_n C 2 dX8_sync_126 rfl rfl ?_
        obtain ⟨g16, h⟩ := h
        refine ok_iald C (kat hk kM_10) g16 dX8_sync_127 ?_
        refine ok_goto C 132 dX8_sync_128 rfl ?_
        refine ok_sub [0, 1, 2, 3] rfl ?_
        exact J132 _ _ h
    · have h := h2 c21
      refine ok_aload_n C 0 dX8_sync_76 rfl rfl ?_
      refine ok_getR C (ci := 8) hinX8 (kat hk kM_0) rfl 17 (by decide) W_6_143 (fun _ _ h => h) rfl dX8_sync_77 ?_
      refine ok_sipush C (v := 240) dX8_sync_80 (by decide) ?_
      refine ok_iload_n C 1 dX8_sync_83 rfl rfl ?_
      refine ok_imul C dX8_sync_84 ?_
      refine ok_iload C 4 dX8_sync_85 rfl ?_
      refine ok_iadd C dX8_sync_87 ?_
      obtain ⟨g18, h⟩ := h
      refine ok_zald C (kat hk kM_15) g18 dX8_sync_88 ?_
      obtain ⟨h1, h2⟩ := h
      refine ok_if_eq C 106 dX8_sync_89 rfl (fun c20 => ?_) (fun c20 => ?_)
      · have h := h1 c20
        refine ok_sub [0, 1, 2, 3, 4] rfl ?_
        exact J106 _ _ h
      · have h := h2 c20
        refine ok_aload_n C 0 dX8_sync_92 rfl rfl ?_
        refine ok_getR C (ci := 8) hinX8 (kat hk kM_0) rfl 17 (by decide) W_6_143 (fun _ _ h => h) rfl dX8_sync_93 ?_
        refine ok_sipush C (v := 240) dX8_sync_96 (by decide) ?_
        refine ok_iload_n C 2 dX8_sync_99 rfl rfl ?_
        refine ok_imul C dX8_sync_100 ?_
        refine ok_iload C 4 dX8_sync_101 rfl ?_
        refine ok_iadd C dX8_sync_103 ?_
        refine ok_iconst C (v := 1) dX8_sync_104 (by decide) ?_
        obtain ⟨g19, h⟩ := h
        refine ok_zast C (kat hk kM_15) g19 dX8_sync_105 (bz_s isZ_1 ?_)
        refine ok_sub [0, 1, 2, 3, 4] rfl ?_
        exact J106 _ _ h
  have R148 : ∀ (x5 : Int32) (x6 : Int32) (σ : Sg), f_X8_sync_148 x1 x2 x3 L67 L148 L217 Po x5 x6 σ → L148 x5 x6 σ := by
    intro x5 x6 σ h
    unfold f_X8_sync_148 at h
    refine Eq.mpr (gl148 _ _ _) ?_
    refine ok_iload C 5 dX8_sync_148 rfl ?_
    refine ok_iload C 4 dX8_sync_150 rfl ?_
    obtain ⟨h1, h2⟩ := h
    refine ok_icmp_ge C 213 dX8_sync_152 rfl (fun c27 => ?_) (fun c27 => ?_)
    · have h := h1 c27
      refine ok_iload C 4 dX8_sync_213 rfl ?_
      refine ok_istore C (L2 := [(6, .int x5), (0, .ref (Ω.2.2.1 0)), (1, .int x1), (2, .int x2), (3, .long x3), (5, .int x5)]) dX8_sync_215 (by decide) rfl ?_
      refine ok_sub [1, 2, 3, 4, 5, 0] rfl ?_
      exact Eq.mp (gl217 _ _ _) h
    · have h := h2 c27
      refine ok_aload_n C 0 dX8_sync_155 rfl rfl ?_
      refine ok_getR C (ci := 8) hinX8 (kat hk kM_0) rfl 7 (by decide) W_6_133 (fun _ _ h => h) rfl dX8_sync_156 ?_
      refine ok_iconst C (v := 3) dX8_sync_159 (by decide) ?_
      refine ok_aload_n C 0 dX8_sync_160 rfl rfl ?_
      refine ok_getI C (ci := 8) hinX8 (kat hk kM_0) rfl 2 (by decide) W_6_128 (fun _ _ h => h) rfl dX8_sync_161 ?_
      refine ok_imul C dX8_sync_164 ?_
      refine ok_iload C 5 dX8_sync_165 rfl ?_
      refine ok_iadd C dX8_sync_167 ?_
      refine ok_aload_n C 0 dX8_sync_168 rfl rfl ?_
      refine ok_getR C (ci := 8) hinX8 (kat hk kM_0) rfl 13 (by decide) W_6_139 (fun _ _ h => h) rfl dX8_sync_169 ?_
      refine ok_bipush C (v := 8) dX8_sync_172 (by decide) ?_
      refine ok_iload_n C 2 dX8_sync_174 rfl rfl ?_
      refine ok_imul C dX8_sync_175 ?_
      refine ok_iload C 5 dX8_sync_176 rfl ?_
      refine ok_iadd C dX8_sync_178 ?_
      obtain ⟨g23, h⟩ := h
      refine ok_iald C (kat hk kM_11) g23 dX8_sync_179 ?_
      obtain ⟨g24, h⟩ := h
      refine ok_iast C (kat hk kM_5) g24 dX8_sync_180 ?_
      refine ok_aload_n C 0 dX8_sync_181 rfl rfl ?_
      refine ok_getR C (ci := 8) hinX8 (kat hk kM_0) rfl 8 (by decide) W_6_134 (fun _ _ h => h) rfl dX8_sync_182 ?_
      refine ok_iconst C (v := 3) dX8_sync_185 (by decide) ?_
      refine ok_aload_n C 0 dX8_sync_186 rfl rfl ?_
      refine ok_getI C (ci := 8) hinX8 (kat hk kM_0) rfl 2 (by decide) W_6_128 (fun _ _ h => h) rfl dX8_sync_187 ?_
      refine ok_imul C dX8_sync_190 ?_
      refine ok_iload C 5 dX8_sync_191 rfl ?_
      refine ok_iadd C dX8_sync_193 ?_
      refine ok_aload_n C 0 dX8_sync_194 rfl rfl ?_
      refine ok_getR C (ci := 8) hinX8 (kat hk kM_0) rfl 14 (by decide) W_6_140 (fun _ _ h => h) rfl dX8_sync_195 ?_
      refine ok_bipush C (v := 8) dX8_sync_198 (by decide) ?_
      refine ok_iload_n C 2 dX8_sync_200 rfl rfl ?_
      refine ok_imul C dX8_sync_201 ?_
      refine ok_iload C 5 dX8_sync_202 rfl ?_
      refine ok_iadd C dX8_sync_204 ?_
      obtain ⟨g25, h⟩ := h
      refine ok_iald C (kat hk kM_12) g25 dX8_sync_205 ?_
      obtain ⟨g26, h⟩ := h
      refine ok_iast C (kat hk kM_6) g26 dX8_sync_206 ?_
      refine ok_iinc C (v := x6 + 1) (L2 := [(6, .int (x6 + 1)), (0, .ref (Ω.2.2.1 0)), (1, .int x1), (2, .int x2), (3, .long x3), (5, .int x5)]) 5 dX8_sync_207 rfl rfl (by decide) rfl ?_
      refine ok_goto C 148 dX8_sync_210 rfl ?_
      refine ok_sub [1, 2, 3, 4, 5, 0] rfl ?_
      exact Eq.mp (gl148 _ _ _) h
  have R217 : ∀ (x5 : Int32) (x6 : Int32) (σ : Sg), f_X8_sync_217 x1 x2 x3 L67 L148 L217 Po x5 x6 σ → L217 x5 x6 σ := by
    intro x5 x6 σ h
    unfold f_X8_sync_217 at h
    refine Eq.mpr (gl217 _ _ _) ?_
    refine ok_iload C 5 dX8_sync_217 rfl ?_
    refine ok_aload_n C 0 dX8_sync_219 rfl rfl ?_
    refine ok_getR C (ci := 8) hinX8 (kat hk kM_0) rfl 12 (by decide) W_6_138 (fun _ _ h => h) rfl dX8_sync_220 ?_
    refine ok_iload_n C 2 dX8_sync_223 rfl rfl ?_
    obtain ⟨g28, h⟩ := h
    refine ok_iald C (kat hk kM_10) g28 dX8_sync_224 ?_
    obtain ⟨h1, h2⟩ := h
    refine ok_icmp_ge C 288 dX8_sync_225 rfl (fun c41 => ?_) (fun c41 => ?_)
    · have h := h1 c41
      refine ok_aload_n C 0 dX8_sync_288 rfl rfl ?_
      refine ok_getR C (ci := 8) hinX8 (kat hk kM_0) rfl 12 (by decide) W_6_138 (fun _ _ h => h) rfl dX8_sync_289 ?_
      refine ok_iload_n C 2 dX8_sync_292 rfl rfl ?_
      refine ok_dup2_11 C dX8_sync_293 rfl rfl ?_
      obtain ⟨g29, h⟩ := h
      refine ok_iald C (kat hk kM_10) g29 dX8_sync_294 ?_
      refine ok_iload C 4 dX8_sync_295 rfl ?_
      refine ok_isub C dX8_sync_297 ?_
      obtain ⟨g30, h⟩ := h
      refine ok_iast C (kat hk kM_10) g30 dX8_sync_298 ?_
      refine ok_aload_n C 0 dX8_sync_299 rfl rfl ?_
      refine ok_iload_n C 2 dX8_sync_300 rfl rfl ?_
      refine ok_aload_n C 0 dX8_sync_301 rfl rfl ?_
      refine ok_getR C (ci := 8) hinX8 (kat hk kM_0) rfl 11 (by decide) W_6_137 (fun _ _ h => h) rfl dX8_sync_302 ?_
      refine ok_iload_n C 2 dX8_sync_305 rfl rfl ?_
      obtain ⟨g31, h⟩ := h
      refine ok_iald C (kat hk kM_9) g31 dX8_sync_306 ?_
      refine ok_aload_n C 0 dX8_sync_307 rfl rfl ?_
      refine ok_getR C (ci := 8) hinX8 (kat hk kM_0) rfl 11 (by decide) W_6_137 (fun _ _ h => h) rfl dX8_sync_308 ?_
      refine ok_iload_n C 1 dX8_sync_311 rfl rfl ?_
      obtain ⟨g32, h⟩ := h
      refine ok_iald C (kat hk kM_9) g32 dX8_sync_312 ?_
      refine ok_lload_n C 3 dX8_sync_313 rfl rfl ?_
      refine ok_callVi C (As := [.int x2, .int ((pI σ 10 x2.toNatClampNeg ((σ.1 10 x2.toNatClampNeg) - x5)).1 9 x2.toNatClampNeg), .int ((pI σ 10 x2.toNatClampNeg ((σ.1 10 x2.toNatClampNeg) - x5)).1 9 x1.toNatClampNeg), .long x3]) (rest := []) (q := 0) (ci := 8) (kat hk kM_0) rfl (c_X8_make  _ _ _ _ _ _ h) W_6_78 W_6_80 W_0_41 W_6_81 W_1_28 hd_X8_make rfl ⟨Nat.le_of_ble_eq_true rfl, Nat.le_of_ble_eq_true rfl⟩ (Nat.le_of_ble_eq_true rfl) rfl dX8_sync_314 (fun r33 u34 h => ?_)
      refine ok_istore C (L2 := [(6, .int r33), (0, .ref (Ω.2.2.1 0)), (1, .int x1), (2, .int x2), (3, .long x3), (5, .int x5)]) dX8_sync_317 (by decide) rfl ?_
      refine ok_aload_n C 1 dX8_sync_319 rfl rfl ?_
      refine ok_getR C (ci := 8) hinX8 (kat hk kM_0) rfl 11 (by decide) W_6_137 (fun _ _ h => h) rfl dX8_sync_320 ?_
      refine ok_iload_n C 3 dX8_sync_323 rfl rfl ?_
      refine ok_iload C 0 dX8_sync_324 rfl ?_
      obtain ⟨g35, h⟩ := h
      refine ok_iast C (kat hk kM_9) g35 dX8_sync_326 ?_
      refine ok_aload_n C 1 dX8_sync_327 rfl rfl ?_
      refine ok_getR C (ci := 8) hinX8 (kat hk kM_0) rfl 17 (by decide) W_6_143 (fun _ _ h => h) rfl dX8_sync_328 ?_
      refine ok_sipush C (v := 240) dX8_sync_331 (by decide) ?_
      refine ok_iload_n C 3 dX8_sync_334 rfl rfl ?_
      refine ok_imul C dX8_sync_335 ?_
      refine ok_iload C 0 dX8_sync_336 rfl ?_
      refine ok_iadd C dX8_sync_338 ?_
      refine ok_iconst C (v := 1) dX8_sync_339 (by decide) ?_
      obtain ⟨g36, h⟩ := h
      refine ok_zast C (kat hk kM_15) g36 dX8_sync_340 (bz_s isZ_1 ?_)
      refine ok_iload C 0 dX8_sync_341 rfl ?_
      exact ok_iret C rfl rfl dX8_sync_343 h
    · have h := h2 c41
      refine ok_aload_n C 0 dX8_sync_228 rfl rfl ?_
      refine ok_getR C (ci := 8) hinX8 (kat hk kM_0) rfl 13 (by decide) W_6_139 (fun _ _ h => h) rfl dX8_sync_229 ?_
      refine ok_bipush C (v := 8) dX8_sync_232 (by decide) ?_
      refine ok_iload_n C 2 dX8_sync_234 rfl rfl ?_
      refine ok_imul C dX8_sync_235 ?_
      refine ok_iload C 5 dX8_sync_236 rfl ?_
      refine ok_iadd C dX8_sync_238 ?_
      refine ok_iload C 4 dX8_sync_239 rfl ?_
      refine ok_isub C dX8_sync_241 ?_
      refine ok_aload_n C 0 dX8_sync_242 rfl rfl ?_
      refine ok_getR C (ci := 8) hinX8 (kat hk kM_0) rfl 13 (by decide) W_6_139 (fun _ _ h => h) rfl dX8_sync_243 ?_
      refine ok_bipush C (v := 8) dX8_sync_246 (by decide) ?_
      refine ok_iload_n C 2 dX8_sync_248 rfl rfl ?_
      refine ok_imul C dX8_sync_249 ?_
      refine ok_iload C 5 dX8_sync_250 rfl ?_
      refine ok_iadd C dX8_sync_252 ?_
      obtain ⟨g37, h⟩ := h
      refine ok_iald C (kat hk kM_11) g37 dX8_sync_253 ?_
      obtain ⟨g38, h⟩ := h
      refine ok_iast C (kat hk kM_11) g38 dX8_sync_254 ?_
      refine ok_aload_n C 0 dX8_sync_255 rfl rfl ?_
      refine ok_getR C (ci := 8) hinX8 (kat hk kM_0) rfl 14 (by decide) W_6_140 (fun _ _ h => h) rfl dX8_sync_256 ?_
      refine ok_bipush C (v := 8) dX8_sync_259 (by decide) ?_
      refine ok_iload_n C 2 dX8_sync_261 rfl rfl ?_
      refine ok_imul C dX8_sync_262 ?_
      refine ok_iload C 5 dX8_sync_263 rfl ?_
      refine ok_iadd C dX8_sync_265 ?_
      refine ok_iload C 4 dX8_sync_266 rfl ?_
      refine ok_isub C dX8_sync_268 ?_
      refine ok_aload_n C 0 dX8_sync_269 rfl rfl ?_
      refine ok_getR C (ci := 8) hinX8 (kat hk kM_0) rfl 14 (by decide) W_6_140 (fun _ _ h => h) rfl dX8_sync_270 ?_
      refine ok_bipush C (v := 8) dX8_sync_273 (by decide) ?_
      refine ok_iload_n C 2 dX8_sync_275 rfl rfl ?_
      refine ok_imul C dX8_sync_276 ?_
      refine ok_iload C 5 dX8_sync_277 rfl ?_
      refine ok_iadd C dX8_sync_279 ?_
      obtain ⟨g39, h⟩ := h
      refine ok_iald C (kat hk kM_12) g39 dX8_sync_280 ?_
      obtain ⟨g40, h⟩ := h
      refine ok_iast C (kat hk kM_12) g40 dX8_sync_281 ?_
      refine ok_iinc C (v := x6 + 1) (L2 := [(6, .int (x6 + 1)), (0, .ref (Ω.2.2.1 0)), (1, .int x1), (2, .int x2), (3, .long x3), (5, .int x5)]) 5 dX8_sync_282 rfl rfl (by decide) rfl ?_
      refine ok_goto C 217 dX8_sync_285 rfl ?_
      refine ok_sub [1, 2, 3, 4, 5, 0] rfl ?_
      exact Eq.mp (gl217 _ _ _) h
  have h : f_X8_sync_e x1 x2 x3 L67 L148 L217 Po σ := hvc L67 L148 L217 R67 R148 R217
  unfold f_X8_sync_e at h
  refine ok_sub (L2 := [(0, .ref (Ω.2.2.1 0)), (1, .int x1), (2, .int x2), (3, .long x3)]) [0, 1, 2, 3] rfl ?_
  refine ok_aload_n C 0 dX8_sync_0 rfl rfl ?_
  refine ok_iconst C (v := 0) dX8_sync_1 (by decide) ?_
  refine ok_putI C (ci := 8) hinX8 (kat hk kM_0) rfl 0 (by decide) W_6_126 (fun _ _ h => h) tyX8 tyX8_ok nmX8 rfl (by decide +kernel) rfl rfl rfl dX8_sync_2 ?_
  refine ok_aload_n C 0 dX8_sync_5 rfl rfl ?_
  refine ok_aload_n C 0 dX8_sync_6 rfl rfl ?_
  refine ok_iload_n C 1 dX8_sync_7 rfl rfl ?_
  refine ok_callVi C (As := [.int x1]) (rest := [.ref (Ω.2.2.1 0)]) (q := 0) (ci := 8) (kat hk kM_0) rfl (c_X8_isNode  _ _ _ h) W_7_23 W_7_25 W_0_53 W_7_26 W_1_28 hd_X8_isNode rfl ⟨Nat.le_of_ble_eq_true rfl, Nat.le_of_ble_eq_true rfl⟩ (Nat.le_of_ble_eq_true rfl) rfl dX8_sync_8 (fun r1 u2 h => ?_)
  obtain ⟨h1, h2⟩ := h
  refine ok_if_eq C 27 dX8_sync_11 rfl (fun c7 => ?_) (fun c7 => ?_)
  · have h := h1 c7
    refine ok_sub [0, 1, 2, 3] rfl ?_
    exact J27  _ h
  · have h := h2 c7
    refine ok_aload_n C 0 dX8_sync_14 rfl rfl ?_
    refine ok_iload_n C 2 dX8_sync_15 rfl rfl ?_
    refine ok_callVi C (As := [.int x2]) (rest := [.ref (Ω.2.2.1 0)]) (q := 0) (ci := 8) (kat hk kM_0) rfl (c_X8_isNode  _ _ _ h) W_7_23 W_7_25 W_0_53 W_7_26 W_1_28 hd_X8_isNode rfl ⟨Nat.le_of_ble_eq_true rfl, Nat.le_of_ble_eq_true rfl⟩ (Nat.le_of_ble_eq_true rfl) rfl dX8_sync_16 (fun r3 u4 h => ?_)
    obtain ⟨h1, h2⟩ := h
    refine ok_if_eq C 27 dX8_sync_19 rfl (fun c6 => ?_) (fun c6 => ?_)
    · have h := h1 c6
      refine ok_sub [0, 1, 2, 3] rfl ?_
      exact J27  _ h
    · have h := h2 c6
      refine ok_iload_n C 1 dX8_sync_22 rfl rfl ?_
      refine ok_iload_n C 2 dX8_sync_23 rfl rfl ?_
      obtain ⟨h1, h2⟩ := h
      refine ok_icmp_ne C 31 dX8_sync_24 rfl (fun c5 => ?_) (fun c5 => ?_)
      · have h := h1 c5
        refine ok_iconst C (v := 0) dX8_sync_31 (by decide) ?_
        refine ok_sub [0, 1, 2, 3] rfl ?_
        exact J32 _ _ h
      · have h := h2 c5
        refine ok_sub [0, 1, 2, 3] rfl ?_
        exact J27  _ h
set_option maxRecDepth 100000 in
set_option maxHeartbeats 4000000 in
theorem m_X8_holds {l : Launch} {Ω : Wm} (hk : Hk Ω kM) (c_X8_isEvent : CT_X8_isEvent l Ω) (hv : ∀ (x1 : Int32) (x2 : Int32) (σ : Sg) (K : Int32 → Sg → Prop), sp_X8_holds x1 x2 σ K → vc_X8_holds x1 x2 σ K) : CT_X8_holds l Ω := by
  intro x1 x2 σ Po hsp
  have hvc := hv x1 x2 σ Po hsp
  refine Ct.of (by decide +kernel) (Nat.le_of_ble_eq_true rfl) (fun Γ C => ?_)
  have J28 : ∀ (s0 : Int32) (σ : Sg), f_X8_holds_28 x1 x2 Po s0 σ → OK Γ Ω 3 28 [] [.int s0] σ := by
    intro s0 σ h
    unfold f_X8_holds_28 at h
    obtain ⟨z6, h⟩ := h
    exact ok_zret C rfl rfl (bz_n z6) dX8_holds_28 h
  have J27 : ∀  (σ : Sg), f_X8_holds_27 x1 x2 Po  σ → OK Γ Ω 3 27 [] [] σ := by
    intro  σ h
    unfold f_X8_holds_27 at h
    refine ok_iconst C (v := 0) dX8_holds_27 (by decide) ?_
    refine ok_sub [] rfl ?_
    exact J28 _ _ h
  have h : f_X8_holds_e x1 x2 Po σ := hvc  
  unfold f_X8_holds_e at h
  refine ok_sub (L2 := [(0, .ref (Ω.2.2.1 0)), (1, .int x1), (2, .int x2)]) [0, 1, 2] rfl ?_
  refine ok_aload_n C 0 dX8_holds_0 rfl rfl ?_
  refine ok_iload_n C 2 dX8_holds_1 rfl rfl ?_
  refine ok_callVi C (As := [.int x2]) (rest := []) (q := 0) (ci := 8) (kat hk kM_0) rfl (c_X8_isEvent  _ _ _ h) W_7_40 W_7_42 W_0_55 W_7_43 W_1_28 hd_X8_isEvent rfl ⟨Nat.le_of_ble_eq_true rfl, Nat.le_of_ble_eq_true rfl⟩ (Nat.le_of_ble_eq_true rfl) rfl dX8_holds_2 (fun r1 u2 h => ?_)
  obtain ⟨h1, h2⟩ := h
  refine ok_if_eq C 27 dX8_holds_5 rfl (fun c5 => ?_) (fun c5 => ?_)
  · have h := h1 c5
    refine ok_sub [] rfl ?_
    exact J27  _ h
  · have h := h2 c5
    refine ok_aload_n C 0 dX8_holds_8 rfl rfl ?_
    refine ok_getR C (ci := 8) hinX8 (kat hk kM_0) rfl 17 (by decide) W_6_143 (fun _ _ h => h) rfl dX8_holds_9 ?_
    refine ok_sipush C (v := 240) dX8_holds_12 (by decide) ?_
    refine ok_iload_n C 1 dX8_holds_15 rfl rfl ?_
    refine ok_imul C dX8_holds_16 ?_
    refine ok_iload_n C 2 dX8_holds_17 rfl rfl ?_
    refine ok_iadd C dX8_holds_18 ?_
    obtain ⟨g3, h⟩ := h
    refine ok_zald C (kat hk kM_15) g3 dX8_holds_19 ?_
    obtain ⟨h1, h2⟩ := h
    refine ok_if_eq C 27 dX8_holds_20 rfl (fun c4 => ?_) (fun c4 => ?_)
    · have h := h1 c4
      refine ok_sub [] rfl ?_
      exact J27  _ h
    · have h := h2 c4
      refine ok_iconst C (v := 1) dX8_holds_23 (by decide) ?_
      refine ok_goto C 28 dX8_holds_24 rfl ?_
      refine ok_sub [] rfl ?_
      exact J28 _ _ h
