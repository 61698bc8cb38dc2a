/-! ===== the law's roads ===== -/
theorem vinL {k Ln : Nat} (hL : Ln ≤ 3584) (hk : 7 * k + 7 ≤ Ln) {j : Int32} (n : Nat) (hj : j = nI n) (hn : n < 7) : vp_in (nI (7 * k) + j) Ln := by
  subst hj
  rw [nI_add]
  rintro (c | c)
  · exact nI_pos (by omega) c
  · rw [cl_nI (by omega)] at c
    omega
theorem vin0 {k Ln : Nat} (hL : Ln ≤ 3584) (hk : 7 * k + 7 ≤ Ln) : vp_in (nI (7 * k)) Ln := by
  rintro (c | c)
  · exact nI_pos (by omega) c
  · rw [cl_nI (by omega)] at c
    omega
theorem nI_z {c : Nat} (hc : c ≤ 3) (e : nI c = 0) : c = 0 := by
  match c, hc with
  | 0, _ => rfl
  | 1, _ => exact absurd e (by decide)
  | 2, _ => exact absurd e (by decide)
  | 3, _ => exact absurd e (by decide)
  | c + 4, h => omega
theorem opSees_z (h : Hs) (x y z : Int32) : isZ (opSees h x y z).2 := by
  unfold opSees
  split
  · exact isZ_bI _
  · exact isZ_0
theorem le3_begin (h : Hs) (x1 : Int32) : (opBegin h x1).1 ≤ 3 := by
  unfold opBegin
  repeat' split
  all_goals exact Nat.le_of_ble_eq_true rfl
theorem hd_L_begin : yL_begin.cls ≠ "java/lang/invoke/MethodHandle" ∧ yL_begin.cls ≠ "java/lang/invoke/VarHandle" ∧ (parseMethodDescriptor yL_begin.desc).map (fun d => d.parameters.length) = some 2 := by decide +kernel
theorem le3_submit (h : Hs) (x1 : Int32) (x2 : Int32) (x3 : Int32) : (opSubmit h x1 x2 x3).1 ≤ 3 := by
  unfold opSubmit
  repeat' split
  all_goals exact Nat.le_of_ble_eq_true rfl
theorem hd_L_submit : yL_submit.cls ≠ "java/lang/invoke/MethodHandle" ∧ yL_submit.cls ≠ "java/lang/invoke/VarHandle" ∧ (parseMethodDescriptor yL_submit.desc).map (fun d => d.parameters.length) = some 5 := by decide +kernel
theorem le3_sync (h : Hs) (x1 : Int32) (x2 : Int32) (x3 : Int64) : (opSync h x1 x2 x3).1 ≤ 3 := by
  unfold opSync
  repeat' split
  all_goals exact Nat.le_of_ble_eq_true rfl
theorem hd_L_sync : yL_sync.cls ≠ "java/lang/invoke/MethodHandle" ∧ yL_sync.cls ≠ "java/lang/invoke/VarHandle" ∧ (parseMethodDescriptor yL_sync.desc).map (fun d => d.parameters.length) = some 5 := by decide +kernel
theorem le3_inject (h : Hs) (x1 : Int32) (x2 : Int32) (x3 : Int32) (x4 : Int32) (x5 : Int64) : (opInject h x1 x2 x3 x4 x5).1 ≤ 3 := by
  unfold opInject
  repeat' split
  all_goals exact Nat.le_of_ble_eq_true rfl
theorem hd_L_inject : yL_inject.cls ≠ "java/lang/invoke/MethodHandle" ∧ yL_inject.cls ≠ "java/lang/invoke/VarHandle" ∧ (parseMethodDescriptor yL_inject.desc).map (fun d => d.parameters.length) = some 7 := by decide +kernel
theorem le3_event (h : Hs) (x1 : Int32) (x2 : Int32) : (opEvent h x1 x2).1 ≤ 3 := by
  unfold opEvent
  repeat' split
  all_goals exact Nat.le_of_ble_eq_true rfl
theorem hd_L_event : yL_event.cls ≠ "java/lang/invoke/MethodHandle" ∧ yL_event.cls ≠ "java/lang/invoke/VarHandle" ∧ (parseMethodDescriptor yL_event.desc).map (fun d => d.parameters.length) = some 4 := by decide +kernel
theorem le3_hash (h : Hs) (x1 : Int32) (x2 : Int32) : (opHash h x1 x2).1 ≤ 3 := by
  unfold opHash
  repeat' split
  all_goals exact Nat.le_of_ble_eq_true rfl
theorem hd_L_hash : yL_hash.cls ≠ "java/lang/invoke/MethodHandle" ∧ yL_hash.cls ≠ "java/lang/invoke/VarHandle" ∧ (parseMethodDescriptor yL_hash.desc).map (fun d => d.parameters.length) = some 4 := by decide +kernel
theorem le3_sees (h : Hs) (x1 : Int32) (x2 : Int32) (x3 : Int32) : (opSees h x1 x2 x3).1 ≤ 3 := by
  unfold opSees
  repeat' split
  all_goals exact Nat.le_of_ble_eq_true rfl
theorem hd_L_sees : yL_sees.cls ≠ "java/lang/invoke/MethodHandle" ∧ yL_sees.cls ≠ "java/lang/invoke/VarHandle" ∧ (parseMethodDescriptor yL_sees.desc).map (fun d => d.parameters.length) = some 5 := by decide +kernel
theorem le3_vote (h : Hs) (x1 : Int32) (x2 : Int32) : (opVote h x1 x2).1 ≤ 3 := by
  unfold opVote
  repeat' split
  all_goals exact Nat.le_of_ble_eq_true rfl
theorem hd_L_vote : yL_vote.cls ≠ "java/lang/invoke/MethodHandle" ∧ yL_vote.cls ≠ "java/lang/invoke/VarHandle" ∧ (parseMethodDescriptor yL_vote.desc).map (fun d => d.parameters.length) = some 4 := by decide +kernel
theorem le3_found (h : Hs) (x1 : Int32) (x2 : Int32) (x3 : Int32) : (opFound h x1 x2 x3).1 ≤ 3 := by
  unfold opFound
  repeat' split
  all_goals exact Nat.le_of_ble_eq_true rfl
theorem hd_L_found : yL_found.cls ≠ "java/lang/invoke/MethodHandle" ∧ yL_found.cls ≠ "java/lang/invoke/VarHandle" ∧ (parseMethodDescriptor yL_found.desc).map (fun d => d.parameters.length) = some 5 := by decide +kernel
theorem le3_stamp (h : Hs) (x1 : Int32) (x2 : Int32) : (opStamp h x1 x2).1 ≤ 3 := by
  unfold opStamp
  repeat' split
  all_goals exact Nat.le_of_ble_eq_true rfl
theorem hd_L_stamp : yL_stamp.cls ≠ "java/lang/invoke/MethodHandle" ∧ yL_stamp.cls ≠ "java/lang/invoke/VarHandle" ∧ (parseMethodDescriptor yL_stamp.desc).map (fun d => d.parameters.length) = some 4 := by decide +kernel
theorem le3_order (h : Hs) (x1 : Int32) : (opOrder h x1).1 ≤ 3 := by
  unfold opOrder
  repeat' split
  all_goals exact Nat.le_of_ble_eq_true rfl
theorem hd_L_order : yL_order.cls ≠ "java/lang/invoke/MethodHandle" ∧ yL_order.cls ≠ "java/lang/invoke/VarHandle" ∧ (parseMethodDescriptor yL_order.desc).map (fun d => d.parameters.length) = some 3 := by decide +kernel
theorem le3_at (h : Hs) (x1 : Int32) (x2 : Int32) : (opAt h x1 x2).1 ≤ 3 := by
  unfold opAt
  repeat' split
  all_goals exact Nat.le_of_ble_eq_true rfl
theorem hd_L_at : yL_at.cls ≠ "java/lang/invoke/MethodHandle" ∧ yL_at.cls ≠ "java/lang/invoke/VarHandle" ∧ (parseMethodDescriptor yL_at.desc).map (fun d => d.parameters.length) = some 4 := by decide +kernel
theorem le3_balance (h : Hs) (x1 : Int32) (x2 : Int32) : (opBalance h x1 x2).1 ≤ 3 := by
  unfold opBalance
  repeat' split
  all_goals exact Nat.le_of_ble_eq_true rfl
theorem hd_L_balance : yL_balance.cls ≠ "java/lang/invoke/MethodHandle" ∧ yL_balance.cls ≠ "java/lang/invoke/VarHandle" ∧ (parseMethodDescriptor yL_balance.desc).map (fun d => d.parameters.length) = some 4 := by decide +kernel
theorem le3_count (h : Hs) (x1 : Int32) : (opCount h x1).1 ≤ 3 := by
  unfold opCount
  repeat' split
  all_goals exact Nat.le_of_ble_eq_true rfl
theorem hd_L_count : yL_count.cls ≠ "java/lang/invoke/MethodHandle" ∧ yL_count.cls ≠ "java/lang/invoke/VarHandle" ∧ (parseMethodDescriptor yL_count.desc).map (fun d => d.parameters.length) = some 3 := by decide +kernel
set_option maxRecDepth 100000 in
set_option maxHeartbeats 4000000 in
theorem law_begin {Γ : Gm} {E : Ev} {b Ln : Nat} {xs : Nat → Int32} {l0 : Launch} (C : Kl Γ E b Ln xs l0) (hst : l0.stackTraces = false) {ad ad2 : Nat → Nat} {kc ks k : Nat} {σ τ : Sg} {h : Hs} (d : DI h σ) (m : MI h τ) (hL : Ln ≤ 3584) (hk : 7 * k + 7 ≤ Ln) (hc : kc + 1 ≤ 601024) (hs : ks + 6 ≤ 7293034) (IH : ∀ (h2 : Hs) (u v : Sg), DI h2 u → MI h2 v → OC Γ E (kc + 1) (ks + 6) 8 1180 [(4, .int (nI (7 * k))), (0, .ref b), (1, .ref (ad 0)), (2, .ref (ad2 0)), (3, .ref (ad 141))] [] (W2 E ad ad2 u v)) : OC Γ E kc ks 8 112 [(4, .int (nI (7 * k))), (0, .ref b), (1, .ref (ad 0)), (2, .ref (ad2 0)), (3, .ref (ad 141))] [] (W2 E ad ad2 σ τ) := by
  refine ol_aload_n C 2 dL_law_112 rfl rfl ?_
  refine ol_aload_n C 1 dL_law_113 rfl rfl ?_
  refine ol_iload C 0 dL_law_114 rfl ?_
  refine ol_iconst C (v := 1) dL_law_116 (by decide) ?_
  refine ol_iadd C dL_law_117 ?_
  refine ol_sld C (vinL hL hk 1 rfl (by decide)) dL_law_118 ?_
  refine ol_callW C (As := [.ref (ad 0), .int (xs ((nI (7 * k)) + 1).toNatClampNeg)]) (rest := []) (w_begin (oW_k E ad) hst (xs ((nI (7 * k)) + 1).toNatClampNeg) d) W_4_179 W_4_180 W_1_0 W_4_181 hd_L_begin rfl ⟨(Nat.le_of_ble_eq_true rfl), (Nat.le_of_ble_eq_true rfl)⟩ (Nat.le_of_ble_eq_true rfl) rfl dL_law_119 hc hs (fun r u hp => ?_)
  obtain ⟨rfl, d2⟩ := hp
  refine ol_istore C (L2 := [(5, .int (nI (opBegin h (xs ((nI (7 * k)) + 1).toNatClampNeg)).1)), (4, .int (nI (7 * k))), (0, .ref b), (1, .ref (ad 0)), (2, .ref (ad2 0)), (3, .ref (ad 141))]) dL_law_122 (by decide) rfl ?_
  refine ol_aload_n C 4 dL_law_124 rfl rfl ?_
  refine ol_aload_n C 2 dL_law_125 rfl rfl ?_
  refine ol_iload C 1 dL_law_126 rfl ?_
  refine ol_iconst C (v := 1) dL_law_128 (by decide) ?_
  refine ol_iadd C dL_law_129 ?_
  refine ol_sld C (vinL hL hk 1 rfl (by decide)) dL_law_130 ?_
  refine ol_callMv C (As := [.int (xs ((nI (7 * k)) + 1).toNatClampNeg)]) (rest := []) rfl (c_X8_begin (oM_k E ad2) (xs ((nI (7 * k)) + 1).toNatClampNeg) τ (fun v => MI (opBegin h (xs ((nI (7 * k)) + 1).toNatClampNeg)).2 v ∧ v.1 0 0 = nI (opBegin h (xs ((nI (7 * k)) + 1).toNatClampNeg)).1) (k_begin m (fun t a b => ⟨a, b⟩))) W_7_8 W_7_9 W_7_10 W_7_11 W_1_28 hd_X8_begin rfl ⟨(Nat.le_of_ble_eq_true rfl), (Nat.le_of_ble_eq_true rfl)⟩ (Nat.le_of_ble_eq_true rfl) rfl dL_law_131 (Nat.le_of_lt_succ (Nat.lt_of_le_of_lt hc (by decide))) (Nat.le_of_lt_succ (Nat.lt_of_le_of_lt hs (by decide))) (fun v hq => ?_)
  obtain ⟨m2, e2⟩ := hq
  refine ol_aload_n C 4 dL_law_134 rfl rfl ?_
  refine ol_callMi C (As := []) rfl (c_X8_thrown (oM_k E ad2) v (fun x t => x = v.1 0 0 ∧ t = v) ⟨rfl, rfl⟩) W_7_4 W_7_5 W_7_6 W_7_7 W_1_28 hd_X8_thrown rfl ⟨(Nat.le_of_ble_eq_true rfl), (Nat.le_of_ble_eq_true rfl)⟩ (Nat.le_of_ble_eq_true rfl) rfl dL_law_135 (Nat.le_of_lt_succ (Nat.lt_of_le_of_lt hc (by decide))) (Nat.le_of_lt_succ (Nat.lt_of_le_of_lt hs (by decide))) (fun r4 t hq2 => ?_)
  obtain ⟨e3, e4⟩ := hq2
  subst e4
  rw [e3, e2]
  refine ol_iload C 0 dL_law_138 rfl ?_
  refine ol_icmp_eq C 145 dL_law_140 rfl (fun _ => ?_) (fun hne => absurd rfl hne)
  exact ol_goto C 1180 dL_law_145 rfl (ol_sub [1, 2, 3, 4, 5] rfl (IH _ _ _ d2 m2))
set_option maxRecDepth 100000 in
set_option maxHeartbeats 4000000 in
theorem law_submit {Γ : Gm} {E : Ev} {b Ln : Nat} {xs : Nat → Int32} {l0 : Launch} (C : Kl Γ E b Ln xs l0) (hst : l0.stackTraces = false) {ad ad2 : Nat → Nat} {kc ks k : Nat} {σ τ : Sg} {h : Hs} (d : DI h σ) (m : MI h τ) (hL : Ln ≤ 3584) (hk : 7 * k + 7 ≤ Ln) (hc : kc + 1 ≤ 601024) (hs : ks + 6 ≤ 7293034) (IH : ∀ (h2 : Hs) (u v : Sg), DI h2 u → MI h2 v → OC Γ E (kc + 1) (ks + 6) 8 1180 [(4, .int (nI (7 * k))), (0, .ref b), (1, .ref (ad 0)), (2, .ref (ad2 0)), (3, .ref (ad 141))] [] (W2 E ad ad2 u v)) : OC Γ E kc ks 8 148 [(4, .int (nI (7 * k))), (0, .ref b), (1, .ref (ad 0)), (2, .ref (ad2 0)), (3, .ref (ad 141))] [] (W2 E ad ad2 σ τ) := by
  refine ol_aload_n C 2 dL_law_148 rfl rfl ?_
  refine ol_aload_n C 1 dL_law_149 rfl rfl ?_
  refine ol_iload C 0 dL_law_150 rfl ?_
  refine ol_iconst C (v := 1) dL_law_152 (by decide) ?_
  refine ol_iadd C dL_law_153 ?_
  refine ol_sld C (vinL hL hk 1 rfl (by decide)) dL_law_154 ?_
  refine ol_aload_n C 1 dL_law_155 rfl rfl ?_
  refine ol_iload C 0 dL_law_156 rfl ?_
  refine ol_iconst C (v := 2) dL_law_158 (by decide) ?_
  refine ol_iadd C dL_law_159 ?_
  refine ol_sld C (vinL hL hk 2 rfl (by decide)) dL_law_160 ?_
  refine ol_aload_n C 1 dL_law_161 rfl rfl ?_
  refine ol_iload C 0 dL_law_162 rfl ?_
  refine ol_iconst C (v := 3) dL_law_164 (by decide) ?_
  refine ol_iadd C dL_law_165 ?_
  refine ol_sld C (vinL hL hk 3 rfl (by decide)) dL_law_166 ?_
  refine ol_aload_n C 4 dL_law_167 rfl rfl ?_
  refine ol_callW C (As := [.ref (ad 0), .int (xs ((nI (7 * k)) + 1).toNatClampNeg), .int (xs ((nI (7 * k)) + 2).toNatClampNeg), .int (xs ((nI (7 * k)) + 3).toNatClampNeg), .ref (ad 141)]) (rest := []) (w_submit (oW_k E ad) hst (xs ((nI (7 * k)) + 1).toNatClampNeg) (xs ((nI (7 * k)) + 2).toNatClampNeg) (xs ((nI (7 * k)) + 3).toNatClampNeg) d) W_4_198 W_4_199 W_1_0 W_4_200 hd_L_submit rfl ⟨(Nat.le_of_ble_eq_true rfl), (Nat.le_of_ble_eq_true rfl)⟩ (Nat.le_of_ble_eq_true rfl) rfl dL_law_168 hc hs (fun r u hp => ?_)
  obtain ⟨rfl, d2, ha⟩ := hp
  refine ol_istore C (L2 := [(5, .int (nI (opSubmit h (xs ((nI (7 * k)) + 1).toNatClampNeg) (xs ((nI (7 * k)) + 2).toNatClampNeg) (xs ((nI (7 * k)) + 3).toNatClampNeg)).1)), (4, .int (nI (7 * k))), (0, .ref b), (1, .ref (ad 0)), (2, .ref (ad2 0)), (3, .ref (ad 141))]) dL_law_171 (by decide) rfl ?_
  refine ol_aload_n C 4 dL_law_173 rfl rfl ?_
  refine ol_aload_n C 2 dL_law_174 rfl rfl ?_
  refine ol_iload C 1 dL_law_175 rfl ?_
  refine ol_iconst C (v := 1) dL_law_177 (by decide) ?_
  refine ol_iadd C dL_law_178 ?_
  refine ol_sld C (vinL hL hk 1 rfl (by decide)) dL_law_179 ?_
  refine ol_aload_n C 2 dL_law_180 rfl rfl ?_
  refine ol_iload C 1 dL_law_181 rfl ?_
  refine ol_iconst C (v := 2) dL_law_183 (by decide) ?_
  refine ol_iadd C dL_law_184 ?_
  refine ol_sld C (vinL hL hk 2 rfl (by decide)) dL_law_185 ?_
  refine ol_aload_n C 2 dL_law_186 rfl rfl ?_
  refine ol_iload C 1 dL_law_187 rfl ?_
  refine ol_iconst C (v := 3) dL_law_189 (by decide) ?_
  refine ol_iadd C dL_law_190 ?_
  refine ol_sld C (vinL hL hk 3 rfl (by decide)) dL_law_191 ?_
  refine ol_callMi C (As := [.int (xs ((nI (7 * k)) + 1).toNatClampNeg), .int (xs ((nI (7 * k)) + 2).toNatClampNeg), .int (xs ((nI (7 * k)) + 3).toNatClampNeg)]) (rest := []) rfl (c_X8_submit (oM_k E ad2) (xs ((nI (7 * k)) + 1).toNatClampNeg) (xs ((nI (7 * k)) + 2).toNatClampNeg) (xs ((nI (7 * k)) + 3).toNatClampNeg) τ (fun x v => MI (opSubmit h (xs ((nI (7 * k)) + 1).toNatClampNeg) (xs ((nI (7 * k)) + 2).toNatClampNeg) (xs ((nI (7 * k)) + 3).toNatClampNeg)).2.2 v ∧ v.1 0 0 = nI (opSubmit h (xs ((nI (7 * k)) + 1).toNatClampNeg) (xs ((nI (7 * k)) + 2).toNatClampNeg) (xs ((nI (7 * k)) + 3).toNatClampNeg)).1 ∧ x = (opSubmit h (xs ((nI (7 * k)) + 1).toNatClampNeg) (xs ((nI (7 * k)) + 2).toNatClampNeg) (xs ((nI (7 * k)) + 3).toNatClampNeg)).2.1) (k_submit m (fun t a b => ⟨a, b, rfl⟩))) W_7_19 W_7_20 W_7_21 W_7_22 W_1_28 hd_X8_submit rfl ⟨(Nat.le_of_ble_eq_true rfl), (Nat.le_of_ble_eq_true rfl)⟩ (Nat.le_of_ble_eq_true rfl) rfl dL_law_192 (Nat.le_of_lt_succ (Nat.lt_of_le_of_lt hc (by decide))) (Nat.le_of_lt_succ (Nat.lt_of_le_of_lt hs (by decide))) (fun r2 v hq => ?_)
  obtain ⟨m2, e2, rfl⟩ := hq
  refine ol_istore C (L2 := [(6, .int (opSubmit h (xs ((nI (7 * k)) + 1).toNatClampNeg) (xs ((nI (7 * k)) + 2).toNatClampNeg) (xs ((nI (7 * k)) + 3).toNatClampNeg)).2.1), (5, .int (nI (opSubmit h (xs ((nI (7 * k)) + 1).toNatClampNeg) (xs ((nI (7 * k)) + 2).toNatClampNeg) (xs ((nI (7 * k)) + 3).toNatClampNeg)).1)), (4, .int (nI (7 * k))), (0, .ref b), (1, .ref (ad 0)), (2, .ref (ad2 0)), (3, .ref (ad 141))]) dL_law_195 (by decide) rfl ?_
  refine ol_aload_n C 5 dL_law_197 rfl rfl ?_
  refine ol_callMi C (As := []) rfl (c_X8_thrown (oM_k E ad2) v (fun x t => x = v.1 0 0 ∧ t = v) ⟨rfl, rfl⟩) W_7_4 W_7_5 W_7_6 W_7_7 W_1_28 hd_X8_thrown rfl ⟨(Nat.le_of_ble_eq_true rfl), (Nat.le_of_ble_eq_true rfl)⟩ (Nat.le_of_ble_eq_true rfl) rfl dL_law_198 (Nat.le_of_lt_succ (Nat.lt_of_le_of_lt hc (by decide))) (Nat.le_of_lt_succ (Nat.lt_of_le_of_lt hs (by decide))) (fun r4 t hq2 => ?_)
  obtain ⟨e3, e4⟩ := hq2
  subst e4
  rw [e3, e2]
  refine ol_iload C 1 dL_law_201 rfl ?_
  refine ol_icmp_eq C 208 dL_law_203 rfl (fun _ => ?_) (fun hne => absurd rfl hne)
  refine ol_iload C 1 dL_law_208 rfl ?_
  refine ol_if_ne C 225 dL_law_210 rfl (fun _ => ?_) (fun e0 => ?_)
  · exact ol_goto C 1180 dL_law_225 rfl (ol_sub [2, 3, 4, 5, 6] rfl (IH _ _ _ d2 m2))
  have c0 := ha (nI_z (le3_submit _ _ _ _) e0)
  refine ol_aload_n C 6 dL_law_213 rfl rfl ?_
  refine ol_iconst C (v := 0) dL_law_214 (by decide) ?_
  refine ol_lald C dL_law_215 ?_
  rw [c0]
  refine ol_iload C 0 dL_law_216 rfl ?_
  refine ol_i2l C dL_law_218 ?_
  refine ol_lcmp C dL_law_219 ?_
  refine ol_if_eq C 225 dL_law_220 rfl (fun _ => ?_) (fun hne => absurd (by rw [lg_cmp_eq]) hne)
  exact ol_goto C 1180 dL_law_225 rfl (ol_sub [2, 3, 4, 5, 6] rfl (IH _ _ _ d2 m2))
set_option maxRecDepth 100000 in
set_option maxHeartbeats 4000000 in
theorem law_sync {Γ : Gm} {E : Ev} {b Ln : Nat} {xs : Nat → Int32} {l0 : Launch} (C : Kl Γ E b Ln xs l0) (hst : l0.stackTraces = false) {ad ad2 : Nat → Nat} {kc ks k : Nat} {σ τ : Sg} {h : Hs} (d : DI h σ) (m : MI h τ) (hL : Ln ≤ 3584) (hk : 7 * k + 7 ≤ Ln) (hc : kc + 1 ≤ 601024) (hs : ks + 6 ≤ 7293034) (IH : ∀ (h2 : Hs) (u v : Sg), DI h2 u → MI h2 v → OC Γ E (kc + 1) (ks + 6) 8 1180 [(4, .int (nI (7 * k))), (0, .ref b), (1, .ref (ad 0)), (2, .ref (ad2 0)), (3, .ref (ad 141))] [] (W2 E ad ad2 u v)) : OC Γ E kc ks 8 228 [(4, .int (nI (7 * k))), (0, .ref b), (1, .ref (ad 0)), (2, .ref (ad2 0)), (3, .ref (ad 141))] [] (W2 E ad ad2 σ τ) := by
  refine ol_aload_n C 2 dL_law_228 rfl rfl ?_
  refine ol_aload_n C 1 dL_law_229 rfl rfl ?_
  refine ol_iload C 0 dL_law_230 rfl ?_
  refine ol_iconst C (v := 1) dL_law_232 (by decide) ?_
  refine ol_iadd C dL_law_233 ?_
  refine ol_sld C (vinL hL hk 1 rfl (by decide)) dL_law_234 ?_
  refine ol_aload_n C 1 dL_law_235 rfl rfl ?_
  refine ol_iload C 0 dL_law_236 rfl ?_
  refine ol_iconst C (v := 2) dL_law_238 (by decide) ?_
  refine ol_iadd C dL_law_239 ?_
  refine ol_sld C (vinL hL hk 2 rfl (by decide)) dL_law_240 ?_
  refine ol_aload_n C 1 dL_law_241 rfl rfl ?_
  refine ol_iload C 0 dL_law_242 rfl ?_
  refine ol_iconst C (v := 3) dL_law_244 (by decide) ?_
  refine ol_iadd C dL_law_245 ?_
  refine ol_sld C (vinL hL hk 3 rfl (by decide)) dL_law_246 ?_
  refine ol_i2l C dL_law_247 ?_
  refine ol_bipush C (v := 32) dL_law_248 (by decide) ?_
  refine ol_lshl C dL_law_250 ?_
  refine ol_aload_n C 1 dL_law_251 rfl rfl ?_
  refine ol_iload C 0 dL_law_252 rfl ?_
  refine ol_iconst C (v := 4) dL_law_254 (by decide) ?_
  refine ol_iadd C dL_law_255 ?_
  refine ol_sld C (vinL hL hk 4 rfl (by decide)) dL_law_256 ?_
  refine ol_i2l C dL_law_257 ?_
  refine ol_ldc2 C W_7_105 dL_law_258 ?_
  refine ol_land C dL_law_261 ?_
  refine ol_lor C dL_law_262 ?_
  refine ol_aload_n C 4 dL_law_263 rfl rfl ?_
  refine ol_callW C (As := [.ref (ad 0), .int (xs ((nI (7 * k)) + 1).toNatClampNeg), .int (xs ((nI (7 * k)) + 2).toNatClampNeg), .long (((xs ((nI (7 * k)) + 3).toNatClampNeg).toInt64 <<< ((32 : Int32).toInt64 &&& 63)) ||| ((xs ((nI (7 * k)) + 4).toNatClampNeg).toInt64 &&& 4294967295)), .ref (ad 141)]) (rest := []) (w_sync (oW_k E ad) hst (xs ((nI (7 * k)) + 1).toNatClampNeg) (xs ((nI (7 * k)) + 2).toNatClampNeg) (((xs ((nI (7 * k)) + 3).toNatClampNeg).toInt64 <<< ((32 : Int32).toInt64 &&& 63)) ||| ((xs ((nI (7 * k)) + 4).toNatClampNeg).toInt64 &&& 4294967295)) d) W_4_234 W_4_235 W_1_0 W_4_236 hd_L_sync rfl ⟨(Nat.le_of_ble_eq_true rfl), (Nat.le_of_ble_eq_true rfl)⟩ (Nat.le_of_ble_eq_true rfl) rfl dL_law_264 hc hs (fun r u hp => ?_)
  obtain ⟨rfl, d2, ha⟩ := hp
  refine ol_istore C (L2 := [(5, .int (nI (opSync h (xs ((nI (7 * k)) + 1).toNatClampNeg) (xs ((nI (7 * k)) + 2).toNatClampNeg) (((xs ((nI (7 * k)) + 3).toNatClampNeg).toInt64 <<< ((32 : Int32).toInt64 &&& 63)) ||| ((xs ((nI (7 * k)) + 4).toNatClampNeg).toInt64 &&& 4294967295))).1)), (4, .int (nI (7 * k))), (0, .ref b), (1, .ref (ad 0)), (2, .ref (ad2 0)), (3, .ref (ad 141))]) dL_law_267 (by decide) rfl ?_
  refine ol_aload_n C 4 dL_law_269 rfl rfl ?_
  refine ol_aload_n C 2 dL_law_270 rfl rfl ?_
  refine ol_iload C 1 dL_law_271 rfl ?_
  refine ol_iconst C (v := 1) dL_law_273 (by decide) ?_
  refine ol_iadd C dL_law_274 ?_
  refine ol_sld C (vinL hL hk 1 rfl (by decide)) dL_law_275 ?_
  refine ol_aload_n C 2 dL_law_276 rfl rfl ?_
  refine ol_iload C 1 dL_law_277 rfl ?_
  refine ol_iconst C (v := 2) dL_law_279 (by decide) ?_
  refine ol_iadd C dL_law_280 ?_
  refine ol_sld C (vinL hL hk 2 rfl (by decide)) dL_law_281 ?_
  refine ol_aload_n C 2 dL_law_282 rfl rfl ?_
  refine ol_iload C 1 dL_law_283 rfl ?_
  refine ol_iconst C (v := 3) dL_law_285 (by decide) ?_
  refine ol_iadd C dL_law_286 ?_
  refine ol_sld C (vinL hL hk 3 rfl (by decide)) dL_law_287 ?_
  refine ol_i2l C dL_law_288 ?_
  refine ol_bipush C (v := 32) dL_law_289 (by decide) ?_
  refine ol_lshl C dL_law_291 ?_
  refine ol_aload_n C 2 dL_law_292 rfl rfl ?_
  refine ol_iload C 1 dL_law_293 rfl ?_
  refine ol_iconst C (v := 4) dL_law_295 (by decide) ?_
  refine ol_iadd C dL_law_296 ?_
  refine ol_sld C (vinL hL hk 4 rfl (by decide)) dL_law_297 ?_
  refine ol_i2l C dL_law_298 ?_
  refine ol_ldc2 C W_7_105 dL_law_299 ?_
  refine ol_land C dL_law_302 ?_
  refine ol_lor C dL_law_303 ?_
  refine ol_callMi C (As := [.int (xs ((nI (7 * k)) + 1).toNatClampNeg), .int (xs ((nI (7 * k)) + 2).toNatClampNeg), .long (((xs ((nI (7 * k)) + 3).toNatClampNeg).toInt64 <<< ((32 : Int32).toInt64 &&& 63)) ||| ((xs ((nI (7 * k)) + 4).toNatClampNeg).toInt64 &&& 4294967295))]) (rest := []) rfl (c_X8_sync (oM_k E ad2) (xs ((nI (7 * k)) + 1).toNatClampNeg) (xs ((nI (7 * k)) + 2).toNatClampNeg) (((xs ((nI (7 * k)) + 3).toNatClampNeg).toInt64 <<< ((32 : Int32).toInt64 &&& 63)) ||| ((xs ((nI (7 * k)) + 4).toNatClampNeg).toInt64 &&& 4294967295)) τ (fun x v => MI (opSync h (xs ((nI (7 * k)) + 1).toNatClampNeg) (xs ((nI (7 * k)) + 2).toNatClampNeg) (((xs ((nI (7 * k)) + 3).toNatClampNeg).toInt64 <<< ((32 : Int32).toInt64 &&& 63)) ||| ((xs ((nI (7 * k)) + 4).toNatClampNeg).toInt64 &&& 4294967295))).2.2 v ∧ v.1 0 0 = nI (opSync h (xs ((nI (7 * k)) + 1).toNatClampNeg) (xs ((nI (7 * k)) + 2).toNatClampNeg) (((xs ((nI (7 * k)) + 3).toNatClampNeg).toInt64 <<< ((32 : Int32).toInt64 &&& 63)) ||| ((xs ((nI (7 * k)) + 4).toNatClampNeg).toInt64 &&& 4294967295))).1 ∧ x = (opSync h (xs ((nI (7 * k)) + 1).toNatClampNeg) (xs ((nI (7 * k)) + 2).toNatClampNeg) (((xs ((nI (7 * k)) + 3).toNatClampNeg).toInt64 <<< ((32 : Int32).toInt64 &&& 63)) ||| ((xs ((nI (7 * k)) + 4).toNatClampNeg).toInt64 &&& 4294967295))).2.1) ⟨h, m, fun t a b => ⟨a, b, rfl⟩⟩) W_7_28 W_7_29 W_7_30 W_7_31 W_1_28 hd_X8_sync rfl ⟨(Nat.le_of_ble_eq_true rfl), (Nat.le_of_ble_eq_true rfl)⟩ (Nat.le_of_ble_eq_true rfl) rfl dL_law_304 (Nat.le_of_lt_succ (Nat.lt_of_le_of_lt hc (by decide))) (Nat.le_of_lt_succ (Nat.lt_of_le_of_lt hs (by decide))) (fun r2 v hq => ?_)
  obtain ⟨m2, e2, rfl⟩ := hq
  refine ol_istore C (L2 := [(6, .int (opSync h (xs ((nI (7 * k)) + 1).toNatClampNeg) (xs ((nI (7 * k)) + 2).toNatClampNeg) (((xs ((nI (7 * k)) + 3).toNatClampNeg).toInt64 <<< ((32 : Int32).toInt64 &&& 63)) ||| ((xs ((nI (7 * k)) + 4).toNatClampNeg).toInt64 &&& 4294967295))).2.1), (5, .int (nI (opSync h (xs ((nI (7 * k)) + 1).toNatClampNeg) (xs ((nI (7 * k)) + 2).toNatClampNeg) (((xs ((nI (7 * k)) + 3).toNatClampNeg).toInt64 <<< ((32 : Int32).toInt64 &&& 63)) ||| ((xs ((nI (7 * k)) + 4).toNatClampNeg).toInt64 &&& 4294967295))).1)), (4, .int (nI (7 * k))), (0, .ref b), (1, .ref (ad 0)), (2, .ref (ad2 0)), (3, .ref (ad 141))]) dL_law_307 (by decide) rfl ?_
  refine ol_aload_n C 5 dL_law_309 rfl rfl ?_
  refine ol_callMi C (As := []) rfl (c_X8_thrown (oM_k E ad2) v (fun x t => x = v.1 0 0 ∧ t = v) ⟨rfl, rfl⟩) W_7_4 W_7_5 W_7_6 W_7_7 W_1_28 hd_X8_thrown rfl ⟨(Nat.le_of_ble_eq_true rfl), (Nat.le_of_ble_eq_true rfl)⟩ (Nat.le_of_ble_eq_true rfl) rfl dL_law_310 (Nat.le_of_lt_succ (Nat.lt_of_le_of_lt hc (by decide))) (Nat.le_of_lt_succ (Nat.lt_of_le_of_lt hs (by decide))) (fun r4 t hq2 => ?_)
  obtain ⟨e3, e4⟩ := hq2
  subst e4
  rw [e3, e2]
  refine ol_iload C 1 dL_law_313 rfl ?_
  refine ol_icmp_eq C 320 dL_law_315 rfl (fun _ => ?_) (fun hne => absurd rfl hne)
  refine ol_iload C 1 dL_law_320 rfl ?_
  refine ol_if_ne C 337 dL_law_322 rfl (fun _ => ?_) (fun e0 => ?_)
  · exact ol_goto C 1180 dL_law_337 rfl (ol_sub [2, 3, 4, 5, 6] rfl (IH _ _ _ d2 m2))
  have c0 := ha (nI_z (le3_sync _ _ _ _) e0)
  refine ol_aload_n C 6 dL_law_325 rfl rfl ?_
  refine ol_iconst C (v := 0) dL_law_326 (by decide) ?_
  refine ol_lald C dL_law_327 ?_
  rw [c0]
  refine ol_iload C 0 dL_law_328 rfl ?_
  refine ol_i2l C dL_law_330 ?_
  refine ol_lcmp C dL_law_331 ?_
  refine ol_if_eq C 337 dL_law_332 rfl (fun _ => ?_) (fun hne => absurd (by rw [lg_cmp_eq]) hne)
  exact ol_goto C 1180 dL_law_337 rfl (ol_sub [2, 3, 4, 5, 6] rfl (IH _ _ _ d2 m2))
set_option maxRecDepth 100000 in
set_option maxHeartbeats 4000000 in
theorem law_inject {Γ : Gm} {E : Ev} {b Ln : Nat} {xs : Nat → Int32} {l0 : Launch} (C : Kl Γ E b Ln xs l0) (hst : l0.stackTraces = false) {ad ad2 : Nat → Nat} {kc ks k : Nat} {σ τ : Sg} {h : Hs} (d : DI h σ) (m : MI h τ) (hL : Ln ≤ 3584) (hk : 7 * k + 7 ≤ Ln) (hc : kc + 1 ≤ 601024) (hs : ks + 6 ≤ 7293034) (IH : ∀ (h2 : Hs) (u v : Sg), DI h2 u → MI h2 v → OC Γ E (kc + 1) (ks + 6) 8 1180 [(4, .int (nI (7 * k))), (0, .ref b), (1, .ref (ad 0)), (2, .ref (ad2 0)), (3, .ref (ad 141))] [] (W2 E ad ad2 u v)) : OC Γ E kc ks 8 340 [(4, .int (nI (7 * k))), (0, .ref b), (1, .ref (ad 0)), (2, .ref (ad2 0)), (3, .ref (ad 141))] [] (W2 E ad ad2 σ τ) := by
  refine ol_aload_n C 2 dL_law_340 rfl rfl ?_
  refine ol_aload_n C 1 dL_law_341 rfl rfl ?_
  refine ol_iload C 0 dL_law_342 rfl ?_
  refine ol_iconst C (v := 1) dL_law_344 (by decide) ?_
  refine ol_iadd C dL_law_345 ?_
  refine ol_sld C (vinL hL hk 1 rfl (by decide)) dL_law_346 ?_
  refine ol_aload_n C 1 dL_law_347 rfl rfl ?_
  refine ol_iload C 0 dL_law_348 rfl ?_
  refine ol_iconst C (v := 2) dL_law_350 (by decide) ?_
  refine ol_iadd C dL_law_351 ?_
  refine ol_sld C (vinL hL hk 2 rfl (by decide)) dL_law_352 ?_
  refine ol_aload_n C 1 dL_law_353 rfl rfl ?_
  refine ol_iload C 0 dL_law_354 rfl ?_
  refine ol_iconst C (v := 3) dL_law_356 (by decide) ?_
  refine ol_iadd C dL_law_357 ?_
  refine ol_sld C (vinL hL hk 3 rfl (by decide)) dL_law_358 ?_
  refine ol_aload_n C 1 dL_law_359 rfl rfl ?_
  refine ol_iload C 0 dL_law_360 rfl ?_
  refine ol_iconst C (v := 4) dL_law_362 (by decide) ?_
  refine ol_iadd C dL_law_363 ?_
  refine ol_sld C (vinL hL hk 4 rfl (by decide)) dL_law_364 ?_
  refine ol_aload_n C 1 dL_law_365 rfl rfl ?_
  refine ol_iload C 0 dL_law_366 rfl ?_
  refine ol_iconst C (v := 5) dL_law_368 (by decide) ?_
  refine ol_iadd C dL_law_369 ?_
  refine ol_sld C (vinL hL hk 5 rfl (by decide)) dL_law_370 ?_
  refine ol_i2l C dL_law_371 ?_
  refine ol_bipush C (v := 32) dL_law_372 (by decide) ?_
  refine ol_lshl C dL_law_374 ?_
  refine ol_aload_n C 1 dL_law_375 rfl rfl ?_
  refine ol_iload C 0 dL_law_376 rfl ?_
  refine ol_bipush C (v := 6) dL_law_378 (by decide) ?_
  refine ol_iadd C dL_law_380 ?_
  refine ol_sld C (vinL hL hk 6 rfl (by decide)) dL_law_381 ?_
  refine ol_i2l C dL_law_382 ?_
  refine ol_ldc2 C W_7_105 dL_law_383 ?_
  refine ol_land C dL_law_386 ?_
  refine ol_lor C dL_law_387 ?_
  refine ol_aload_n C 4 dL_law_388 rfl rfl ?_
  refine ol_callW C (As := [.ref (ad 0), .int (xs ((nI (7 * k)) + 1).toNatClampNeg), .int (xs ((nI (7 * k)) + 2).toNatClampNeg), .int (xs ((nI (7 * k)) + 3).toNatClampNeg), .int (xs ((nI (7 * k)) + 4).toNatClampNeg), .long (((xs ((nI (7 * k)) + 5).toNatClampNeg).toInt64 <<< ((32 : Int32).toInt64 &&& 63)) ||| ((xs ((nI (7 * k)) + 6).toNatClampNeg).toInt64 &&& 4294967295)), .ref (ad 141)]) (rest := []) (w_inject (oW_k E ad) hst (xs ((nI (7 * k)) + 1).toNatClampNeg) (xs ((nI (7 * k)) + 2).toNatClampNeg) (xs ((nI (7 * k)) + 3).toNatClampNeg) (xs ((nI (7 * k)) + 4).toNatClampNeg) (((xs ((nI (7 * k)) + 5).toNatClampNeg).toInt64 <<< ((32 : Int32).toInt64 &&& 63)) ||| ((xs ((nI (7 * k)) + 6).toNatClampNeg).toInt64 &&& 4294967295)) d) W_5_7 W_5_8 W_1_0 W_5_9 hd_L_inject rfl ⟨(Nat.le_of_ble_eq_true rfl), (Nat.le_of_ble_eq_true rfl)⟩ (Nat.le_of_ble_eq_true rfl) rfl dL_law_389 hc hs (fun r u hp => ?_)
  obtain ⟨rfl, d2, ha⟩ := hp
  refine ol_istore C (L2 := [(5, .int (nI (opInject h (xs ((nI (7 * k)) + 1).toNatClampNeg) (xs ((nI (7 * k)) + 2).toNatClampNeg) (xs ((nI (7 * k)) + 3).toNatClampNeg) (xs ((nI (7 * k)) + 4).toNatClampNeg) (((xs ((nI (7 * k)) + 5).toNatClampNeg).toInt64 <<< ((32 : Int32).toInt64 &&& 63)) ||| ((xs ((nI (7 * k)) + 6).toNatClampNeg).toInt64 &&& 4294967295))).1)), (4, .int (nI (7 * k))), (0, .ref b), (1, .ref (ad 0)), (2, .ref (ad2 0)), (3, .ref (ad 141))]) dL_law_392 (by decide) rfl ?_
  refine ol_aload_n C 4 dL_law_394 rfl rfl ?_
  refine ol_aload_n C 2 dL_law_395 rfl rfl ?_
  refine ol_iload C 1 dL_law_396 rfl ?_
  refine ol_iconst C (v := 1) dL_law_398 (by decide) ?_
  refine ol_iadd C dL_law_399 ?_
  refine ol_sld C (vinL hL hk 1 rfl (by decide)) dL_law_400 ?_
  refine ol_aload_n C 2 dL_law_401 rfl rfl ?_
  refine ol_iload C 1 dL_law_402 rfl ?_
  refine ol_iconst C (v := 2) dL_law_404 (by decide) ?_
  refine ol_iadd C dL_law_405 ?_
  refine ol_sld C (vinL hL hk 2 rfl (by decide)) dL_law_406 ?_
  refine ol_aload_n C 2 dL_law_407 rfl rfl ?_
  refine ol_iload C 1 dL_law_408 rfl ?_
  refine ol_iconst C (v := 3) dL_law_410 (by decide) ?_
  refine ol_iadd C dL_law_411 ?_
  refine ol_sld C (vinL hL hk 3 rfl (by decide)) dL_law_412 ?_
  refine ol_aload_n C 2 dL_law_413 rfl rfl ?_
  refine ol_iload C 1 dL_law_414 rfl ?_
  refine ol_iconst C (v := 4) dL_law_416 (by decide) ?_
  refine ol_iadd C dL_law_417 ?_
  refine ol_sld C (vinL hL hk 4 rfl (by decide)) dL_law_418 ?_
  refine ol_aload_n C 2 dL_law_419 rfl rfl ?_
  refine ol_iload C 1 dL_law_420 rfl ?_
  refine ol_iconst C (v := 5) dL_law_422 (by decide) ?_
  refine ol_iadd C dL_law_423 ?_
  refine ol_sld C (vinL hL hk 5 rfl (by decide)) dL_law_424 ?_
  refine ol_i2l C dL_law_425 ?_
  refine ol_bipush C (v := 32) dL_law_426 (by decide) ?_
  refine ol_lshl C dL_law_428 ?_
  refine ol_aload_n C 2 dL_law_429 rfl rfl ?_
  refine ol_iload C 1 dL_law_430 rfl ?_
  refine ol_bipush C (v := 6) dL_law_432 (by decide) ?_
  refine ol_iadd C dL_law_434 ?_
  refine ol_sld C (vinL hL hk 6 rfl (by decide)) dL_law_435 ?_
  refine ol_i2l C dL_law_436 ?_
  refine ol_ldc2 C W_7_105 dL_law_437 ?_
  refine ol_land C dL_law_440 ?_
  refine ol_lor C dL_law_441 ?_
  refine ol_callMi C (As := [.int (xs ((nI (7 * k)) + 1).toNatClampNeg), .int (xs ((nI (7 * k)) + 2).toNatClampNeg), .int (xs ((nI (7 * k)) + 3).toNatClampNeg), .int (xs ((nI (7 * k)) + 4).toNatClampNeg), .long (((xs ((nI (7 * k)) + 5).toNatClampNeg).toInt64 <<< ((32 : Int32).toInt64 &&& 63)) ||| ((xs ((nI (7 * k)) + 6).toNatClampNeg).toInt64 &&& 4294967295))]) (rest := []) rfl (c_X8_inject (oM_k E ad2) (xs ((nI (7 * k)) + 1).toNatClampNeg) (xs ((nI (7 * k)) + 2).toNatClampNeg) (xs ((nI (7 * k)) + 3).toNatClampNeg) (xs ((nI (7 * k)) + 4).toNatClampNeg) (((xs ((nI (7 * k)) + 5).toNatClampNeg).toInt64 <<< ((32 : Int32).toInt64 &&& 63)) ||| ((xs ((nI (7 * k)) + 6).toNatClampNeg).toInt64 &&& 4294967295)) τ (fun x v => MI (opInject h (xs ((nI (7 * k)) + 1).toNatClampNeg) (xs ((nI (7 * k)) + 2).toNatClampNeg) (xs ((nI (7 * k)) + 3).toNatClampNeg) (xs ((nI (7 * k)) + 4).toNatClampNeg) (((xs ((nI (7 * k)) + 5).toNatClampNeg).toInt64 <<< ((32 : Int32).toInt64 &&& 63)) ||| ((xs ((nI (7 * k)) + 6).toNatClampNeg).toInt64 &&& 4294967295))).2.2 v ∧ v.1 0 0 = nI (opInject h (xs ((nI (7 * k)) + 1).toNatClampNeg) (xs ((nI (7 * k)) + 2).toNatClampNeg) (xs ((nI (7 * k)) + 3).toNatClampNeg) (xs ((nI (7 * k)) + 4).toNatClampNeg) (((xs ((nI (7 * k)) + 5).toNatClampNeg).toInt64 <<< ((32 : Int32).toInt64 &&& 63)) ||| ((xs ((nI (7 * k)) + 6).toNatClampNeg).toInt64 &&& 4294967295))).1 ∧ x = (opInject h (xs ((nI (7 * k)) + 1).toNatClampNeg) (xs ((nI (7 * k)) + 2).toNatClampNeg) (xs ((nI (7 * k)) + 3).toNatClampNeg) (xs ((nI (7 * k)) + 4).toNatClampNeg) (((xs ((nI (7 * k)) + 5).toNatClampNeg).toInt64 <<< ((32 : Int32).toInt64 &&& 63)) ||| ((xs ((nI (7 * k)) + 6).toNatClampNeg).toInt64 &&& 4294967295))).2.1) ⟨h, m, fun t a b => ⟨a, b, rfl⟩⟩) W_7_32 W_7_33 W_7_34 W_7_35 W_1_28 hd_X8_inject rfl ⟨(Nat.le_of_ble_eq_true rfl), (Nat.le_of_ble_eq_true rfl)⟩ (Nat.le_of_ble_eq_true rfl) rfl dL_law_442 (Nat.le_of_lt_succ (Nat.lt_of_le_of_lt hc (by decide))) (Nat.le_of_lt_succ (Nat.lt_of_le_of_lt hs (by decide))) (fun r2 v hq => ?_)
  obtain ⟨m2, e2, rfl⟩ := hq
  refine ol_istore C (L2 := [(6, .int (opInject h (xs ((nI (7 * k)) + 1).toNatClampNeg) (xs ((nI (7 * k)) + 2).toNatClampNeg) (xs ((nI (7 * k)) + 3).toNatClampNeg) (xs ((nI (7 * k)) + 4).toNatClampNeg) (((xs ((nI (7 * k)) + 5).toNatClampNeg).toInt64 <<< ((32 : Int32).toInt64 &&& 63)) ||| ((xs ((nI (7 * k)) + 6).toNatClampNeg).toInt64 &&& 4294967295))).2.1), (5, .int (nI (opInject h (xs ((nI (7 * k)) + 1).toNatClampNeg) (xs ((nI (7 * k)) + 2).toNatClampNeg) (xs ((nI (7 * k)) + 3).toNatClampNeg) (xs ((nI (7 * k)) + 4).toNatClampNeg) (((xs ((nI (7 * k)) + 5).toNatClampNeg).toInt64 <<< ((32 : Int32).toInt64 &&& 63)) ||| ((xs ((nI (7 * k)) + 6).toNatClampNeg).toInt64 &&& 4294967295))).1)), (4, .int (nI (7 * k))), (0, .ref b), (1, .ref (ad 0)), (2, .ref (ad2 0)), (3, .ref (ad 141))]) dL_law_445 (by decide) rfl ?_
  refine ol_aload_n C 5 dL_law_447 rfl rfl ?_
  refine ol_callMi C (As := []) rfl (c_X8_thrown (oM_k E ad2) v (fun x t => x = v.1 0 0 ∧ t = v) ⟨rfl, rfl⟩) W_7_4 W_7_5 W_7_6 W_7_7 W_1_28 hd_X8_thrown rfl ⟨(Nat.le_of_ble_eq_true rfl), (Nat.le_of_ble_eq_true rfl)⟩ (Nat.le_of_ble_eq_true rfl) rfl dL_law_448 (Nat.le_of_lt_succ (Nat.lt_of_le_of_lt hc (by decide))) (Nat.le_of_lt_succ (Nat.lt_of_le_of_lt hs (by decide))) (fun r4 t hq2 => ?_)
  obtain ⟨e3, e4⟩ := hq2
  subst e4
  rw [e3, e2]
  refine ol_iload C 1 dL_law_451 rfl ?_
  refine ol_icmp_eq C 458 dL_law_453 rfl (fun _ => ?_) (fun hne => absurd rfl hne)
  refine ol_iload C 1 dL_law_458 rfl ?_
  refine ol_if_ne C 475 dL_law_460 rfl (fun _ => ?_) (fun e0 => ?_)
  · exact ol_goto C 1180 dL_law_475 rfl (ol_sub [2, 3, 4, 5, 6] rfl (IH _ _ _ d2 m2))
  have c0 := ha (nI_z (le3_inject _ _ _ _ _ _) e0)
  refine ol_aload_n C 6 dL_law_463 rfl rfl ?_
  refine ol_iconst C (v := 0) dL_law_464 (by decide) ?_
  refine ol_lald C dL_law_465 ?_
  rw [c0]
  refine ol_iload C 0 dL_law_466 rfl ?_
  refine ol_i2l C dL_law_468 ?_
  refine ol_lcmp C dL_law_469 ?_
  refine ol_if_eq C 475 dL_law_470 rfl (fun _ => ?_) (fun hne => absurd (by rw [lg_cmp_eq]) hne)
  exact ol_goto C 1180 dL_law_475 rfl (ol_sub [2, 3, 4, 5, 6] rfl (IH _ _ _ d2 m2))
set_option maxRecDepth 100000 in
set_option maxHeartbeats 4000000 in
theorem law_event {Γ : Gm} {E : Ev} {b Ln : Nat} {xs : Nat → Int32} {l0 : Launch} (C : Kl Γ E b Ln xs l0) (hst : l0.stackTraces = false) {ad ad2 : Nat → Nat} {kc ks k : Nat} {σ τ : Sg} {h : Hs} (d : DI h σ) (m : MI h τ) (hL : Ln ≤ 3584) (hk : 7 * k + 7 ≤ Ln) (hc : kc + 1 ≤ 601024) (hs : ks + 6 ≤ 7293034) (IH : ∀ (h2 : Hs) (u v : Sg), DI h2 u → MI h2 v → OC Γ E (kc + 1) (ks + 6) 8 1180 [(4, .int (nI (7 * k))), (0, .ref b), (1, .ref (ad 0)), (2, .ref (ad2 0)), (3, .ref (ad 141))] [] (W2 E ad ad2 u v)) : OC Γ E kc ks 8 478 [(4, .int (nI (7 * k))), (0, .ref b), (1, .ref (ad 0)), (2, .ref (ad2 0)), (3, .ref (ad 141))] [] (W2 E ad ad2 σ τ) := by
  refine ol_aload_n C 2 dL_law_478 rfl rfl ?_
  refine ol_aload_n C 1 dL_law_479 rfl rfl ?_
  refine ol_iload C 0 dL_law_480 rfl ?_
  refine ol_iconst C (v := 1) dL_law_482 (by decide) ?_
  refine ol_iadd C dL_law_483 ?_
  refine ol_sld C (vinL hL hk 1 rfl (by decide)) dL_law_484 ?_
  refine ol_aload_n C 1 dL_law_485 rfl rfl ?_
  refine ol_iload C 0 dL_law_486 rfl ?_
  refine ol_iconst C (v := 2) dL_law_488 (by decide) ?_
  refine ol_iadd C dL_law_489 ?_
  refine ol_sld C (vinL hL hk 2 rfl (by decide)) dL_law_490 ?_
  refine ol_aload_n C 4 dL_law_491 rfl rfl ?_
  refine ol_callW C (As := [.ref (ad 0), .int (xs ((nI (7 * k)) + 1).toNatClampNeg), .int (xs ((nI (7 * k)) + 2).toNatClampNeg), .ref (ad 141)]) (rest := []) (w_event (oW_k E ad) hst (xs ((nI (7 * k)) + 1).toNatClampNeg) (xs ((nI (7 * k)) + 2).toNatClampNeg) d) W_5_43 W_5_44 W_1_0 W_5_45 hd_L_event rfl ⟨(Nat.le_of_ble_eq_true rfl), (Nat.le_of_ble_eq_true rfl)⟩ (Nat.le_of_ble_eq_true rfl) rfl dL_law_492 hc hs (fun r u hp => ?_)
  obtain ⟨rfl, d2, ha⟩ := hp
  refine ol_istore C (L2 := [(5, .int (nI (opEvent h (xs ((nI (7 * k)) + 1).toNatClampNeg) (xs ((nI (7 * k)) + 2).toNatClampNeg)).1)), (4, .int (nI (7 * k))), (0, .ref b), (1, .ref (ad 0)), (2, .ref (ad2 0)), (3, .ref (ad 141))]) dL_law_495 (by decide) rfl ?_
  refine ol_aload_n C 4 dL_law_497 rfl rfl ?_
  refine ol_aload_n C 2 dL_law_498 rfl rfl ?_
  refine ol_iload C 1 dL_law_499 rfl ?_
  refine ol_iconst C (v := 1) dL_law_501 (by decide) ?_
  refine ol_iadd C dL_law_502 ?_
  refine ol_sld C (vinL hL hk 1 rfl (by decide)) dL_law_503 ?_
  refine ol_aload_n C 2 dL_law_504 rfl rfl ?_
  refine ol_iload C 1 dL_law_505 rfl ?_
  refine ol_iconst C (v := 2) dL_law_507 (by decide) ?_
  refine ol_iadd C dL_law_508 ?_
  refine ol_sld C (vinL hL hk 2 rfl (by decide)) dL_law_509 ?_
  refine ol_callMi C (As := [.int (xs ((nI (7 * k)) + 1).toNatClampNeg), .int (xs ((nI (7 * k)) + 2).toNatClampNeg)]) (rest := []) rfl (c_X8_event (oM_k E ad2) (xs ((nI (7 * k)) + 1).toNatClampNeg) (xs ((nI (7 * k)) + 2).toNatClampNeg) τ (fun x v => MI h v ∧ v.1 0 0 = nI (opEvent h (xs ((nI (7 * k)) + 1).toNatClampNeg) (xs ((nI (7 * k)) + 2).toNatClampNeg)).1 ∧ x = (opEvent h (xs ((nI (7 * k)) + 1).toNatClampNeg) (xs ((nI (7 * k)) + 2).toNatClampNeg)).2) ⟨h, m, fun t a b => ⟨a, b, rfl⟩⟩) W_7_44 W_7_45 W_7_46 W_7_47 W_1_28 hd_X8_event rfl ⟨(Nat.le_of_ble_eq_true rfl), (Nat.le_of_ble_eq_true rfl)⟩ (Nat.le_of_ble_eq_true rfl) rfl dL_law_510 (Nat.le_of_lt_succ (Nat.lt_of_le_of_lt hc (by decide))) (Nat.le_of_lt_succ (Nat.lt_of_le_of_lt hs (by decide))) (fun r2 v hq => ?_)
  obtain ⟨m2, e2, rfl⟩ := hq
  refine ol_istore C (L2 := [(6, .int (opEvent h (xs ((nI (7 * k)) + 1).toNatClampNeg) (xs ((nI (7 * k)) + 2).toNatClampNeg)).2), (5, .int (nI (opEvent h (xs ((nI (7 * k)) + 1).toNatClampNeg) (xs ((nI (7 * k)) + 2).toNatClampNeg)).1)), (4, .int (nI (7 * k))), (0, .ref b), (1, .ref (ad 0)), (2, .ref (ad2 0)), (3, .ref (ad 141))]) dL_law_513 (by decide) rfl ?_
  refine ol_aload_n C 5 dL_law_515 rfl rfl ?_
  refine ol_callMi C (As := []) rfl (c_X8_thrown (oM_k E ad2) v (fun x t => x = v.1 0 0 ∧ t = v) ⟨rfl, rfl⟩) W_7_4 W_7_5 W_7_6 W_7_7 W_1_28 hd_X8_thrown rfl ⟨(Nat.le_of_ble_eq_true rfl), (Nat.le_of_ble_eq_true rfl)⟩ (Nat.le_of_ble_eq_true rfl) rfl dL_law_516 (Nat.le_of_lt_succ (Nat.lt_of_le_of_lt hc (by decide))) (Nat.le_of_lt_succ (Nat.lt_of_le_of_lt hs (by decide))) (fun r4 t hq2 => ?_)
  obtain ⟨e3, e4⟩ := hq2
  subst e4
  rw [e3, e2]
  refine ol_iload C 1 dL_law_519 rfl ?_
  refine ol_icmp_eq C 526 dL_law_521 rfl (fun _ => ?_) (fun hne => absurd rfl hne)
  refine ol_iload C 1 dL_law_526 rfl ?_
  refine ol_if_ne C 543 dL_law_528 rfl (fun _ => ?_) (fun e0 => ?_)
  · exact ol_goto C 1180 dL_law_543 rfl (ol_sub [2, 3, 4, 5, 6] rfl (IH _ _ _ d2 m2))
  have c0 := ha (nI_z (le3_event _ _ _) e0)
  refine ol_aload_n C 6 dL_law_531 rfl rfl ?_
  refine ol_iconst C (v := 0) dL_law_532 (by decide) ?_
  refine ol_lald C dL_law_533 ?_
  rw [c0]
  refine ol_iload C 0 dL_law_534 rfl ?_
  refine ol_i2l C dL_law_536 ?_
  refine ol_lcmp C dL_law_537 ?_
  refine ol_if_eq C 543 dL_law_538 rfl (fun _ => ?_) (fun hne => absurd (by rw [lg_cmp_eq]) hne)
  exact ol_goto C 1180 dL_law_543 rfl (ol_sub [2, 3, 4, 5, 6] rfl (IH _ _ _ d2 m2))
set_option maxRecDepth 100000 in
set_option maxHeartbeats 4000000 in
theorem law_hash {Γ : Gm} {E : Ev} {b Ln : Nat} {xs : Nat → Int32} {l0 : Launch} (C : Kl Γ E b Ln xs l0) (hst : l0.stackTraces = false) {ad ad2 : Nat → Nat} {kc ks k : Nat} {σ τ : Sg} {h : Hs} (d : DI h σ) (m : MI h τ) (hL : Ln ≤ 3584) (hk : 7 * k + 7 ≤ Ln) (hc : kc + 1 ≤ 601024) (hs : ks + 6 ≤ 7293034) (IH : ∀ (h2 : Hs) (u v : Sg), DI h2 u → MI h2 v → OC Γ E (kc + 1) (ks + 6) 8 1180 [(4, .int (nI (7 * k))), (0, .ref b), (1, .ref (ad 0)), (2, .ref (ad2 0)), (3, .ref (ad 141))] [] (W2 E ad ad2 u v)) : OC Γ E kc ks 8 546 [(4, .int (nI (7 * k))), (0, .ref b), (1, .ref (ad 0)), (2, .ref (ad2 0)), (3, .ref (ad 141))] [] (W2 E ad ad2 σ τ) := by
  refine ol_aload_n C 2 dL_law_546 rfl rfl ?_
  refine ol_aload_n C 1 dL_law_547 rfl rfl ?_
  refine ol_iload C 0 dL_law_548 rfl ?_
  refine ol_iconst C (v := 1) dL_law_550 (by decide) ?_
  refine ol_iadd C dL_law_551 ?_
  refine ol_sld C (vinL hL hk 1 rfl (by decide)) dL_law_552 ?_
  refine ol_aload_n C 1 dL_law_553 rfl rfl ?_
  refine ol_iload C 0 dL_law_554 rfl ?_
  refine ol_iconst C (v := 2) dL_law_556 (by decide) ?_
  refine ol_iadd C dL_law_557 ?_
  refine ol_sld C (vinL hL hk 2 rfl (by decide)) dL_law_558 ?_
  refine ol_aload_n C 4 dL_law_559 rfl rfl ?_
  refine ol_callW C (As := [.ref (ad 0), .int (xs ((nI (7 * k)) + 1).toNatClampNeg), .int (xs ((nI (7 * k)) + 2).toNatClampNeg), .ref (ad 141)]) (rest := []) (w_hash (oW_k E ad) hst (xs ((nI (7 * k)) + 1).toNatClampNeg) (xs ((nI (7 * k)) + 2).toNatClampNeg) d) W_5_52 W_5_53 W_1_0 W_5_54 hd_L_hash rfl ⟨(Nat.le_of_ble_eq_true rfl), (Nat.le_of_ble_eq_true rfl)⟩ (Nat.le_of_ble_eq_true rfl) rfl dL_law_560 hc hs (fun r u hp => ?_)
  obtain ⟨rfl, d2, ha⟩ := hp
  refine ol_istore C (L2 := [(5, .int (nI (opHash h (xs ((nI (7 * k)) + 1).toNatClampNeg) (xs ((nI (7 * k)) + 2).toNatClampNeg)).1)), (4, .int (nI (7 * k))), (0, .ref b), (1, .ref (ad 0)), (2, .ref (ad2 0)), (3, .ref (ad 141))]) dL_law_563 (by decide) rfl ?_
  refine ol_aload_n C 4 dL_law_565 rfl rfl ?_
  refine ol_aload_n C 2 dL_law_566 rfl rfl ?_
  refine ol_iload C 1 dL_law_567 rfl ?_
  refine ol_iconst C (v := 1) dL_law_569 (by decide) ?_
  refine ol_iadd C dL_law_570 ?_
  refine ol_sld C (vinL hL hk 1 rfl (by decide)) dL_law_571 ?_
  refine ol_aload_n C 2 dL_law_572 rfl rfl ?_
  refine ol_iload C 1 dL_law_573 rfl ?_
  refine ol_iconst C (v := 2) dL_law_575 (by decide) ?_
  refine ol_iadd C dL_law_576 ?_
  refine ol_sld C (vinL hL hk 2 rfl (by decide)) dL_law_577 ?_
  refine ol_callMi C (As := [.int (xs ((nI (7 * k)) + 1).toNatClampNeg), .int (xs ((nI (7 * k)) + 2).toNatClampNeg)]) (rest := []) rfl (c_X8_hash_ (oM_k E ad2) (xs ((nI (7 * k)) + 1).toNatClampNeg) (xs ((nI (7 * k)) + 2).toNatClampNeg) τ (fun x v => MI h v ∧ v.1 0 0 = nI (opHash h (xs ((nI (7 * k)) + 1).toNatClampNeg) (xs ((nI (7 * k)) + 2).toNatClampNeg)).1 ∧ x = (opHash h (xs ((nI (7 * k)) + 1).toNatClampNeg) (xs ((nI (7 * k)) + 2).toNatClampNeg)).2) (k_hash m (fun t a b => ⟨a, b, rfl⟩))) W_7_48 W_7_49 W_7_50 W_7_51 W_1_28 hd_X8_hash_ rfl ⟨(Nat.le_of_ble_eq_true rfl), (Nat.le_of_ble_eq_true rfl)⟩ (Nat.le_of_ble_eq_true rfl) rfl dL_law_578 (Nat.le_of_lt_succ (Nat.lt_of_le_of_lt hc (by decide))) (Nat.le_of_lt_succ (Nat.lt_of_le_of_lt hs (by decide))) (fun r2 v hq => ?_)
  obtain ⟨m2, e2, rfl⟩ := hq
  refine ol_istore C (L2 := [(6, .int (opHash h (xs ((nI (7 * k)) + 1).toNatClampNeg) (xs ((nI (7 * k)) + 2).toNatClampNeg)).2), (5, .int (nI (opHash h (xs ((nI (7 * k)) + 1).toNatClampNeg) (xs ((nI (7 * k)) + 2).toNatClampNeg)).1)), (4, .int (nI (7 * k))), (0, .ref b), (1, .ref (ad 0)), (2, .ref (ad2 0)), (3, .ref (ad 141))]) dL_law_581 (by decide) rfl ?_
  refine ol_aload_n C 5 dL_law_583 rfl rfl ?_
  refine ol_callMi C (As := []) rfl (c_X8_thrown (oM_k E ad2) v (fun x t => x = v.1 0 0 ∧ t = v) ⟨rfl, rfl⟩) W_7_4 W_7_5 W_7_6 W_7_7 W_1_28 hd_X8_thrown rfl ⟨(Nat.le_of_ble_eq_true rfl), (Nat.le_of_ble_eq_true rfl)⟩ (Nat.le_of_ble_eq_true rfl) rfl dL_law_584 (Nat.le_of_lt_succ (Nat.lt_of_le_of_lt hc (by decide))) (Nat.le_of_lt_succ (Nat.lt_of_le_of_lt hs (by decide))) (fun r4 t hq2 => ?_)
  obtain ⟨e3, e4⟩ := hq2
  subst e4
  rw [e3, e2]
  refine ol_iload C 1 dL_law_587 rfl ?_
  refine ol_icmp_eq C 594 dL_law_589 rfl (fun _ => ?_) (fun hne => absurd rfl hne)
  refine ol_iload C 1 dL_law_594 rfl ?_
  refine ol_if_ne C 611 dL_law_596 rfl (fun _ => ?_) (fun e0 => ?_)
  · exact ol_goto C 1180 dL_law_611 rfl (ol_sub [2, 3, 4, 5, 6] rfl (IH _ _ _ d2 m2))
  have c0 := ha (nI_z (le3_hash _ _ _) e0)
  refine ol_aload_n C 6 dL_law_599 rfl rfl ?_
  refine ol_iconst C (v := 0) dL_law_600 (by decide) ?_
  refine ol_lald C dL_law_601 ?_
  rw [c0]
  refine ol_iload C 0 dL_law_602 rfl ?_
  refine ol_i2l C dL_law_604 ?_
  refine ol_lcmp C dL_law_605 ?_
  refine ol_if_eq C 611 dL_law_606 rfl (fun _ => ?_) (fun hne => absurd (by rw [lg_cmp_eq]) hne)
  exact ol_goto C 1180 dL_law_611 rfl (ol_sub [2, 3, 4, 5, 6] rfl (IH _ _ _ d2 m2))
set_option maxRecDepth 100000 in
set_option maxHeartbeats 4000000 in
theorem law_sees {Γ : Gm} {E : Ev} {b Ln : Nat} {xs : Nat → Int32} {l0 : Launch} (C : Kl Γ E b Ln xs l0) (hst : l0.stackTraces = false) {ad ad2 : Nat → Nat} {kc ks k : Nat} {σ τ : Sg} {h : Hs} (d : DI h σ) (m : MI h τ) (hL : Ln ≤ 3584) (hk : 7 * k + 7 ≤ Ln) (hc : kc + 1 ≤ 601024) (hs : ks + 6 ≤ 7293034) (IH : ∀ (h2 : Hs) (u v : Sg), DI h2 u → MI h2 v → OC Γ E (kc + 1) (ks + 6) 8 1180 [(4, .int (nI (7 * k))), (0, .ref b), (1, .ref (ad 0)), (2, .ref (ad2 0)), (3, .ref (ad 141))] [] (W2 E ad ad2 u v)) : OC Γ E kc ks 8 614 [(4, .int (nI (7 * k))), (0, .ref b), (1, .ref (ad 0)), (2, .ref (ad2 0)), (3, .ref (ad 141))] [] (W2 E ad ad2 σ τ) := by
  refine ol_aload_n C 2 dL_law_614 rfl rfl ?_
  refine ol_aload_n C 1 dL_law_615 rfl rfl ?_
  refine ol_iload C 0 dL_law_616 rfl ?_
  refine ol_iconst C (v := 1) dL_law_618 (by decide) ?_
  refine ol_iadd C dL_law_619 ?_
  refine ol_sld C (vinL hL hk 1 rfl (by decide)) dL_law_620 ?_
  refine ol_aload_n C 1 dL_law_621 rfl rfl ?_
  refine ol_iload C 0 dL_law_622 rfl ?_
  refine ol_iconst C (v := 2) dL_law_624 (by decide) ?_
  refine ol_iadd C dL_law_625 ?_
  refine ol_sld C (vinL hL hk 2 rfl (by decide)) dL_law_626 ?_
  refine ol_aload_n C 1 dL_law_627 rfl rfl ?_
  refine ol_iload C 0 dL_law_628 rfl ?_
  refine ol_iconst C (v := 3) dL_law_630 (by decide) ?_
  refine ol_iadd C dL_law_631 ?_
  refine ol_sld C (vinL hL hk 3 rfl (by decide)) dL_law_632 ?_
  refine ol_nz C 640 641 dL_law_633 rfl dL_law_636 dL_law_637 rfl dL_law_640 rfl ?_
  refine ol_aload_n C 4 dL_law_641 rfl rfl ?_
  refine ol_callW C (As := [.ref (ad 0), .int (xs ((nI (7 * k)) + 1).toNatClampNeg), .int (xs ((nI (7 * k)) + 2).toNatClampNeg), .int (bz (xs ((nI (7 * k)) + 3).toNatClampNeg)), .ref (ad 141)]) (rest := []) (w_sees (oW_k E ad) hst (xs ((nI (7 * k)) + 1).toNatClampNeg) (xs ((nI (7 * k)) + 2).toNatClampNeg) (bz (xs ((nI (7 * k)) + 3).toNatClampNeg)) (bz_z _) d) W_5_60 W_5_61 W_1_0 W_5_62 hd_L_sees rfl ⟨(Nat.le_of_ble_eq_true rfl), (Nat.le_of_ble_eq_true rfl)⟩ (Nat.le_of_ble_eq_true rfl) rfl dL_law_642 hc hs (fun r u hp => ?_)
  obtain ⟨rfl, d2, ha⟩ := hp
  refine ol_istore C (L2 := [(5, .int (nI (opSees h (xs ((nI (7 * k)) + 1).toNatClampNeg) (xs ((nI (7 * k)) + 2).toNatClampNeg) (bz (xs ((nI (7 * k)) + 3).toNatClampNeg))).1)), (4, .int (nI (7 * k))), (0, .ref b), (1, .ref (ad 0)), (2, .ref (ad2 0)), (3, .ref (ad 141))]) dL_law_645 (by decide) rfl ?_
  refine ol_aload_n C 4 dL_law_647 rfl rfl ?_
  refine ol_aload_n C 2 dL_law_648 rfl rfl ?_
  refine ol_iload C 1 dL_law_649 rfl ?_
  refine ol_iconst C (v := 1) dL_law_651 (by decide) ?_
  refine ol_iadd C dL_law_652 ?_
  refine ol_sld C (vinL hL hk 1 rfl (by decide)) dL_law_653 ?_
  refine ol_aload_n C 2 dL_law_654 rfl rfl ?_
  refine ol_iload C 1 dL_law_655 rfl ?_
  refine ol_iconst C (v := 2) dL_law_657 (by decide) ?_
  refine ol_iadd C dL_law_658 ?_
  refine ol_sld C (vinL hL hk 2 rfl (by decide)) dL_law_659 ?_
  refine ol_aload_n C 2 dL_law_660 rfl rfl ?_
  refine ol_iload C 1 dL_law_661 rfl ?_
  refine ol_iconst C (v := 3) dL_law_663 (by decide) ?_
  refine ol_iadd C dL_law_664 ?_
  refine ol_sld C (vinL hL hk 3 rfl (by decide)) dL_law_665 ?_
  refine ol_nz C 673 674 dL_law_666 rfl dL_law_669 dL_law_670 rfl dL_law_673 rfl ?_
  refine ol_callMi C (As := [.int (xs ((nI (7 * k)) + 1).toNatClampNeg), .int (xs ((nI (7 * k)) + 2).toNatClampNeg), .int (bz (xs ((nI (7 * k)) + 3).toNatClampNeg))]) (rest := []) rfl (c_X8_sees_ (oM_k E ad2) (xs ((nI (7 * k)) + 1).toNatClampNeg) (xs ((nI (7 * k)) + 2).toNatClampNeg) (bz (xs ((nI (7 * k)) + 3).toNatClampNeg)) τ (fun x v => MI h v ∧ v.1 0 0 = nI (opSees h (xs ((nI (7 * k)) + 1).toNatClampNeg) (xs ((nI (7 * k)) + 2).toNatClampNeg) (bz (xs ((nI (7 * k)) + 3).toNatClampNeg))).1 ∧ x = (opSees h (xs ((nI (7 * k)) + 1).toNatClampNeg) (xs ((nI (7 * k)) + 2).toNatClampNeg) (bz (xs ((nI (7 * k)) + 3).toNatClampNeg))).2) (k_sees m (fun t a b => ⟨a, b, rfl⟩))) W_7_52 W_7_53 W_7_54 W_7_55 W_1_28 hd_X8_sees_ rfl ⟨(Nat.le_of_ble_eq_true rfl), (Nat.le_of_ble_eq_true rfl)⟩ (Nat.le_of_ble_eq_true rfl) rfl dL_law_674 (Nat.le_of_lt_succ (Nat.lt_of_le_of_lt hc (by decide))) (Nat.le_of_lt_succ (Nat.lt_of_le_of_lt hs (by decide))) (fun r2 v hq => ?_)
  obtain ⟨m2, e2, rfl⟩ := hq
  refine ol_istore C (L2 := [(6, .int (opSees h (xs ((nI (7 * k)) + 1).toNatClampNeg) (xs ((nI (7 * k)) + 2).toNatClampNeg) (bz (xs ((nI (7 * k)) + 3).toNatClampNeg))).2), (5, .int (nI (opSees h (xs ((nI (7 * k)) + 1).toNatClampNeg) (xs ((nI (7 * k)) + 2).toNatClampNeg) (bz (xs ((nI (7 * k)) + 3).toNatClampNeg))).1)), (4, .int (nI (7 * k))), (0, .ref b), (1, .ref (ad 0)), (2, .ref (ad2 0)), (3, .ref (ad 141))]) dL_law_677 (by decide) rfl ?_
  refine ol_aload_n C 5 dL_law_679 rfl rfl ?_
  refine ol_callMi C (As := []) rfl (c_X8_thrown (oM_k E ad2) v (fun x t => x = v.1 0 0 ∧ t = v) ⟨rfl, rfl⟩) W_7_4 W_7_5 W_7_6 W_7_7 W_1_28 hd_X8_thrown rfl ⟨(Nat.le_of_ble_eq_true rfl), (Nat.le_of_ble_eq_true rfl)⟩ (Nat.le_of_ble_eq_true rfl) rfl dL_law_680 (Nat.le_of_lt_succ (Nat.lt_of_le_of_lt hc (by decide))) (Nat.le_of_lt_succ (Nat.lt_of_le_of_lt hs (by decide))) (fun r4 t hq2 => ?_)
  obtain ⟨e3, e4⟩ := hq2
  subst e4
  rw [e3, e2]
  refine ol_iload C 1 dL_law_683 rfl ?_
  refine ol_icmp_eq C 690 dL_law_685 rfl (fun _ => ?_) (fun hne => absurd rfl hne)
  refine ol_iload C 1 dL_law_690 rfl ?_
  refine ol_if_ne C 714 dL_law_692 rfl (fun _ => ?_) (fun e0 => ?_)
  · exact ol_goto C 1180 dL_law_714 rfl (ol_sub [2, 3, 4, 5, 6] rfl (IH _ _ _ d2 m2))
  have c0 := ha (nI_z (le3_sees _ _ _ _) e0)
  refine ol_aload_n C 6 dL_law_695 rfl rfl ?_
  refine ol_iconst C (v := 0) dL_law_696 (by decide) ?_
  refine ol_lald C dL_law_697 ?_
  rw [c0]
  refine ol_iload C 0 dL_law_698 rfl ?_
  refine ol_nzL C (opSees_z _ _ _ _) 707 708 dL_law_700 rfl dL_law_703 dL_law_704 rfl dL_law_707 rfl ?_
  refine ol_lcmp C dL_law_708 ?_
  refine ol_if_eq C 714 dL_law_709 rfl (fun _ => ?_) (fun hne => absurd (by rw [lg_cmp_eq]) hne)
  exact ol_goto C 1180 dL_law_714 rfl (ol_sub [2, 3, 4, 5, 6] rfl (IH _ _ _ d2 m2))
set_option maxRecDepth 100000 in
set_option maxHeartbeats 4000000 in
theorem law_vote {Γ : Gm} {E : Ev} {b Ln : Nat} {xs : Nat → Int32} {l0 : Launch} (C : Kl Γ E b Ln xs l0) (hst : l0.stackTraces = false) {ad ad2 : Nat → Nat} {kc ks k : Nat} {σ τ : Sg} {h : Hs} (d : DI h σ) (m : MI h τ) (hL : Ln ≤ 3584) (hk : 7 * k + 7 ≤ Ln) (hc : kc + 1 ≤ 601024) (hs : ks + 6 ≤ 7293034) (IH : ∀ (h2 : Hs) (u v : Sg), DI h2 u → MI h2 v → OC Γ E (kc + 1) (ks + 6) 8 1180 [(4, .int (nI (7 * k))), (0, .ref b), (1, .ref (ad 0)), (2, .ref (ad2 0)), (3, .ref (ad 141))] [] (W2 E ad ad2 u v)) : OC Γ E kc ks 8 717 [(4, .int (nI (7 * k))), (0, .ref b), (1, .ref (ad 0)), (2, .ref (ad2 0)), (3, .ref (ad 141))] [] (W2 E ad ad2 σ τ) := by
  refine ol_aload_n C 2 dL_law_717 rfl rfl ?_
  refine ol_aload_n C 1 dL_law_718 rfl rfl ?_
  refine ol_iload C 0 dL_law_719 rfl ?_
  refine ol_iconst C (v := 1) dL_law_721 (by decide) ?_
  refine ol_iadd C dL_law_722 ?_
  refine ol_sld C (vinL hL hk 1 rfl (by decide)) dL_law_723 ?_
  refine ol_aload_n C 1 dL_law_724 rfl rfl ?_
  refine ol_iload C 0 dL_law_725 rfl ?_
  refine ol_iconst C (v := 2) dL_law_727 (by decide) ?_
  refine ol_iadd C dL_law_728 ?_
  refine ol_sld C (vinL hL hk 2 rfl (by decide)) dL_law_729 ?_
  refine ol_aload_n C 4 dL_law_730 rfl rfl ?_
  refine ol_callW C (As := [.ref (ad 0), .int (xs ((nI (7 * k)) + 1).toNatClampNeg), .int (xs ((nI (7 * k)) + 2).toNatClampNeg), .ref (ad 141)]) (rest := []) (w_vote (oW_k E ad) hst (xs ((nI (7 * k)) + 1).toNatClampNeg) (xs ((nI (7 * k)) + 2).toNatClampNeg) d) W_5_67 W_5_68 W_1_0 W_5_69 hd_L_vote rfl ⟨(Nat.le_of_ble_eq_true rfl), (Nat.le_of_ble_eq_true rfl)⟩ (Nat.le_of_ble_eq_true rfl) rfl dL_law_731 hc hs (fun r u hp => ?_)
  obtain ⟨rfl, d2, ha⟩ := hp
  refine ol_istore C (L2 := [(5, .int (nI (opVote h (xs ((nI (7 * k)) + 1).toNatClampNeg) (xs ((nI (7 * k)) + 2).toNatClampNeg)).1)), (4, .int (nI (7 * k))), (0, .ref b), (1, .ref (ad 0)), (2, .ref (ad2 0)), (3, .ref (ad 141))]) dL_law_734 (by decide) rfl ?_
  refine ol_aload_n C 4 dL_law_736 rfl rfl ?_
  refine ol_aload_n C 2 dL_law_737 rfl rfl ?_
  refine ol_iload C 1 dL_law_738 rfl ?_
  refine ol_iconst C (v := 1) dL_law_740 (by decide) ?_
  refine ol_iadd C dL_law_741 ?_
  refine ol_sld C (vinL hL hk 1 rfl (by decide)) dL_law_742 ?_
  refine ol_aload_n C 2 dL_law_743 rfl rfl ?_
  refine ol_iload C 1 dL_law_744 rfl ?_
  refine ol_iconst C (v := 2) dL_law_746 (by decide) ?_
  refine ol_iadd C dL_law_747 ?_
  refine ol_sld C (vinL hL hk 2 rfl (by decide)) dL_law_748 ?_
  refine ol_callMi C (As := [.int (xs ((nI (7 * k)) + 1).toNatClampNeg), .int (xs ((nI (7 * k)) + 2).toNatClampNeg)]) (rest := []) rfl (c_X8_vote (oM_k E ad2) (xs ((nI (7 * k)) + 1).toNatClampNeg) (xs ((nI (7 * k)) + 2).toNatClampNeg) τ (fun x v => MI h v ∧ v.1 0 0 = nI (opVote h (xs ((nI (7 * k)) + 1).toNatClampNeg) (xs ((nI (7 * k)) + 2).toNatClampNeg)).1 ∧ x = (opVote h (xs ((nI (7 * k)) + 1).toNatClampNeg) (xs ((nI (7 * k)) + 2).toNatClampNeg)).2) (k_vote m (fun t a b => ⟨a, b, rfl⟩))) W_7_56 W_7_57 W_7_58 W_7_59 W_1_28 hd_X8_vote rfl ⟨(Nat.le_of_ble_eq_true rfl), (Nat.le_of_ble_eq_true rfl)⟩ (Nat.le_of_ble_eq_true rfl) rfl dL_law_749 (Nat.le_of_lt_succ (Nat.lt_of_le_of_lt hc (by decide))) (Nat.le_of_lt_succ (Nat.lt_of_le_of_lt hs (by decide))) (fun r2 v hq => ?_)
  obtain ⟨m2, e2, rfl⟩ := hq
  refine ol_istore C (L2 := [(6, .int (opVote h (xs ((nI (7 * k)) + 1).toNatClampNeg) (xs ((nI (7 * k)) + 2).toNatClampNeg)).2), (5, .int (nI (opVote h (xs ((nI (7 * k)) + 1).toNatClampNeg) (xs ((nI (7 * k)) + 2).toNatClampNeg)).1)), (4, .int (nI (7 * k))), (0, .ref b), (1, .ref (ad 0)), (2, .ref (ad2 0)), (3, .ref (ad 141))]) dL_law_752 (by decide) rfl ?_
  refine ol_aload_n C 5 dL_law_754 rfl rfl ?_
  refine ol_callMi C (As := []) rfl (c_X8_thrown (oM_k E ad2) v (fun x t => x = v.1 0 0 ∧ t = v) ⟨rfl, rfl⟩) W_7_4 W_7_5 W_7_6 W_7_7 W_1_28 hd_X8_thrown rfl ⟨(Nat.le_of_ble_eq_true rfl), (Nat.le_of_ble_eq_true rfl)⟩ (Nat.le_of_ble_eq_true rfl) rfl dL_law_755 (Nat.le_of_lt_succ (Nat.lt_of_le_of_lt hc (by decide))) (Nat.le_of_lt_succ (Nat.lt_of_le_of_lt hs (by decide))) (fun r4 t hq2 => ?_)
  obtain ⟨e3, e4⟩ := hq2
  subst e4
  rw [e3, e2]
  refine ol_iload C 1 dL_law_758 rfl ?_
  refine ol_icmp_eq C 765 dL_law_760 rfl (fun _ => ?_) (fun hne => absurd rfl hne)
  refine ol_iload C 1 dL_law_765 rfl ?_
  refine ol_if_ne C 782 dL_law_767 rfl (fun _ => ?_) (fun e0 => ?_)
  · exact ol_goto C 1180 dL_law_782 rfl (ol_sub [2, 3, 4, 5, 6] rfl (IH _ _ _ d2 m2))
  have c0 := ha (nI_z (le3_vote _ _ _) e0)
  refine ol_aload_n C 6 dL_law_770 rfl rfl ?_
  refine ol_iconst C (v := 0) dL_law_771 (by decide) ?_
  refine ol_lald C dL_law_772 ?_
  rw [c0]
  refine ol_iload C 0 dL_law_773 rfl ?_
  refine ol_i2l C dL_law_775 ?_
  refine ol_lcmp C dL_law_776 ?_
  refine ol_if_eq C 782 dL_law_777 rfl (fun _ => ?_) (fun hne => absurd (by rw [lg_cmp_eq]) hne)
  exact ol_goto C 1180 dL_law_782 rfl (ol_sub [2, 3, 4, 5, 6] rfl (IH _ _ _ d2 m2))
set_option maxRecDepth 100000 in
set_option maxHeartbeats 4000000 in
theorem law_found {Γ : Gm} {E : Ev} {b Ln : Nat} {xs : Nat → Int32} {l0 : Launch} (C : Kl Γ E b Ln xs l0) (hst : l0.stackTraces = false) {ad ad2 : Nat → Nat} {kc ks k : Nat} {σ τ : Sg} {h : Hs} (d : DI h σ) (m : MI h τ) (hL : Ln ≤ 3584) (hk : 7 * k + 7 ≤ Ln) (hc : kc + 1 ≤ 601024) (hs : ks + 6 ≤ 7293034) (IH : ∀ (h2 : Hs) (u v : Sg), DI h2 u → MI h2 v → OC Γ E (kc + 1) (ks + 6) 8 1180 [(4, .int (nI (7 * k))), (0, .ref b), (1, .ref (ad 0)), (2, .ref (ad2 0)), (3, .ref (ad 141))] [] (W2 E ad ad2 u v)) : OC Γ E kc ks 8 785 [(4, .int (nI (7 * k))), (0, .ref b), (1, .ref (ad 0)), (2, .ref (ad2 0)), (3, .ref (ad 141))] [] (W2 E ad ad2 σ τ) := by
  refine ol_aload_n C 2 dL_law_785 rfl rfl ?_
  refine ol_aload_n C 1 dL_law_786 rfl rfl ?_
  refine ol_iload C 0 dL_law_787 rfl ?_
  refine ol_iconst C (v := 1) dL_law_789 (by decide) ?_
  refine ol_iadd C dL_law_790 ?_
  refine ol_sld C (vinL hL hk 1 rfl (by decide)) dL_law_791 ?_
  refine ol_aload_n C 1 dL_law_792 rfl rfl ?_
  refine ol_iload C 0 dL_law_793 rfl ?_
  refine ol_iconst C (v := 2) dL_law_795 (by decide) ?_
  refine ol_iadd C dL_law_796 ?_
  refine ol_sld C (vinL hL hk 2 rfl (by decide)) dL_law_797 ?_
  refine ol_aload_n C 1 dL_law_798 rfl rfl ?_
  refine ol_iload C 0 dL_law_799 rfl ?_
  refine ol_iconst C (v := 3) dL_law_801 (by decide) ?_
  refine ol_iadd C dL_law_802 ?_
  refine ol_sld C (vinL hL hk 3 rfl (by decide)) dL_law_803 ?_
  refine ol_aload_n C 4 dL_law_804 rfl rfl ?_
  refine ol_callW C (As := [.ref (ad 0), .int (xs ((nI (7 * k)) + 1).toNatClampNeg), .int (xs ((nI (7 * k)) + 2).toNatClampNeg), .int (xs ((nI (7 * k)) + 3).toNatClampNeg), .ref (ad 141)]) (rest := []) (w_found (oW_k E ad) hst (xs ((nI (7 * k)) + 1).toNatClampNeg) (xs ((nI (7 * k)) + 2).toNatClampNeg) (xs ((nI (7 * k)) + 3).toNatClampNeg) d) W_5_82 W_5_83 W_1_0 W_5_84 hd_L_found rfl ⟨(Nat.le_of_ble_eq_true rfl), (Nat.le_of_ble_eq_true rfl)⟩ (Nat.le_of_ble_eq_true rfl) rfl dL_law_805 hc hs (fun r u hp => ?_)
  obtain ⟨rfl, d2, ha⟩ := hp
  refine ol_istore C (L2 := [(5, .int (nI (opFound h (xs ((nI (7 * k)) + 1).toNatClampNeg) (xs ((nI (7 * k)) + 2).toNatClampNeg) (xs ((nI (7 * k)) + 3).toNatClampNeg)).1)), (4, .int (nI (7 * k))), (0, .ref b), (1, .ref (ad 0)), (2, .ref (ad2 0)), (3, .ref (ad 141))]) dL_law_808 (by decide) rfl ?_
  refine ol_aload_n C 4 dL_law_810 rfl rfl ?_
  refine ol_aload_n C 2 dL_law_811 rfl rfl ?_
  refine ol_iload C 1 dL_law_812 rfl ?_
  refine ol_iconst C (v := 1) dL_law_814 (by decide) ?_
  refine ol_iadd C dL_law_815 ?_
  refine ol_sld C (vinL hL hk 1 rfl (by decide)) dL_law_816 ?_
  refine ol_aload_n C 2 dL_law_817 rfl rfl ?_
  refine ol_iload C 1 dL_law_818 rfl ?_
  refine ol_iconst C (v := 2) dL_law_820 (by decide) ?_
  refine ol_iadd C dL_law_821 ?_
  refine ol_sld C (vinL hL hk 2 rfl (by decide)) dL_law_822 ?_
  refine ol_aload_n C 2 dL_law_823 rfl rfl ?_
  refine ol_iload C 1 dL_law_824 rfl ?_
  refine ol_iconst C (v := 3) dL_law_826 (by decide) ?_
  refine ol_iadd C dL_law_827 ?_
  refine ol_sld C (vinL hL hk 3 rfl (by decide)) dL_law_828 ?_
  refine ol_callMi C (As := [.int (xs ((nI (7 * k)) + 1).toNatClampNeg), .int (xs ((nI (7 * k)) + 2).toNatClampNeg), .int (xs ((nI (7 * k)) + 3).toNatClampNeg)]) (rest := []) rfl (c_X8_found (oM_k E ad2) (xs ((nI (7 * k)) + 1).toNatClampNeg) (xs ((nI (7 * k)) + 2).toNatClampNeg) (xs ((nI (7 * k)) + 3).toNatClampNeg) τ (fun x v => MI h v ∧ v.1 0 0 = nI (opFound h (xs ((nI (7 * k)) + 1).toNatClampNeg) (xs ((nI (7 * k)) + 2).toNatClampNeg) (xs ((nI (7 * k)) + 3).toNatClampNeg)).1 ∧ x = (opFound h (xs ((nI (7 * k)) + 1).toNatClampNeg) (xs ((nI (7 * k)) + 2).toNatClampNeg) (xs ((nI (7 * k)) + 3).toNatClampNeg)).2) (k_found m (fun t a b => ⟨a, b, rfl⟩))) W_7_64 W_7_65 W_7_66 W_7_67 W_1_28 hd_X8_found rfl ⟨(Nat.le_of_ble_eq_true rfl), (Nat.le_of_ble_eq_true rfl)⟩ (Nat.le_of_ble_eq_true rfl) rfl dL_law_829 (Nat.le_of_lt_succ (Nat.lt_of_le_of_lt hc (by decide))) (Nat.le_of_lt_succ (Nat.lt_of_le_of_lt hs (by decide))) (fun r2 v hq => ?_)
  obtain ⟨m2, e2, rfl⟩ := hq
  refine ol_istore C (L2 := [(6, .int (opFound h (xs ((nI (7 * k)) + 1).toNatClampNeg) (xs ((nI (7 * k)) + 2).toNatClampNeg) (xs ((nI (7 * k)) + 3).toNatClampNeg)).2), (5, .int (nI (opFound h (xs ((nI (7 * k)) + 1).toNatClampNeg) (xs ((nI (7 * k)) + 2).toNatClampNeg) (xs ((nI (7 * k)) + 3).toNatClampNeg)).1)), (4, .int (nI (7 * k))), (0, .ref b), (1, .ref (ad 0)), (2, .ref (ad2 0)), (3, .ref (ad 141))]) dL_law_832 (by decide) rfl ?_
  refine ol_aload_n C 5 dL_law_834 rfl rfl ?_
  refine ol_callMi C (As := []) rfl (c_X8_thrown (oM_k E ad2) v (fun x t => x = v.1 0 0 ∧ t = v) ⟨rfl, rfl⟩) W_7_4 W_7_5 W_7_6 W_7_7 W_1_28 hd_X8_thrown rfl ⟨(Nat.le_of_ble_eq_true rfl), (Nat.le_of_ble_eq_true rfl)⟩ (Nat.le_of_ble_eq_true rfl) rfl dL_law_835 (Nat.le_of_lt_succ (Nat.lt_of_le_of_lt hc (by decide))) (Nat.le_of_lt_succ (Nat.lt_of_le_of_lt hs (by decide))) (fun r4 t hq2 => ?_)
  obtain ⟨e3, e4⟩ := hq2
  subst e4
  rw [e3, e2]
  refine ol_iload C 1 dL_law_838 rfl ?_
  refine ol_icmp_eq C 845 dL_law_840 rfl (fun _ => ?_) (fun hne => absurd rfl hne)
  refine ol_iload C 1 dL_law_845 rfl ?_
  refine ol_if_ne C 862 dL_law_847 rfl (fun _ => ?_) (fun e0 => ?_)
  · exact ol_goto C 1180 dL_law_862 rfl (ol_sub [2, 3, 4, 5, 6] rfl (IH _ _ _ d2 m2))
  have c0 := ha (nI_z (le3_found _ _ _ _) e0)
  refine ol_aload_n C 6 dL_law_850 rfl rfl ?_
  refine ol_iconst C (v := 0) dL_law_851 (by decide) ?_
  refine ol_lald C dL_law_852 ?_
  rw [c0]
  refine ol_iload C 0 dL_law_853 rfl ?_
  refine ol_i2l C dL_law_855 ?_
  refine ol_lcmp C dL_law_856 ?_
  refine ol_if_eq C 862 dL_law_857 rfl (fun _ => ?_) (fun hne => absurd (by rw [lg_cmp_eq]) hne)
  exact ol_goto C 1180 dL_law_862 rfl (ol_sub [2, 3, 4, 5, 6] rfl (IH _ _ _ d2 m2))
set_option maxRecDepth 100000 in
set_option maxHeartbeats 4000000 in
theorem law_stamp {Γ : Gm} {E : Ev} {b Ln : Nat} {xs : Nat → Int32} {l0 : Launch} (C : Kl Γ E b Ln xs l0) (hst : l0.stackTraces = false) {ad ad2 : Nat → Nat} {kc ks k : Nat} {σ τ : Sg} {h : Hs} (d : DI h σ) (m : MI h τ) (hL : Ln ≤ 3584) (hk : 7 * k + 7 ≤ Ln) (hc : kc + 1 ≤ 601024) (hs : ks + 6 ≤ 7293034) (IH : ∀ (h2 : Hs) (u v : Sg), DI h2 u → MI h2 v → OC Γ E (kc + 1) (ks + 6) 8 1180 [(4, .int (nI (7 * k))), (0, .ref b), (1, .ref (ad 0)), (2, .ref (ad2 0)), (3, .ref (ad 141))] [] (W2 E ad ad2 u v)) : OC Γ E kc ks 8 865 [(4, .int (nI (7 * k))), (0, .ref b), (1, .ref (ad 0)), (2, .ref (ad2 0)), (3, .ref (ad 141))] [] (W2 E ad ad2 σ τ) := by
  refine ol_aload_n C 2 dL_law_865 rfl rfl ?_
  refine ol_aload_n C 1 dL_law_866 rfl rfl ?_
  refine ol_iload C 0 dL_law_867 rfl ?_
  refine ol_iconst C (v := 1) dL_law_869 (by decide) ?_
  refine ol_iadd C dL_law_870 ?_
  refine ol_sld C (vinL hL hk 1 rfl (by decide)) dL_law_871 ?_
  refine ol_aload_n C 1 dL_law_872 rfl rfl ?_
  refine ol_iload C 0 dL_law_873 rfl ?_
  refine ol_iconst C (v := 2) dL_law_875 (by decide) ?_
  refine ol_iadd C dL_law_876 ?_
  refine ol_sld C (vinL hL hk 2 rfl (by decide)) dL_law_877 ?_
  refine ol_aload_n C 4 dL_law_878 rfl rfl ?_
  refine ol_callW C (As := [.ref (ad 0), .int (xs ((nI (7 * k)) + 1).toNatClampNeg), .int (xs ((nI (7 * k)) + 2).toNatClampNeg), .ref (ad 141)]) (rest := []) (w_stamp (oW_k E ad) hst (xs ((nI (7 * k)) + 1).toNatClampNeg) (xs ((nI (7 * k)) + 2).toNatClampNeg) d) W_5_180 W_5_181 W_1_0 W_5_182 hd_L_stamp rfl ⟨(Nat.le_of_ble_eq_true rfl), (Nat.le_of_ble_eq_true rfl)⟩ (Nat.le_of_ble_eq_true rfl) rfl dL_law_879 hc hs (fun r u hp => ?_)
  obtain ⟨rfl, d2, ha⟩ := hp
  refine ol_istore C (L2 := [(5, .int (nI (opStamp h (xs ((nI (7 * k)) + 1).toNatClampNeg) (xs ((nI (7 * k)) + 2).toNatClampNeg)).1)), (4, .int (nI (7 * k))), (0, .ref b), (1, .ref (ad 0)), (2, .ref (ad2 0)), (3, .ref (ad 141))]) dL_law_882 (by decide) rfl ?_
  refine ol_aload_n C 4 dL_law_884 rfl rfl ?_
  refine ol_aload_n C 2 dL_law_885 rfl rfl ?_
  refine ol_iload C 1 dL_law_886 rfl ?_
  refine ol_iconst C (v := 1) dL_law_888 (by decide) ?_
  refine ol_iadd C dL_law_889 ?_
  refine ol_sld C (vinL hL hk 1 rfl (by decide)) dL_law_890 ?_
  refine ol_aload_n C 2 dL_law_891 rfl rfl ?_
  refine ol_iload C 1 dL_law_892 rfl ?_
  refine ol_iconst C (v := 2) dL_law_894 (by decide) ?_
  refine ol_iadd C dL_law_895 ?_
  refine ol_sld C (vinL hL hk 2 rfl (by decide)) dL_law_896 ?_
  refine ol_callMl C (As := [.int (xs ((nI (7 * k)) + 1).toNatClampNeg), .int (xs ((nI (7 * k)) + 2).toNatClampNeg)]) (rest := []) rfl (c_X8_stamp (oM_k E ad2) (xs ((nI (7 * k)) + 1).toNatClampNeg) (xs ((nI (7 * k)) + 2).toNatClampNeg) τ (fun x v => MI h v ∧ v.1 0 0 = nI (opStamp h (xs ((nI (7 * k)) + 1).toNatClampNeg) (xs ((nI (7 * k)) + 2).toNatClampNeg)).1 ∧ x = (opStamp h (xs ((nI (7 * k)) + 1).toNatClampNeg) (xs ((nI (7 * k)) + 2).toNatClampNeg)).2) (k_stamp m (fun t a b => ⟨a, b, rfl⟩))) W_7_85 W_7_86 W_7_87 W_7_88 W_1_28 hd_X8_stamp rfl ⟨(Nat.le_of_ble_eq_true rfl), (Nat.le_of_ble_eq_true rfl)⟩ (Nat.le_of_ble_eq_true rfl) rfl dL_law_897 (Nat.le_of_lt_succ (Nat.lt_of_le_of_lt hc (by decide))) (Nat.le_of_lt_succ (Nat.lt_of_le_of_lt hs (by decide))) (fun r2 v hq => ?_)
  obtain ⟨m2, e2, rfl⟩ := hq
  refine ol_lstore C (L2 := [(6, .long (opStamp h (xs ((nI (7 * k)) + 1).toNatClampNeg) (xs ((nI (7 * k)) + 2).toNatClampNeg)).2), (5, .int (nI (opStamp h (xs ((nI (7 * k)) + 1).toNatClampNeg) (xs ((nI (7 * k)) + 2).toNatClampNeg)).1)), (4, .int (nI (7 * k))), (0, .ref b), (1, .ref (ad 0)), (2, .ref (ad2 0)), (3, .ref (ad 141))]) dL_law_900 (by decide) rfl ?_
  refine ol_aload_n C 5 dL_law_902 rfl rfl ?_
  refine ol_callMi C (As := []) rfl (c_X8_thrown (oM_k E ad2) v (fun x t => x = v.1 0 0 ∧ t = v) ⟨rfl, rfl⟩) W_7_4 W_7_5 W_7_6 W_7_7 W_1_28 hd_X8_thrown rfl ⟨(Nat.le_of_ble_eq_true rfl), (Nat.le_of_ble_eq_true rfl)⟩ (Nat.le_of_ble_eq_true rfl) rfl dL_law_903 (Nat.le_of_lt_succ (Nat.lt_of_le_of_lt hc (by decide))) (Nat.le_of_lt_succ (Nat.lt_of_le_of_lt hs (by decide))) (fun r4 t hq2 => ?_)
  obtain ⟨e3, e4⟩ := hq2
  subst e4
  rw [e3, e2]
  refine ol_iload C 1 dL_law_906 rfl ?_
  refine ol_icmp_eq C 913 dL_law_908 rfl (fun _ => ?_) (fun hne => absurd rfl hne)
  refine ol_iload C 1 dL_law_913 rfl ?_
  refine ol_if_ne C 929 dL_law_915 rfl (fun _ => ?_) (fun e0 => ?_)
  · exact ol_goto C 1180 dL_law_929 rfl (ol_sub [2, 3, 4, 5, 6] rfl (IH _ _ _ d2 m2))
  have c0 := ha (nI_z (le3_stamp _ _ _) e0)
  refine ol_aload_n C 6 dL_law_918 rfl rfl ?_
  refine ol_iconst C (v := 0) dL_law_919 (by decide) ?_
  refine ol_lald C dL_law_920 ?_
  rw [c0]
  refine ol_lload C 0 dL_law_921 rfl ?_
  refine ol_lcmp C dL_law_923 ?_
  refine ol_if_eq C 929 dL_law_924 rfl (fun _ => ?_) (fun hne => absurd (by rw [lg_cmp_eq]) hne)
  exact ol_goto C 1180 dL_law_929 rfl (ol_sub [2, 3, 4, 5, 6] rfl (IH _ _ _ d2 m2))
set_option maxRecDepth 100000 in
set_option maxHeartbeats 4000000 in
theorem law_order {Γ : Gm} {E : Ev} {b Ln : Nat} {xs : Nat → Int32} {l0 : Launch} (C : Kl Γ E b Ln xs l0) (hst : l0.stackTraces = false) {ad ad2 : Nat → Nat} {kc ks k : Nat} {σ τ : Sg} {h : Hs} (d : DI h σ) (m : MI h τ) (hL : Ln ≤ 3584) (hk : 7 * k + 7 ≤ Ln) (hc : kc + 1 ≤ 601024) (hs : ks + 6 ≤ 7293034) (IH : ∀ (h2 : Hs) (u v : Sg), DI h2 u → MI h2 v → OC Γ E (kc + 1) (ks + 6) 8 1180 [(4, .int (nI (7 * k))), (0, .ref b), (1, .ref (ad 0)), (2, .ref (ad2 0)), (3, .ref (ad 141))] [] (W2 E ad ad2 u v)) : OC Γ E kc ks 8 932 [(4, .int (nI (7 * k))), (0, .ref b), (1, .ref (ad 0)), (2, .ref (ad2 0)), (3, .ref (ad 141))] [] (W2 E ad ad2 σ τ) := by
  refine ol_aload_n C 2 dL_law_932 rfl rfl ?_
  refine ol_aload_n C 1 dL_law_933 rfl rfl ?_
  refine ol_iload C 0 dL_law_934 rfl ?_
  refine ol_iconst C (v := 1) dL_law_936 (by decide) ?_
  refine ol_iadd C dL_law_937 ?_
  refine ol_sld C (vinL hL hk 1 rfl (by decide)) dL_law_938 ?_
  refine ol_aload_n C 4 dL_law_939 rfl rfl ?_
  refine ol_callW C (As := [.ref (ad 0), .int (xs ((nI (7 * k)) + 1).toNatClampNeg), .ref (ad 141)]) (rest := []) (w_order (oW_k E ad) hst (xs ((nI (7 * k)) + 1).toNatClampNeg) d) W_5_203 W_5_204 W_1_0 W_5_205 hd_L_order rfl ⟨(Nat.le_of_ble_eq_true rfl), (Nat.le_of_ble_eq_true rfl)⟩ (Nat.le_of_ble_eq_true rfl) rfl dL_law_940 hc hs (fun r u hp => ?_)
  obtain ⟨rfl, d2, ha⟩ := hp
  refine ol_istore C (L2 := [(5, .int (nI (opOrder h (xs ((nI (7 * k)) + 1).toNatClampNeg)).1)), (4, .int (nI (7 * k))), (0, .ref b), (1, .ref (ad 0)), (2, .ref (ad2 0)), (3, .ref (ad 141))]) dL_law_943 (by decide) rfl ?_
  refine ol_aload_n C 4 dL_law_945 rfl rfl ?_
  refine ol_aload_n C 2 dL_law_946 rfl rfl ?_
  refine ol_iload C 1 dL_law_947 rfl ?_
  refine ol_iconst C (v := 1) dL_law_949 (by decide) ?_
  refine ol_iadd C dL_law_950 ?_
  refine ol_sld C (vinL hL hk 1 rfl (by decide)) dL_law_951 ?_
  refine ol_callMi C (As := [.int (xs ((nI (7 * k)) + 1).toNatClampNeg)]) (rest := []) rfl (c_X8_order (oM_k E ad2) (xs ((nI (7 * k)) + 1).toNatClampNeg) τ (fun x v => MI h v ∧ v.1 0 0 = nI (opOrder h (xs ((nI (7 * k)) + 1).toNatClampNeg)).1 ∧ x = (opOrder h (xs ((nI (7 * k)) + 1).toNatClampNeg)).2) (k_order m (fun t a b => ⟨a, b, rfl⟩))) W_7_89 W_7_90 W_7_91 W_7_92 W_1_28 hd_X8_order rfl ⟨(Nat.le_of_ble_eq_true rfl), (Nat.le_of_ble_eq_true rfl)⟩ (Nat.le_of_ble_eq_true rfl) rfl dL_law_952 (Nat.le_of_lt_succ (Nat.lt_of_le_of_lt hc (by decide))) (Nat.le_of_lt_succ (Nat.lt_of_le_of_lt hs (by decide))) (fun r2 v hq => ?_)
  obtain ⟨m2, e2, rfl⟩ := hq
  refine ol_istore C (L2 := [(6, .int (opOrder h (xs ((nI (7 * k)) + 1).toNatClampNeg)).2), (5, .int (nI (opOrder h (xs ((nI (7 * k)) + 1).toNatClampNeg)).1)), (4, .int (nI (7 * k))), (0, .ref b), (1, .ref (ad 0)), (2, .ref (ad2 0)), (3, .ref (ad 141))]) dL_law_955 (by decide) rfl ?_
  refine ol_aload_n C 5 dL_law_957 rfl rfl ?_
  refine ol_callMi C (As := []) rfl (c_X8_thrown (oM_k E ad2) v (fun x t => x = v.1 0 0 ∧ t = v) ⟨rfl, rfl⟩) W_7_4 W_7_5 W_7_6 W_7_7 W_1_28 hd_X8_thrown rfl ⟨(Nat.le_of_ble_eq_true rfl), (Nat.le_of_ble_eq_true rfl)⟩ (Nat.le_of_ble_eq_true rfl) rfl dL_law_958 (Nat.le_of_lt_succ (Nat.lt_of_le_of_lt hc (by decide))) (Nat.le_of_lt_succ (Nat.lt_of_le_of_lt hs (by decide))) (fun r4 t hq2 => ?_)
  obtain ⟨e3, e4⟩ := hq2
  subst e4
  rw [e3, e2]
  refine ol_iload C 1 dL_law_961 rfl ?_
  refine ol_icmp_eq C 968 dL_law_963 rfl (fun _ => ?_) (fun hne => absurd rfl hne)
  refine ol_iload C 1 dL_law_968 rfl ?_
  refine ol_if_ne C 985 dL_law_970 rfl (fun _ => ?_) (fun e0 => ?_)
  · exact ol_goto C 1180 dL_law_985 rfl (ol_sub [2, 3, 4, 5, 6] rfl (IH _ _ _ d2 m2))
  have c0 := ha (nI_z (le3_order _ _) e0)
  refine ol_aload_n C 6 dL_law_973 rfl rfl ?_
  refine ol_iconst C (v := 0) dL_law_974 (by decide) ?_
  refine ol_lald C dL_law_975 ?_
  rw [c0]
  refine ol_iload C 0 dL_law_976 rfl ?_
  refine ol_i2l C dL_law_978 ?_
  refine ol_lcmp C dL_law_979 ?_
  refine ol_if_eq C 985 dL_law_980 rfl (fun _ => ?_) (fun hne => absurd (by rw [lg_cmp_eq]) hne)
  exact ol_goto C 1180 dL_law_985 rfl (ol_sub [2, 3, 4, 5, 6] rfl (IH _ _ _ d2 m2))
set_option maxRecDepth 100000 in
set_option maxHeartbeats 4000000 in
theorem law_at {Γ : Gm} {E : Ev} {b Ln : Nat} {xs : Nat → Int32} {l0 : Launch} (C : Kl Γ E b Ln xs l0) (hst : l0.stackTraces = false) {ad ad2 : Nat → Nat} {kc ks k : Nat} {σ τ : Sg} {h : Hs} (d : DI h σ) (m : MI h τ) (hL : Ln ≤ 3584) (hk : 7 * k + 7 ≤ Ln) (hc : kc + 1 ≤ 601024) (hs : ks + 6 ≤ 7293034) (IH : ∀ (h2 : Hs) (u v : Sg), DI h2 u → MI h2 v → OC Γ E (kc + 1) (ks + 6) 8 1180 [(4, .int (nI (7 * k))), (0, .ref b), (1, .ref (ad 0)), (2, .ref (ad2 0)), (3, .ref (ad 141))] [] (W2 E ad ad2 u v)) : OC Γ E kc ks 8 988 [(4, .int (nI (7 * k))), (0, .ref b), (1, .ref (ad 0)), (2, .ref (ad2 0)), (3, .ref (ad 141))] [] (W2 E ad ad2 σ τ) := by
  refine ol_aload_n C 2 dL_law_988 rfl rfl ?_
  refine ol_aload_n C 1 dL_law_989 rfl rfl ?_
  refine ol_iload C 0 dL_law_990 rfl ?_
  refine ol_iconst C (v := 1) dL_law_992 (by decide) ?_
  refine ol_iadd C dL_law_993 ?_
  refine ol_sld C (vinL hL hk 1 rfl (by decide)) dL_law_994 ?_
  refine ol_aload_n C 1 dL_law_995 rfl rfl ?_
  refine ol_iload C 0 dL_law_996 rfl ?_
  refine ol_iconst C (v := 2) dL_law_998 (by decide) ?_
  refine ol_iadd C dL_law_999 ?_
  refine ol_sld C (vinL hL hk 2 rfl (by decide)) dL_law_1000 ?_
  refine ol_aload_n C 4 dL_law_1001 rfl rfl ?_
  refine ol_callW C (As := [.ref (ad 0), .int (xs ((nI (7 * k)) + 1).toNatClampNeg), .int (xs ((nI (7 * k)) + 2).toNatClampNeg), .ref (ad 141)]) (rest := []) (w_at (oW_k E ad) hst (xs ((nI (7 * k)) + 1).toNatClampNeg) (xs ((nI (7 * k)) + 2).toNatClampNeg) d) W_5_210 W_5_211 W_1_0 W_5_212 hd_L_at rfl ⟨(Nat.le_of_ble_eq_true rfl), (Nat.le_of_ble_eq_true rfl)⟩ (Nat.le_of_ble_eq_true rfl) rfl dL_law_1002 hc hs (fun r u hp => ?_)
  obtain ⟨rfl, d2, ha⟩ := hp
  refine ol_istore C (L2 := [(5, .int (nI (opAt h (xs ((nI (7 * k)) + 1).toNatClampNeg) (xs ((nI (7 * k)) + 2).toNatClampNeg)).1)), (4, .int (nI (7 * k))), (0, .ref b), (1, .ref (ad 0)), (2, .ref (ad2 0)), (3, .ref (ad 141))]) dL_law_1005 (by decide) rfl ?_
  refine ol_aload_n C 4 dL_law_1007 rfl rfl ?_
  refine ol_aload_n C 2 dL_law_1008 rfl rfl ?_
  refine ol_iload C 1 dL_law_1009 rfl ?_
  refine ol_iconst C (v := 1) dL_law_1011 (by decide) ?_
  refine ol_iadd C dL_law_1012 ?_
  refine ol_sld C (vinL hL hk 1 rfl (by decide)) dL_law_1013 ?_
  refine ol_aload_n C 2 dL_law_1014 rfl rfl ?_
  refine ol_iload C 1 dL_law_1015 rfl ?_
  refine ol_iconst C (v := 2) dL_law_1017 (by decide) ?_
  refine ol_iadd C dL_law_1018 ?_
  refine ol_sld C (vinL hL hk 2 rfl (by decide)) dL_law_1019 ?_
  refine ol_callMi C (As := [.int (xs ((nI (7 * k)) + 1).toNatClampNeg), .int (xs ((nI (7 * k)) + 2).toNatClampNeg)]) (rest := []) rfl (c_X8_at (oM_k E ad2) (xs ((nI (7 * k)) + 1).toNatClampNeg) (xs ((nI (7 * k)) + 2).toNatClampNeg) τ (fun x v => MI h v ∧ v.1 0 0 = nI (opAt h (xs ((nI (7 * k)) + 1).toNatClampNeg) (xs ((nI (7 * k)) + 2).toNatClampNeg)).1 ∧ x = (opAt h (xs ((nI (7 * k)) + 1).toNatClampNeg) (xs ((nI (7 * k)) + 2).toNatClampNeg)).2) (k_at m (fun t a b => ⟨a, b, rfl⟩))) W_7_93 W_7_94 W_7_95 W_7_96 W_1_28 hd_X8_at rfl ⟨(Nat.le_of_ble_eq_true rfl), (Nat.le_of_ble_eq_true rfl)⟩ (Nat.le_of_ble_eq_true rfl) rfl dL_law_1020 (Nat.le_of_lt_succ (Nat.lt_of_le_of_lt hc (by decide))) (Nat.le_of_lt_succ (Nat.lt_of_le_of_lt hs (by decide))) (fun r2 v hq => ?_)
  obtain ⟨m2, e2, rfl⟩ := hq
  refine ol_istore C (L2 := [(6, .int (opAt h (xs ((nI (7 * k)) + 1).toNatClampNeg) (xs ((nI (7 * k)) + 2).toNatClampNeg)).2), (5, .int (nI (opAt h (xs ((nI (7 * k)) + 1).toNatClampNeg) (xs ((nI (7 * k)) + 2).toNatClampNeg)).1)), (4, .int (nI (7 * k))), (0, .ref b), (1, .ref (ad 0)), (2, .ref (ad2 0)), (3, .ref (ad 141))]) dL_law_1023 (by decide) rfl ?_
  refine ol_aload_n C 5 dL_law_1025 rfl rfl ?_
  refine ol_callMi C (As := []) rfl (c_X8_thrown (oM_k E ad2) v (fun x t => x = v.1 0 0 ∧ t = v) ⟨rfl, rfl⟩) W_7_4 W_7_5 W_7_6 W_7_7 W_1_28 hd_X8_thrown rfl ⟨(Nat.le_of_ble_eq_true rfl), (Nat.le_of_ble_eq_true rfl)⟩ (Nat.le_of_ble_eq_true rfl) rfl dL_law_1026 (Nat.le_of_lt_succ (Nat.lt_of_le_of_lt hc (by decide))) (Nat.le_of_lt_succ (Nat.lt_of_le_of_lt hs (by decide))) (fun r4 t hq2 => ?_)
  obtain ⟨e3, e4⟩ := hq2
  subst e4
  rw [e3, e2]
  refine ol_iload C 1 dL_law_1029 rfl ?_
  refine ol_icmp_eq C 1036 dL_law_1031 rfl (fun _ => ?_) (fun hne => absurd rfl hne)
  refine ol_iload C 1 dL_law_1036 rfl ?_
  refine ol_if_ne C 1053 dL_law_1038 rfl (fun _ => ?_) (fun e0 => ?_)
  · exact ol_goto C 1180 dL_law_1053 rfl (ol_sub [2, 3, 4, 5, 6] rfl (IH _ _ _ d2 m2))
  have c0 := ha (nI_z (le3_at _ _ _) e0)
  refine ol_aload_n C 6 dL_law_1041 rfl rfl ?_
  refine ol_iconst C (v := 0) dL_law_1042 (by decide) ?_
  refine ol_lald C dL_law_1043 ?_
  rw [c0]
  refine ol_iload C 0 dL_law_1044 rfl ?_
  refine ol_i2l C dL_law_1046 ?_
  refine ol_lcmp C dL_law_1047 ?_
  refine ol_if_eq C 1053 dL_law_1048 rfl (fun _ => ?_) (fun hne => absurd (by rw [lg_cmp_eq]) hne)
  exact ol_goto C 1180 dL_law_1053 rfl (ol_sub [2, 3, 4, 5, 6] rfl (IH _ _ _ d2 m2))
set_option maxRecDepth 100000 in
set_option maxHeartbeats 4000000 in
theorem law_balance {Γ : Gm} {E : Ev} {b Ln : Nat} {xs : Nat → Int32} {l0 : Launch} (C : Kl Γ E b Ln xs l0) (hst : l0.stackTraces = false) {ad ad2 : Nat → Nat} {kc ks k : Nat} {σ τ : Sg} {h : Hs} (d : DI h σ) (m : MI h τ) (hL : Ln ≤ 3584) (hk : 7 * k + 7 ≤ Ln) (hc : kc + 1 ≤ 601024) (hs : ks + 6 ≤ 7293034) (IH : ∀ (h2 : Hs) (u v : Sg), DI h2 u → MI h2 v → OC Γ E (kc + 1) (ks + 6) 8 1180 [(4, .int (nI (7 * k))), (0, .ref b), (1, .ref (ad 0)), (2, .ref (ad2 0)), (3, .ref (ad 141))] [] (W2 E ad ad2 u v)) : OC Γ E kc ks 8 1056 [(4, .int (nI (7 * k))), (0, .ref b), (1, .ref (ad 0)), (2, .ref (ad2 0)), (3, .ref (ad 141))] [] (W2 E ad ad2 σ τ) := by
  refine ol_aload_n C 2 dL_law_1056 rfl rfl ?_
  refine ol_aload_n C 1 dL_law_1057 rfl rfl ?_
  refine ol_iload C 0 dL_law_1058 rfl ?_
  refine ol_iconst C (v := 1) dL_law_1060 (by decide) ?_
  refine ol_iadd C dL_law_1061 ?_
  refine ol_sld C (vinL hL hk 1 rfl (by decide)) dL_law_1062 ?_
  refine ol_aload_n C 1 dL_law_1063 rfl rfl ?_
  refine ol_iload C 0 dL_law_1064 rfl ?_
  refine ol_iconst C (v := 2) dL_law_1066 (by decide) ?_
  refine ol_iadd C dL_law_1067 ?_
  refine ol_sld C (vinL hL hk 2 rfl (by decide)) dL_law_1068 ?_
  refine ol_aload_n C 4 dL_law_1069 rfl rfl ?_
  refine ol_callW C (As := [.ref (ad 0), .int (xs ((nI (7 * k)) + 1).toNatClampNeg), .int (xs ((nI (7 * k)) + 2).toNatClampNeg), .ref (ad 141)]) (rest := []) (w_balance (oW_k E ad) hst (xs ((nI (7 * k)) + 1).toNatClampNeg) (xs ((nI (7 * k)) + 2).toNatClampNeg) d) W_5_217 W_5_218 W_1_0 W_5_219 hd_L_balance rfl ⟨(Nat.le_of_ble_eq_true rfl), (Nat.le_of_ble_eq_true rfl)⟩ (Nat.le_of_ble_eq_true rfl) rfl dL_law_1070 hc hs (fun r u hp => ?_)
  obtain ⟨rfl, d2, ha⟩ := hp
  refine ol_istore C (L2 := [(5, .int (nI (opBalance h (xs ((nI (7 * k)) + 1).toNatClampNeg) (xs ((nI (7 * k)) + 2).toNatClampNeg)).1)), (4, .int (nI (7 * k))), (0, .ref b), (1, .ref (ad 0)), (2, .ref (ad2 0)), (3, .ref (ad 141))]) dL_law_1073 (by decide) rfl ?_
  refine ol_aload_n C 4 dL_law_1075 rfl rfl ?_
  refine ol_aload_n C 2 dL_law_1076 rfl rfl ?_
  refine ol_iload C 1 dL_law_1077 rfl ?_
  refine ol_iconst C (v := 1) dL_law_1079 (by decide) ?_
  refine ol_iadd C dL_law_1080 ?_
  refine ol_sld C (vinL hL hk 1 rfl (by decide)) dL_law_1081 ?_
  refine ol_aload_n C 2 dL_law_1082 rfl rfl ?_
  refine ol_iload C 1 dL_law_1083 rfl ?_
  refine ol_iconst C (v := 2) dL_law_1085 (by decide) ?_
  refine ol_iadd C dL_law_1086 ?_
  refine ol_sld C (vinL hL hk 2 rfl (by decide)) dL_law_1087 ?_
  refine ol_callMi C (As := [.int (xs ((nI (7 * k)) + 1).toNatClampNeg), .int (xs ((nI (7 * k)) + 2).toNatClampNeg)]) (rest := []) rfl (c_X8_balance (oM_k E ad2) (xs ((nI (7 * k)) + 1).toNatClampNeg) (xs ((nI (7 * k)) + 2).toNatClampNeg) τ (fun x v => MI h v ∧ v.1 0 0 = nI (opBalance h (xs ((nI (7 * k)) + 1).toNatClampNeg) (xs ((nI (7 * k)) + 2).toNatClampNeg)).1 ∧ x = (opBalance h (xs ((nI (7 * k)) + 1).toNatClampNeg) (xs ((nI (7 * k)) + 2).toNatClampNeg)).2) (k_balance m (fun t a b => ⟨a, b, rfl⟩))) W_7_97 W_7_98 W_7_99 W_7_100 W_1_28 hd_X8_balance rfl ⟨(Nat.le_of_ble_eq_true rfl), (Nat.le_of_ble_eq_true rfl)⟩ (Nat.le_of_ble_eq_true rfl) rfl dL_law_1088 (Nat.le_of_lt_succ (Nat.lt_of_le_of_lt hc (by decide))) (Nat.le_of_lt_succ (Nat.lt_of_le_of_lt hs (by decide))) (fun r2 v hq => ?_)
  obtain ⟨m2, e2, rfl⟩ := hq
  refine ol_istore C (L2 := [(6, .int (opBalance h (xs ((nI (7 * k)) + 1).toNatClampNeg) (xs ((nI (7 * k)) + 2).toNatClampNeg)).2), (5, .int (nI (opBalance h (xs ((nI (7 * k)) + 1).toNatClampNeg) (xs ((nI (7 * k)) + 2).toNatClampNeg)).1)), (4, .int (nI (7 * k))), (0, .ref b), (1, .ref (ad 0)), (2, .ref (ad2 0)), (3, .ref (ad 141))]) dL_law_1091 (by decide) rfl ?_
  refine ol_aload_n C 5 dL_law_1093 rfl rfl ?_
  refine ol_callMi C (As := []) rfl (c_X8_thrown (oM_k E ad2) v (fun x t => x = v.1 0 0 ∧ t = v) ⟨rfl, rfl⟩) W_7_4 W_7_5 W_7_6 W_7_7 W_1_28 hd_X8_thrown rfl ⟨(Nat.le_of_ble_eq_true rfl), (Nat.le_of_ble_eq_true rfl)⟩ (Nat.le_of_ble_eq_true rfl) rfl dL_law_1094 (Nat.le_of_lt_succ (Nat.lt_of_le_of_lt hc (by decide))) (Nat.le_of_lt_succ (Nat.lt_of_le_of_lt hs (by decide))) (fun r4 t hq2 => ?_)
  obtain ⟨e3, e4⟩ := hq2
  subst e4
  rw [e3, e2]
  refine ol_iload C 1 dL_law_1097 rfl ?_
  refine ol_icmp_eq C 1104 dL_law_1099 rfl (fun _ => ?_) (fun hne => absurd rfl hne)
  refine ol_iload C 1 dL_law_1104 rfl ?_
  refine ol_if_ne C 1121 dL_law_1106 rfl (fun _ => ?_) (fun e0 => ?_)
  · exact ol_goto C 1180 dL_law_1121 rfl (ol_sub [2, 3, 4, 5, 6] rfl (IH _ _ _ d2 m2))
  have c0 := ha (nI_z (le3_balance _ _ _) e0)
  refine ol_aload_n C 6 dL_law_1109 rfl rfl ?_
  refine ol_iconst C (v := 0) dL_law_1110 (by decide) ?_
  refine ol_lald C dL_law_1111 ?_
  rw [c0]
  refine ol_iload C 0 dL_law_1112 rfl ?_
  refine ol_i2l C dL_law_1114 ?_
  refine ol_lcmp C dL_law_1115 ?_
  refine ol_if_eq C 1121 dL_law_1116 rfl (fun _ => ?_) (fun hne => absurd (by rw [lg_cmp_eq]) hne)
  exact ol_goto C 1180 dL_law_1121 rfl (ol_sub [2, 3, 4, 5, 6] rfl (IH _ _ _ d2 m2))
set_option maxRecDepth 100000 in
set_option maxHeartbeats 4000000 in
theorem law_count {Γ : Gm} {E : Ev} {b Ln : Nat} {xs : Nat → Int32} {l0 : Launch} (C : Kl Γ E b Ln xs l0) (hst : l0.stackTraces = false) {ad ad2 : Nat → Nat} {kc ks k : Nat} {σ τ : Sg} {h : Hs} (d : DI h σ) (m : MI h τ) (hL : Ln ≤ 3584) (hk : 7 * k + 7 ≤ Ln) (hc : kc + 1 ≤ 601024) (hs : ks + 6 ≤ 7293034) (IH : ∀ (h2 : Hs) (u v : Sg), DI h2 u → MI h2 v → OC Γ E (kc + 1) (ks + 6) 8 1180 [(4, .int (nI (7 * k))), (0, .ref b), (1, .ref (ad 0)), (2, .ref (ad2 0)), (3, .ref (ad 141))] [] (W2 E ad ad2 u v)) : OC Γ E kc ks 8 1124 [(4, .int (nI (7 * k))), (0, .ref b), (1, .ref (ad 0)), (2, .ref (ad2 0)), (3, .ref (ad 141))] [] (W2 E ad ad2 σ τ) := by
  refine ol_aload_n C 2 dL_law_1124 rfl rfl ?_
  refine ol_aload_n C 1 dL_law_1125 rfl rfl ?_
  refine ol_iload C 0 dL_law_1126 rfl ?_
  refine ol_iconst C (v := 1) dL_law_1128 (by decide) ?_
  refine ol_iadd C dL_law_1129 ?_
  refine ol_sld C (vinL hL hk 1 rfl (by decide)) dL_law_1130 ?_
  refine ol_aload_n C 4 dL_law_1131 rfl rfl ?_
  refine ol_callW C (As := [.ref (ad 0), .int (xs ((nI (7 * k)) + 1).toNatClampNeg), .ref (ad 141)]) (rest := []) (w_count (oW_k E ad) hst (xs ((nI (7 * k)) + 1).toNatClampNeg) d) W_5_224 W_5_225 W_1_0 W_5_226 hd_L_count rfl ⟨(Nat.le_of_ble_eq_true rfl), (Nat.le_of_ble_eq_true rfl)⟩ (Nat.le_of_ble_eq_true rfl) rfl dL_law_1132 hc hs (fun r u hp => ?_)
  obtain ⟨rfl, d2, ha⟩ := hp
  refine ol_istore C (L2 := [(5, .int (nI (opCount h (xs ((nI (7 * k)) + 1).toNatClampNeg)).1)), (4, .int (nI (7 * k))), (0, .ref b), (1, .ref (ad 0)), (2, .ref (ad2 0)), (3, .ref (ad 141))]) dL_law_1135 (by decide) rfl ?_
  refine ol_aload_n C 4 dL_law_1137 rfl rfl ?_
  refine ol_aload_n C 2 dL_law_1138 rfl rfl ?_
  refine ol_iload C 1 dL_law_1139 rfl ?_
  refine ol_iconst C (v := 1) dL_law_1141 (by decide) ?_
  refine ol_iadd C dL_law_1142 ?_
  refine ol_sld C (vinL hL hk 1 rfl (by decide)) dL_law_1143 ?_
  refine ol_callMi C (As := [.int (xs ((nI (7 * k)) + 1).toNatClampNeg)]) (rest := []) rfl (c_X8_count (oM_k E ad2) (xs ((nI (7 * k)) + 1).toNatClampNeg) τ (fun x v => MI h v ∧ v.1 0 0 = nI (opCount h (xs ((nI (7 * k)) + 1).toNatClampNeg)).1 ∧ x = (opCount h (xs ((nI (7 * k)) + 1).toNatClampNeg)).2) ⟨h, m, fun t a b => ⟨a, b, rfl⟩⟩) W_7_101 W_7_102 W_7_103 W_7_104 W_1_28 hd_X8_count rfl ⟨(Nat.le_of_ble_eq_true rfl), (Nat.le_of_ble_eq_true rfl)⟩ (Nat.le_of_ble_eq_true rfl) rfl dL_law_1144 (Nat.le_of_lt_succ (Nat.lt_of_le_of_lt hc (by decide))) (Nat.le_of_lt_succ (Nat.lt_of_le_of_lt hs (by decide))) (fun r2 v hq => ?_)
  obtain ⟨m2, e2, rfl⟩ := hq
  refine ol_istore C (L2 := [(6, .int (opCount h (xs ((nI (7 * k)) + 1).toNatClampNeg)).2), (5, .int (nI (opCount h (xs ((nI (7 * k)) + 1).toNatClampNeg)).1)), (4, .int (nI (7 * k))), (0, .ref b), (1, .ref (ad 0)), (2, .ref (ad2 0)), (3, .ref (ad 141))]) dL_law_1147 (by decide) rfl ?_
  refine ol_aload_n C 5 dL_law_1149 rfl rfl ?_
  refine ol_callMi C (As := []) rfl (c_X8_thrown (oM_k E ad2) v (fun x t => x = v.1 0 0 ∧ t = v) ⟨rfl, rfl⟩) W_7_4 W_7_5 W_7_6 W_7_7 W_1_28 hd_X8_thrown rfl ⟨(Nat.le_of_ble_eq_true rfl), (Nat.le_of_ble_eq_true rfl)⟩ (Nat.le_of_ble_eq_true rfl) rfl dL_law_1150 (Nat.le_of_lt_succ (Nat.lt_of_le_of_lt hc (by decide))) (Nat.le_of_lt_succ (Nat.lt_of_le_of_lt hs (by decide))) (fun r4 t hq2 => ?_)
  obtain ⟨e3, e4⟩ := hq2
  subst e4
  rw [e3, e2]
  refine ol_iload C 1 dL_law_1153 rfl ?_
  refine ol_icmp_eq C 1160 dL_law_1155 rfl (fun _ => ?_) (fun hne => absurd rfl hne)
  refine ol_iload C 1 dL_law_1160 rfl ?_
  refine ol_if_ne C 1177 dL_law_1162 rfl (fun _ => ?_) (fun e0 => ?_)
  · exact ol_goto C 1180 dL_law_1177 rfl (ol_sub [2, 3, 4, 5, 6] rfl (IH _ _ _ d2 m2))
  have c0 := ha (nI_z (le3_count _ _) e0)
  refine ol_aload_n C 6 dL_law_1165 rfl rfl ?_
  refine ol_iconst C (v := 0) dL_law_1166 (by decide) ?_
  refine ol_lald C dL_law_1167 ?_
  rw [c0]
  refine ol_iload C 0 dL_law_1168 rfl ?_
  refine ol_i2l C dL_law_1170 ?_
  refine ol_lcmp C dL_law_1171 ?_
  refine ol_if_eq C 1177 dL_law_1172 rfl (fun _ => ?_) (fun hne => absurd (by rw [lg_cmp_eq]) hne)
  exact ol_goto C 1180 dL_law_1177 rfl (ol_sub [2, 3, 4, 5, 6] rfl (IH _ _ _ d2 m2))
