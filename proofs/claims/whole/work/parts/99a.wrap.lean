/-! ===== the law's small methods ===== -/
theorem opSees_one {h : Hs} (x1 x2 x3 : Int32) {r : Int32} (er : r = (opSees h x1 x2 x3).2) (hr : ¬ r = 0) : (opSees h x1 x2 x3).2 = 1 := by
  subst er
  unfold opSees at hr ⊢
  cases h1 : nd (hN h) x1 with
  | none => rw [h1] at hr; exact absurd rfl hr
  | some a =>
    cases h2 : nd (hN h) x2 with
    | none => rw [h1, h2] at hr; exact absurd rfl hr
    | some b =>
      rw [h1, h2] at hr
      have hr : ¬ bI (if x3 = 0 then see (hg h) a b else str (hg h) a b) = 0 := hr
      show bI (if x3 = 0 then see (hg h) a b else str (hg h) a b) = 1
      rw [(bI_1 _).mp hr]
      rfl
set_option maxRecDepth 100000 in
set_option maxHeartbeats 4000000 in
theorem w_begin {l : Launch} {Ω : Wm} (hk : Hk Ω kW) (hst : l.stackTraces = false) {h : Hs} (x1 : Int32) {σ : Sg} (d : DI h σ) : CTw l yL_begin cL_begin 3 [(0, 5, 8, 13)] 8 202 Ω [.ref (Ω.2.2.1 0), .int x1] σ (fun r u => r = nI (opBegin h x1).1 ∧ DI (opBegin h x1).2 u) := by
  have same : ∀ c : Nat, (opBegin h x1).1 = c → c ≠ 0 → (opBegin h x1).2 = h := fun c e hc => by
    rcases opBegin_same h x1 with z | z
    · omega
    · exact z
  have hsp : sp_X7_begin x1 σ (fun (u : Sg) => (opBegin h x1).1 = 0 ∧ DI (opBegin h x1).2 u) (fun (E : String) (u : Sg) => DI (opBegin h x1).2 u ∧ ((E = xIA ∧ (opBegin h x1).1 = 1))) := g_begin d (fun e τ dt => ⟨e, dt⟩) (fun e => ⟨(same 1 e (by decide)).symm ▸ d, ⟨rfl, e⟩⟩)
  refine CTw.of (by decide +kernel) (Nat.le_of_ble_eq_true rfl) (fun Γ C => ?_)
  refine ow_sub (L2 := [(0, .ref (Ω.2.2.1 0)), (1, .int x1)]) [0, 1] rfl ?_
  refine ow_aload_n C 0 dL_begin_0 rfl rfl ?_
  refine ow_iload_n C 1 dL_begin_1 rfl rfl ?_
  refine ow_callVv C (As := [.int x1]) (rest := []) (q := 0) (ci := 7) (kat hk kW_0) rfl (c_X7_begin (kW_d hk) hst x1 σ _ _ hsp) W_4_183 W_4_184 W_4_185 W_4_186 W_1_1 hd_X7_begin rfl ⟨(Nat.le_of_ble_eq_true rfl), (Nat.le_of_ble_eq_true rfl)⟩ (Nat.le_of_ble_eq_true rfl) rfl dL_begin_2 (fun E u hE => ?_) (fun u hu => ?_)
  · obtain ⟨du, hE⟩ := hE
    obtain ⟨rfl, e⟩ := hE
    refine ⟨[], (⟨0, 5, 8, 13⟩ : ExceptionTableEntry), [], xIA, rfl, (fun z hz => absurd hz List.not_mem_nil), by decide, by decide, W_4_182, cs_IA, fun a => ?_⟩
    refine ow_astore_n C (i := 2) dL_begin_8 rfl (by decide) rfl ?_
    refine ow_iconst C (v := 1) dL_begin_9 (by decide) ?_
    exact ow_iret C dL_begin_10 ⟨by rw [e]; rfl, du⟩
  · obtain ⟨e, du⟩ := hu
    refine ow_goto C 11 dL_begin_5 rfl ?_
    refine ow_iconst C (v := 0) dL_begin_11 (by decide) ?_
    exact ow_iret C dL_begin_12 ⟨by rw [e]; rfl, du⟩
set_option maxRecDepth 100000 in
set_option maxHeartbeats 4000000 in
theorem w_submit {l : Launch} {Ω : Wm} (hk : Hk Ω kW) (hst : l.stackTraces = false) {h : Hs} (x1 : Int32) (x2 : Int32) (x3 : Int32) {σ : Sg} (d : DI h σ) : CTw l yL_submit cL_submit 6 [(0, 12, 15, 13), (0, 12, 19, 19)] 7 113 Ω [.ref (Ω.2.2.1 0), .int x1, .int x2, .int x3, .ref (Ω.2.2.1 141)] σ (Pw (opSubmit h x1 x2 x3).1 (opSubmit h x1 x2 x3).2.2 (opSubmit h x1 x2 x3).2.1.toInt64) := by
  have same : ∀ c : Nat, (opSubmit h x1 x2 x3).1 = c → c ≠ 0 → (opSubmit h x1 x2 x3).2.2 = h := fun c e hc => by
    rcases opSubmit_same h x1 x2 x3 with z | z
    · omega
    · exact z
  have hsp : sp_X7_submit x1 x2 x3 σ (fun (r : Int32) (u : Sg) => (opSubmit h x1 x2 x3).1 = 0 ∧ r = (opSubmit h x1 x2 x3).2.1 ∧ DI (opSubmit h x1 x2 x3).2.2 u) (fun (E : String) (u : Sg) => DI (opSubmit h x1 x2 x3).2.2 u ∧ ((E = xIA ∧ (opSubmit h x1 x2 x3).1 = 1) ∨ (E = xIO ∧ (opSubmit h x1 x2 x3).1 = 2))) := g_submit d (fun e τ dt => ⟨e, rfl, dt⟩) (fun e => ⟨(same 1 e (by decide)).symm ▸ d, Or.inl ⟨rfl, e⟩⟩) (fun e => ⟨(same 2 e (by decide)).symm ▸ d, Or.inr (⟨rfl, e⟩)⟩)
  refine CTw.of (by decide +kernel) (Nat.le_of_ble_eq_true rfl) (fun Γ C => ?_)
  refine ow_sub (L2 := [(0, .ref (Ω.2.2.1 0)), (1, .int x1), (2, .int x2), (3, .int x3), (4, .ref (Ω.2.2.1 141))]) [0, 1, 2, 3, 4] rfl ?_
  refine ow_aload C 4 dL_submit_0 rfl ?_
  refine ow_iconst C (v := 0) dL_submit_2 (by decide) ?_
  refine ow_aload_n C 0 dL_submit_3 rfl rfl ?_
  refine ow_iload_n C 1 dL_submit_4 rfl rfl ?_
  refine ow_iload_n C 2 dL_submit_5 rfl rfl ?_
  refine ow_iload_n C 3 dL_submit_6 rfl rfl ?_
  refine ow_callVi C (As := [.int x1, .int x2, .int x3]) (rest := [.int 0, .ref (Ω.2.2.1 141)]) (q := 0) (ci := 7) (kat hk kW_0) rfl (c_X7_submit (kW_d hk) hst x1 x2 x3 σ _ _ hsp) W_4_202 W_4_203 W_4_204 W_4_205 W_1_1 hd_X7_submit rfl ⟨(Nat.le_of_ble_eq_true rfl), (Nat.le_of_ble_eq_true rfl)⟩ (Nat.le_of_ble_eq_true rfl) rfl dL_submit_7 (fun E u hE => ?_) (fun r u hu => ?_)
  · obtain ⟨du, hE⟩ := hE
    rcases hE with ⟨rfl, e⟩ | ⟨rfl, e⟩
    · refine ⟨[], (⟨0, 12, 15, 13⟩ : ExceptionTableEntry), [(⟨0, 12, 19, 19⟩ : ExceptionTableEntry)], xIA, rfl, (fun z hz => absurd hz List.not_mem_nil), by decide, by decide, W_4_182, cs_IA, fun a => ?_⟩
      refine ow_astore C dL_submit_15 (by decide) rfl ?_
      refine ow_iconst C (v := 1) dL_submit_17 (by decide) ?_
      exact ow_iret C dL_submit_18 ⟨by rw [e]; rfl, du, fun z => by rw [e] at z; cases z⟩
    · refine ⟨[(⟨0, 12, 15, 13⟩ : ExceptionTableEntry)], (⟨0, 12, 19, 19⟩ : ExceptionTableEntry), [], xIO, rfl, (fun z hz => by simp only [List.mem_cons, List.not_mem_nil, or_false] at hz; subst hz; exact Or.inr ⟨by decide, _, W_4_182, List.mem_of_getElem? (i := 0) rfl⟩), by decide, by decide, W_4_201, cs_IO, fun a => ?_⟩
      refine ow_astore C dL_submit_19 (by decide) rfl ?_
      refine ow_iconst C (v := 2) dL_submit_21 (by decide) ?_
      exact ow_iret C dL_submit_22 ⟨by rw [e]; rfl, du, fun z => by rw [e] at z; cases z⟩
  · obtain ⟨e, rfl, du⟩ := hu
    refine ow_i2l C dL_submit_10 ?_
    refine ow_last C (q := 141) (kat hk kW_141) (vp_in_nI (n := 0) (by decide) (by decide)) dL_submit_11 ?_
    refine ow_goto C 23 dL_submit_12 rfl ?_
    refine ow_iconst C (v := 0) dL_submit_23 (by decide) ?_
    exact ow_iret C dL_submit_24 ⟨by rw [e]; rfl, di_out du _, fun _ => (pJ_at _ _ _ _ _ _).trans (if_pos ⟨rfl, rfl⟩)⟩
set_option maxRecDepth 100000 in
set_option maxHeartbeats 4000000 in
theorem w_sync {l : Launch} {Ω : Wm} (hk : Hk Ω kW) (hst : l.stackTraces = false) {h : Hs} (x1 : Int32) (x2 : Int32) (x3 : Int64) {σ : Sg} (d : DI h σ) : CTw l yL_sync cL_sync 7 [(0, 12, 15, 13), (0, 12, 19, 19)] 7 184 Ω [.ref (Ω.2.2.1 0), .int x1, .int x2, .long x3, .ref (Ω.2.2.1 141)] σ (Pw (opSync h x1 x2 x3).1 (opSync h x1 x2 x3).2.2 (opSync h x1 x2 x3).2.1.toInt64) := by
  have same : ∀ c : Nat, (opSync h x1 x2 x3).1 = c → c ≠ 0 → (opSync h x1 x2 x3).2.2 = h := fun c e hc => by
    rcases opSync_same h x1 x2 x3 with z | z
    · omega
    · exact z
  have hsp : sp_X7_sync x1 x2 x3 σ (fun (r : Int32) (u : Sg) => (opSync h x1 x2 x3).1 = 0 ∧ r = (opSync h x1 x2 x3).2.1 ∧ DI (opSync h x1 x2 x3).2.2 u) (fun (E : String) (u : Sg) => DI (opSync h x1 x2 x3).2.2 u ∧ ((E = xIA ∧ (opSync h x1 x2 x3).1 = 1) ∨ (E = xIO ∧ (opSync h x1 x2 x3).1 = 2))) := g_sync d (fun e τ dt => ⟨e, rfl, dt⟩) (fun e => ⟨(same 1 e (by decide)).symm ▸ d, Or.inl ⟨rfl, e⟩⟩) (fun e => ⟨(same 2 e (by decide)).symm ▸ d, Or.inr (⟨rfl, e⟩)⟩)
  refine CTw.of (by decide +kernel) (Nat.le_of_ble_eq_true rfl) (fun Γ C => ?_)
  refine ow_sub (L2 := [(0, .ref (Ω.2.2.1 0)), (1, .int x1), (2, .int x2), (3, .long x3), (5, .ref (Ω.2.2.1 141))]) [0, 1, 2, 3, 4] rfl ?_
  refine ow_aload C 4 dL_sync_0 rfl ?_
  refine ow_iconst C (v := 0) dL_sync_2 (by decide) ?_
  refine ow_aload_n C 0 dL_sync_3 rfl rfl ?_
  refine ow_iload_n C 1 dL_sync_4 rfl rfl ?_
  refine ow_iload_n C 2 dL_sync_5 rfl rfl ?_
  refine ow_lload_n C 3 dL_sync_6 rfl rfl ?_
  refine ow_callVi C (As := [.int x1, .int x2, .long x3]) (rest := [.int 0, .ref (Ω.2.2.1 141)]) (q := 0) (ci := 7) (kat hk kW_0) rfl (c_X7_sync (kW_d hk) hst x1 x2 x3 σ _ _ hsp) W_4_237 W_4_238 W_4_239 W_5_0 W_1_1 hd_X7_sync rfl ⟨(Nat.le_of_ble_eq_true rfl), (Nat.le_of_ble_eq_true rfl)⟩ (Nat.le_of_ble_eq_true rfl) rfl dL_sync_7 (fun E u hE => ?_) (fun r u hu => ?_)
  · obtain ⟨du, hE⟩ := hE
    rcases hE with ⟨rfl, e⟩ | ⟨rfl, e⟩
    · refine ⟨[], (⟨0, 12, 15, 13⟩ : ExceptionTableEntry), [(⟨0, 12, 19, 19⟩ : ExceptionTableEntry)], xIA, rfl, (fun z hz => absurd hz List.not_mem_nil), by decide, by decide, W_4_182, cs_IA, fun a => ?_⟩
      refine ow_astore C dL_sync_15 (by decide) rfl ?_
      refine ow_iconst C (v := 1) dL_sync_17 (by decide) ?_
      exact ow_iret C dL_sync_18 ⟨by rw [e]; rfl, du, fun z => by rw [e] at z; cases z⟩
    · refine ⟨[(⟨0, 12, 15, 13⟩ : ExceptionTableEntry)], (⟨0, 12, 19, 19⟩ : ExceptionTableEntry), [], xIO, rfl, (fun z hz => by simp only [List.mem_cons, List.not_mem_nil, or_false] at hz; subst hz; exact Or.inr ⟨by decide, _, W_4_182, List.mem_of_getElem? (i := 0) rfl⟩), by decide, by decide, W_4_201, cs_IO, fun a => ?_⟩
      refine ow_astore C dL_sync_19 (by decide) rfl ?_
      refine ow_iconst C (v := 2) dL_sync_21 (by decide) ?_
      exact ow_iret C dL_sync_22 ⟨by rw [e]; rfl, du, fun z => by rw [e] at z; cases z⟩
  · obtain ⟨e, rfl, du⟩ := hu
    refine ow_i2l C dL_sync_10 ?_
    refine ow_last C (q := 141) (kat hk kW_141) (vp_in_nI (n := 0) (by decide) (by decide)) dL_sync_11 ?_
    refine ow_goto C 23 dL_sync_12 rfl ?_
    refine ow_iconst C (v := 0) dL_sync_23 (by decide) ?_
    exact ow_iret C dL_sync_24 ⟨by rw [e]; rfl, di_out du _, fun _ => (pJ_at _ _ _ _ _ _).trans (if_pos ⟨rfl, rfl⟩)⟩
set_option maxRecDepth 100000 in
set_option maxHeartbeats 4000000 in
theorem w_inject {l : Launch} {Ω : Wm} (hk : Hk Ω kW) (hst : l.stackTraces = false) {h : Hs} (x1 : Int32) (x2 : Int32) (x3 : Int32) (x4 : Int32) (x5 : Int64) {σ : Sg} (d : DI h σ) : CTw l yL_inject cL_inject 9 [(0, 16, 19, 13), (0, 16, 23, 29), (0, 16, 27, 19)] 7 186 Ω [.ref (Ω.2.2.1 0), .int x1, .int x2, .int x3, .int x4, .long x5, .ref (Ω.2.2.1 141)] σ (Pw (opInject h x1 x2 x3 x4 x5).1 (opInject h x1 x2 x3 x4 x5).2.2 (opInject h x1 x2 x3 x4 x5).2.1.toInt64) := by
  have same : ∀ c : Nat, (opInject h x1 x2 x3 x4 x5).1 = c → c ≠ 0 → (opInject h x1 x2 x3 x4 x5).2.2 = h := fun c e hc => by
    rcases opInject_same h x1 x2 x3 x4 x5 with z | z
    · omega
    · exact z
  have hsp : sp_X7_inject x1 x2 x3 x4 x5 σ (fun (r : Int32) (u : Sg) => (opInject h x1 x2 x3 x4 x5).1 = 0 ∧ r = (opInject h x1 x2 x3 x4 x5).2.1 ∧ DI (opInject h x1 x2 x3 x4 x5).2.2 u) (fun (E : String) (u : Sg) => DI (opInject h x1 x2 x3 x4 x5).2.2 u ∧ ((E = xIA ∧ (opInject h x1 x2 x3 x4 x5).1 = 1) ∨ (E = xIS ∧ (opInject h x1 x2 x3 x4 x5).1 = 2) ∨ (E = xIO ∧ (opInject h x1 x2 x3 x4 x5).1 = 3))) := g_inject d (fun e τ dt => ⟨e, rfl, dt⟩) (fun e => ⟨(same 1 e (by decide)).symm ▸ d, Or.inl ⟨rfl, e⟩⟩) (fun e => ⟨(same 2 e (by decide)).symm ▸ d, Or.inr (Or.inl ⟨rfl, e⟩)⟩) (fun e => ⟨(same 3 e (by decide)).symm ▸ d, Or.inr (Or.inr (⟨rfl, e⟩))⟩)
  refine CTw.of (by decide +kernel) (Nat.le_of_ble_eq_true rfl) (fun Γ C => ?_)
  refine ow_sub (L2 := [(0, .ref (Ω.2.2.1 0)), (1, .int x1), (2, .int x2), (3, .int x3), (4, .int x4), (5, .long x5), (7, .ref (Ω.2.2.1 141))]) [0, 1, 2, 3, 4, 5, 6] rfl ?_
  refine ow_aload C 6 dL_inject_0 rfl ?_
  refine ow_iconst C (v := 0) dL_inject_2 (by decide) ?_
  refine ow_aload_n C 0 dL_inject_3 rfl rfl ?_
  refine ow_iload_n C 1 dL_inject_4 rfl rfl ?_
  refine ow_iload_n C 2 dL_inject_5 rfl rfl ?_
  refine ow_iload_n C 3 dL_inject_6 rfl rfl ?_
  refine ow_iload C 4 dL_inject_7 rfl ?_
  refine ow_lload C 5 dL_inject_9 rfl ?_
  refine ow_callVi C (As := [.int x1, .int x2, .int x3, .int x4, .long x5]) (rest := [.int 0, .ref (Ω.2.2.1 141)]) (q := 0) (ci := 7) (kat hk kW_0) rfl (c_X7_inject (kW_d hk) hst x1 x2 x3 x4 x5 σ _ _ hsp) W_5_11 W_5_12 W_5_13 W_5_14 W_1_1 hd_X7_inject rfl ⟨(Nat.le_of_ble_eq_true rfl), (Nat.le_of_ble_eq_true rfl)⟩ (Nat.le_of_ble_eq_true rfl) rfl dL_inject_11 (fun E u hE => ?_) (fun r u hu => ?_)
  · obtain ⟨du, hE⟩ := hE
    rcases hE with ⟨rfl, e⟩ | ⟨rfl, e⟩ | ⟨rfl, e⟩
    · refine ⟨[], (⟨0, 16, 19, 13⟩ : ExceptionTableEntry), [(⟨0, 16, 23, 29⟩ : ExceptionTableEntry), (⟨0, 16, 27, 19⟩ : ExceptionTableEntry)], xIA, rfl, (fun z hz => absurd hz List.not_mem_nil), by decide, by decide, W_4_182, cs_IA, fun a => ?_⟩
      refine ow_astore C dL_inject_19 (by decide) rfl ?_
      refine ow_iconst C (v := 1) dL_inject_21 (by decide) ?_
      exact ow_iret C dL_inject_22 ⟨by rw [e]; rfl, du, fun z => by rw [e] at z; cases z⟩
    · refine ⟨[(⟨0, 16, 19, 13⟩ : ExceptionTableEntry)], (⟨0, 16, 23, 29⟩ : ExceptionTableEntry), [(⟨0, 16, 27, 19⟩ : ExceptionTableEntry)], xIS, rfl, (fun z hz => by simp only [List.mem_cons, List.not_mem_nil, or_false] at hz; subst hz; exact Or.inr ⟨by decide, _, W_4_182, List.mem_of_getElem? (i := 1) rfl⟩), by decide, by decide, W_5_10, cs_IS, fun a => ?_⟩
      refine ow_astore C dL_inject_23 (by decide) rfl ?_
      refine ow_iconst C (v := 2) dL_inject_25 (by decide) ?_
      exact ow_iret C dL_inject_26 ⟨by rw [e]; rfl, du, fun z => by rw [e] at z; cases z⟩
    · refine ⟨[(⟨0, 16, 19, 13⟩ : ExceptionTableEntry), (⟨0, 16, 23, 29⟩ : ExceptionTableEntry)], (⟨0, 16, 27, 19⟩ : ExceptionTableEntry), [], xIO, rfl, (fun z hz => by simp only [List.mem_cons, List.not_mem_nil, or_false] at hz; rcases hz with rfl | rfl; exact Or.inr ⟨by decide, _, W_4_182, List.mem_of_getElem? (i := 0) rfl⟩; exact Or.inr ⟨by decide, _, W_5_10, List.mem_of_getElem? (i := 2) rfl⟩), by decide, by decide, W_4_201, cs_IO, fun a => ?_⟩
      refine ow_astore C dL_inject_27 (by decide) rfl ?_
      refine ow_iconst C (v := 3) dL_inject_29 (by decide) ?_
      exact ow_iret C dL_inject_30 ⟨by rw [e]; rfl, du, fun z => by rw [e] at z; cases z⟩
  · obtain ⟨e, rfl, du⟩ := hu
    refine ow_i2l C dL_inject_14 ?_
    refine ow_last C (q := 141) (kat hk kW_141) (vp_in_nI (n := 0) (by decide) (by decide)) dL_inject_15 ?_
    refine ow_goto C 31 dL_inject_16 rfl ?_
    refine ow_iconst C (v := 0) dL_inject_31 (by decide) ?_
    exact ow_iret C dL_inject_32 ⟨by rw [e]; rfl, di_out du _, fun _ => (pJ_at _ _ _ _ _ _).trans (if_pos ⟨rfl, rfl⟩)⟩
set_option maxRecDepth 100000 in
set_option maxHeartbeats 4000000 in
theorem w_event {l : Launch} {Ω : Wm} (hk : Hk Ω kW) (hst : l.stackTraces = false) {h : Hs} (x1 : Int32) (x2 : Int32) {σ : Sg} (d : DI h σ) : CTw l yL_event cL_event 5 [(0, 10, 13, 13), (0, 10, 17, 19)] 7 112 Ω [.ref (Ω.2.2.1 0), .int x1, .int x2, .ref (Ω.2.2.1 141)] σ (Pw (opEvent h x1 x2).1 h (opEvent h x1 x2).2.toInt64) := by
  have hsp : sp_X7_event x1 x2 σ (fun (r : Int32) (u : Sg) => (opEvent h x1 x2).1 = 0 ∧ r = (opEvent h x1 x2).2 ∧ DI h u) (fun (E : String) (u : Sg) => DI h u ∧ ((E = xIA ∧ (opEvent h x1 x2).1 = 1) ∨ (E = xIO ∧ (opEvent h x1 x2).1 = 2))) := g_event d (fun e => ⟨e, rfl, d⟩) (fun e => ⟨d, Or.inl ⟨rfl, e⟩⟩) (fun e => ⟨d, Or.inr (⟨rfl, e⟩)⟩)
  refine CTw.of (by decide +kernel) (Nat.le_of_ble_eq_true rfl) (fun Γ C => ?_)
  refine ow_sub (L2 := [(0, .ref (Ω.2.2.1 0)), (1, .int x1), (2, .int x2), (3, .ref (Ω.2.2.1 141))]) [0, 1, 2, 3] rfl ?_
  refine ow_aload_n C 3 dL_event_0 rfl rfl ?_
  refine ow_iconst C (v := 0) dL_event_1 (by decide) ?_
  refine ow_aload_n C 0 dL_event_2 rfl rfl ?_
  refine ow_iload_n C 1 dL_event_3 rfl rfl ?_
  refine ow_iload_n C 2 dL_event_4 rfl rfl ?_
  refine ow_callVi C (As := [.int x1, .int x2]) (rest := [.int 0, .ref (Ω.2.2.1 141)]) (q := 0) (ci := 7) (kat hk kW_0) rfl (c_X7_event (kW_d hk) hst x1 x2 σ _ _ hsp) W_5_46 W_5_47 W_5_48 W_5_49 W_1_1 hd_X7_event rfl ⟨(Nat.le_of_ble_eq_true rfl), (Nat.le_of_ble_eq_true rfl)⟩ (Nat.le_of_ble_eq_true rfl) rfl dL_event_5 (fun E u hE => ?_) (fun r u hu => ?_)
  · obtain ⟨du, hE⟩ := hE
    rcases hE with ⟨rfl, e⟩ | ⟨rfl, e⟩
    · refine ⟨[], (⟨0, 10, 13, 13⟩ : ExceptionTableEntry), [(⟨0, 10, 17, 19⟩ : ExceptionTableEntry)], xIA, rfl, (fun z hz => absurd hz List.not_mem_nil), by decide, by decide, W_4_182, cs_IA, fun a => ?_⟩
      refine ow_astore C dL_event_13 (by decide) rfl ?_
      refine ow_iconst C (v := 1) dL_event_15 (by decide) ?_
      exact ow_iret C dL_event_16 ⟨by rw [e]; rfl, du, fun z => by rw [e] at z; cases z⟩
    · refine ⟨[(⟨0, 10, 13, 13⟩ : ExceptionTableEntry)], (⟨0, 10, 17, 19⟩ : ExceptionTableEntry), [], xIO, rfl, (fun z hz => by simp only [List.mem_cons, List.not_mem_nil, or_false] at hz; subst hz; exact Or.inr ⟨by decide, _, W_4_182, List.mem_of_getElem? (i := 0) rfl⟩), by decide, by decide, W_4_201, cs_IO, fun a => ?_⟩
      refine ow_astore C dL_event_17 (by decide) rfl ?_
      refine ow_iconst C (v := 2) dL_event_19 (by decide) ?_
      exact ow_iret C dL_event_20 ⟨by rw [e]; rfl, du, fun z => by rw [e] at z; cases z⟩
  · obtain ⟨e, rfl, du⟩ := hu
    refine ow_i2l C dL_event_8 ?_
    refine ow_last C (q := 141) (kat hk kW_141) (vp_in_nI (n := 0) (by decide) (by decide)) dL_event_9 ?_
    refine ow_goto C 21 dL_event_10 rfl ?_
    refine ow_iconst C (v := 0) dL_event_21 (by decide) ?_
    exact ow_iret C dL_event_22 ⟨by rw [e]; rfl, di_out du _, fun _ => (pJ_at _ _ _ _ _ _).trans (if_pos ⟨rfl, rfl⟩)⟩
set_option maxRecDepth 100000 in
set_option maxHeartbeats 4000000 in
theorem w_hash {l : Launch} {Ω : Wm} (hk : Hk Ω kW) (hst : l.stackTraces = false) {h : Hs} (x1 : Int32) (x2 : Int32) {σ : Sg} (d : DI h σ) : CTw l yL_hash cL_hash 5 [(0, 10, 13, 19)] 7 112 Ω [.ref (Ω.2.2.1 0), .int x1, .int x2, .ref (Ω.2.2.1 141)] σ (Pw (opHash h x1 x2).1 h (opHash h x1 x2).2.toInt64) := by
  have hsp : sp_X7_hash x1 x2 σ (fun (r : Int32) (u : Sg) => (opHash h x1 x2).1 = 0 ∧ r = (opHash h x1 x2).2 ∧ DI h u) (fun (E : String) (u : Sg) => DI h u ∧ ((E = xIO ∧ (opHash h x1 x2).1 = 1))) := g_hash d (fun e => ⟨e, rfl, d⟩) (fun e => ⟨d, ⟨rfl, e⟩⟩)
  refine CTw.of (by decide +kernel) (Nat.le_of_ble_eq_true rfl) (fun Γ C => ?_)
  refine ow_sub (L2 := [(0, .ref (Ω.2.2.1 0)), (1, .int x1), (2, .int x2), (3, .ref (Ω.2.2.1 141))]) [0, 1, 2, 3] rfl ?_
  refine ow_aload_n C 3 dL_hash_0 rfl rfl ?_
  refine ow_iconst C (v := 0) dL_hash_1 (by decide) ?_
  refine ow_aload_n C 0 dL_hash_2 rfl rfl ?_
  refine ow_iload_n C 1 dL_hash_3 rfl rfl ?_
  refine ow_iload_n C 2 dL_hash_4 rfl rfl ?_
  refine ow_callVi C (As := [.int x1, .int x2]) (rest := [.int 0, .ref (Ω.2.2.1 141)]) (q := 0) (ci := 7) (kat hk kW_0) rfl (c_X7_hash (kW_d hk) hst x1 x2 σ _ _ hsp) W_5_55 W_5_56 W_5_57 W_5_58 W_1_1 hd_X7_hash rfl ⟨(Nat.le_of_ble_eq_true rfl), (Nat.le_of_ble_eq_true rfl)⟩ (Nat.le_of_ble_eq_true rfl) rfl dL_hash_5 (fun E u hE => ?_) (fun r u hu => ?_)
  · obtain ⟨du, hE⟩ := hE
    obtain ⟨rfl, e⟩ := hE
    refine ⟨[], (⟨0, 10, 13, 19⟩ : ExceptionTableEntry), [], xIO, rfl, (fun z hz => absurd hz List.not_mem_nil), by decide, by decide, W_4_201, cs_IO, fun a => ?_⟩
    refine ow_astore C dL_hash_13 (by decide) rfl ?_
    refine ow_iconst C (v := 1) dL_hash_15 (by decide) ?_
    exact ow_iret C dL_hash_16 ⟨by rw [e]; rfl, du, fun z => by rw [e] at z; cases z⟩
  · obtain ⟨e, rfl, du⟩ := hu
    refine ow_i2l C dL_hash_8 ?_
    refine ow_last C (q := 141) (kat hk kW_141) (vp_in_nI (n := 0) (by decide) (by decide)) dL_hash_9 ?_
    refine ow_goto C 17 dL_hash_10 rfl ?_
    refine ow_iconst C (v := 0) dL_hash_17 (by decide) ?_
    exact ow_iret C dL_hash_18 ⟨by rw [e]; rfl, di_out du _, fun _ => (pJ_at _ _ _ _ _ _).trans (if_pos ⟨rfl, rfl⟩)⟩
set_option maxRecDepth 100000 in
set_option maxHeartbeats 4000000 in
theorem w_sees {l : Launch} {Ω : Wm} (hk : Hk Ω kW) (hst : l.stackTraces = false) {h : Hs} (x1 : Int32) (x2 : Int32) (x3 : Int32) (hz : isZ x3) {σ : Sg} (d : DI h σ) : CTw l yL_sees cL_sees 6 [(0, 19, 22, 19)] 7 113 Ω [.ref (Ω.2.2.1 0), .int x1, .int x2, .int x3, .ref (Ω.2.2.1 141)] σ (Pw (opSees h x1 x2 x3).1 h (opSees h x1 x2 x3).2.toInt64) := by
  have hsp : sp_X7_sees x1 x2 x3 σ (fun (r : Int32) (u : Sg) => (opSees h x1 x2 x3).1 = 0 ∧ r = (opSees h x1 x2 x3).2 ∧ DI h u) (fun (E : String) (u : Sg) => DI h u ∧ ((E = xIO ∧ (opSees h x1 x2 x3).1 = 1))) := g_sees d (fun e => ⟨e, rfl, d⟩) (fun e => ⟨d, ⟨rfl, e⟩⟩)
  refine CTw.of (by decide +kernel) (Nat.le_of_ble_eq_true rfl) (fun Γ C => ?_)
  refine ow_sub (L2 := [(0, .ref (Ω.2.2.1 0)), (1, .int x1), (2, .int x2), (3, .int x3), (4, .ref (Ω.2.2.1 141))]) [0, 1, 2, 3, 4] rfl ?_
  refine ow_aload C 4 dL_sees_0 rfl ?_
  refine ow_iconst C (v := 0) dL_sees_2 (by decide) ?_
  refine ow_aload_n C 0 dL_sees_3 rfl rfl ?_
  refine ow_iload_n C 1 dL_sees_4 rfl rfl ?_
  refine ow_iload_n C 2 dL_sees_5 rfl rfl ?_
  refine ow_iload_n C 3 dL_sees_6 rfl rfl ?_
  refine ow_callVi C (As := [.int x1, .int x2, .int x3]) (rest := [.int 0, .ref (Ω.2.2.1 141)]) (q := 0) (ci := 7) (kat hk kW_0) rfl (c_X7_sees (kW_d hk) hst x1 x2 x3 σ _ _ hsp) W_5_63 W_5_64 W_5_65 W_5_66 W_1_1 hd_X7_sees rfl ⟨(Nat.le_of_ble_eq_true rfl), (Nat.le_of_ble_eq_true rfl)⟩ (Nat.le_of_ble_eq_true rfl) rfl dL_sees_7 (fun E u hE => ?_) (fun r u hu => ?_)
  · obtain ⟨du, hE⟩ := hE
    obtain ⟨rfl, e⟩ := hE
    refine ⟨[], (⟨0, 19, 22, 19⟩ : ExceptionTableEntry), [], xIO, rfl, (fun z hz => absurd hz List.not_mem_nil), by decide, by decide, W_4_201, cs_IO, fun a => ?_⟩
    refine ow_astore C dL_sees_22 (by decide) rfl ?_
    refine ow_iconst C (v := 1) dL_sees_24 (by decide) ?_
    exact ow_iret C dL_sees_25 ⟨by rw [e]; rfl, du, fun z => by rw [e] at z; cases z⟩
  · obtain ⟨e, er, du⟩ := hu
    refine ow_if_eq C 17 dL_sees_10 rfl (fun c => ?_) (fun c => ?_)
    · refine ow_lconst C (v := 0) dL_sees_17 (by decide) ?_
      refine ow_last C (q := 141) (kat hk kW_141) (vp_in_nI (n := 0) (by decide) (by decide)) dL_sees_18 ?_
      refine ow_goto C 26 dL_sees_19 rfl ?_
      refine ow_iconst C (v := 0) dL_sees_26 (by decide) ?_
      exact ow_iret C dL_sees_27 ⟨by rw [e]; rfl, di_out du _, fun _ => (pJ_at _ _ _ _ _ _).trans ((if_pos ⟨rfl, rfl⟩).trans (by rw [← er, c]; rfl))⟩
    · refine ow_lconst C (v := 1) dL_sees_13 (by decide) ?_
      refine ow_goto C 18 dL_sees_14 rfl ?_
      refine ow_last C (q := 141) (kat hk kW_141) (vp_in_nI (n := 0) (by decide) (by decide)) dL_sees_18 ?_
      refine ow_goto C 26 dL_sees_19 rfl ?_
      refine ow_iconst C (v := 0) dL_sees_26 (by decide) ?_
      exact ow_iret C dL_sees_27 ⟨by rw [e]; rfl, di_out du _, fun _ => (pJ_at _ _ _ _ _ _).trans ((if_pos ⟨rfl, rfl⟩).trans (by rw [opSees_one x1 x2 x3 er c]; rfl))⟩
set_option maxRecDepth 100000 in
set_option maxHeartbeats 4000000 in
theorem w_vote {l : Launch} {Ω : Wm} (hk : Hk Ω kW) (hst : l.stackTraces = false) {h : Hs} (x1 : Int32) (x2 : Int32) {σ : Sg} (d : DI h σ) : CTw l yL_vote cL_vote 5 [(0, 10, 13, 19), (0, 10, 17, 13)] 7 112 Ω [.ref (Ω.2.2.1 0), .int x1, .int x2, .ref (Ω.2.2.1 141)] σ (Pw (opVote h x1 x2).1 h (opVote h x1 x2).2.toInt64) := by
  have hsp : sp_X7_vote x1 x2 σ (fun (r : Int32) (u : Sg) => (opVote h x1 x2).1 = 0 ∧ r = (opVote h x1 x2).2 ∧ DI h u) (fun (E : String) (u : Sg) => DI h u ∧ ((E = xIO ∧ (opVote h x1 x2).1 = 1) ∨ (E = xIA ∧ (opVote h x1 x2).1 = 2))) := g_vote d (fun e => ⟨e, rfl, d⟩) (fun e => ⟨d, Or.inl ⟨rfl, e⟩⟩) (fun e => ⟨d, Or.inr (⟨rfl, e⟩)⟩)
  refine CTw.of (by decide +kernel) (Nat.le_of_ble_eq_true rfl) (fun Γ C => ?_)
  refine ow_sub (L2 := [(0, .ref (Ω.2.2.1 0)), (1, .int x1), (2, .int x2), (3, .ref (Ω.2.2.1 141))]) [0, 1, 2, 3] rfl ?_
  refine ow_aload_n C 3 dL_vote_0 rfl rfl ?_
  refine ow_iconst C (v := 0) dL_vote_1 (by decide) ?_
  refine ow_aload_n C 0 dL_vote_2 rfl rfl ?_
  refine ow_iload_n C 1 dL_vote_3 rfl rfl ?_
  refine ow_iload_n C 2 dL_vote_4 rfl rfl ?_
  refine ow_callVi C (As := [.int x1, .int x2]) (rest := [.int 0, .ref (Ω.2.2.1 141)]) (q := 0) (ci := 7) (kat hk kW_0) rfl (c_X7_vote (kW_d hk) hst x1 x2 σ _ _ hsp) W_5_70 W_5_71 W_5_72 W_5_73 W_1_1 hd_X7_vote rfl ⟨(Nat.le_of_ble_eq_true rfl), (Nat.le_of_ble_eq_true rfl)⟩ (Nat.le_of_ble_eq_true rfl) rfl dL_vote_5 (fun E u hE => ?_) (fun r u hu => ?_)
  · obtain ⟨du, hE⟩ := hE
    rcases hE with ⟨rfl, e⟩ | ⟨rfl, e⟩
    · refine ⟨[], (⟨0, 10, 13, 19⟩ : ExceptionTableEntry), [(⟨0, 10, 17, 13⟩ : ExceptionTableEntry)], xIO, rfl, (fun z hz => absurd hz List.not_mem_nil), by decide, by decide, W_4_201, cs_IO, fun a => ?_⟩
      refine ow_astore C dL_vote_13 (by decide) rfl ?_
      refine ow_iconst C (v := 1) dL_vote_15 (by decide) ?_
      exact ow_iret C dL_vote_16 ⟨by rw [e]; rfl, du, fun z => by rw [e] at z; cases z⟩
    · refine ⟨[(⟨0, 10, 13, 19⟩ : ExceptionTableEntry)], (⟨0, 10, 17, 13⟩ : ExceptionTableEntry), [], xIA, rfl, (fun z hz => by simp only [List.mem_cons, List.not_mem_nil, or_false] at hz; subst hz; exact Or.inr ⟨by decide, _, W_4_201, List.mem_of_getElem? (i := 3) rfl⟩), by decide, by decide, W_4_182, cs_IA, fun a => ?_⟩
      refine ow_astore C dL_vote_17 (by decide) rfl ?_
      refine ow_iconst C (v := 2) dL_vote_19 (by decide) ?_
      exact ow_iret C dL_vote_20 ⟨by rw [e]; rfl, du, fun z => by rw [e] at z; cases z⟩
  · obtain ⟨e, rfl, du⟩ := hu
    refine ow_i2l C dL_vote_8 ?_
    refine ow_last C (q := 141) (kat hk kW_141) (vp_in_nI (n := 0) (by decide) (by decide)) dL_vote_9 ?_
    refine ow_goto C 21 dL_vote_10 rfl ?_
    refine ow_iconst C (v := 0) dL_vote_21 (by decide) ?_
    exact ow_iret C dL_vote_22 ⟨by rw [e]; rfl, di_out du _, fun _ => (pJ_at _ _ _ _ _ _).trans (if_pos ⟨rfl, rfl⟩)⟩
set_option maxRecDepth 100000 in
set_option maxHeartbeats 4000000 in
theorem w_found {l : Launch} {Ω : Wm} (hk : Hk Ω kW) (hst : l.stackTraces = false) {h : Hs} (x1 : Int32) (x2 : Int32) (x3 : Int32) {σ : Sg} (d : DI h σ) : CTw l yL_found cL_found 6 [(0, 12, 15, 13), (0, 12, 19, 19)] 7 171 Ω [.ref (Ω.2.2.1 0), .int x1, .int x2, .int x3, .ref (Ω.2.2.1 141)] σ (Pw (opFound h x1 x2 x3).1 h (opFound h x1 x2 x3).2.toInt64) := by
  have hsp : sp_X7_found x1 x2 x3 σ (fun (r : Int32) (u : Sg) => (opFound h x1 x2 x3).1 = 0 ∧ r = (opFound h x1 x2 x3).2 ∧ DI h u) (fun (E : String) (u : Sg) => DI h u ∧ ((E = xIA ∧ (opFound h x1 x2 x3).1 = 1) ∨ (E = xIO ∧ (opFound h x1 x2 x3).1 = 2))) := g_found d (fun e τ dt => ⟨e, rfl, dt⟩) (fun e => ⟨d, Or.inl ⟨rfl, e⟩⟩) (fun e => ⟨d, Or.inr (⟨rfl, e⟩)⟩)
  refine CTw.of (by decide +kernel) (Nat.le_of_ble_eq_true rfl) (fun Γ C => ?_)
  refine ow_sub (L2 := [(0, .ref (Ω.2.2.1 0)), (1, .int x1), (2, .int x2), (3, .int x3), (4, .ref (Ω.2.2.1 141))]) [0, 1, 2, 3, 4] rfl ?_
  refine ow_aload C 4 dL_found_0 rfl ?_
  refine ow_iconst C (v := 0) dL_found_2 (by decide) ?_
  refine ow_aload_n C 0 dL_found_3 rfl rfl ?_
  refine ow_iload_n C 1 dL_found_4 rfl rfl ?_
  refine ow_iload_n C 2 dL_found_5 rfl rfl ?_
  refine ow_iload_n C 3 dL_found_6 rfl rfl ?_
  refine ow_callVi C (As := [.int x1, .int x2, .int x3]) (rest := [.int 0, .ref (Ω.2.2.1 141)]) (q := 0) (ci := 7) (kat hk kW_0) rfl (c_X7_found (kW_d hk) hst x1 x2 x3 σ _ _ hsp) W_5_85 W_5_86 W_5_87 W_5_88 W_1_1 hd_X7_found rfl ⟨(Nat.le_of_ble_eq_true rfl), (Nat.le_of_ble_eq_true rfl)⟩ (Nat.le_of_ble_eq_true rfl) rfl dL_found_7 (fun E u hE => ?_) (fun r u hu => ?_)
  · obtain ⟨du, hE⟩ := hE
    rcases hE with ⟨rfl, e⟩ | ⟨rfl, e⟩
    · refine ⟨[], (⟨0, 12, 15, 13⟩ : ExceptionTableEntry), [(⟨0, 12, 19, 19⟩ : ExceptionTableEntry)], xIA, rfl, (fun z hz => absurd hz List.not_mem_nil), by decide, by decide, W_4_182, cs_IA, fun a => ?_⟩
      refine ow_astore C dL_found_15 (by decide) rfl ?_
      refine ow_iconst C (v := 1) dL_found_17 (by decide) ?_
      exact ow_iret C dL_found_18 ⟨by rw [e]; rfl, du, fun z => by rw [e] at z; cases z⟩
    · refine ⟨[(⟨0, 12, 15, 13⟩ : ExceptionTableEntry)], (⟨0, 12, 19, 19⟩ : ExceptionTableEntry), [], xIO, rfl, (fun z hz => by simp only [List.mem_cons, List.not_mem_nil, or_false] at hz; subst hz; exact Or.inr ⟨by decide, _, W_4_182, List.mem_of_getElem? (i := 0) rfl⟩), by decide, by decide, W_4_201, cs_IO, fun a => ?_⟩
      refine ow_astore C dL_found_19 (by decide) rfl ?_
      refine ow_iconst C (v := 2) dL_found_21 (by decide) ?_
      exact ow_iret C dL_found_22 ⟨by rw [e]; rfl, du, fun z => by rw [e] at z; cases z⟩
  · obtain ⟨e, rfl, du⟩ := hu
    refine ow_i2l C dL_found_10 ?_
    refine ow_last C (q := 141) (kat hk kW_141) (vp_in_nI (n := 0) (by decide) (by decide)) dL_found_11 ?_
    refine ow_goto C 23 dL_found_12 rfl ?_
    refine ow_iconst C (v := 0) dL_found_23 (by decide) ?_
    exact ow_iret C dL_found_24 ⟨by rw [e]; rfl, di_out du _, fun _ => (pJ_at _ _ _ _ _ _).trans (if_pos ⟨rfl, rfl⟩)⟩
set_option maxRecDepth 100000 in
set_option maxHeartbeats 4000000 in
theorem w_stamp {l : Launch} {Ω : Wm} (hk : Hk Ω kW) (hst : l.stackTraces = false) {h : Hs} (x1 : Int32) (x2 : Int32) {σ : Sg} (d : DI h σ) : CTw l yL_stamp cL_stamp 5 [(0, 9, 12, 13), (0, 9, 16, 19), (0, 9, 20, 52)] 7 171 Ω [.ref (Ω.2.2.1 0), .int x1, .int x2, .ref (Ω.2.2.1 141)] σ (Pw (opStamp h x1 x2).1 h (opStamp h x1 x2).2) := by
  have hsp : sp_X7_stamp x1 x2 σ (fun (r : Int64) (u : Sg) => (opStamp h x1 x2).1 = 0 ∧ r = (opStamp h x1 x2).2 ∧ DI h u) (fun (E : String) (u : Sg) => DI h u ∧ ((E = xIA ∧ (opStamp h x1 x2).1 = 1) ∨ (E = xIO ∧ (opStamp h x1 x2).1 = 2) ∨ (E = xUO ∧ (opStamp h x1 x2).1 = 3))) := g_stamp d (fun e τ dt => ⟨e, rfl, dt⟩) (fun e => ⟨d, Or.inl ⟨rfl, e⟩⟩) (fun e => ⟨d, Or.inr (Or.inl ⟨rfl, e⟩)⟩) (fun e τ dt => ⟨dt, Or.inr (Or.inr (⟨rfl, e⟩))⟩)
  refine CTw.of (by decide +kernel) (Nat.le_of_ble_eq_true rfl) (fun Γ C => ?_)
  refine ow_sub (L2 := [(0, .ref (Ω.2.2.1 0)), (1, .int x1), (2, .int x2), (3, .ref (Ω.2.2.1 141))]) [0, 1, 2, 3] rfl ?_
  refine ow_aload_n C 3 dL_stamp_0 rfl rfl ?_
  refine ow_iconst C (v := 0) dL_stamp_1 (by decide) ?_
  refine ow_aload_n C 0 dL_stamp_2 rfl rfl ?_
  refine ow_iload_n C 1 dL_stamp_3 rfl rfl ?_
  refine ow_iload_n C 2 dL_stamp_4 rfl rfl ?_
  refine ow_callVl C (As := [.int x1, .int x2]) (rest := [.int 0, .ref (Ω.2.2.1 141)]) (q := 0) (ci := 7) (kat hk kW_0) rfl (c_X7_stamp (kW_d hk) hst x1 x2 σ _ _ hsp) W_5_184 W_5_185 W_5_186 W_5_187 W_1_1 hd_X7_stamp rfl ⟨(Nat.le_of_ble_eq_true rfl), (Nat.le_of_ble_eq_true rfl)⟩ (Nat.le_of_ble_eq_true rfl) rfl dL_stamp_5 (fun E u hE => ?_) (fun r u hu => ?_)
  · obtain ⟨du, hE⟩ := hE
    rcases hE with ⟨rfl, e⟩ | ⟨rfl, e⟩ | ⟨rfl, e⟩
    · refine ⟨[], (⟨0, 9, 12, 13⟩ : ExceptionTableEntry), [(⟨0, 9, 16, 19⟩ : ExceptionTableEntry), (⟨0, 9, 20, 52⟩ : ExceptionTableEntry)], xIA, rfl, (fun z hz => absurd hz List.not_mem_nil), by decide, by decide, W_4_182, cs_IA, fun a => ?_⟩
      refine ow_astore C dL_stamp_12 (by decide) rfl ?_
      refine ow_iconst C (v := 1) dL_stamp_14 (by decide) ?_
      exact ow_iret C dL_stamp_15 ⟨by rw [e]; rfl, du, fun z => by rw [e] at z; cases z⟩
    · refine ⟨[(⟨0, 9, 12, 13⟩ : ExceptionTableEntry)], (⟨0, 9, 16, 19⟩ : ExceptionTableEntry), [(⟨0, 9, 20, 52⟩ : ExceptionTableEntry)], xIO, rfl, (fun z hz => by simp only [List.mem_cons, List.not_mem_nil, or_false] at hz; subst hz; exact Or.inr ⟨by decide, _, W_4_182, List.mem_of_getElem? (i := 0) rfl⟩), by decide, by decide, W_4_201, cs_IO, fun a => ?_⟩
      refine ow_astore C dL_stamp_16 (by decide) rfl ?_
      refine ow_iconst C (v := 2) dL_stamp_18 (by decide) ?_
      exact ow_iret C dL_stamp_19 ⟨by rw [e]; rfl, du, fun z => by rw [e] at z; cases z⟩
    · refine ⟨[(⟨0, 9, 12, 13⟩ : ExceptionTableEntry), (⟨0, 9, 16, 19⟩ : ExceptionTableEntry)], (⟨0, 9, 20, 52⟩ : ExceptionTableEntry), [], xUO, rfl, (fun z hz => by simp only [List.mem_cons, List.not_mem_nil, or_false] at hz; rcases hz with rfl | rfl; exact Or.inr ⟨by decide, _, W_4_182, List.mem_of_getElem? (i := 4) rfl⟩; exact Or.inr ⟨by decide, _, W_4_201, List.mem_of_getElem? (i := 5) rfl⟩), by decide, by decide, W_5_183, cs_UO, fun a => ?_⟩
      refine ow_astore C dL_stamp_20 (by decide) rfl ?_
      refine ow_iconst C (v := 3) dL_stamp_22 (by decide) ?_
      exact ow_iret C dL_stamp_23 ⟨by rw [e]; rfl, du, fun z => by rw [e] at z; cases z⟩
  · obtain ⟨e, rfl, du⟩ := hu
    refine ow_last C (q := 141) (kat hk kW_141) (vp_in_nI (n := 0) (by decide) (by decide)) dL_stamp_8 ?_
    refine ow_goto C 24 dL_stamp_9 rfl ?_
    refine ow_iconst C (v := 0) dL_stamp_24 (by decide) ?_
    exact ow_iret C dL_stamp_25 ⟨by rw [e]; rfl, di_out du _, fun _ => (pJ_at _ _ _ _ _ _).trans (if_pos ⟨rfl, rfl⟩)⟩
set_option maxRecDepth 100000 in
set_option maxHeartbeats 4000000 in
theorem w_order {l : Launch} {Ω : Wm} (hk : Hk Ω kW) (hst : l.stackTraces = false) {h : Hs} (x1 : Int32) {σ : Sg} (d : DI h σ) : CTw l yL_order cL_order 4 [(0, 9, 12, 13)] 7 169 Ω [.ref (Ω.2.2.1 0), .int x1, .ref (Ω.2.2.1 141)] σ (Pw (opOrder h x1).1 h (opOrder h x1).2.toInt64) := by
  have hsp : sp_X7_order x1 σ (fun (r : Int32) (u : Sg) => (opOrder h x1).1 = 0 ∧ r = (opOrder h x1).2 ∧ DI h u) (fun (E : String) (u : Sg) => DI h u ∧ ((E = xIA ∧ (opOrder h x1).1 = 1))) := g_order d (fun e τ dt => ⟨e, rfl, dt⟩) (fun e => ⟨d, ⟨rfl, e⟩⟩)
  refine CTw.of (by decide +kernel) (Nat.le_of_ble_eq_true rfl) (fun Γ C => ?_)
  refine ow_sub (L2 := [(0, .ref (Ω.2.2.1 0)), (1, .int x1), (2, .ref (Ω.2.2.1 141))]) [0, 1, 2] rfl ?_
  refine ow_aload_n C 2 dL_order_0 rfl rfl ?_
  refine ow_iconst C (v := 0) dL_order_1 (by decide) ?_
  refine ow_aload_n C 0 dL_order_2 rfl rfl ?_
  refine ow_iload_n C 1 dL_order_3 rfl rfl ?_
  refine ow_callVi C (As := [.int x1]) (rest := [.int 0, .ref (Ω.2.2.1 141)]) (q := 0) (ci := 7) (kat hk kW_0) rfl (c_X7_order (kW_d hk) hst x1 σ _ _ hsp) W_5_206 W_5_207 W_5_208 W_5_209 W_1_1 hd_X7_order rfl ⟨(Nat.le_of_ble_eq_true rfl), (Nat.le_of_ble_eq_true rfl)⟩ (Nat.le_of_ble_eq_true rfl) rfl dL_order_4 (fun E u hE => ?_) (fun r u hu => ?_)
  · obtain ⟨du, hE⟩ := hE
    obtain ⟨rfl, e⟩ := hE
    refine ⟨[], (⟨0, 9, 12, 13⟩ : ExceptionTableEntry), [], xIA, rfl, (fun z hz => absurd hz List.not_mem_nil), by decide, by decide, W_4_182, cs_IA, fun a => ?_⟩
    refine ow_astore_n C (i := 3) dL_order_12 rfl (by decide) rfl ?_
    refine ow_iconst C (v := 1) dL_order_13 (by decide) ?_
    exact ow_iret C dL_order_14 ⟨by rw [e]; rfl, du, fun z => by rw [e] at z; cases z⟩
  · obtain ⟨e, rfl, du⟩ := hu
    refine ow_i2l C dL_order_7 ?_
    refine ow_last C (q := 141) (kat hk kW_141) (vp_in_nI (n := 0) (by decide) (by decide)) dL_order_8 ?_
    refine ow_goto C 15 dL_order_9 rfl ?_
    refine ow_iconst C (v := 0) dL_order_15 (by decide) ?_
    exact ow_iret C dL_order_16 ⟨by rw [e]; rfl, di_out du _, fun _ => (pJ_at _ _ _ _ _ _).trans (if_pos ⟨rfl, rfl⟩)⟩
set_option maxRecDepth 100000 in
set_option maxHeartbeats 4000000 in
theorem w_at {l : Launch} {Ω : Wm} (hk : Hk Ω kW) (hst : l.stackTraces = false) {h : Hs} (x1 : Int32) (x2 : Int32) {σ : Sg} (d : DI h σ) : CTw l yL_at cL_at 5 [(0, 10, 13, 13), (0, 10, 17, 19)] 7 171 Ω [.ref (Ω.2.2.1 0), .int x1, .int x2, .ref (Ω.2.2.1 141)] σ (Pw (opAt h x1 x2).1 h (opAt h x1 x2).2.toInt64) := by
  have hsp : sp_X7_at x1 x2 σ (fun (r : Int32) (u : Sg) => (opAt h x1 x2).1 = 0 ∧ r = (opAt h x1 x2).2 ∧ DI h u) (fun (E : String) (u : Sg) => DI h u ∧ ((E = xIA ∧ (opAt h x1 x2).1 = 1) ∨ (E = xIO ∧ (opAt h x1 x2).1 = 2))) := g_at d (fun e τ dt => ⟨e, rfl, dt⟩) (fun e => ⟨d, Or.inl ⟨rfl, e⟩⟩) (fun e τ dt => ⟨dt, Or.inr (⟨rfl, e⟩)⟩)
  refine CTw.of (by decide +kernel) (Nat.le_of_ble_eq_true rfl) (fun Γ C => ?_)
  refine ow_sub (L2 := [(0, .ref (Ω.2.2.1 0)), (1, .int x1), (2, .int x2), (3, .ref (Ω.2.2.1 141))]) [0, 1, 2, 3] rfl ?_
  refine ow_aload_n C 3 dL_at_0 rfl rfl ?_
  refine ow_iconst C (v := 0) dL_at_1 (by decide) ?_
  refine ow_aload_n C 0 dL_at_2 rfl rfl ?_
  refine ow_iload_n C 1 dL_at_3 rfl rfl ?_
  refine ow_iload_n C 2 dL_at_4 rfl rfl ?_
  refine ow_callVi C (As := [.int x1, .int x2]) (rest := [.int 0, .ref (Ω.2.2.1 141)]) (q := 0) (ci := 7) (kat hk kW_0) rfl (c_X7_at (kW_d hk) hst x1 x2 σ _ _ hsp) W_5_213 W_5_214 W_5_215 W_5_216 W_1_1 hd_X7_at rfl ⟨(Nat.le_of_ble_eq_true rfl), (Nat.le_of_ble_eq_true rfl)⟩ (Nat.le_of_ble_eq_true rfl) rfl dL_at_5 (fun E u hE => ?_) (fun r u hu => ?_)
  · obtain ⟨du, hE⟩ := hE
    rcases hE with ⟨rfl, e⟩ | ⟨rfl, e⟩
    · refine ⟨[], (⟨0, 10, 13, 13⟩ : ExceptionTableEntry), [(⟨0, 10, 17, 19⟩ : ExceptionTableEntry)], xIA, rfl, (fun z hz => absurd hz List.not_mem_nil), by decide, by decide, W_4_182, cs_IA, fun a => ?_⟩
      refine ow_astore C dL_at_13 (by decide) rfl ?_
      refine ow_iconst C (v := 1) dL_at_15 (by decide) ?_
      exact ow_iret C dL_at_16 ⟨by rw [e]; rfl, du, fun z => by rw [e] at z; cases z⟩
    · refine ⟨[(⟨0, 10, 13, 13⟩ : ExceptionTableEntry)], (⟨0, 10, 17, 19⟩ : ExceptionTableEntry), [], xIO, rfl, (fun z hz => by simp only [List.mem_cons, List.not_mem_nil, or_false] at hz; subst hz; exact Or.inr ⟨by decide, _, W_4_182, List.mem_of_getElem? (i := 0) rfl⟩), by decide, by decide, W_4_201, cs_IO, fun a => ?_⟩
      refine ow_astore C dL_at_17 (by decide) rfl ?_
      refine ow_iconst C (v := 2) dL_at_19 (by decide) ?_
      exact ow_iret C dL_at_20 ⟨by rw [e]; rfl, du, fun z => by rw [e] at z; cases z⟩
  · obtain ⟨e, rfl, du⟩ := hu
    refine ow_i2l C dL_at_8 ?_
    refine ow_last C (q := 141) (kat hk kW_141) (vp_in_nI (n := 0) (by decide) (by decide)) dL_at_9 ?_
    refine ow_goto C 21 dL_at_10 rfl ?_
    refine ow_iconst C (v := 0) dL_at_21 (by decide) ?_
    exact ow_iret C dL_at_22 ⟨by rw [e]; rfl, di_out du _, fun _ => (pJ_at _ _ _ _ _ _).trans (if_pos ⟨rfl, rfl⟩)⟩
set_option maxRecDepth 100000 in
set_option maxHeartbeats 4000000 in
theorem w_balance {l : Launch} {Ω : Wm} (hk : Hk Ω kW) (hst : l.stackTraces = false) {h : Hs} (x1 : Int32) (x2 : Int32) {σ : Sg} (d : DI h σ) : CTw l yL_balance cL_balance 5 [(0, 10, 13, 13)] 7 170 Ω [.ref (Ω.2.2.1 0), .int x1, .int x2, .ref (Ω.2.2.1 141)] σ (Pw (opBalance h x1 x2).1 h (opBalance h x1 x2).2.toInt64) := by
  have hsp : sp_X7_balance x1 x2 σ (fun (r : Int32) (u : Sg) => (opBalance h x1 x2).1 = 0 ∧ r = (opBalance h x1 x2).2 ∧ DI h u) (fun (E : String) (u : Sg) => DI h u ∧ ((E = xIA ∧ (opBalance h x1 x2).1 = 1))) := g_balance d (fun e τ dt => ⟨e, rfl, dt⟩) (fun e => ⟨d, ⟨rfl, e⟩⟩)
  refine CTw.of (by decide +kernel) (Nat.le_of_ble_eq_true rfl) (fun Γ C => ?_)
  refine ow_sub (L2 := [(0, .ref (Ω.2.2.1 0)), (1, .int x1), (2, .int x2), (3, .ref (Ω.2.2.1 141))]) [0, 1, 2, 3] rfl ?_
  refine ow_aload_n C 3 dL_balance_0 rfl rfl ?_
  refine ow_iconst C (v := 0) dL_balance_1 (by decide) ?_
  refine ow_aload_n C 0 dL_balance_2 rfl rfl ?_
  refine ow_iload_n C 1 dL_balance_3 rfl rfl ?_
  refine ow_iload_n C 2 dL_balance_4 rfl rfl ?_
  refine ow_callVi C (As := [.int x1, .int x2]) (rest := [.int 0, .ref (Ω.2.2.1 141)]) (q := 0) (ci := 7) (kat hk kW_0) rfl (c_X7_balance (kW_d hk) hst x1 x2 σ _ _ hsp) W_5_220 W_5_221 W_5_222 W_5_223 W_1_1 hd_X7_balance rfl ⟨(Nat.le_of_ble_eq_true rfl), (Nat.le_of_ble_eq_true rfl)⟩ (Nat.le_of_ble_eq_true rfl) rfl dL_balance_5 (fun E u hE => ?_) (fun r u hu => ?_)
  · obtain ⟨du, hE⟩ := hE
    obtain ⟨rfl, e⟩ := hE
    refine ⟨[], (⟨0, 10, 13, 13⟩ : ExceptionTableEntry), [], xIA, rfl, (fun z hz => absurd hz List.not_mem_nil), by decide, by decide, W_4_182, cs_IA, fun a => ?_⟩
    refine ow_astore C dL_balance_13 (by decide) rfl ?_
    refine ow_iconst C (v := 1) dL_balance_15 (by decide) ?_
    exact ow_iret C dL_balance_16 ⟨by rw [e]; rfl, du, fun z => by rw [e] at z; cases z⟩
  · obtain ⟨e, rfl, du⟩ := hu
    refine ow_i2l C dL_balance_8 ?_
    refine ow_last C (q := 141) (kat hk kW_141) (vp_in_nI (n := 0) (by decide) (by decide)) dL_balance_9 ?_
    refine ow_goto C 17 dL_balance_10 rfl ?_
    refine ow_iconst C (v := 0) dL_balance_17 (by decide) ?_
    exact ow_iret C dL_balance_18 ⟨by rw [e]; rfl, di_out du _, fun _ => (pJ_at _ _ _ _ _ _).trans (if_pos ⟨rfl, rfl⟩)⟩
set_option maxRecDepth 100000 in
set_option maxHeartbeats 4000000 in
theorem w_count {l : Launch} {Ω : Wm} (hk : Hk Ω kW) (hst : l.stackTraces = false) {h : Hs} (x1 : Int32) {σ : Sg} (d : DI h σ) : CTw l yL_count cL_count 4 [(0, 9, 12, 13)] 7 169 Ω [.ref (Ω.2.2.1 0), .int x1, .ref (Ω.2.2.1 141)] σ (Pw (opCount h x1).1 h (opCount h x1).2.toInt64) := by
  have hsp : sp_X7_count x1 σ (fun (r : Int32) (u : Sg) => (opCount h x1).1 = 0 ∧ r = (opCount h x1).2 ∧ DI h u) (fun (E : String) (u : Sg) => DI h u ∧ ((E = xIA ∧ (opCount h x1).1 = 1))) := g_count d (fun e τ dt => ⟨e, rfl, dt⟩) (fun e => ⟨d, ⟨rfl, e⟩⟩)
  refine CTw.of (by decide +kernel) (Nat.le_of_ble_eq_true rfl) (fun Γ C => ?_)
  refine ow_sub (L2 := [(0, .ref (Ω.2.2.1 0)), (1, .int x1), (2, .ref (Ω.2.2.1 141))]) [0, 1, 2] rfl ?_
  refine ow_aload_n C 2 dL_count_0 rfl rfl ?_
  refine ow_iconst C (v := 0) dL_count_1 (by decide) ?_
  refine ow_aload_n C 0 dL_count_2 rfl rfl ?_
  refine ow_iload_n C 1 dL_count_3 rfl rfl ?_
  refine ow_callVi C (As := [.int x1]) (rest := [.int 0, .ref (Ω.2.2.1 141)]) (q := 0) (ci := 7) (kat hk kW_0) rfl (c_X7_count (kW_d hk) hst x1 σ _ _ hsp) W_5_227 W_5_228 W_5_229 W_5_230 W_1_1 hd_X7_count rfl ⟨(Nat.le_of_ble_eq_true rfl), (Nat.le_of_ble_eq_true rfl)⟩ (Nat.le_of_ble_eq_true rfl) rfl dL_count_4 (fun E u hE => ?_) (fun r u hu => ?_)
  · obtain ⟨du, hE⟩ := hE
    obtain ⟨rfl, e⟩ := hE
    refine ⟨[], (⟨0, 9, 12, 13⟩ : ExceptionTableEntry), [], xIA, rfl, (fun z hz => absurd hz List.not_mem_nil), by decide, by decide, W_4_182, cs_IA, fun a => ?_⟩
    refine ow_astore_n C (i := 3) dL_count_12 rfl (by decide) rfl ?_
    refine ow_iconst C (v := 1) dL_count_13 (by decide) ?_
    exact ow_iret C dL_count_14 ⟨by rw [e]; rfl, du, fun z => by rw [e] at z; cases z⟩
  · obtain ⟨e, rfl, du⟩ := hu
    refine ow_i2l C dL_count_7 ?_
    refine ow_last C (q := 141) (kat hk kW_141) (vp_in_nI (n := 0) (by decide) (by decide)) dL_count_8 ?_
    refine ow_goto C 15 dL_count_9 rfl ?_
    refine ow_iconst C (v := 0) dL_count_15 (by decide) ?_
    exact ow_iret C dL_count_16 ⟨by rw [e]; rfl, di_out du _, fun _ => (pJ_at _ _ _ _ _ _).trans (if_pos ⟨rfl, rfl⟩)⟩
