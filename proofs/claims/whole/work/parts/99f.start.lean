/-! ===== what holds at the law's entry ===== -/
theorem arrT_of {args : Array Value} {s : State} {ty : FieldType} (h : (Cond.arrayClass ty).before args s = true) : ∃ cA : ClassId, ArrOfT s cA ty ∧ s.vm.findClass ("[" ++ ty.toString) = some cA := by
  obtain ⟨c, k, comp, h1, h2, h3⟩ := Cond.arrayClass_spec h
  exact ⟨c, fun N z => ⟨(fun k h => by cases h), k, h2, comp, h3⟩, h1⟩
theorem arrQ_of {args : Array Value} {s : State} {C : String} (h : (Cond.arrayOver (.object C)).before args s = true) : ∃ cA : ClassId, ArrOfT s cA (.object C) ∧ va_RA s cA (.object C) := by
  obtain ⟨comp, c, k, h1, h2, h3, h4, h5⟩ := Cond.arrayOver_spec h
  exact ⟨c, fun N z => ⟨(fun k h => by cases h), k, h3, comp, h4⟩, k, comp, h3, h4, h1, h5⟩
theorem size_eq {a b : Nat} (ha : a < 2 ^ 31) (hb : b < 2 ^ 31) (h : a.toInt32 = Int32.ofNat b) : a = b := by
  have h1 : (nI a).toInt = (nI b).toInt := congrArg Int32.toInt h
  rw [nI_toInt ha, nI_toInt hb] at h1
  omega
theorem x_of {args : Array Value} {s : State} {tm : Term} {N : Nat} {f : Nat → Int32} (hN : N < 2 ^ 31) (harr : (Cond.arrayOf tm .int).before args s = true) (hlen : (Term.length tm).eval args s none [] s = some (.int (Int32.ofNat N))) (hel : ∀ j : Nat, j < N → (Term.elem tm (.int (Int32.ofNat j))).eval args s none [] s = some (.int (f j))) : ∃ t : Nat, tm.eval args s none [] s = some (.ref t) ∧ va_X t N f s s.heap ∧ t < s.heap.size := by
  obtain ⟨t, ht, cell, h1, h2, h3, h4, h5, h6, -⟩ := va_Tof (f := fun j => .int (f j)) (A := fun _ => False) hN harr hlen hel (fun _ _ h => h)
  obtain ⟨b, cell2, ht2, hat, hv⟩ := Term.length_spec hlen
  cases ht.symm.trans ht2
  obtain ⟨hcell, -⟩ := State.arrayAt?_spec hat
  cases h1.symm.trans hcell
  have hsz : cell.slots.size < 2 ^ 31 := by
    have hv2 := hlen
    simp only [Term.eval, ht, hat, Option.bind_eq_bind, Option.bind_some] at hv2
    by_cases hlt : cell.slots.size < 2147483648
    · exact hlt
    · simp [hlt] at hv2
  exact ⟨t, ht, ⟨cell, h1, h2, h3, size_eq hsz hN h5, h6⟩, (Array.getElem?_eq_some_iff.mp h1).1⟩
def tmR : Term := .static RX4 "ROUND_WORDS" "[I"
def tmF : Term := .static RX4 "FIRST_STATE" "[I"
set_option maxRecDepth 100000 in
theorem nb_f : NBf.all (fun q => decide (Cond.fieldLinkNest q.1 q.2.1 q.2.2.1 q.2.2.2.1 q.2.2.2.2.1 q.2.2.2.2.2 ∈ lw_tbl)) = true := by decide +kernel
set_option maxRecDepth 100000 in
theorem nb_m : NBm.all (fun q => decide (Cond.methodLinkNest q.1 q.2.1 q.2.2.1 q.2.2.2 ∈ lw_tbl)) = true := by decide +kernel
theorem nw_of {args : Array Value} {s : State} (h : ∀ w ∈ lw_tbl, w.before args s = true) : NW s := ⟨fun q hq => va_Nw.of rfl (h _ (of_decide_eq_true (List.all_eq_true.mp nb_f q hq))), fun q hq => va_Nw.of rfl (h _ (of_decide_eq_true (List.all_eq_true.mp nb_m q hq)))⟩
theorem vk_of {args : Array Value} {s : State} (h : ∀ w ∈ GW, w.before args s = true) (hAO : va_AO RX5 s) : ∃ (D : va_G) (dA : Nat → ClassId), va_K D CLs [(dA 0, .int), (dA 1, .long), (dA 2, .boolean), (dA 3, .byte), (dA 4, .object RX5)] s := by
  obtain ⟨c0, i0, k0⟩ := u_known h hinX0 (h _ W_1_83)
  obtain ⟨c1, i1, k1⟩ := u_known h hinX1 (h _ W_1_214)
  obtain ⟨c2, i2, k2⟩ := u_known h hinX2 (h _ W_1_58)
  obtain ⟨c3, i3, k3⟩ := u_known h hinX3 (h _ W_1_148)
  obtain ⟨c4, i4, k4⟩ := u_known h hinX4 (h _ W_1_64)
  obtain ⟨c5, i5, k5⟩ := u_known h hinX5 (h _ W_2_10)
  obtain ⟨c6, i6, k6⟩ := u_known h hinX6 (h _ W_1_40)
  obtain ⟨c7, i7, k7⟩ := u_known h hinX7 (h _ W_1_32)
  obtain ⟨c8, i8, k8⟩ := u_known h hinX8 (h _ W_5_236)
  obtain ⟨a0, e0, f0⟩ := arrT_of (h _ W_1_56)
  obtain ⟨a1, e1, f1⟩ := arrT_of (h _ W_1_95)
  obtain ⟨a2, e2, f2⟩ := arrT_of (h _ W_1_212)
  obtain ⟨a3, e3, f3⟩ := arrT_of (h _ W_3_40)
  obtain ⟨a4, e4, f4⟩ := arrQ_of (args := args) hAO.use
  refine ⟨(fun c => ([c0, c1, c2, c3, c4, c5, c6, c7, c8] : List ClassId).getD c c0, fun c => ([i0, i1, i2, i3, i4, i5, i6, i7, i8] : List (Nat → Nat)).getD c i0), fun t => ([a0, a1, a2, a3, a4] : List ClassId).getD t a0, fun c q hq => ?_, fun t q hq => ?_⟩
  · match c, hq with
    | 0, hq => cases hq; exact k0
    | 1, hq => cases hq; exact k1
    | 2, hq => cases hq; exact k2
    | 3, hq => cases hq; exact k3
    | 4, hq => cases hq; exact k4
    | 5, hq => cases hq; exact k5
    | 6, hq => cases hq; exact k6
    | 7, hq => cases hq; exact k7
    | 8, hq => cases hq; exact k8
    | c + 9, hq => exact absurd hq (by simp [CLs])
  · match t, hq with
    | 0, hq => cases hq; exact ⟨e0, f0⟩
    | 1, hq => cases hq; exact ⟨e1, f1⟩
    | 2, hq => cases hq; exact ⟨e2, f2⟩
    | 3, hq => cases hq; exact ⟨e3, f3⟩
    | 4, hq => cases hq; exact ⟨e4, f4⟩
    | t + 5, hq => exact absurd hq (by simp)
theorem xw_of {args : Array Value} {s : State} (h : ∀ w ∈ lw_tbl, w.before args s = true) : XW s := fun w hw => va_tabs (alW_ot (List.mem_filter.mp hw).2) rfl (h w (List.mem_filter.mp hw).1)
def flatN : List Cond := flatC (Jvm.Cond.and given_1 narrow_1)
set_option maxRecDepth 100000 in
theorem fl_R : (List.range 64).all (fun j => decide (Cond.eq (.elem tmR (.int (Int32.ofNat j))) (.int (K64 j)) ∈ flatN)) = true := by decide +kernel
set_option maxRecDepth 100000 in
theorem fl_F : (List.range 8).all (fun j => decide (Cond.eq (.elem tmF (.int (Int32.ofNat j))) (.int (H8 j)) ∈ flatN)) = true := by decide +kernel
set_option maxRecDepth 100000 in
theorem fl_N : NCs.all (fun q => decide (Cond.not (.castable q.1 q.2) ∈ flatN)) = true := by decide +kernel
set_option maxRecDepth 100000 in
theorem fl_a : Cond.arrayOf tmR .int ∈ flatN ∧ Cond.arrayOf tmF .int ∈ flatN ∧ Cond.eq (.length tmR) (.int 64) ∈ flatN ∧ Cond.eq (.length tmF) (.int 8) ∈ flatN ∧ Cond.isRef (.static Bundle.tN "UNASSIGNED_STACK" Bundle.steD) ∈ flatN ∧ Cond.isRef (.static Bundle.tN "SUPPRESSED_SENTINEL" Bundle.listD) ∈ flatN := ⟨by decide +kernel, by decide +kernel, by decide +kernel, by decide +kernel, by decide +kernel, by decide +kernel⟩
set_option maxRecDepth 100000 in
theorem tb_a : Cond.laysStatic RX4 "ROUND_WORDS" "[I" ∈ lw_tbl ∧ Cond.laysStatic RX4 "FIRST_STATE" "[I" ∈ lw_tbl ∧ Cond.laysStatic Bundle.tN "UNASSIGNED_STACK" Bundle.steD ∈ lw_tbl ∧ Cond.laysStatic Bundle.tN "SUPPRESSED_SENTINEL" Bundle.listD ∈ lw_tbl ∧ Cond.initialized Bundle.tN ∈ lw_tbl ∧ Cond.initialized RX4 ∈ lw_tbl ∧ Cond.arrayOver (.object RX5) ∈ lw_tbl := ⟨by decide +kernel, by decide +kernel, by decide +kernel, by decide +kernel, by decide +kernel, by decide +kernel, by decide +kernel⟩
theorem sta_of {args : Array Value} {s : State} (h : ∀ w ∈ lw_tbl, w.before args s = true) (hn : ∀ w ∈ flatN, w.before args s = true) : StA (fun q => s.heap.size ≤ q) s s.heap := by
  have hA : ∀ a : Nat, a < s.heap.size → ¬ (s.heap.size ≤ a) := fun a h1 h2 => Nat.lt_irrefl _ (Nat.lt_of_lt_of_le h1 h2)
  obtain ⟨t1, v1, T1⟩ := va_Tof (f := fun j => .int (K64 j)) (N := 64) (A := fun q => s.heap.size ≤ q) (by decide) (hn _ fl_a.1) (va_eqt (hn _ fl_a.2.2.1)) (fun j hj => va_eqt (hn _ (of_decide_eq_true (List.all_eq_true.mp fl_R j (List.mem_range.mpr hj))))) hA
  obtain ⟨t2, v2, X2, L2⟩ := x_of (f := H8) (N := 8) (by decide) (hn _ fl_a.2.1) (va_eqt (hn _ fl_a.2.2.2.1)) (fun j hj => va_eqt (hn _ (of_decide_eq_true (List.all_eq_true.mp fl_F j (List.mem_range.mpr hj)))))
  exact ⟨⟨t1, va_Zref (h _ tb_a.1) (h _ tb_a.2.2.2.2.2.1) v1 hA, T1⟩, t2, va_Zref (h _ tb_a.2.1) (h _ tb_a.2.2.2.2.2.1) v2 hA, X2, L2, hA _ L2⟩
theorem za_of {args : Array Value} {s : State} (h : ∀ w ∈ lw_tbl, w.before args s = true) (hn : ∀ w ∈ flatN, w.before args s = true) : ZA (fun q => s.heap.size ≤ q) s s.heap := by
  have hA : ∀ a : Nat, a < s.heap.size → ¬ (s.heap.size ≤ a) := fun a h1 h2 => Nat.lt_irrefl _ (Nat.lt_of_lt_of_le h1 h2)
  exact ⟨xw_of h, fun q hq => va_Nc.of (hn _ (of_decide_eq_true (List.all_eq_true.mp fl_N q hq))), vx_Zqof (h _ tb_a.2.2.1) (h _ tb_a.2.2.2.2.1) (hn _ fl_a.2.2.2.2.1) hA, vx_Zqof (h _ tb_a.2.2.2.1) (h _ tb_a.2.2.2.2.1) (hn _ fl_a.2.2.2.2.2) hA⟩
