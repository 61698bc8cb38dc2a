/-! ===== methods that throw: what they are called with, their contract ===== -/
def alW : Cond → Bool
  | .declares _ => true
  | .castable _ _ => true
  | _ => false
def BWs : List Cond := lw_tbl.filter alW
def XW (U : State) : Prop := ∀ w ∈ BWs, w.before #[] U = true
theorem alW_ot {w : Cond} (h : alW w = true) : w.onTables = true := by
  cases w <;> first | rfl | (simp [alW] at h)
theorem XW.moved {u U : State} (hvm : u.vm.Alike U.vm) (h : XW u) : XW U := fun w hw => by
  have h1 := h w hw
  have ha : alW w = true := (List.mem_filter.mp hw).2
  have key : w.before #[] (u.setVm U.vm) = w.before #[] u := by
    cases w <;> first | exact Cond.declares_setVm hvm _ | exact Cond.castable_setVm hvm _ _ | (simp [alW] at ha)
  have e : w.before #[] (u.setVm U.vm) = w.before #[] (U.setVm U.vm) := Cond.onTables_vm U.vm w (alW_ot ha)
  have e2 : U.setVm U.vm = U := rfl
  rw [← e2, ← e, key]
  exact h1
def xIA : String := "java/lang/IllegalArgumentException"
def xIO : String := "java/lang/IndexOutOfBoundsException"
def xIS : String := "java/lang/IllegalStateException"
def xUO : String := "java/lang/UnsupportedOperationException"
def NCs : List (String × String) := [(xIO, xIA), (xIS, xIA), (xIO, xIS), (xIA, xIO), (xUO, xIA), (xUO, xIO)]
def ZW (Ω : Wm) (sz : Nat) (s : State) (H : Heap) : Prop := XW s ∧ (∀ q ∈ NCs, va_Nc q.1 q.2 s) ∧ vx_Zq Bundle.tN "UNASSIGNED_STACK" Bundle.steD (Ar Ω sz) s H ∧ vx_Zq Bundle.tN "SUPPRESSED_SENTINEL" Bundle.listD (Ar Ω sz) s H
theorem ZW.moved {Ω : Wm} {sz : Nat} {u U : State} {H : Heap} (hvm : u.vm.Alike U.vm) (h : ZW Ω sz u H) : ZW Ω sz U H := ⟨h.1.moved hvm, fun q hq => (h.2.1 q hq).moved hvm, h.2.2.1.moved hvm, h.2.2.2.moved hvm⟩
theorem ZW.kept {Ω : Wm} {sz sz2 : Nat} {U : State} {H H1 : Heap} (hz : sz ≤ sz2) (h : ZW Ω sz U H) (hq : ∀ a : Nat, a < H.size → ¬ Ar Ω sz a → H1[a]? = H[a]?) : ZW Ω sz2 U H1 := ⟨h.1, h.2.1, (h.2.2.1.kept hq).narrow (Ar.mono hz), (h.2.2.2.kept hq).narrow (Ar.mono hz)⟩
def PX (Ω : Wm) (sz : Nat) (σ : Sg) (U : State) : Prop := PB Ω sz σ U ∧ ZW Ω sz U U.heap
def XQ (Ω : Wm) (Px : String → Sg → Prop) (sz : Nat) : String → State → State → Prop := vx_X (S := String × Sg) (fun u => Px u.1 u.2) (fun E u t => E = u.1 ∧ BA Ω u.2 t) (Ar Ω sz)
def Cu (l : Launch) (y : MethodName) (cc : ByteArray) (nL : Nat) (ret : Option FieldType) (fr lo : Nat) (Ω : Wm) (av : List Value) (σ : Sg) (Qc : Qt) (Px : String → Sg → Prop) : Prop :=
  ∀ sz, vx_Met l y (.code y cc nL ret :: GW) ({ frames := fr, cells := 1, slots := 6, locals := lo }) (va_Pc av (PX Ω sz σ)) (Qc sz) (XQ Ω Px sz) 1 6 (Ar Ω sz)
def Cy (Γ : Gm) (Ω : Wm) (cc : ByteArray) (nL : Nat) (own : String) (ret : Option FieldType) (fr lo : Nat) (l0 : Launch) (Qc : Qt) (Px : String → Sg → Prop) : Prop := match Γ with
  | (p, l, _, R, s, m, args, below, meth, c, Q) => p.tables.exec = Jvm.exec ∧ c.code = cc ∧ c.maxLocals = nL ∧ s.vm.findClass own = some m.cls ∧ (∀ w ∈ GW, w.before args s = true) ∧ va_K Ω.1 CLs (tys Ω) s ∧ Dj Ω ∧ St Ω s.heap.size s s.heap ∧ meth.locks = false ∧ meth.sig.returnType = ret ∧ R = ({ frames := fr, cells := 1, slots := 6, locals := lo } : Room) ∧ l = l0 ∧ Q = vx_MQ below (Qc s.heap.size) (XQ Ω Px s.heap.size) args s 1 6 (Ar Ω s.heap.size) ∧ NW s ∧ ZW Ω s.heap.size s s.heap ∧ (∀ x ∈ c.exceptionTable.toList, False) ∧ l.stackTraces = false
theorem Cu.of {l : Launch} {y : MethodName} {cc : ByteArray} {nL : Nat} {ret : Option FieldType} {fr lo : Nat} {Ω : Wm} {av : List Value} {σ : Sg} {Qc : Qt} {Px : String → Sg → Prop} (hst : l.stackTraces = false) (hy : plainName y.cls = true) (hn : (lg_sl av).length ≤ nL)
    (h : ∀ Γ : Gm, Cy Γ Ω cc nL y.cls ret fr lo l Qc Px → OK Γ Ω nL 0 (lv_args 0 av) [] σ) : Cu l y cc nL ret fr lo Ω av σ Qc Px := by
  intro sz
  refine vx_ofW (cc := cc) (maxL := nL) (ret := ret) hy rfl ?_
  intro p e s m args below meth c s₁ B hml htab hv
  obtain ⟨rfl, ⟨hsz, hP, hK, hD, hSt, hN⟩, hZ⟩ := hv
  subst hsz
  have hts := atoms_spec (ws := .code y cc nL ret :: GW) B.pre
  have hl := lv_entry av (n := nL) hn
  rw [lg_entry_eq]
  exact h (p, l, e, _, s, m, _, below, meth, c, _) ⟨B.exec, B.bytes, hml, findClass_of_methodNamed B.named, fun w hw => hts w (List.mem_cons_of_mem _ hw), hK, hD, hSt, B.notSynchronized, B.returns, rfl, rfl, rfl, hN, hZ, htab, hst⟩ _ _ _ hl hP va_S.rf
def NMS : List String := ["java/lang/RuntimeException", "java/lang/Exception"]
def XT (own : String) (ik ic : Nat) (cls : String) : Prop := Bundle.fit cls = true ∧ Cond.classLink own ik cls ∈ GW ∧ Cond.initialized cls ∈ GW ∧ (vx_at0 own ic cls NMS).all (fun w => decide (w ∈ lw_tbl) && (goodWord w || alW w)) = true ∧ (Cond.classLink own ik cls :: Cond.initialized cls :: vx_at0 own ic cls NMS).all vx_ot = true
theorem okx_throw {Γ : Gm} {Ω : Wm} {cc : ByteArray} {nL : Nat} {own : String} {ret : Option FieldType} {fr lo : Nat} {l0 : Launch} {Qc : Qt} {pc : Nat} {L : List (Nat × Value)} {σ : Sg} {Px : String → Sg → Prop} (C : Cy Γ Ω cc nL own ret fr lo l0 Qc Px) {cls : String} {ik ic : Nat} (hT : XT own ik ic cls) (d0 : decode cc pc = .ok (.new ik, 3)) (d3 : decode cc (pc + 3) = .ok (.dup, 1)) (d4 : decode cc (pc + 4) = .ok (.invokespecial ic, 3)) (d7 : decode cc (pc + 7) = .ok (.athrow, 1)) (hfr : 6 ≤ fr) (hlo : 81 ≤ lo) (hpx : Px cls σ) : OK Γ Ω nL pc L [] σ := by
  obtain ⟨p, l, e, R, s, m, args, below, meth, c, Q⟩ := Γ
  intro ls H locs hl hP hS
  obtain ⟨c1, c2, c3, c4, c5, c6, c7, c8, c9, c10, c11, c12, c13, c14, c15, c16, c17⟩ := C
  obtain ⟨t1, t2, t3, t4, t5⟩ := hT
  obtain ⟨z1, z2, z3, z4⟩ := c15
  subst c11 c12 c13
  refine vx_throw0 (A := Ar Ω s.heap.size) (names := NMS) c1 c2 c17 c4 t1 (by decide) (c5 _ t2) (c5 _ t3) (fun w hw => ?_) (fun w hw => List.all_eq_true.mp t5 w hw) z3 z4 hS (hl.1.trans c3.symm) d0 d3 d4 d7 (fun x hx => (c16 x hx).elim) hfr hlo (Nat.le_refl 1) (Nat.le_refl 6) c9 (fun t ht h1 h2 => ⟨(cls, σ), hpx, ⟨rfl, hP.kept (fun k q hk => h2 _ (vx_lt hP hk))⟩, ⟨Nat.le_trans hS.1 h1, fun q hq hA => by rw [h2 q (Nat.lt_of_lt_of_le hq hS.1)]; exact hS.2.1 q hq hA⟩⟩) hS.2.2 (Nat.le_refl 1) (Nat.le_refl 6)
  have h4 := List.all_eq_true.mp t4 w hw
  rw [Bool.and_eq_true, decide_eq_true_eq, Bool.or_eq_true] at h4
  obtain ⟨h5, h6⟩ := h4
  rcases h6 with h6 | h6
  · exact c5 w (gw_in h5 h6)
  · exact va_tabs (alW_ot h6) rfl (z1 w (List.mem_filter.mpr ⟨h5, h6⟩))
set_option maxRecDepth 100000 in
theorem xt_58_60 : XT "HashgraphDesk" 58 60 "java/lang/IllegalArgumentException" := ⟨by decide +kernel, List.mem_filter.mpr ⟨by decide +kernel, by decide +kernel⟩, List.mem_filter.mpr ⟨by decide +kernel, by decide +kernel⟩, by decide +kernel, by decide +kernel⟩
set_option maxRecDepth 100000 in
theorem xt_69_71 : XT "HashgraphDesk" 69 71 "java/lang/IndexOutOfBoundsException" := ⟨by decide +kernel, List.mem_filter.mpr ⟨by decide +kernel, by decide +kernel⟩, List.mem_filter.mpr ⟨by decide +kernel, by decide +kernel⟩, by decide +kernel, by decide +kernel⟩
set_option maxRecDepth 100000 in
theorem xt_116_118 : XT "HashgraphDesk" 116 118 "java/lang/IllegalStateException" := ⟨by decide +kernel, List.mem_filter.mpr ⟨by decide +kernel, by decide +kernel⟩, List.mem_filter.mpr ⟨by decide +kernel, by decide +kernel⟩, by decide +kernel, by decide +kernel⟩
set_option maxRecDepth 100000 in
theorem xt_179_181 : XT "HashgraphDesk" 179 181 "java/lang/UnsupportedOperationException" := ⟨by decide +kernel, List.mem_filter.mpr ⟨by decide +kernel, by decide +kernel⟩, List.mem_filter.mpr ⟨by decide +kernel, by decide +kernel⟩, by decide +kernel, by decide +kernel⟩
