/-! ===== methods with a table: the law's own small ones ===== -/
def Cw (Γ : Gm) (Ω : Wm) (cc : ByteArray) (nL : Nat) (own : String) (fr lo : Nat) (l0 : Launch) (Qc : Qt) (tb : List ExceptionTableEntry) : Prop := match Γ with
  | (p, l, _, R, s, m, args, below, meth, c, Q) => p.tables.exec = Jvm.exec ∧ c.code = cc ∧ c.maxLocals = nL ∧ s.vm.findClass own = some m.cls ∧ (∀ w ∈ GW, w.before args s = true) ∧ va_K Ω.1 CLs (tys Ω) s ∧ Dj Ω ∧ St Ω s.heap.size s s.heap ∧ meth.locks = false ∧ meth.sig.returnType = some .int ∧ R = ({ frames := fr, cells := 1, slots := 6, locals := lo } : Room) ∧ l = l0 ∧ Q = MQ below (Qc s.heap.size) args s 1 6 (Ar Ω s.heap.size) ∧ NW s ∧ ZW Ω s.heap.size s s.heap ∧ c.exceptionTable.toList = tb
def OKw (Γ : Gm) (Ω : Wm) (kc ks nL pc : Nat) (L : List (Nat × Value)) (st : List Value) (σ : Sg) : Prop :=
  ∀ (ls : Array Slot) (H : Heap) (locs : List Loc), lv_has ls nL L → va_P Ω.1 CLs (wl Ω σ) H → va_S (Ar Ω (gS Γ).heap.size) (gS Γ).heap H locs → WWk Γ kc ks H locs (F0 (gM Γ) pc ls st)
def CTw (l : Launch) (y : MethodName) (cc : ByteArray) (nL : Nat) (hh : List (Nat × Nat × Nat × Nat)) (fr lo : Nat) (Ω : Wm) (av : List Value) (σ : Sg) (Po : Int32 → Sg → Prop) : Prop :=
  ∀ sz, Met l y (.codeWith y cc nL (some .int) hh :: GW) ({ frames := fr, cells := 1, slots := 6, locals := lo }) (va_Pc av (PX Ω sz σ)) (QI Ω Po sz) 1 6 (Ar Ω sz)
theorem CTw.of {l : Launch} {y : MethodName} {cc : ByteArray} {nL : Nat} {hh : List (Nat × Nat × Nat × Nat)} {fr lo : Nat} {Ω : Wm} {av : List Value} {σ : Sg} {Po : Int32 → Sg → Prop} (hy : plainName y.cls = true) (hn : (lg_sl av).length ≤ nL)
    (h : ∀ Γ : Gm, Cw Γ Ω cc nL y.cls fr lo l (QI Ω Po) (tableOf hh) → OKw Γ Ω 0 0 nL 0 (lv_args 0 av) [] σ) : CTw l y cc nL hh fr lo Ω av σ Po := by
  intro sz
  refine va_MetW (cc := cc) (maxL := nL) (ret := some .int) hy rfl ?_
  intro p e s m args below meth c s₁ B hml hv
  obtain ⟨rfl, ⟨hsz, hP, hK, hD, hSt, hN⟩, hZ⟩ := hv
  subst hsz
  have hts := atoms_spec (ws := .codeWith y cc nL (some .int) hh :: GW) B.pre
  have htb := vx_table (x := y) B (hts _ List.mem_cons_self)
  have hl := lv_entry av (n := nL) hn
  rw [lg_entry_eq]
  exact h (p, l, e, _, s, m, _, below, meth, c, _) ⟨B.exec, B.bytes, hml, findClass_of_methodNamed B.named, fun w hw => hts w (List.mem_cons_of_mem _ hw), hK, hD, hSt, B.notSynchronized, B.returns, rfl, rfl, rfl, hN, hZ, htb⟩ _ _ _ hl hP va_S.rf
/-- where a throw is caught -/
def Hd (Γ : Gm) (Ω : Wm) (nL : Nat) (own : String) (tb : List ExceptionTableEntry) (pc : Nat) (L : List (Nat × Value)) (E : String) (u : Sg) : Prop :=
  ∃ (pre : List ExceptionTableEntry) (x : ExceptionTableEntry) (suf : List ExceptionTableEntry) (name : String), tb = pre ++ x :: suf ∧ (∀ z ∈ pre, covers z pc = false ∨ (z.catchType ≠ 0 ∧ ∃ nm : String, Cond.classLink own z.catchType nm ∈ GW ∧ (E, nm) ∈ NCs)) ∧ covers x pc = true ∧ x.catchType ≠ 0 ∧ Cond.classLink own x.catchType name ∈ GW ∧ Cond.castable E name ∈ BWs ∧ ∀ a, OKw Γ Ω 1 6 nL x.handlerPc L [.ref a] u
theorem px_blind (Ω : Wm) (av : List Value) (sz : Nat) (σ : Sg) : FrameBlind (va_Pc av (PX Ω sz σ)) := fun a U g mk q => by
  obtain ⟨q0, ⟨q1, q2, q3, q4, q5, q6⟩, qz⟩ := q
  exact ⟨q0, ⟨q1, q2, va_K.moved (u := U) (U := U.calling g mk a) (Vm.Alike.refl U.vm) q3, q4, St.moved (u := U) (U := U.calling g mk a) (Vm.Alike.refl U.vm) q5, q6.same rfl⟩, qz.moved (u := U) (U := U.calling g mk a) (Vm.Alike.refl U.vm)⟩
theorem px_at {Ω : Wm} {σ : Sg} {s : State} {H : Heap} {locs : List Loc} {av : List Value} (hK : va_K Ω.1 CLs (tys Ω) s) (hD : Dj Ω) (hSt : St Ω s.heap.size s s.heap) (hN : NW s) (hZ : ZW Ω s.heap.size s s.heap) (hP : va_P Ω.1 CLs (wl Ω σ) H) (hS : va_S (Ar Ω s.heap.size) s.heap H locs) : ∀ U : State, U.heap = H → s.WarmedH U.vm → va_Pc av (PX Ω H.size σ) av.toArray U := by
  intro U hU hW
  subst hU
  exact ⟨rfl, ⟨rfl, hP, va_K.moved hW.alike hK, hD, (hSt.kept hS.1 hS.1 hS.2.1).moved hW.alike, hN.warm hW⟩, (hZ.kept hS.1 hS.2.1).moved hW.alike⟩
section OKWS
variable {Γ : Gm} {Ω : Wm} {cc bytes : ByteArray} {nL maxL n ix fr2 lo2 kc ks : Nat} {own : String} {ret2 : Option FieldType} {fr lo : Nat} {l0 : Launch} {Qc : Qt} {tb : List ExceptionTableEntry} {pc : Nat} {L : List (Nat × Value)} {st rest As : List Value} {σ : Sg} {y : MethodName}
theorem ow_iconst (C : Cw Γ Ω cc nL own fr lo l0 Qc tb) {n : Int} {v : Int32} (hdg : decode cc pc = .ok (.iconst n, 1)) (hv : Int32.ofInt n = v) (k : OKw Γ Ω kc ks nL (pc + 1) L (.int v :: st) σ) : OKw Γ Ω kc ks nL pc L (st) σ := by
  obtain ⟨p, l, e, R, s, m, args, below, meth, c, Q⟩ := Γ
  intro ls H locs hl hP hS
  exact lv_iconst C.1 C.2.1 hdg hv (k ls H locs hl hP hS)
theorem ow_lconst (C : Cw Γ Ω cc nL own fr lo l0 Qc tb) {n : Fin 2} {v : Int64} (hdg : decode cc pc = .ok (.lconst n, 1)) (hv : Int64.ofNat (n : Nat) = v) (k : OKw Γ Ω kc ks nL (pc + 1) L (.long v :: st) σ) : OKw Γ Ω kc ks nL pc L (st) σ := by
  obtain ⟨p, l, e, R, s, m, args, below, meth, c, Q⟩ := Γ
  intro ls H locs hl hP hS
  exact lv_lconst C.1 C.2.1 hdg hv (k ls H locs hl hP hS)
theorem ow_iload_n (C : Cw Γ Ω cc nL own fr lo l0 Qc tb) {q : Fin 4} {i : Nat} {x : Int32} (z : Nat) (hdg : decode cc pc = .ok (.iload_n q, 1)) (hi : (q : Nat) = i) (hz : L[z]? = some (i, .int x)) (k : OKw Γ Ω kc ks nL (pc + 1) L (.int x :: st) σ) : OKw Γ Ω kc ks nL pc L st σ := by
  obtain ⟨p, l, e, R, s, m, args, below, meth, c, Q⟩ := Γ
  intro ls H locs hl hP hS
  exact lv_iload_n C.1 C.2.1 hdg hi (lv_at hl z hz) (k ls H locs hl hP hS)
theorem ow_iload (C : Cw Γ Ω cc nL own fr lo l0 Qc tb) {i : Nat} {x : Int32} (z : Nat) (hdg : decode cc pc = .ok (.iload i, 2)) (hz : L[z]? = some (i, .int x)) (k : OKw Γ Ω kc ks nL (pc + 2) L (.int x :: st) σ) : OKw Γ Ω kc ks nL pc L st σ := by
  obtain ⟨p, l, e, R, s, m, args, below, meth, c, Q⟩ := Γ
  intro ls H locs hl hP hS
  exact lv_iload C.1 C.2.1 hdg (lv_at hl z hz) (k ls H locs hl hP hS)
theorem ow_lload_n (C : Cw Γ Ω cc nL own fr lo l0 Qc tb) {q : Fin 4} {i : Nat} {x : Int64} (z : Nat) (hdg : decode cc pc = .ok (.lload_n q, 1)) (hi : (q : Nat) = i) (hz : L[z]? = some (i, .long x)) (k : OKw Γ Ω kc ks nL (pc + 1) L (.long x :: st) σ) : OKw Γ Ω kc ks nL pc L st σ := by
  obtain ⟨p, l, e, R, s, m, args, below, meth, c, Q⟩ := Γ
  intro ls H locs hl hP hS
  exact lv_lload_n C.1 C.2.1 hdg hi (lv_at hl z hz) (k ls H locs hl hP hS)
theorem ow_lload (C : Cw Γ Ω cc nL own fr lo l0 Qc tb) {i : Nat} {x : Int64} (z : Nat) (hdg : decode cc pc = .ok (.lload i, 2)) (hz : L[z]? = some (i, .long x)) (k : OKw Γ Ω kc ks nL (pc + 2) L (.long x :: st) σ) : OKw Γ Ω kc ks nL pc L st σ := by
  obtain ⟨p, l, e, R, s, m, args, below, meth, c, Q⟩ := Γ
  intro ls H locs hl hP hS
  exact lv_lload C.1 C.2.1 hdg (lv_at hl z hz) (k ls H locs hl hP hS)
theorem ow_aload_n (C : Cw Γ Ω cc nL own fr lo l0 Qc tb) {q : Fin 4} {i a : Nat} (z : Nat) (hdg : decode cc pc = .ok (.aload_n q, 1)) (hi : (q : Nat) = i) (hz : L[z]? = some (i, .ref a)) (k : OKw Γ Ω kc ks nL (pc + 1) L (.ref a :: st) σ) : OKw Γ Ω kc ks nL pc L st σ := by
  obtain ⟨p, l, e, R, s, m, args, below, meth, c, Q⟩ := Γ
  intro ls H locs hl hP hS
  exact lv_aload_n C.1 C.2.1 hdg hi (lv_at hl z hz) (k ls H locs hl hP hS)
theorem ow_aload (C : Cw Γ Ω cc nL own fr lo l0 Qc tb) {i a : Nat} (z : Nat) (hdg : decode cc pc = .ok (.aload i, 2)) (hz : L[z]? = some (i, .ref a)) (k : OKw Γ Ω kc ks nL (pc + 2) L (.ref a :: st) σ) : OKw Γ Ω kc ks nL pc L st σ := by
  obtain ⟨p, l, e, R, s, m, args, below, meth, c, Q⟩ := Γ
  intro ls H locs hl hP hS
  exact lv_aload C.1 C.2.1 hdg (lv_at hl z hz) (k ls H locs hl hP hS)
theorem ow_goto (C : Cw Γ Ω cc nL own fr lo l0 Qc tb) {off : Int} (tgt : Nat) (hdg : decode cc pc = .ok (.goto off, 3)) (ht : (pc : Int) + off = (tgt : Int)) (k : OKw Γ Ω kc ks nL tgt L st σ) : OKw Γ Ω kc ks nL pc L st σ := by
  obtain ⟨p, l, e, R, s, m, args, below, meth, c, Q⟩ := Γ
  intro ls H locs hl hP hS
  exact lv_goto C.1 C.2.1 hdg ht (k ls H locs hl hP hS)
theorem ow_i2l (C : Cw Γ Ω cc nL own fr lo l0 Qc tb) {x : Int32} (hdg : decode cc pc = .ok (.i2l, 1)) (k : OKw Γ Ω kc ks nL (pc + 1) L (.long x.toInt64 :: st) σ) : OKw Γ Ω kc ks nL pc L (.int x :: st) σ := by
  obtain ⟨p, l, e, R, s, m, args, below, meth, c, Q⟩ := Γ
  intro ls H locs hl hP hS
  exact lv_i2l C.1 C.2.1 hdg rfl (k ls H locs hl hP hS)
theorem ow_last (C : Cw Γ Ω cc nL own fr lo l0 Qc tb) {q n : Nat} {fl : List (Option Nat)} (hq : Ω.2.1[q]? = some (1, n, fl)) {i : Int32} {x : Int64} (hi : vp_in i n) (hdg : decode cc pc = .ok (.lastore, 1)) (k : OKw Γ Ω kc ks nL (pc + 1) L st (pJ σ q i.toNatClampNeg x)) : OKw Γ Ω kc ks nL pc L (.long x :: .int i :: .ref (Ω.2.2.1 q) :: st) σ := by
  obtain ⟨p, l, e, R, s, m, args, below, meth, c, Q⟩ := Γ
  intro ls H locs hl hP hS
  refine va_last C.1 C.2.1 C.2.2.2.2.2.1 hP (C.2.2.2.2.2.2.1.D σ s.heap.size) hS q 1 (wl_at hq) rfl hi hdg (fun H1 locs1 hP1 _ hS1 => ?_)
  exact k ls H1 locs1 hl ((wl_set (σ := σ) (σ' := pJ σ q i.toNatClampNeg x) hq (by rw [pJ_upd]) (fun a _ => rfl) (fun a h => pJ_ne σ _ _ h)) ▸ hP1) hS1
theorem ow_if_eq (C : Cw Γ Ω cc nL own fr lo l0 Qc tb) {x : Int32} {off : Int} (tgt : Nat) (hdg : decode cc pc = .ok (.ifCond .eq off, 3)) (ht : (pc : Int) + off = (tgt : Int)) (k1 : x = 0 → OKw Γ Ω kc ks nL tgt L st σ) (k2 : ¬ x = 0 → OKw Γ Ω kc ks nL (pc + 3) L st σ) : OKw Γ Ω kc ks nL pc L (.int x :: st) σ := by
  obtain ⟨p, l, e, R, s, m, args, below, meth, c, Q⟩ := Γ
  intro ls H locs hl hP hS
  exact lv_if_eq C.1 C.2.1 hdg ht (fun h => k1 h ls H locs hl hP hS) (fun h => k2 h ls H locs hl hP hS)
theorem ow_astore_n (C : Cw Γ Ω cc nL own fr lo l0 Qc tb) {q : Fin 4} {i : Nat} {x : Nat} {L2 : List (Nat × Value)} (hdg : decode cc pc = .ok (.astore_n q, 1)) (hi : (q : Nat) = i) (hn : i < nL) (hL : (i, Value.ref x) :: L.filter (fun q => !(q.1 == i) && !(q.1 + 1 == i && q.2.category == 2)) = L2) (k : OKw Γ Ω kc ks nL (pc + 1) L2 st σ) : OKw Γ Ω kc ks nL pc L (.ref x :: st) σ := by
  obtain ⟨p, l, e, R, s, m, args, below, meth, c, Q⟩ := Γ
  intro ls H locs hl hP hS
  exact lv_astore_n C.1 C.2.1 hdg hi hl hn hL (fun ls2 h2 => k ls2 H locs h2 hP hS)
theorem ow_astore (C : Cw Γ Ω cc nL own fr lo l0 Qc tb) {i : Nat} {x : Nat} {L2 : List (Nat × Value)} (hdg : decode cc pc = .ok (.astore i, 2)) (hn : i < nL) (hL : (i, Value.ref x) :: L.filter (fun q => !(q.1 == i) && !(q.1 + 1 == i && q.2.category == 2)) = L2) (k : OKw Γ Ω kc ks nL (pc + 2) L2 st σ) : OKw Γ Ω kc ks nL pc L (.ref x :: st) σ := by
  obtain ⟨p, l, e, R, s, m, args, below, meth, c, Q⟩ := Γ
  intro ls H locs hl hP hS
  exact lv_astore C.1 C.2.1 hdg hl hn hL (fun ls2 h2 => k ls2 H locs h2 hP hS)
theorem ow_sub {L2 : List (Nat × Value)} (zs : List Nat) (hz : lv_pick L zs = L2) (k : OKw Γ Ω kc ks nL pc L2 st σ) : OKw Γ Ω kc ks nL pc L st σ := fun ls H locs hl hP hS => k ls H locs (lv_sub hl zs hz) hP hS
theorem ow_callVi (C : Cw Γ Ω cc nL own fr lo l0 Qc tb) {Po : Int32 → Sg → Prop} {Px : String → Sg → Prop} {q ci n0 N : Nat} {fl : List (Option Nat)} {T : u_T} (hq : Ω.2.1[q]? = some (ci + 5, n0, fl)) (hc : CLs[ci]? = some (y.cls, T, N)) (hM : Cu l0 y bytes maxL ret2 fr2 lo2 Ω (.ref (Ω.2.2.1 q) :: As) σ (QI Ω Po) Px) (hl : Cond.methodLink own ix y ∈ GW) (hin : Cond.instanceMethod y ∈ GW) (hse : Cond.selects y.cls y y ∈ GW) (hcode : Cond.code y bytes maxL ret2 ∈ GW) (hini : Cond.initialized y.cls ∈ GW) (hd : y.cls ≠ "java/lang/invoke/MethodHandle" ∧ y.cls ≠ "java/lang/invoke/VarHandle" ∧ (parseMethodDescriptor y.desc).map (fun d => d.parameters.length) = some n) (hn : As.length = n) (hR : fr2 + 1 ≤ fr ∧ 8 + (maxL + 11) + lo2 ≤ lo) (hw : (rest.map fun v => v.category).sum ≤ 8) (hst : st = As.reverse ++ .ref (Ω.2.2.1 q) :: rest) (hdg : decode cc pc = .ok (.invokevirtual ix, 3)) (kx : ∀ (E : String) (u : Sg), Px E u → Hd Γ Ω nL own tb pc L E u) (k : ∀ r u, Po r u → OKw Γ Ω 1 6 nL (pc + 3) L (.int r :: rest) u) : OKw Γ Ω 0 0 nL pc L st σ := by
  obtain ⟨p, l, e, R, s, m, args, below, meth, c, Q⟩ := Γ
  obtain ⟨c1, c2, c3, c4, c5, c6, c7, c8, c9, c10, c11, c12, c13, c14, c15, c16⟩ := C
  subst c11 c12
  intro ls H locs hl2 hP hS
  refine vx_calli (a := (Value.ref (Ω.2.2.1 q) :: As).toArray) (vx_runV ⟨c1, c2, c3, c4, c5⟩ (hM H.size) ⟨callB_of n c5 (gw_goodIn hcode (fun _ h => h)) rfl rfl rfl (c5 _ hini) (c5 _ hl) hd hR, c5 _ hin, c5 _ hse⟩ ⟨px_blind _ _ _ _, va_recv c6 hP hc (wl_at hq), px_at c6 c7 c8 c14 c15 hP hS⟩ rfl hn hl2.1 hst (lv_room hw) hdg ⟨Nat.le_refl _, Nat.le_refl _⟩) hS (fun q _ h => Ar.mono hS.1 q h) (fun q h => Ar.mono hS.1 q h) (fun q _ h => Ar.mono hS.1 q h) (fun E ce q9 u t H1 locs1 e1 hvm hp hB hz hkp hS1 hce hcv hcl => ?_) (fun r u t H1 locs1 e1 _ hp hB _ _ hS1 => k r u hp ls H1 locs1 hl2 (e1 ▸ hB) hS1)
  obtain ⟨hE, hB⟩ := hB
  subst hE
  obtain ⟨pre, x, suf, name, h1, h2, h3, h4, h5, h6, h7⟩ := kx u.1 u.2 hp
  refine vx_catch c4 pre x suf (c16.trans h1) (fun z hz => ?_) h3 h4 (c5 _ h5) (va_tabs (alW_ot (List.mem_filter.mp h6).2) rfl (c15.1 _ h6)) hce hcv hcl (h7 q9 ls H1 locs1 hl2 (e1 ▸ hB) hS1)
  rcases h2 z hz with h8 | ⟨h8, nm, h9, h10⟩
  · exact Or.inl h8
  · exact Or.inr ⟨h8, nm, c5 _ h9, c15.2.1 _ h10⟩
theorem ow_callVl (C : Cw Γ Ω cc nL own fr lo l0 Qc tb) {Po : Int64 → Sg → Prop} {Px : String → Sg → Prop} {q ci n0 N : Nat} {fl : List (Option Nat)} {T : u_T} (hq : Ω.2.1[q]? = some (ci + 5, n0, fl)) (hc : CLs[ci]? = some (y.cls, T, N)) (hM : Cu l0 y bytes maxL ret2 fr2 lo2 Ω (.ref (Ω.2.2.1 q) :: As) σ (QL Ω Po) Px) (hl : Cond.methodLink own ix y ∈ GW) (hin : Cond.instanceMethod y ∈ GW) (hse : Cond.selects y.cls y y ∈ GW) (hcode : Cond.code y bytes maxL ret2 ∈ GW) (hini : Cond.initialized y.cls ∈ GW) (hd : y.cls ≠ "java/lang/invoke/MethodHandle" ∧ y.cls ≠ "java/lang/invoke/VarHandle" ∧ (parseMethodDescriptor y.desc).map (fun d => d.parameters.length) = some n) (hn : As.length = n) (hR : fr2 + 1 ≤ fr ∧ 8 + (maxL + 11) + lo2 ≤ lo) (hw : (rest.map fun v => v.category).sum ≤ 8) (hst : st = As.reverse ++ .ref (Ω.2.2.1 q) :: rest) (hdg : decode cc pc = .ok (.invokevirtual ix, 3)) (kx : ∀ (E : String) (u : Sg), Px E u → Hd Γ Ω nL own tb pc L E u) (k : ∀ r u, Po r u → OKw Γ Ω 1 6 nL (pc + 3) L (.long r :: rest) u) : OKw Γ Ω 0 0 nL pc L st σ := by
  obtain ⟨p, l, e, R, s, m, args, below, meth, c, Q⟩ := Γ
  obtain ⟨c1, c2, c3, c4, c5, c6, c7, c8, c9, c10, c11, c12, c13, c14, c15, c16⟩ := C
  subst c11 c12
  intro ls H locs hl2 hP hS
  refine vx_calll (a := (Value.ref (Ω.2.2.1 q) :: As).toArray) (vx_runV ⟨c1, c2, c3, c4, c5⟩ (hM H.size) ⟨callB_of n c5 (gw_goodIn hcode (fun _ h => h)) rfl rfl rfl (c5 _ hini) (c5 _ hl) hd hR, c5 _ hin, c5 _ hse⟩ ⟨px_blind _ _ _ _, va_recv c6 hP hc (wl_at hq), px_at c6 c7 c8 c14 c15 hP hS⟩ rfl hn hl2.1 hst (lv_room hw) hdg ⟨Nat.le_refl _, Nat.le_refl _⟩) hS (fun q _ h => Ar.mono hS.1 q h) (fun q h => Ar.mono hS.1 q h) (fun q _ h => Ar.mono hS.1 q h) (fun E ce q9 u t H1 locs1 e1 hvm hp hB hz hkp hS1 hce hcv hcl => ?_) (fun r u t H1 locs1 e1 _ hp hB _ _ hS1 => k r u hp ls H1 locs1 hl2 (e1 ▸ hB) hS1)
  obtain ⟨hE, hB⟩ := hB
  subst hE
  obtain ⟨pre, x, suf, name, h1, h2, h3, h4, h5, h6, h7⟩ := kx u.1 u.2 hp
  refine vx_catch c4 pre x suf (c16.trans h1) (fun z hz => ?_) h3 h4 (c5 _ h5) (va_tabs (alW_ot (List.mem_filter.mp h6).2) rfl (c15.1 _ h6)) hce hcv hcl (h7 q9 ls H1 locs1 hl2 (e1 ▸ hB) hS1)
  rcases h2 z hz with h8 | ⟨h8, nm, h9, h10⟩
  · exact Or.inl h8
  · exact Or.inr ⟨h8, nm, c5 _ h9, c15.2.1 _ h10⟩
theorem ow_callVv (C : Cw Γ Ω cc nL own fr lo l0 Qc tb) {Po : Sg → Prop} {Px : String → Sg → Prop} {q ci n0 N : Nat} {fl : List (Option Nat)} {T : u_T} (hq : Ω.2.1[q]? = some (ci + 5, n0, fl)) (hc : CLs[ci]? = some (y.cls, T, N)) (hM : Cu l0 y bytes maxL ret2 fr2 lo2 Ω (.ref (Ω.2.2.1 q) :: As) σ (QV Ω Po) Px) (hl : Cond.methodLink own ix y ∈ GW) (hin : Cond.instanceMethod y ∈ GW) (hse : Cond.selects y.cls y y ∈ GW) (hcode : Cond.code y bytes maxL ret2 ∈ GW) (hini : Cond.initialized y.cls ∈ GW) (hd : y.cls ≠ "java/lang/invoke/MethodHandle" ∧ y.cls ≠ "java/lang/invoke/VarHandle" ∧ (parseMethodDescriptor y.desc).map (fun d => d.parameters.length) = some n) (hn : As.length = n) (hR : fr2 + 1 ≤ fr ∧ 8 + (maxL + 11) + lo2 ≤ lo) (hw : (rest.map fun v => v.category).sum ≤ 8) (hst : st = As.reverse ++ .ref (Ω.2.2.1 q) :: rest) (hdg : decode cc pc = .ok (.invokevirtual ix, 3)) (kx : ∀ (E : String) (u : Sg), Px E u → Hd Γ Ω nL own tb pc L E u) (k : ∀ u, Po u → OKw Γ Ω 1 6 nL (pc + 3) L (rest) u) : OKw Γ Ω 0 0 nL pc L st σ := by
  obtain ⟨p, l, e, R, s, m, args, below, meth, c, Q⟩ := Γ
  obtain ⟨c1, c2, c3, c4, c5, c6, c7, c8, c9, c10, c11, c12, c13, c14, c15, c16⟩ := C
  subst c11 c12
  intro ls H locs hl2 hP hS
  refine vx_callv (a := (Value.ref (Ω.2.2.1 q) :: As).toArray) (vx_runV ⟨c1, c2, c3, c4, c5⟩ (hM H.size) ⟨callB_of n c5 (gw_goodIn hcode (fun _ h => h)) rfl rfl rfl (c5 _ hini) (c5 _ hl) hd hR, c5 _ hin, c5 _ hse⟩ ⟨px_blind _ _ _ _, va_recv c6 hP hc (wl_at hq), px_at c6 c7 c8 c14 c15 hP hS⟩ rfl hn hl2.1 hst (lv_room hw) hdg ⟨Nat.le_refl _, Nat.le_refl _⟩) hS (fun q _ h => Ar.mono hS.1 q h) (fun q h => Ar.mono hS.1 q h) (fun q _ h => Ar.mono hS.1 q h) (fun E ce q9 u t H1 locs1 e1 hvm hp hB hz hkp hS1 hce hcv hcl => ?_) (fun u t H1 locs1 e1 _ hp hB _ _ hS1 => k u hp ls H1 locs1 hl2 (e1 ▸ hB) hS1)
  obtain ⟨hE, hB⟩ := hB
  subst hE
  obtain ⟨pre, x, suf, name, h1, h2, h3, h4, h5, h6, h7⟩ := kx u.1 u.2 hp
  refine vx_catch c4 pre x suf (c16.trans h1) (fun z hz => ?_) h3 h4 (c5 _ h5) (va_tabs (alW_ot (List.mem_filter.mp h6).2) rfl (c15.1 _ h6)) hce hcv hcl (h7 q9 ls H1 locs1 hl2 (e1 ▸ hB) hS1)
  rcases h2 z hz with h8 | ⟨h8, nm, h9, h10⟩
  · exact Or.inl h8
  · exact Or.inr ⟨h8, nm, c5 _ h9, c15.2.1 _ h10⟩
theorem ow_iret {Po : Int32 → Sg → Prop} (C : Cw Γ Ω cc nL own fr lo l0 (QI Ω Po) tb) {v : Int32} (hdg : decode cc pc = .ok (.ireturn, 1)) (hpo : Po v σ) : OKw Γ Ω 1 6 nL pc L [.int v] σ := by
  obtain ⟨p, l, e, R, s, m, args, below, meth, c, Q⟩ := Γ
  intro ls H locs hl hP hS
  obtain ⟨c1, c2, c3, c4, c5, c6, c7, c8, c9, c10, c11, c12, c13, c14, c15, c16⟩ := C
  subst c13
  exact W.iret c1 c2 c10 (fun t ht hW => ⟨⟨v, σ, rfl, hpo, (show va_P Ω.1 CLs (wl Ω σ) t.heap by rw [ht]; exact hP)⟩, hS.F ht⟩) hS.2.2 hdg c9
end OKWS
set_option maxRecDepth 100000 in
theorem cs_IA : Cond.castable xIA xIA ∈ BWs := List.mem_filter.mpr ⟨by decide +kernel, by decide +kernel⟩
set_option maxRecDepth 100000 in
theorem cs_IO : Cond.castable xIO xIO ∈ BWs := List.mem_filter.mpr ⟨by decide +kernel, by decide +kernel⟩
set_option maxRecDepth 100000 in
theorem cs_IS : Cond.castable xIS xIS ∈ BWs := List.mem_filter.mpr ⟨by decide +kernel, by decide +kernel⟩
set_option maxRecDepth 100000 in
theorem cs_UO : Cond.castable xUO xUO ∈ BWs := List.mem_filter.mpr ⟨by decide +kernel, by decide +kernel⟩
/-- the desk's world and the law's own row -/
def kW : List Kd := kD ++ [(1, 1, [])]
theorem kW_d {Ω : Wm} (h : Hk Ω kW) : Hk Ω kD := by
  obtain ⟨r, e⟩ := h
  exact ⟨[(1, 1, [])] ++ r, by rw [e]; exact List.append_assoc _ _ _⟩
theorem kW_141 : kW[141]? = some (1, 1, []) := rfl
theorem kW_0 : kW[0]? = some (12, 0, [some 3, some 7, some 22, some 37, some 1, some 2, none]) := rfl
theorem di_out {h : Hs} {σ : Sg} (d : DI h σ) (v : Int64) : DI h (pJ σ 141 0 v) := by
  have F : Fr [141] σ (pJ σ 141 0 v) := Fr_pJ (Fr.refl _ _) (by decide)
  obtain ⟨d1, d2, d3, d4⟩ := d
  refine ⟨d1.sm (F.sm _ (by decide)), d2, fun k hk => by rw [(F 2 (by decide)).1]; exact d3 k hk, fun i hi => (d4 i hi).sm (fun a h1 h2 => F a ?_)⟩
  simp only [List.mem_cons, List.not_mem_nil, or_false]
  omega
def Pw (c : Nat) (h2 : Hs) (a : Int64) (r : Int32) (u : Sg) : Prop := r = nI c ∧ DI h2 u ∧ (c = 0 → u.2 141 0 = a)
theorem opBegin_same (h : Hs) (x : Int32) : (opBegin h x).1 = 0 ∨ (opBegin h x).2 = h := by
  unfold opBegin
  repeat' split
  all_goals first | exact Or.inl rfl | exact Or.inr rfl
theorem opSubmit_same (h : Hs) (x y a : Int32) : (opSubmit h x y a).1 = 0 ∨ (opSubmit h x y a).2.2 = h := by
  unfold opSubmit
  repeat' split
  all_goals first | exact Or.inl rfl | exact Or.inr rfl
theorem opSync_same (h : Hs) (x y : Int32) (t : Int64) : (opSync h x y t).1 = 0 ∨ (opSync h x y t).2.2 = h := by
  unfold opSync
  repeat' split
  all_goals first | exact Or.inl rfl | exact Or.inr rfl
theorem opInject_same (h : Hs) (x c s o : Int32) (t : Int64) : (opInject h x c s o t).1 = 0 ∨ (opInject h x c s o t).2.2 = h := by
  unfold opInject
  repeat' split
  all_goals first | exact Or.inl rfl | exact Or.inr rfl

