/-! ===== constructors: a list of cells that grows ===== -/
def WWk (Γ : Gm) (kc ks : Nat) (H : Heap) (locs : List Loc) (g : JFrame) : Prop := match Γ with
  | (p, l, e, R, s, m, args, below, meth, c, Q) => W p l e R s m args below meth c H locs kc ks Q g
abbrev Ev : Type := va_G × (Nat → ClassId) × (Nat → Prop)
def tyE (E : Ev) : List (ClassId × FieldType) := [(E.2.1 0, .int), (E.2.1 1, .long), (E.2.1 2, .boolean), (E.2.1 3, .byte), (E.2.1 4, .object RX5)]
def QW (E : Ev) (Po : va_W → Prop) : Array Value → State → Outcome → State → Prop := va_Qv Po (fun W1 t => va_P E.1 CLs W1 t.heap ∧ va_D E.2.2 W1) E.2.2
def Kc (Γ : Gm) (E : Ev) (cc : ByteArray) (nL : Nat) (own : String) (fr cl sl lo : Nat) (l0 : Launch) (Qc : Array Value → State → Outcome → State → Prop) : Prop := match Γ with
  | (p, l, _, R, s, m, args, below, meth, c, Q) => p.tables.exec = Jvm.exec ∧ c.code = cc ∧ c.maxLocals = nL ∧ s.vm.findClass own = some m.cls ∧ (∀ w ∈ GW, w.before args s = true) ∧ va_K E.1 CLs (tyE E) s ∧ (∀ q : Nat, s.heap.size ≤ q → E.2.2 q) ∧ meth.name = "<init>" ∧ meth.locks = false ∧ meth.sig.returnType = none ∧ R = ({ frames := fr, cells := cl, slots := sl, locals := lo } : Room) ∧ l = l0 ∧ Q = MQ below Qc args s cl sl E.2.2 ∧ NW s
def OC (Γ : Gm) (E : Ev) (kc ks nL pc : Nat) (L : List (Nat × Value)) (st : List Value) (W0 : va_W) : Prop :=
  ∀ (ls : Array Slot) (H : Heap) (locs : List Loc), lv_has ls nL L → va_P E.1 CLs W0 H → va_D E.2.2 W0 → va_S E.2.2 (gS Γ).heap H locs → WWk Γ kc ks H locs (F0 (gM Γ) pc ls st)
def PI (D : va_G) (dA : Nat → ClassId) (sz : Nat) (W0 : va_W) (U : State) : Prop := U.heap.size = sz ∧ va_P D CLs W0 U.heap ∧ va_K D CLs (tyE (D, dA, fun _ => True)) U ∧ va_D (fun _ => True) W0 ∧ NW U
def Ci (l : Launch) (y : MethodName) (cc : ByteArray) (nL fr cl sl lo : Nat) (D : va_G) (dA : Nat → ClassId) (ci : Nat) (fs0 : List Value) (h0 : Nat) (av : List Value) (Po : va_W → Prop) : Prop :=
  ∀ sz, Met l y (.code y cc nL none :: GW) ({ frames := fr, cells := cl, slots := sl, locals := lo }) (va_Pc (.ref h0 :: av) (PI D dA sz [(h0, .inr (ci, fs0))])) (QW (D, dA, va_A [(h0, .inr (ci, fs0))] sz) Po) cl sl (va_A [(h0, .inr (ci, fs0))] sz)
theorem Ci.of {l : Launch} {y : MethodName} {cc : ByteArray} {nL fr cl sl lo : Nat} {D : va_G} {dA : Nat → ClassId} {ci : Nat} {fs0 : List Value} {h0 : Nat} {av : List Value} {Po : va_W → Prop} (hy : plainName y.cls = true) (hyn : y.name = "<init>") (hn : (lg_sl (.ref h0 :: av)).length ≤ nL)
    (h : ∀ (Γ : Gm) (A : Nat → Prop), Kc Γ (D, dA, A) cc nL y.cls fr cl sl lo l (QW (D, dA, A) Po) → OC Γ (D, dA, A) 0 0 nL 0 (lv_args 0 (.ref h0 :: av)) [] [(h0, .inr (ci, fs0))]) : Ci l y cc nL fr cl sl lo D dA ci fs0 h0 av Po := by
  intro sz
  refine Met.ofW (cc := cc) (maxL := nL) (ret := none) hy rfl ?_
  intro p e s m args below meth c s₁ B hml hv
  obtain ⟨rfl, hsz, hP, hK, hD0, hN⟩ := hv
  have hts := atoms_spec (ws := .code y cc nL none :: GW) B.pre
  have hin : meth.name = "<init>" := (name_of_methodNamed B.named B.method).1.trans hyn
  subst hsz
  have hD := hD0.self (sz := s.heap.size)
  have hl := lv_entry (.ref h0 :: av) (n := nL) hn
  rw [lg_entry_eq]
  exact h (p, l, e, _, s, m, _, below, meth, c, _) (va_A [(h0, .inr (ci, fs0))] s.heap.size) ⟨B.exec, B.bytes, hml, findClass_of_methodNamed B.named, fun w hw => hts w (List.mem_cons_of_mem _ hw), hK, fun q hq => Or.inr hq, hin, B.notSynchronized, B.returns, rfl, rfl, rfl, hN⟩ _ _ _ hl hP hD va_S.rf
theorem joinG {A0 : Nat → Prop} {D : va_G} {cl : List vw_C} {W1 Y : va_W} {c : Nat × va_E} {H H1 : Heap} (hP : va_P D cl (W1 ++ [c]) H) (hD : va_D A0 (W1 ++ [c])) (hF : ∀ a, va_A [c] H.size a → A0 a) (hk : ∀ q : Nat, q < H.size → ¬ va_A [c] H.size q → H1[q]? = H[q]?) (hP1 : va_P D cl Y H1) (hD1 : va_D (va_A [c] H.size) Y) : va_P D cl (W1 ++ Y) H1 ∧ va_D A0 (W1 ++ Y) := by
  have left : ∀ (k : Nat) (q : Nat × va_E), W1[k]? = some q → (W1 ++ [c])[k]? = some q := fun k q hq => by
    rw [List.getElem?_append_left (List.getElem?_eq_some_iff.mp hq).1]
    exact hq
  have hc : (W1 ++ [c])[W1.length]? = some c := by
    rw [List.getElem?_append_right (Nat.le_refl _), Nat.sub_self]
    rfl
  have far : ∀ (k : Nat) (q : Nat × va_E), W1[k]? = some q → q.1 < H.size ∧ ¬ va_A [c] H.size q.1 := fun k q hq => by
    have h1 := left k q hq
    have h2 := vx_lt hP h1
    refine ⟨h2, ?_⟩
    rintro (⟨i, e, hi⟩ | h)
    · have i1 : i < 1 := (List.getElem?_eq_some_iff.mp hi).1
      have i0 : i = 0 := by omega
      subst i0
      have e1 : c = (q.1, e) := Option.some.inj hi
      have e2 := hD.1 k W1.length q c h1 hc (by rw [e1])
      have := (List.getElem?_eq_some_iff.mp hq).1
      omega
    · omega
  have hPW : va_P D cl W1 H1 := fun k q hq => (hP k q (left k q hq)).kept (hk q.1 (far k q hq).1 (far k q hq).2)
  have hDW : va_D A0 W1 := ⟨fun i j x y hi hj e => hD.1 i j x y (left i x hi) (left j y hj) e, fun k q hq => hD.2 k q (left k q hq)⟩
  exact ⟨hPW.app hP1, hDW.app (hD1.weaken (fun _ q _ h => hF _ h)) (fun i j x y hi hj e => (far i x hi).2 (e ▸ hD1.2 j y hj))⟩
section OKCT
variable {Γ : Gm} {E : Ev} {cc : ByteArray} {nL kc ks : Nat} {own : String} {fr cl sl lo : Nat} {l0 : Launch} {Qc : Array Value → State → Outcome → State → Prop} {pc : Nat} {L : List (Nat × Value)} {st : List Value} {W0 : va_W}
theorem oc_iconst (C : Kc Γ E cc nL own fr cl sl lo l0 Qc) {n : Int} {v : Int32} (hdg : decode cc pc = .ok (.iconst n, 1)) (hv : Int32.ofInt n = v) (k : OC Γ E kc ks nL (pc + 1) L (.int v :: st) W0) : OC Γ E kc ks nL pc L (st) W0 := by
  obtain ⟨p, l, e, R, s, m, args, below, meth, c, Q⟩ := Γ
  intro ls H locs hl hP hD hS
  exact lv_iconst C.1 C.2.1 hdg hv (k ls H locs hl hP hD hS)
theorem oc_bipush (C : Kc Γ E cc nL own fr cl sl lo l0 Qc) {n : Int} {v : Int32} (hdg : decode cc pc = .ok (.bipush n, 2)) (hv : (Int8.ofInt n).toInt32 = v) (k : OC Γ E kc ks nL (pc + 2) L (.int v :: st) W0) : OC Γ E kc ks nL pc L (st) W0 := by
  obtain ⟨p, l, e, R, s, m, args, below, meth, c, Q⟩ := Γ
  intro ls H locs hl hP hD hS
  exact lv_bipush C.1 C.2.1 hdg hv (k ls H locs hl hP hD hS)
theorem oc_sipush (C : Kc Γ E cc nL own fr cl sl lo l0 Qc) {n : Int} {v : Int32} (hdg : decode cc pc = .ok (.sipush n, 3)) (hv : (Int16.ofInt n).toInt32 = v) (k : OC Γ E kc ks nL (pc + 3) L (.int v :: st) W0) : OC Γ E kc ks nL pc L (st) W0 := by
  obtain ⟨p, l, e, R, s, m, args, below, meth, c, Q⟩ := Γ
  intro ls H locs hl hP hD hS
  exact lv_sipush C.1 C.2.1 hdg hv (k ls H locs hl hP hD hS)
theorem oc_ldc (C : Kc Γ E cc nL own fr cl sl lo l0 Qc) {ix : Nat} {v : Int32} (hc : Cond.constant own ix v ∈ GW) (hdg : decode cc pc = .ok (.ldc ix, 2)) (k : OC Γ E kc ks nL (pc + 2) L (.int v :: st) W0) : OC Γ E kc ks nL pc L st W0 := by
  obtain ⟨p, l, e, R, s, m, args, below, meth, c, Q⟩ := Γ
  intro ls H locs hl hP hD hS
  exact lv_ldc C.1 C.2.1 C.2.2.2.1 (C.2.2.2.2.1 _ hc) hdg (k ls H locs hl hP hD hS)
theorem oc_ldcw (C : Kc Γ E cc nL own fr cl sl lo l0 Qc) {ix : Nat} {v : Int32} (hc : Cond.constant own ix v ∈ GW) (hdg : decode cc pc = .ok (.ldc_w ix, 3)) (k : OC Γ E kc ks nL (pc + 3) L (.int v :: st) W0) : OC Γ E kc ks nL pc L st W0 := by
  obtain ⟨p, l, e, R, s, m, args, below, meth, c, Q⟩ := Γ
  intro ls H locs hl hP hD hS
  exact lv_ldcw C.1 C.2.1 C.2.2.2.1 (C.2.2.2.2.1 _ hc) hdg (k ls H locs hl hP hD hS)
theorem oc_iload_n (C : Kc Γ E cc nL own fr cl sl lo l0 Qc) {q : Fin 4} {i : Nat} {x : Int32} (z : Nat) (hdg : decode cc pc = .ok (.iload_n q, 1)) (hi : (q : Nat) = i) (hz : L[z]? = some (i, .int x)) (k : OC Γ E kc ks nL (pc + 1) L (.int x :: st) W0) : OC Γ E kc ks nL pc L st W0 := by
  obtain ⟨p, l, e, R, s, m, args, below, meth, c, Q⟩ := Γ
  intro ls H locs hl hP hD hS
  exact lv_iload_n C.1 C.2.1 hdg hi (lv_at hl z hz) (k ls H locs hl hP hD hS)
theorem oc_aload_n (C : Kc Γ E cc nL own fr cl sl lo l0 Qc) {q : Fin 4} {i a : Nat} (z : Nat) (hdg : decode cc pc = .ok (.aload_n q, 1)) (hi : (q : Nat) = i) (hz : L[z]? = some (i, .ref a)) (k : OC Γ E kc ks nL (pc + 1) L (.ref a :: st) W0) : OC Γ E kc ks nL pc L st W0 := by
  obtain ⟨p, l, e, R, s, m, args, below, meth, c, Q⟩ := Γ
  intro ls H locs hl hP hD hS
  exact lv_aload_n C.1 C.2.1 hdg hi (lv_at hl z hz) (k ls H locs hl hP hD hS)
theorem oc_aload (C : Kc Γ E cc nL own fr cl sl lo l0 Qc) {i a : Nat} (z : Nat) (hdg : decode cc pc = .ok (.aload i, 2)) (hz : L[z]? = some (i, .ref a)) (k : OC Γ E kc ks nL (pc + 2) L (.ref a :: st) W0) : OC Γ E kc ks nL pc L st W0 := by
  obtain ⟨p, l, e, R, s, m, args, below, meth, c, Q⟩ := Γ
  intro ls H locs hl hP hD hS
  exact lv_aload C.1 C.2.1 hdg (lv_at hl z hz) (k ls H locs hl hP hD hS)
theorem oc_istore_n (C : Kc Γ E cc nL own fr cl sl lo l0 Qc) {q : Fin 4} {i : Nat} {x : Int32} {L2 : List (Nat × Value)} (hdg : decode cc pc = .ok (.istore_n q, 1)) (hi : (q : Nat) = i) (hn : i < nL) (hL : (i, Value.int x) :: L.filter (fun q => !(q.1 == i) && !(q.1 + 1 == i && q.2.category == 2)) = L2) (k : OC Γ E kc ks nL (pc + 1) L2 st W0) : OC Γ E kc ks nL pc L (.int x :: st) W0 := by
  obtain ⟨p, l, e, R, s, m, args, below, meth, c, Q⟩ := Γ
  intro ls H locs hl hP hD hS
  exact lv_istore_n C.1 C.2.1 hdg hi hl hn hL (fun ls2 h2 => k ls2 H locs h2 hP hD hS)
theorem oc_iinc (C : Kc Γ E cc nL own fr cl sl lo l0 Qc) {i : Nat} {n : Int} {x v : Int32} {L2 : List (Nat × Value)} (z : Nat) (hdg : decode cc pc = .ok (.iinc i n, 3)) (hz : L[z]? = some (i, .int x)) (hv : x + Int32.ofInt n = v) (hn : i < nL) (hL : (i, Value.int v) :: L.filter (fun q => !(q.1 == i) && !(q.1 + 1 == i && q.2.category == 2)) = L2) (k : OC Γ E kc ks nL (pc + 3) L2 st W0) : OC Γ E kc ks nL pc L st W0 := by
  obtain ⟨p, l, e, R, s, m, args, below, meth, c, Q⟩ := Γ
  intro ls H locs hl hP hD hS
  exact lv_iinc C.1 C.2.1 hdg hl (k := z) hz hv hn hL (fun ls2 h2 => k ls2 H locs h2 hP hD hS)
theorem oc_imul (C : Kc Γ E cc nL own fr cl sl lo l0 Qc) {x y : Int32} (hdg : decode cc pc = .ok (.imul, 1)) (k : OC Γ E kc ks nL (pc + 1) L (.int (x * y) :: st) W0) : OC Γ E kc ks nL pc L (.int y :: .int x :: st) W0 := by
  obtain ⟨p, l, e, R, s, m, args, below, meth, c, Q⟩ := Γ
  intro ls H locs hl hP hD hS
  exact lv_imul C.1 C.2.1 hdg (k ls H locs hl hP hD hS)
theorem oc_dup (C : Kc Γ E cc nL own fr cl sl lo l0 Qc) {va : Value} (hdg : decode cc pc = .ok (.dup, 1)) (h1 : va.category = 1) (k : OC Γ E kc ks nL (pc + 1) L (va :: va :: st) W0) : OC Γ E kc ks nL pc L (va :: st) W0 := by
  obtain ⟨p, l, e, R, s, m, args, below, meth, c, Q⟩ := Γ
  intro ls H locs hl hP hD hS
  exact lv_dup C.1 C.2.1 hdg h1 (k ls H locs hl hP hD hS)
theorem oc_icmp_ge (C : Kc Γ E cc nL own fr cl sl lo l0 Qc) {x y : Int32} {off : Int} (tgt : Nat) (hdg : decode cc pc = .ok (.if_icmp .ge off, 3)) (ht : (pc : Int) + off = (tgt : Int)) (k1 : y ≤ x → OC Γ E kc ks nL tgt L st W0) (k2 : ¬ y ≤ x → OC Γ E kc ks nL (pc + 3) L st W0) : OC Γ E kc ks nL pc L (.int y :: .int x :: st) W0 := by
  obtain ⟨p, l, e, R, s, m, args, below, meth, c, Q⟩ := Γ
  intro ls H locs hl hP hD hS
  exact lv_icmp_ge C.1 C.2.1 hdg ht (fun h => k1 h ls H locs hl hP hD hS) (fun h => k2 h ls H locs hl hP hD hS)
theorem oc_goto (C : Kc Γ E cc nL own fr cl sl lo l0 Qc) {off : Int} (tgt : Nat) (hdg : decode cc pc = .ok (.goto off, 3)) (ht : (pc : Int) + off = (tgt : Int)) (k : OC Γ E kc ks nL tgt L st W0) : OC Γ E kc ks nL pc L st W0 := by
  obtain ⟨p, l, e, R, s, m, args, below, meth, c, Q⟩ := Γ
  intro ls H locs hl hP hD hS
  exact lv_goto C.1 C.2.1 hdg ht (k ls H locs hl hP hD hS)
theorem oc_sub {L2 : List (Nat × Value)} (zs : List Nat) (hz : lv_pick L zs = L2) (k : OC Γ E kc ks nL pc L2 st W0) : OC Γ E kc ks nL pc L st W0 := fun ls H locs hl hP hD hS => k ls H locs (lv_sub hl zs hz) hP hD hS
theorem oc_newI (C : Kc Γ E cc nL own fr cl sl lo l0 Qc) {n : Int32} {N' : Nat} (hn : ¬ n < 0) (hN : n.toNatClampNeg = N') (hbytes : N' * componentBytes .int ≤ 536870912) (hcells : kc + 1 ≤ cl) (hslots : ks + N' ≤ sl) (hdg : decode cc pc = .ok (.newarray .int, 2)) (k : ∀ q, OC Γ E (kc + 1) (ks + N') nL (pc + 2) L (.ref q :: st) (W0 ++ [(q, .inl (E.2.1 0, N', .inl (fun _ => 0)))])) : OC Γ E kc ks nL pc L (.int n :: st) W0 := by
  obtain ⟨p, l, e, R, s, m, args, below, meth, c, Q⟩ := Γ
  intro ls H locs hl hP hD hS
  obtain ⟨c1, c2, c3, c4, c5, c6, c7, c8, c9, c10, c11, c12, c13, c14⟩ := C
  subst c11
  refine va_newa (atype := .int) (ty := .int) (a0 := (N', .inl (fun _ => 0))) c1 c2 (c5 _ W_1_56) rfl c6 hP hD hS c7 (fun _ => rfl) hn hN hbytes hcells hslots hdg (fun q cA H1 hK1 hP1 hD1 hS1 => ?_)
  have h1 : s.vm.findClass _ = some cA := (hK1.2 5 (cA, .int) rfl).2
  have h2 : s.vm.findClass _ = some (E.2.1 0) := (c6.2 0 (E.2.1 0, .int) rfl).2
  have e1 : cA = E.2.1 0 := Option.some.inj (h1.symm.trans h2)
  subst e1
  exact k q ls H1 locs hl hP1 hD1 hS1
theorem oc_newJ (C : Kc Γ E cc nL own fr cl sl lo l0 Qc) {n : Int32} {N' : Nat} (hn : ¬ n < 0) (hN : n.toNatClampNeg = N') (hbytes : N' * componentBytes .long ≤ 536870912) (hcells : kc + 1 ≤ cl) (hslots : ks + N' ≤ sl) (hdg : decode cc pc = .ok (.newarray .long, 2)) (k : ∀ q, OC Γ E (kc + 1) (ks + N') nL (pc + 2) L (.ref q :: st) (W0 ++ [(q, .inl (E.2.1 1, N', .inr (.inl (fun _ => 0))))])) : OC Γ E kc ks nL pc L (.int n :: st) W0 := by
  obtain ⟨p, l, e, R, s, m, args, below, meth, c, Q⟩ := Γ
  intro ls H locs hl hP hD hS
  obtain ⟨c1, c2, c3, c4, c5, c6, c7, c8, c9, c10, c11, c12, c13, c14⟩ := C
  subst c11
  refine va_newa (atype := .long) (ty := .long) (a0 := (N', .inr (.inl (fun _ => 0)))) c1 c2 (c5 _ W_1_95) rfl c6 hP hD hS c7 (fun _ => rfl) hn hN hbytes hcells hslots hdg (fun q cA H1 hK1 hP1 hD1 hS1 => ?_)
  have h1 : s.vm.findClass _ = some cA := (hK1.2 5 (cA, .long) rfl).2
  have h2 : s.vm.findClass _ = some (E.2.1 1) := (c6.2 1 (E.2.1 1, .long) rfl).2
  have e1 : cA = E.2.1 1 := Option.some.inj (h1.symm.trans h2)
  subst e1
  exact k q ls H1 locs hl hP1 hD1 hS1
theorem oc_newZ (C : Kc Γ E cc nL own fr cl sl lo l0 Qc) {n : Int32} {N' : Nat} (hn : ¬ n < 0) (hN : n.toNatClampNeg = N') (hbytes : N' * componentBytes .boolean ≤ 536870912) (hcells : kc + 1 ≤ cl) (hslots : ks + N' ≤ sl) (hdg : decode cc pc = .ok (.newarray .boolean, 2)) (k : ∀ q, OC Γ E (kc + 1) (ks + N') nL (pc + 2) L (.ref q :: st) (W0 ++ [(q, .inl (E.2.1 2, N', .inl (fun _ => 0)))])) : OC Γ E kc ks nL pc L (.int n :: st) W0 := by
  obtain ⟨p, l, e, R, s, m, args, below, meth, c, Q⟩ := Γ
  intro ls H locs hl hP hD hS
  obtain ⟨c1, c2, c3, c4, c5, c6, c7, c8, c9, c10, c11, c12, c13, c14⟩ := C
  subst c11
  refine va_newa (atype := .boolean) (ty := .boolean) (a0 := (N', .inl (fun _ => 0))) c1 c2 (c5 _ W_1_212) rfl c6 hP hD hS c7 (fun _ => rfl) hn hN hbytes hcells hslots hdg (fun q cA H1 hK1 hP1 hD1 hS1 => ?_)
  have h1 : s.vm.findClass _ = some cA := (hK1.2 5 (cA, .boolean) rfl).2
  have h2 : s.vm.findClass _ = some (E.2.1 2) := (c6.2 2 (E.2.1 2, .boolean) rfl).2
  have e1 : cA = E.2.1 2 := Option.some.inj (h1.symm.trans h2)
  subst e1
  exact k q ls H1 locs hl hP1 hD1 hS1
theorem oc_newB (C : Kc Γ E cc nL own fr cl sl lo l0 Qc) {n : Int32} {N' : Nat} (hn : ¬ n < 0) (hN : n.toNatClampNeg = N') (hbytes : N' * componentBytes .byte ≤ 536870912) (hcells : kc + 1 ≤ cl) (hslots : ks + N' ≤ sl) (hdg : decode cc pc = .ok (.newarray .byte, 2)) (k : ∀ q, OC Γ E (kc + 1) (ks + N') nL (pc + 2) L (.ref q :: st) (W0 ++ [(q, .inl (E.2.1 3, N', .inl (fun _ => 0)))])) : OC Γ E kc ks nL pc L (.int n :: st) W0 := by
  obtain ⟨p, l, e, R, s, m, args, below, meth, c, Q⟩ := Γ
  intro ls H locs hl hP hD hS
  obtain ⟨c1, c2, c3, c4, c5, c6, c7, c8, c9, c10, c11, c12, c13, c14⟩ := C
  subst c11
  refine va_newa (atype := .byte) (ty := .byte) (a0 := (N', .inl (fun _ => 0))) c1 c2 (c5 _ W_3_40) rfl c6 hP hD hS c7 (fun _ => rfl) hn hN hbytes hcells hslots hdg (fun q cA H1 hK1 hP1 hD1 hS1 => ?_)
  have h1 : s.vm.findClass _ = some cA := (hK1.2 5 (cA, .byte) rfl).2
  have h2 : s.vm.findClass _ = some (E.2.1 3) := (c6.2 3 (E.2.1 3, .byte) rfl).2
  have e1 : cA = E.2.1 3 := Option.some.inj (h1.symm.trans h2)
  subst e1
  exact k q ls H1 locs hl hP1 hD1 hS1
theorem oc_obj (C : Kc Γ E cc nL own fr cl sl lo l0 Qc) {idx a : Nat} (hlink : Cond.methodLink own idx Lib.objectInit ∈ GW) (hfr : 1 ≤ fr) (hlo : 12 ≤ lo) (hd : decode cc pc = .ok (.invokespecial idx, 3)) (k : OC Γ E kc ks nL (pc + 3) L [] W0) : OC Γ E kc ks nL pc L [.ref a] W0 := by
  obtain ⟨p, l, e, R, s, m, args, below, meth, c, Q⟩ := Γ
  intro ls H locs hl hP hD hS
  obtain ⟨c1, c2, c3, c4, c5, c6, c7, c8, c9, c10, c11, c12, c13, c14⟩ := C
  subst c11
  exact W.objInit (rest := []) c1 c2 c4 (c5 _ hlink) (c5 _ W_1_37) (c5 _ W_1_38) rfl (hl.1.trans c3.symm) rfl hd hfr hlo (k ls H locs hl hP hD hS)
theorem oc_put (C : Kc Γ E cc nL own fr cl sl lo l0 Qc) {ref C0 : String} {T : u_T} {N ci ix h0 : Nat} {fs : List Value} {R0 : va_W} (hin : ∀ w ∈ u_ws C0 T N, w ∈ GW) (hc : CLs[ci]? = some (C0, T, N)) (j : Nat) (hj : j < N) (hlink : Cond.fieldLink own ix ref (T j).2.1 (T j).2.2.1 ∈ GW) (hsame : ∀ (s : State) x, s.fieldFound? (T j).1 (T j).2.1 (T j).2.2.1 = some x → s.fieldFound? ref (T j).2.1 (T j).2.2.1 = some x) (ty0 : Nat → FieldType) (hty : ∀ k, k < N → parseFieldDescriptor (T k).2.2.1 = some (ty0 k)) (hnm : ∀ a, a < N → ∀ b, b < N → a ≠ b → (T a).2.1 ≠ (T b).2.1) (hfin : (T j).2.2.2 = true) (hdecl : (T j).1 = own) {v : Value} (hd : parseFieldDescriptor (T j).2.2.1 = some (ty0 j)) (hnr : narrow (ty0 j) v = v) (hft : fits (ty0 j) v = true) (hf : j < fs.length) (hdg : decode cc pc = .ok (.putfield ix, 3)) (k : OC Γ E kc ks nL (pc + 3) L st ((h0, .inr (ci, fs.set j v)) :: R0)) : OC Γ E kc ks nL pc L (v :: .ref h0 :: st) ((h0, .inr (ci, fs)) :: R0) := by
  obtain ⟨p, l, e, R, s, m, args, below, meth, c, Q⟩ := Γ
  intro ls H locs hl hP hD hS
  obtain ⟨c1, c2, c3, c4, c5, c6, c7, c8, c9, c10, c11, c12, c13, c14⟩ := C
  exact va_putF c1 c2 c5 hin ty0 hty hnm c4 c6 hP hD hS 0 rfl hc j hj (c5 _ hlink) (hsame _) hfin c8 hdecl hd hnr hft hf hdg (fun H1 locs1 hP1 hD1 hS1 => k ls H1 locs1 hl hP1 hD1 hS1)
theorem oc_putn (C : Kc Γ E cc nL own fr cl sl lo l0 Qc) {ref C0 : String} {T : u_T} {N ci ix h0 : Nat} {fs : List Value} {R0 : va_W} (hin : ∀ w ∈ u_ws C0 T N, w ∈ GW) (hc : CLs[ci]? = some (C0, T, N)) (j : Nat) (hj : j < N) (hlink : Cond.fieldLink own ix ref (T j).2.1 (T j).2.2.1 ∈ GW) (hsame : ∀ (s : State) x, s.fieldFound? (T j).1 (T j).2.1 (T j).2.2.1 = some x → s.fieldFound? ref (T j).2.1 (T j).2.2.1 = some x) (ty0 : Nat → FieldType) (hty : ∀ k, k < N → parseFieldDescriptor (T k).2.2.1 = some (ty0 k)) (hnm : ∀ a, a < N → ∀ b, b < N → a ≠ b → (T a).2.1 ≠ (T b).2.1) (hfin : (T j).2.2.2 = false) {v : Value} (hd : parseFieldDescriptor (T j).2.2.1 = some (ty0 j)) (hnr : narrow (ty0 j) v = v) (hft : fits (ty0 j) v = true) (hf : j < fs.length) (hdg : decode cc pc = .ok (.putfield ix, 3)) (k : OC Γ E kc ks nL (pc + 3) L st ((h0, .inr (ci, fs.set j v)) :: R0)) : OC Γ E kc ks nL pc L (v :: .ref h0 :: st) ((h0, .inr (ci, fs)) :: R0) := by
  obtain ⟨p, l, e, R, s, m, args, below, meth, c, Q⟩ := Γ
  intro ls H locs hl hP hD hS
  obtain ⟨c1, c2, c3, c4, c5, c6, c7, c8, c9, c10, c11, c12, c13, c14⟩ := C
  exact va_put c1 c2 c5 hin ty0 hty hnm c4 c6 hP hD hS 0 rfl hc j hj (c5 _ hlink) (hsame _) hfin hd hnr hft hf hdg (fun H1 locs1 hP1 hD1 hS1 => k ls H1 locs1 hl hP1 hD1 hS1)
theorem oc_get (C : Kc Γ E cc nL own fr cl sl lo l0 Qc) {ref C0 : String} {T : u_T} {N ci ix h0 : Nat} {fs : List Value} {R0 : va_W} (hin : ∀ w ∈ u_ws C0 T N, w ∈ GW) (hc : CLs[ci]? = some (C0, T, N)) (j : Nat) (hj : j < N) (hlink : Cond.fieldLink own ix ref (T j).2.1 (T j).2.2.1 ∈ GW) (hsame : ∀ (s : State) x, s.fieldFound? (T j).1 (T j).2.1 (T j).2.2.1 = some x → s.fieldFound? ref (T j).2.1 (T j).2.2.1 = some x) {v : Value} (hv : fs[j]? = some v) (hdg : decode cc pc = .ok (.getfield ix, 3)) (k : OC Γ E kc ks nL (pc + 3) L (v :: st) ((h0, .inr (ci, fs)) :: R0)) : OC Γ E kc ks nL pc L (.ref h0 :: st) ((h0, .inr (ci, fs)) :: R0) := by
  obtain ⟨p, l, e, R, s, m, args, below, meth, c, Q⟩ := Γ
  intro ls H locs hl hP hD hS
  obtain ⟨c1, c2, c3, c4, c5, c6, c7, c8, c9, c10, c11, c12, c13, c14⟩ := C
  exact va_get c1 c2 c5 hin c4 c6 hP 0 rfl hc j hj (c5 _ hlink) (hsame _) hv hdg (k ls H locs hl hP hD hS)
theorem oc_new (C : Kc Γ E cc nL own fr cl sl lo l0 Qc) {C0 : String} {T : u_T} {N ci ix : Nat} {fs : List Value} (hin : ∀ w ∈ u_ws C0 T N, w ∈ GW) (ty0 : Nat → FieldType) (hty : ∀ k, k < N → parseFieldDescriptor (T k).2.2.1 = some (ty0 k)) (hcl : Cond.classLink own ix C0 ∈ GW) (hinst : Cond.instantiable C0 N ∈ GW) (hini : Cond.initialized C0 ∈ GW) (hc : CLs[ci]? = some (C0, T, N)) (hfs : ∀ j, j < N → defaultValue (ty0 j) = vp_V fs j) (hcells : kc + 1 ≤ cl) (hslots : ks + N ≤ sl) (hdg : decode cc pc = .ok (.new ix, 3)) (k : ∀ q, OC Γ E (kc + 1) (ks + N) nL (pc + 3) L (.ref q :: st) (W0 ++ [(q, .inr (ci, fs))])) : OC Γ E kc ks nL pc L st W0 := by
  obtain ⟨p, l, e, R, s, m, args, below, meth, c, Q⟩ := Γ
  intro ls H locs hl hP hD hS
  obtain ⟨c1, c2, c3, c4, c5, c6, c7, c8, c9, c10, c11, c12, c13, c14⟩ := C
  subst c11
  exact va_new c1 c2 c5 hin ty0 hty c4 (c5 _ hcl) (c5 _ hinst) (c5 _ hini) c6 hP hD hS c7 hc hfs hcells hslots hdg (fun q H1 hP1 hD1 hS1 => k q ls H1 locs hl hP1 hD1 hS1)
theorem pi_blind (D : va_G) (dA : Nat → ClassId) (av : List Value) (sz : Nat) (W0 : va_W) : FrameBlind (va_Pc av (PI D dA sz W0)) := fun a U g mk q => by
  obtain ⟨q0, q1, q2, q3, q4, q5⟩ := q
  exact ⟨q0, q1, q2, va_K.moved (u := U) (U := U.calling g mk a) (Vm.Alike.refl U.vm) q3, q4, q5.same rfl⟩
theorem oc_init (C : Kc Γ E cc nL own fr cl sl lo l0 Qc) {y : MethodName} {bytes : ByteArray} {maxL fr2 cl2 sl2 lo2 ci q ix n : Nat} {fs As rest : List Value} {W1 : va_W} {Po : va_W → Prop} (hM : Ci l0 y bytes maxL fr2 cl2 sl2 lo2 E.1 E.2.1 ci fs q As Po) (hl : Cond.methodLink own ix y ∈ GW) (hin : Cond.instanceMethod y ∈ GW) (hcode : Cond.code y bytes maxL none ∈ GW) (hini : Cond.initialized y.cls ∈ GW) (hd : y.cls ≠ "java/lang/invoke/MethodHandle" ∧ y.cls ≠ "java/lang/invoke/VarHandle" ∧ (parseMethodDescriptor y.desc).map (fun d => d.parameters.length) = some n) (hyn : y.name = "<init>") (hn : As.length = n) (hR : fr2 + 1 ≤ fr ∧ 8 + (maxL + 11) + lo2 ≤ lo) (hw : (rest.map fun v => v.category).sum ≤ 8) (hst : st = As.reverse ++ .ref q :: rest) (hdg : decode cc pc = .ok (.invokespecial ix, 3)) (hcells : kc + cl2 ≤ cl) (hslots : ks + sl2 ≤ sl) (k : ∀ Wc, Po Wc → OC Γ E (kc + cl2) (ks + sl2) nL (pc + 3) L rest (W1 ++ Wc)) : OC Γ E kc ks nL pc L st (W1 ++ [(q, .inr (ci, fs))]) := by
  obtain ⟨p, l, e, R, s, m, args, below, meth, c, Q⟩ := Γ
  intro ls H locs hl2 hP hD hS
  obtain ⟨c1, c2, c3, c4, c5, c6, c7, c8, c9, c10, c11, c12, c13, c14⟩ := C
  subst c11 c12
  have hcx : (W1 ++ [(q, (Sum.inr (ci, fs) : va_E))])[W1.length]? = some (q, .inr (ci, fs)) := by
    rw [List.getElem?_append_right (Nat.le_refl _), Nat.sub_self]
    rfl
  have one : ∀ (k : Nat) (x : Nat × va_E), [(q, (Sum.inr (ci, fs) : va_E))][k]? = some x → k = 0 ∧ x = (q, .inr (ci, fs)) := fun k x hk => by
    have k1 : k < 1 := (List.getElem?_eq_some_iff.mp hk).1
    have k0 : k = 0 := by omega
    subst k0
    exact ⟨rfl, (Option.some.inj hk).symm⟩
  have hPc : va_P E.1 CLs [(q, .inr (ci, fs))] H := fun k x hk => by
    obtain ⟨-, rfl⟩ := one k x hk
    exact hP _ _ hcx
  have hDc : va_D (fun _ => True) [(q, (Sum.inr (ci, fs) : va_E))] := ⟨fun i j x y hi hj _ => by rw [(one i x hi).1, (one j y hj).1], fun _ _ _ => trivial⟩
  have hFc : ∀ a, va_A [(q, (Sum.inr (ci, fs) : va_E))] H.size a → E.2.2 a := by
    rintro a (⟨i, e2, hi⟩ | h)
    · obtain ⟨-, e3⟩ := one i _ hi
      have := hD.2 _ _ hcx
      have e4 : a = q := congrArg Prod.fst e3
      rw [e4]
      exact this
    · exact c7 a (Nat.le_trans hS.1 h)
  refine va_callv (a := (Value.ref q :: As).toArray) (va_runI ⟨c1, c2, c3, c4, c5⟩ (hM H.size) ⟨callB_of n c5 (gw_goodIn hcode (fun _ h => h)) rfl rfl rfl (c5 _ hini) (c5 _ hl) hd hR, hyn, c5 _ hin⟩ ⟨pi_blind _ _ _ _ _, fun U hU hW => ⟨rfl, by rw [hU], by rw [hU]; exact hPc, va_K.moved hW.alike c6, hDc, c14.warm hW⟩⟩ rfl hn hl2.1 hst (lv_room hw) hdg ⟨hcells, hslots⟩) hS (fun a _ h => hFc a h) hFc (fun u t H1 locs1 ht hvm hw2 hB hz1 hk1 hS1 => ?_)
  obtain ⟨hP1, hD1⟩ := hB
  rw [ht] at hP1
  obtain ⟨hP2, hD2⟩ := joinG hP hD hFc hk1 hP1 hD1
  exact k u hw2 ls H1 locs1 hl2 hP2 hD2 hS1
theorem oc_initN (C : Kc Γ E cc nL own fr cl sl lo l0 Qc) {y : MethodName} {bytes : ByteArray} {maxL fr2 cl2 sl2 lo2 ci q ix n : Nat} {fs As rest : List Value} {W1 : va_W} {Po : va_W → Prop} (hM : Ci l0 y bytes maxL fr2 cl2 sl2 lo2 E.1 E.2.1 ci fs q As Po) {host : String} (hl : (own, ix, y, host) ∈ NBm) (hin : Cond.instanceMethod y ∈ GW) (hcode : Cond.code y bytes maxL none ∈ GW) (hini : Cond.initialized y.cls ∈ GW) (hd : y.cls ≠ "java/lang/invoke/MethodHandle" ∧ y.cls ≠ "java/lang/invoke/VarHandle" ∧ (parseMethodDescriptor y.desc).map (fun d => d.parameters.length) = some n) (hyn : y.name = "<init>") (hn : As.length = n) (hR : fr2 + 1 ≤ fr ∧ 8 + (maxL + 11) + lo2 ≤ lo) (hw : (rest.map fun v => v.category).sum ≤ 8) (hst : st = As.reverse ++ .ref q :: rest) (hdg : decode cc pc = .ok (.invokespecial ix, 3)) (hcells : kc + cl2 ≤ cl) (hslots : ks + sl2 ≤ sl) (k : ∀ Wc, Po Wc → OC Γ E (kc + cl2) (ks + sl2) nL (pc + 3) L rest (W1 ++ Wc)) : OC Γ E kc ks nL pc L st (W1 ++ [(q, .inr (ci, fs))]) := by
  obtain ⟨p, l, e, R, s, m, args, below, meth, c, Q⟩ := Γ
  intro ls H locs hl2 hP hD hS
  obtain ⟨c1, c2, c3, c4, c5, c6, c7, c8, c9, c10, c11, c12, c13, c14⟩ := C
  subst c11 c12
  have hcx : (W1 ++ [(q, (Sum.inr (ci, fs) : va_E))])[W1.length]? = some (q, .inr (ci, fs)) := by
    rw [List.getElem?_append_right (Nat.le_refl _), Nat.sub_self]
    rfl
  have one : ∀ (k : Nat) (x : Nat × va_E), [(q, (Sum.inr (ci, fs) : va_E))][k]? = some x → k = 0 ∧ x = (q, .inr (ci, fs)) := fun k x hk => by
    have k1 : k < 1 := (List.getElem?_eq_some_iff.mp hk).1
    have k0 : k = 0 := by omega
    subst k0
    exact ⟨rfl, (Option.some.inj hk).symm⟩
  have hPc : va_P E.1 CLs [(q, .inr (ci, fs))] H := fun k x hk => by
    obtain ⟨-, rfl⟩ := one k x hk
    exact hP _ _ hcx
  have hDc : va_D (fun _ => True) [(q, (Sum.inr (ci, fs) : va_E))] := ⟨fun i j x y hi hj _ => by rw [(one i x hi).1, (one j y hj).1], fun _ _ _ => trivial⟩
  have hFc : ∀ a, va_A [(q, (Sum.inr (ci, fs) : va_E))] H.size a → E.2.2 a := by
    rintro a (⟨i, e2, hi⟩ | h)
    · obtain ⟨-, e3⟩ := one i _ hi
      have := hD.2 _ _ hcx
      have e4 : a = q := congrArg Prod.fst e3
      rw [e4]
      exact this
    · exact c7 a (Nat.le_trans hS.1 h)
  refine va_callv (a := (Value.ref q :: As).toArray) (va_runIN ⟨c1, c2, c3, c4, c5⟩ (hM H.size) ⟨va_cnB n c5 (gw_goodIn hcode (fun _ h => h)) rfl rfl rfl (c14.2 _ hl) (c5 _ hini) hd hR, hyn, c5 _ hin⟩ ⟨pi_blind _ _ _ _ _, fun U hU hW => ⟨rfl, by rw [hU], by rw [hU]; exact hPc, va_K.moved hW.alike c6, hDc, c14.warm hW⟩⟩ rfl hn hl2.1 hst (lv_room hw) hdg ⟨hcells, hslots⟩) hS (fun a _ h => hFc a h) hFc (fun u t H1 locs1 ht hvm hw2 hB hz1 hk1 hS1 => ?_)
  obtain ⟨hP1, hD1⟩ := hB
  rw [ht] at hP1
  obtain ⟨hP2, hD2⟩ := joinG hP hD hFc hk1 hP1 hD1
  exact k u hw2 ls H1 locs1 hl2 hP2 hD2 hS1
theorem oc_anew (C : Kc Γ E cc nL own fr cl sl lo l0 Qc) (hAO : va_AO RX5 (gS Γ)) {ix : Nat} {n : Int32} {N' : Nat} (hcl : Cond.classLink own ix RX5 ∈ GW) (hn : ¬ n < 0) (hN : n.toNatClampNeg = N') (hbytes : N' * 4 ≤ 536870912) (hcells : kc + 1 ≤ cl) (hslots : ks + N' ≤ sl) (hdg : decode cc pc = .ok (.anewarray ix, 3)) (k : ∀ q, OC Γ E (kc + 1) (ks + N') nL (pc + 3) L (.ref q :: st) (W0 ++ [(q, .inl (E.2.1 4, N', .inr (.inr (.inr (.inr (fun _ => none))))))])) : OC Γ E kc ks nL pc L (.int n :: st) W0 := by
  obtain ⟨p, l, e, R, s, m, args, below, meth, c, Q⟩ := Γ
  intro ls H locs hl hP hD hS
  obtain ⟨c1, c2, c3, c4, c5, c6, c7, c8, c9, c10, c11, c12, c13, c14⟩ := C
  subst c11
  refine va_newq c1 c2 c4 (c5 _ hcl) hAO c6 hP hD hS c7 hn hN hbytes hcells hslots hdg (fun q cA H1 hK1 hP1 hD1 hS1 => ?_)
  obtain ⟨kA, comp, x1, x2, x3, x4⟩ := (hK1.2 5 (cA, .object RX5) rfl).2
  obtain ⟨kA', comp', y1, y2, y3, y4⟩ := (c6.2 4 (E.2.1 4, .object RX5) rfl).2
  have e1 : cA = E.2.1 4 := Option.some.inj (x4.symm.trans y4)
  subst e1
  exact k q ls H1 locs hl hP1 hD1 hS1
theorem oc_aast (C : Kc Γ E cc nL own fr cl sl lo l0 Qc) (q0 qk : Nat) {a v n : Nat} {vs : List Value} {f : Nat → Option Nat} (ha : W0[q0]? = some (a, .inl (E.2.1 4, n, .inr (.inr (.inr (.inr f)))))) (hv : W0[qk]? = some (v, .inr (5, vs))) {i : Int32} (hin : vp_in i n) (hdg : decode cc pc = .ok (.aastore, 1)) (k : OC Γ E kc ks nL (pc + 1) L st (W0.set q0 (a, .inl (E.2.1 4, n, .inr (.inr (.inr (.inr (va_up f i.toNatClampNeg (some v))))))))) : OC Γ E kc ks nL pc L (.ref v :: .int i :: .ref a :: st) W0 := by
  obtain ⟨p, l, e, R, s, m, args, below, meth, c, Q⟩ := Γ
  intro ls H locs hl hP hD hS
  obtain ⟨c1, c2, c3, c4, c5, c6, c7, c8, c9, c10, c11, c12, c13, c14⟩ := C
  exact va_astq (r := (RX5, TX5, 18)) c1 c2 c6 hP hD hS q0 4 qk 5 ha rfl hv rfl hin hdg (fun H1 locs1 hP1 hD1 hS1 => k ls H1 locs1 hl hP1 hD1 hS1)
theorem oc_iast (C : Kc Γ E cc nL own fr cl sl lo l0 Qc) (q0 : Nat) {a n : Nat} {f : Nat → Int32} (ha : W0[q0]? = some (a, .inl (E.2.1 0, n, .inl f))) {i x : Int32} (hin : vp_in i n) (hdg : decode cc pc = .ok (.iastore, 1)) (k : OC Γ E kc ks nL (pc + 1) L st (W0.set q0 (a, .inl (E.2.1 0, n, .inl (upd f i.toNatClampNeg x))))) : OC Γ E kc ks nL pc L (.int x :: .int i :: .ref a :: st) W0 := by
  obtain ⟨p, l, e, R, s, m, args, below, meth, c, Q⟩ := Γ
  intro ls H locs hl hP hD hS
  obtain ⟨c1, c2, c3, c4, c5, c6, c7, c8, c9, c10, c11, c12, c13, c14⟩ := C
  exact va_iast c1 c2 c6 hP hD hS q0 0 ha rfl hin hdg (fun H1 locs1 hP1 hD1 hS1 => k ls H1 locs1 hl hP1 hD1 hS1)
theorem oc_ret {Po : va_W → Prop} (C : Kc Γ E cc nL own fr cl sl lo l0 (QW E Po)) (hkc : kc ≤ cl) (hks : ks ≤ sl) (hPo : Po W0) (hdg : decode cc pc = .ok (.return_, 1)) : OC Γ E kc ks nL pc L [] W0 := by
  obtain ⟨p, l, e, R, s, m, args, below, meth, c, Q⟩ := Γ
  intro ls H locs hl hP hD hS
  obtain ⟨c1, c2, c3, c4, c5, c6, c7, c8, c9, c10, c11, c12, c13, c14⟩ := C
  subst c13
  exact W.widen hkc hks (W.vret c1 c2 c10 (fun t ht hW => ⟨⟨W0, rfl, hPo, ⟨by rw [ht]; exact hP, hD⟩⟩, hS.F ht⟩) hS.2.2 hdg c9)
theorem oc_eq {W1 : va_W} (h : W0 = W1) (k : OC Γ E kc ks nL pc L st W1) : OC Γ E kc ks nL pc L st W0 := h ▸ k
end OKCT
