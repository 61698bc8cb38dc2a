section OKRX
variable {Γ : Gm} {Ω : Wm} {cc : ByteArray} {nL : Nat} {own : String} {ret : Option FieldType} {fr lo : Nat} {l0 : Launch} {Qc : Qt} {pc : Nat} {L : List (Nat × Value)} {st : List Value} {σ : Sg} {Px : String → Sg → Prop}
theorem okx_iconst (C : Cy Γ Ω cc nL own ret fr lo l0 Qc Px) {n : Int} {v : Int32} (hdg : decode cc pc = .ok (.iconst n, 1)) (hv : Int32.ofInt n = v) (k : OK Γ Ω nL (pc + 1) L (.int v :: st) σ) : OK Γ Ω nL pc L (st) σ := by
  obtain ⟨p, l, e, R, s, m, args, below, meth, c, Q⟩ := Γ
  intro ls H locs hl hP hS
  exact lv_iconst C.1 C.2.1 hdg hv (k ls H locs hl hP hS)
theorem okx_bipush (C : Cy Γ Ω cc nL own ret fr lo l0 Qc Px) {n : Int} {v : Int32} (hdg : decode cc pc = .ok (.bipush n, 2)) (hv : (Int8.ofInt n).toInt32 = v) (k : OK Γ Ω nL (pc + 2) L (.int v :: st) σ) : OK Γ Ω nL pc L (st) σ := by
  obtain ⟨p, l, e, R, s, m, args, below, meth, c, Q⟩ := Γ
  intro ls H locs hl hP hS
  exact lv_bipush C.1 C.2.1 hdg hv (k ls H locs hl hP hS)
theorem okx_sipush (C : Cy Γ Ω cc nL own ret fr lo l0 Qc Px) {n : Int} {v : Int32} (hdg : decode cc pc = .ok (.sipush n, 3)) (hv : (Int16.ofInt n).toInt32 = v) (k : OK Γ Ω nL (pc + 3) L (.int v :: st) σ) : OK Γ Ω nL pc L (st) σ := by
  obtain ⟨p, l, e, R, s, m, args, below, meth, c, Q⟩ := Γ
  intro ls H locs hl hP hS
  exact lv_sipush C.1 C.2.1 hdg hv (k ls H locs hl hP hS)
theorem okx_lconst (C : Cy Γ Ω cc nL own ret fr lo l0 Qc Px) {n : Fin 2} {v : Int64} (hdg : decode cc pc = .ok (.lconst n, 1)) (hv : Int64.ofNat (n : Nat) = v) (k : OK Γ Ω nL (pc + 1) L (.long v :: st) σ) : OK Γ Ω nL pc L (st) σ := by
  obtain ⟨p, l, e, R, s, m, args, below, meth, c, Q⟩ := Γ
  intro ls H locs hl hP hS
  exact lv_lconst C.1 C.2.1 hdg hv (k ls H locs hl hP hS)
theorem okx_iload_n (C : Cy Γ Ω cc nL own ret fr lo l0 Qc Px) {q : Fin 4} {i : Nat} {x : Int32} (z : Nat) (hdg : decode cc pc = .ok (.iload_n q, 1)) (hi : (q : Nat) = i) (hz : L[z]? = some (i, .int x)) (k : OK Γ Ω nL (pc + 1) L (.int x :: st) σ) : OK Γ Ω nL pc L st σ := by
  obtain ⟨p, l, e, R, s, m, args, below, meth, c, Q⟩ := Γ
  intro ls H locs hl hP hS
  exact lv_iload_n C.1 C.2.1 hdg hi (lv_at hl z hz) (k ls H locs hl hP hS)
theorem okx_iload (C : Cy Γ Ω cc nL own ret fr lo l0 Qc Px) {i : Nat} {x : Int32} (z : Nat) (hdg : decode cc pc = .ok (.iload i, 2)) (hz : L[z]? = some (i, .int x)) (k : OK Γ Ω nL (pc + 2) L (.int x :: st) σ) : OK Γ Ω nL pc L st σ := by
  obtain ⟨p, l, e, R, s, m, args, below, meth, c, Q⟩ := Γ
  intro ls H locs hl hP hS
  exact lv_iload C.1 C.2.1 hdg (lv_at hl z hz) (k ls H locs hl hP hS)
theorem okx_lload_n (C : Cy Γ Ω cc nL own ret fr lo l0 Qc Px) {q : Fin 4} {i : Nat} {x : Int64} (z : Nat) (hdg : decode cc pc = .ok (.lload_n q, 1)) (hi : (q : Nat) = i) (hz : L[z]? = some (i, .long x)) (k : OK Γ Ω nL (pc + 1) L (.long x :: st) σ) : OK Γ Ω nL pc L st σ := by
  obtain ⟨p, l, e, R, s, m, args, below, meth, c, Q⟩ := Γ
  intro ls H locs hl hP hS
  exact lv_lload_n C.1 C.2.1 hdg hi (lv_at hl z hz) (k ls H locs hl hP hS)
theorem okx_lload (C : Cy Γ Ω cc nL own ret fr lo l0 Qc Px) {i : Nat} {x : Int64} (z : Nat) (hdg : decode cc pc = .ok (.lload i, 2)) (hz : L[z]? = some (i, .long x)) (k : OK Γ Ω nL (pc + 2) L (.long x :: st) σ) : OK Γ Ω nL pc L st σ := by
  obtain ⟨p, l, e, R, s, m, args, below, meth, c, Q⟩ := Γ
  intro ls H locs hl hP hS
  exact lv_lload C.1 C.2.1 hdg (lv_at hl z hz) (k ls H locs hl hP hS)
theorem okx_aload_n (C : Cy Γ Ω cc nL own ret fr lo l0 Qc Px) {q : Fin 4} {i a : Nat} (z : Nat) (hdg : decode cc pc = .ok (.aload_n q, 1)) (hi : (q : Nat) = i) (hz : L[z]? = some (i, .ref a)) (k : OK Γ Ω nL (pc + 1) L (.ref a :: st) σ) : OK Γ Ω nL pc L st σ := by
  obtain ⟨p, l, e, R, s, m, args, below, meth, c, Q⟩ := Γ
  intro ls H locs hl hP hS
  exact lv_aload_n C.1 C.2.1 hdg hi (lv_at hl z hz) (k ls H locs hl hP hS)
theorem okx_aload (C : Cy Γ Ω cc nL own ret fr lo l0 Qc Px) {i a : Nat} (z : Nat) (hdg : decode cc pc = .ok (.aload i, 2)) (hz : L[z]? = some (i, .ref a)) (k : OK Γ Ω nL (pc + 2) L (.ref a :: st) σ) : OK Γ Ω nL pc L st σ := by
  obtain ⟨p, l, e, R, s, m, args, below, meth, c, Q⟩ := Γ
  intro ls H locs hl hP hS
  exact lv_aload C.1 C.2.1 hdg (lv_at hl z hz) (k ls H locs hl hP hS)
theorem okx_istore_n (C : Cy Γ Ω cc nL own ret fr lo l0 Qc Px) {q : Fin 4} {i : Nat} {x : Int32} {L2 : List (Nat × Value)} (hdg : decode cc pc = .ok (.istore_n q, 1)) (hi : (q : Nat) = i) (hn : i < nL) (hL : (i, Value.int x) :: L.filter (fun q => !(q.1 == i) && !(q.1 + 1 == i && q.2.category == 2)) = L2) (k : OK Γ Ω nL (pc + 1) L2 st σ) : OK Γ Ω nL pc L (.int x :: st) σ := by
  obtain ⟨p, l, e, R, s, m, args, below, meth, c, Q⟩ := Γ
  intro ls H locs hl hP hS
  exact lv_istore_n C.1 C.2.1 hdg hi hl hn hL (fun ls2 h2 => k ls2 H locs h2 hP hS)
theorem okx_istore (C : Cy Γ Ω cc nL own ret fr lo l0 Qc Px) {i : Nat} {x : Int32} {L2 : List (Nat × Value)} (hdg : decode cc pc = .ok (.istore i, 2)) (hn : i < nL) (hL : (i, Value.int x) :: L.filter (fun q => !(q.1 == i) && !(q.1 + 1 == i && q.2.category == 2)) = L2) (k : OK Γ Ω nL (pc + 2) L2 st σ) : OK Γ Ω nL pc L (.int x :: st) σ := by
  obtain ⟨p, l, e, R, s, m, args, below, meth, c, Q⟩ := Γ
  intro ls H locs hl hP hS
  exact lv_istore C.1 C.2.1 hdg hl hn hL (fun ls2 h2 => k ls2 H locs h2 hP hS)
theorem okx_lstore_n (C : Cy Γ Ω cc nL own ret fr lo l0 Qc Px) {q : Fin 4} {i : Nat} {x : Int64} {L2 : List (Nat × Value)} (hdg : decode cc pc = .ok (.lstore_n q, 1)) (hi : (q : Nat) = i) (hn : i + 1 < nL) (hL : (i, Value.long x) :: L.filter (fun q => !(q.1 == i) && (!(q.1 == i + 1) && !(q.1 + 1 == i && q.2.category == 2))) = L2) (k : OK Γ Ω nL (pc + 1) L2 st σ) : OK Γ Ω nL pc L (.long x :: st) σ := by
  obtain ⟨p, l, e, R, s, m, args, below, meth, c, Q⟩ := Γ
  intro ls H locs hl hP hS
  exact lv_lstore_n C.1 C.2.1 hdg hi hl hn hL (fun ls2 h2 => k ls2 H locs h2 hP hS)
theorem okx_lstore (C : Cy Γ Ω cc nL own ret fr lo l0 Qc Px) {i : Nat} {x : Int64} {L2 : List (Nat × Value)} (hdg : decode cc pc = .ok (.lstore i, 2)) (hn : i + 1 < nL) (hL : (i, Value.long x) :: L.filter (fun q => !(q.1 == i) && (!(q.1 == i + 1) && !(q.1 + 1 == i && q.2.category == 2))) = L2) (k : OK Γ Ω nL (pc + 2) L2 st σ) : OK Γ Ω nL pc L (.long x :: st) σ := by
  obtain ⟨p, l, e, R, s, m, args, below, meth, c, Q⟩ := Γ
  intro ls H locs hl hP hS
  exact lv_lstore C.1 C.2.1 hdg hl hn hL (fun ls2 h2 => k ls2 H locs h2 hP hS)
theorem okx_astore_n (C : Cy Γ Ω cc nL own ret fr lo l0 Qc Px) {q : Fin 4} {i : Nat} {x : Nat} {L2 : List (Nat × Value)} (hdg : decode cc pc = .ok (.astore_n q, 1)) (hi : (q : Nat) = i) (hn : i < nL) (hL : (i, Value.ref x) :: L.filter (fun q => !(q.1 == i) && !(q.1 + 1 == i && q.2.category == 2)) = L2) (k : OK Γ Ω nL (pc + 1) L2 st σ) : OK Γ Ω nL pc L (.ref x :: st) σ := by
  obtain ⟨p, l, e, R, s, m, args, below, meth, c, Q⟩ := Γ
  intro ls H locs hl hP hS
  exact lv_astore_n C.1 C.2.1 hdg hi hl hn hL (fun ls2 h2 => k ls2 H locs h2 hP hS)
theorem okx_astore (C : Cy Γ Ω cc nL own ret fr lo l0 Qc Px) {i : Nat} {x : Nat} {L2 : List (Nat × Value)} (hdg : decode cc pc = .ok (.astore i, 2)) (hn : i < nL) (hL : (i, Value.ref x) :: L.filter (fun q => !(q.1 == i) && !(q.1 + 1 == i && q.2.category == 2)) = L2) (k : OK Γ Ω nL (pc + 2) L2 st σ) : OK Γ Ω nL pc L (.ref x :: st) σ := by
  obtain ⟨p, l, e, R, s, m, args, below, meth, c, Q⟩ := Γ
  intro ls H locs hl hP hS
  exact lv_astore C.1 C.2.1 hdg hl hn hL (fun ls2 h2 => k ls2 H locs h2 hP hS)
theorem okx_iinc (C : Cy Γ Ω cc nL own ret fr lo l0 Qc Px) {i : Nat} {n : Int} {x v : Int32} {L2 : List (Nat × Value)} (z : Nat) (hdg : decode cc pc = .ok (.iinc i n, 3)) (hz : L[z]? = some (i, .int x)) (hv : x + Int32.ofInt n = v) (hn : i < nL) (hL : (i, Value.int v) :: L.filter (fun q => !(q.1 == i) && !(q.1 + 1 == i && q.2.category == 2)) = L2) (k : OK Γ Ω nL (pc + 3) L2 st σ) : OK Γ Ω nL pc L st σ := by
  obtain ⟨p, l, e, R, s, m, args, below, meth, c, Q⟩ := Γ
  intro ls H locs hl hP hS
  exact lv_iinc C.1 C.2.1 hdg hl (k := z) hz hv hn hL (fun ls2 h2 => k ls2 H locs h2 hP hS)
theorem okx_iadd (C : Cy Γ Ω cc nL own ret fr lo l0 Qc Px) {x y : Int32} (hdg : decode cc pc = .ok (.iadd, 1)) (k : OK Γ Ω nL (pc + 1) L (.int (x + y) :: st) σ) : OK Γ Ω nL pc L (.int y :: .int x :: st) σ := by
  obtain ⟨p, l, e, R, s, m, args, below, meth, c, Q⟩ := Γ
  intro ls H locs hl hP hS
  exact lv_iadd C.1 C.2.1 hdg (k ls H locs hl hP hS)
theorem okx_isub (C : Cy Γ Ω cc nL own ret fr lo l0 Qc Px) {x y : Int32} (hdg : decode cc pc = .ok (.isub, 1)) (k : OK Γ Ω nL (pc + 1) L (.int (x - y) :: st) σ) : OK Γ Ω nL pc L (.int y :: .int x :: st) σ := by
  obtain ⟨p, l, e, R, s, m, args, below, meth, c, Q⟩ := Γ
  intro ls H locs hl hP hS
  exact lv_isub C.1 C.2.1 hdg (k ls H locs hl hP hS)
theorem okx_imul (C : Cy Γ Ω cc nL own ret fr lo l0 Qc Px) {x y : Int32} (hdg : decode cc pc = .ok (.imul, 1)) (k : OK Γ Ω nL (pc + 1) L (.int (x * y) :: st) σ) : OK Γ Ω nL pc L (.int y :: .int x :: st) σ := by
  obtain ⟨p, l, e, R, s, m, args, below, meth, c, Q⟩ := Γ
  intro ls H locs hl hP hS
  exact lv_imul C.1 C.2.1 hdg (k ls H locs hl hP hS)
theorem okx_iand (C : Cy Γ Ω cc nL own ret fr lo l0 Qc Px) {x y : Int32} (hdg : decode cc pc = .ok (.iand, 1)) (k : OK Γ Ω nL (pc + 1) L (.int (x &&& y) :: st) σ) : OK Γ Ω nL pc L (.int y :: .int x :: st) σ := by
  obtain ⟨p, l, e, R, s, m, args, below, meth, c, Q⟩ := Γ
  intro ls H locs hl hP hS
  exact lv_iand C.1 C.2.1 hdg (k ls H locs hl hP hS)
theorem okx_ior (C : Cy Γ Ω cc nL own ret fr lo l0 Qc Px) {x y : Int32} (hdg : decode cc pc = .ok (.ior, 1)) (k : OK Γ Ω nL (pc + 1) L (.int (x ||| y) :: st) σ) : OK Γ Ω nL pc L (.int y :: .int x :: st) σ := by
  obtain ⟨p, l, e, R, s, m, args, below, meth, c, Q⟩ := Γ
  intro ls H locs hl hP hS
  exact lv_ior C.1 C.2.1 hdg (k ls H locs hl hP hS)
theorem okx_ixor (C : Cy Γ Ω cc nL own ret fr lo l0 Qc Px) {x y : Int32} (hdg : decode cc pc = .ok (.ixor, 1)) (k : OK Γ Ω nL (pc + 1) L (.int (x ^^^ y) :: st) σ) : OK Γ Ω nL pc L (.int y :: .int x :: st) σ := by
  obtain ⟨p, l, e, R, s, m, args, below, meth, c, Q⟩ := Γ
  intro ls H locs hl hP hS
  exact lv_ixor C.1 C.2.1 hdg (k ls H locs hl hP hS)
theorem okx_ishl (C : Cy Γ Ω cc nL own ret fr lo l0 Qc Px) {x y : Int32} (hdg : decode cc pc = .ok (.ishl, 1)) (k : OK Γ Ω nL (pc + 1) L (.int (ishl x y) :: st) σ) : OK Γ Ω nL pc L (.int y :: .int x :: st) σ := by
  obtain ⟨p, l, e, R, s, m, args, below, meth, c, Q⟩ := Γ
  intro ls H locs hl hP hS
  exact lv_ishl C.1 C.2.1 hdg (k ls H locs hl hP hS)
theorem okx_ishr (C : Cy Γ Ω cc nL own ret fr lo l0 Qc Px) {x y : Int32} (hdg : decode cc pc = .ok (.ishr, 1)) (k : OK Γ Ω nL (pc + 1) L (.int (ishr x y) :: st) σ) : OK Γ Ω nL pc L (.int y :: .int x :: st) σ := by
  obtain ⟨p, l, e, R, s, m, args, below, meth, c, Q⟩ := Γ
  intro ls H locs hl hP hS
  exact lv_ishr C.1 C.2.1 hdg (k ls H locs hl hP hS)
theorem okx_ladd (C : Cy Γ Ω cc nL own ret fr lo l0 Qc Px) {x y : Int64} (hdg : decode cc pc = .ok (.ladd, 1)) (k : OK Γ Ω nL (pc + 1) L (.long (x + y) :: st) σ) : OK Γ Ω nL pc L (.long y :: .long x :: st) σ := by
  obtain ⟨p, l, e, R, s, m, args, below, meth, c, Q⟩ := Γ
  intro ls H locs hl hP hS
  exact lv_ladd C.1 C.2.1 hdg (k ls H locs hl hP hS)
theorem okx_lsub (C : Cy Γ Ω cc nL own ret fr lo l0 Qc Px) {x y : Int64} (hdg : decode cc pc = .ok (.lsub, 1)) (k : OK Γ Ω nL (pc + 1) L (.long (x - y) :: st) σ) : OK Γ Ω nL pc L (.long y :: .long x :: st) σ := by
  obtain ⟨p, l, e, R, s, m, args, below, meth, c, Q⟩ := Γ
  intro ls H locs hl hP hS
  exact lv_lsub C.1 C.2.1 hdg (k ls H locs hl hP hS)
theorem okx_lmul (C : Cy Γ Ω cc nL own ret fr lo l0 Qc Px) {x y : Int64} (hdg : decode cc pc = .ok (.lmul, 1)) (k : OK Γ Ω nL (pc + 1) L (.long (x * y) :: st) σ) : OK Γ Ω nL pc L (.long y :: .long x :: st) σ := by
  obtain ⟨p, l, e, R, s, m, args, below, meth, c, Q⟩ := Γ
  intro ls H locs hl hP hS
  exact lv_lmul C.1 C.2.1 hdg (k ls H locs hl hP hS)
theorem okx_land (C : Cy Γ Ω cc nL own ret fr lo l0 Qc Px) {x y : Int64} (hdg : decode cc pc = .ok (.land, 1)) (k : OK Γ Ω nL (pc + 1) L (.long (x &&& y) :: st) σ) : OK Γ Ω nL pc L (.long y :: .long x :: st) σ := by
  obtain ⟨p, l, e, R, s, m, args, below, meth, c, Q⟩ := Γ
  intro ls H locs hl hP hS
  exact lv_land C.1 C.2.1 hdg (k ls H locs hl hP hS)
theorem okx_lor (C : Cy Γ Ω cc nL own ret fr lo l0 Qc Px) {x y : Int64} (hdg : decode cc pc = .ok (.lor, 1)) (k : OK Γ Ω nL (pc + 1) L (.long (x ||| y) :: st) σ) : OK Γ Ω nL pc L (.long y :: .long x :: st) σ := by
  obtain ⟨p, l, e, R, s, m, args, below, meth, c, Q⟩ := Γ
  intro ls H locs hl hP hS
  exact lv_lor C.1 C.2.1 hdg (k ls H locs hl hP hS)
theorem okx_lxor (C : Cy Γ Ω cc nL own ret fr lo l0 Qc Px) {x y : Int64} (hdg : decode cc pc = .ok (.lxor, 1)) (k : OK Γ Ω nL (pc + 1) L (.long (x ^^^ y) :: st) σ) : OK Γ Ω nL pc L (.long y :: .long x :: st) σ := by
  obtain ⟨p, l, e, R, s, m, args, below, meth, c, Q⟩ := Γ
  intro ls H locs hl hP hS
  exact lv_lxor C.1 C.2.1 hdg (k ls H locs hl hP hS)
theorem okx_idiv (C : Cy Γ Ω cc nL own ret fr lo l0 Qc Px) {x y : Int32} (hdg : decode cc pc = .ok (.idiv, 1)) (hne : ¬ y = 0) (k : OK Γ Ω nL (pc + 1) L (.int (x / y) :: st) σ) : OK Γ Ω nL pc L (.int y :: .int x :: st) σ := by
  obtain ⟨p, l, e, R, s, m, args, below, meth, c, Q⟩ := Γ
  intro ls H locs hl hP hS
  exact lv_idiv C.1 C.2.1 hdg hne (k ls H locs hl hP hS)
theorem okx_irem (C : Cy Γ Ω cc nL own ret fr lo l0 Qc Px) {x y : Int32} (hdg : decode cc pc = .ok (.irem, 1)) (hne : ¬ y = 0) (k : OK Γ Ω nL (pc + 1) L (.int (irem x y) :: st) σ) : OK Γ Ω nL pc L (.int y :: .int x :: st) σ := by
  obtain ⟨p, l, e, R, s, m, args, below, meth, c, Q⟩ := Γ
  intro ls H locs hl hP hS
  exact lv_irem C.1 C.2.1 hdg hne (k ls H locs hl hP hS)
theorem okx_ineg (C : Cy Γ Ω cc nL own ret fr lo l0 Qc Px) {x : Int32} (hdg : decode cc pc = .ok (.ineg, 1)) (k : OK Γ Ω nL (pc + 1) L (.int (-x) :: st) σ) : OK Γ Ω nL pc L (.int x :: st) σ := by
  obtain ⟨p, l, e, R, s, m, args, below, meth, c, Q⟩ := Γ
  intro ls H locs hl hP hS
  exact lv_ineg C.1 C.2.1 hdg (k ls H locs hl hP hS)
theorem okx_iushr (C : Cy Γ Ω cc nL own ret fr lo l0 Qc Px) {x y : Int32} (hdg : decode cc pc = .ok (.iushr, 1)) (k : OK Γ Ω nL (pc + 1) L (.int (iush x y) :: st) σ) : OK Γ Ω nL pc L (.int y :: .int x :: st) σ := by
  obtain ⟨p, l, e, R, s, m, args, below, meth, c, Q⟩ := Γ
  intro ls H locs hl hP hS
  exact lv_iushr C.1 C.2.1 hdg rfl (k ls H locs hl hP hS)
theorem okx_lushr (C : Cy Γ Ω cc nL own ret fr lo l0 Qc Px) {x : Int64} {y : Int32} (hdg : decode cc pc = .ok (.lushr, 1)) (k : OK Γ Ω nL (pc + 1) L (.long (lush x y) :: st) σ) : OK Γ Ω nL pc L (.int y :: .long x :: st) σ := by
  obtain ⟨p, l, e, R, s, m, args, below, meth, c, Q⟩ := Γ
  intro ls H locs hl hP hS
  exact lv_lushr C.1 C.2.1 hdg rfl (k ls H locs hl hP hS)
theorem okx_lshl (C : Cy Γ Ω cc nL own ret fr lo l0 Qc Px) {x : Int64} {y : Int32} (hdg : decode cc pc = .ok (.lshl, 1)) (k : OK Γ Ω nL (pc + 1) L (.long (lshl x y) :: st) σ) : OK Γ Ω nL pc L (.int y :: .long x :: st) σ := by
  obtain ⟨p, l, e, R, s, m, args, below, meth, c, Q⟩ := Γ
  intro ls H locs hl hP hS
  exact lv_lshl C.1 C.2.1 hdg rfl (k ls H locs hl hP hS)
theorem okx_lshr (C : Cy Γ Ω cc nL own ret fr lo l0 Qc Px) {x : Int64} {y : Int32} (hdg : decode cc pc = .ok (.lshr, 1)) (k : OK Γ Ω nL (pc + 1) L (.long (lshr x y) :: st) σ) : OK Γ Ω nL pc L (.int y :: .long x :: st) σ := by
  obtain ⟨p, l, e, R, s, m, args, below, meth, c, Q⟩ := Γ
  intro ls H locs hl hP hS
  exact lv_lshr C.1 C.2.1 hdg rfl (k ls H locs hl hP hS)
theorem okx_i2l (C : Cy Γ Ω cc nL own ret fr lo l0 Qc Px) {x : Int32} (hdg : decode cc pc = .ok (.i2l, 1)) (k : OK Γ Ω nL (pc + 1) L (.long x.toInt64 :: st) σ) : OK Γ Ω nL pc L (.int x :: st) σ := by
  obtain ⟨p, l, e, R, s, m, args, below, meth, c, Q⟩ := Γ
  intro ls H locs hl hP hS
  exact lv_i2l C.1 C.2.1 hdg rfl (k ls H locs hl hP hS)
theorem okx_l2i (C : Cy Γ Ω cc nL own ret fr lo l0 Qc Px) {x : Int64} (hdg : decode cc pc = .ok (.l2i, 1)) (k : OK Γ Ω nL (pc + 1) L (.int x.toInt32 :: st) σ) : OK Γ Ω nL pc L (.long x :: st) σ := by
  obtain ⟨p, l, e, R, s, m, args, below, meth, c, Q⟩ := Γ
  intro ls H locs hl hP hS
  exact lv_l2i C.1 C.2.1 hdg rfl (k ls H locs hl hP hS)
theorem okx_i2b (C : Cy Γ Ω cc nL own ret fr lo l0 Qc Px) {x : Int32} (hdg : decode cc pc = .ok (.i2b, 1)) (k : OK Γ Ω nL (pc + 1) L (.int (i2b x) :: st) σ) : OK Γ Ω nL pc L (.int x :: st) σ := by
  obtain ⟨p, l, e, R, s, m, args, below, meth, c, Q⟩ := Γ
  intro ls H locs hl hP hS
  exact lv_i2b C.1 C.2.1 hdg rfl (k ls H locs hl hP hS)
theorem okx_lcmp (C : Cy Γ Ω cc nL own ret fr lo l0 Qc Px) {x y : Int64} (hdg : decode cc pc = .ok (.lcmp, 1)) (k : OK Γ Ω nL (pc + 1) L (.int (lg_cmp x y) :: st) σ) : OK Γ Ω nL pc L (.long y :: .long x :: st) σ := by
  obtain ⟨p, l, e, R, s, m, args, below, meth, c, Q⟩ := Γ
  intro ls H locs hl hP hS
  exact W.lcmp C.1 C.2.1 hdg (k ls H locs hl hP hS)
theorem okx_dup (C : Cy Γ Ω cc nL own ret fr lo l0 Qc Px) {va : Value} (hdg : decode cc pc = .ok (.dup, 1)) (h1 : va.category = 1) (k : OK Γ Ω nL (pc + 1) L (va :: va :: st) σ) : OK Γ Ω nL pc L (va :: st) σ := by
  obtain ⟨p, l, e, R, s, m, args, below, meth, c, Q⟩ := Γ
  intro ls H locs hl hP hS
  exact lv_dup C.1 C.2.1 hdg h1 (k ls H locs hl hP hS)
theorem okx_dup_x1 (C : Cy Γ Ω cc nL own ret fr lo l0 Qc Px) {va vb : Value} (hdg : decode cc pc = .ok (.dup_x1, 1)) (h1 : va.category = 1) (h2 : vb.category = 1) (k : OK Γ Ω nL (pc + 1) L (va :: vb :: va :: st) σ) : OK Γ Ω nL pc L (va :: vb :: st) σ := by
  obtain ⟨p, l, e, R, s, m, args, below, meth, c, Q⟩ := Γ
  intro ls H locs hl hP hS
  exact lv_dup_x1 C.1 C.2.1 hdg h1 h2 (k ls H locs hl hP hS)
theorem okx_dup2_11 (C : Cy Γ Ω cc nL own ret fr lo l0 Qc Px) {va vb : Value} (hdg : decode cc pc = .ok (.dup2, 1)) (h1 : va.category = 1) (h2 : vb.category = 1) (k : OK Γ Ω nL (pc + 1) L (va :: vb :: va :: vb :: st) σ) : OK Γ Ω nL pc L (va :: vb :: st) σ := by
  obtain ⟨p, l, e, R, s, m, args, below, meth, c, Q⟩ := Γ
  intro ls H locs hl hP hS
  exact lv_dup2_11 C.1 C.2.1 hdg h1 h2 (k ls H locs hl hP hS)
theorem okx_dup_x2 (C : Cy Γ Ω cc nL own ret fr lo l0 Qc Px) {va vb vc : Value} (hdg : decode cc pc = .ok (.dup_x2, 1)) (h1 : va.category = 1) (h2 : vb.category = 1) (h3 : vc.category = 1) (k : OK Γ Ω nL (pc + 1) L (va :: vb :: vc :: va :: st) σ) : OK Γ Ω nL pc L (va :: vb :: vc :: st) σ := by
  obtain ⟨p, l, e, R, s, m, args, below, meth, c, Q⟩ := Γ
  intro ls H locs hl hP hS
  exact lv_dup_x2 C.1 C.2.1 hdg h1 h2 h3 (k ls H locs hl hP hS)
theorem okx_pop (C : Cy Γ Ω cc nL own ret fr lo l0 Qc Px) {va : Value} (hdg : decode cc pc = .ok (.pop, 1)) (h1 : va.category = 1) (k : OK Γ Ω nL (pc + 1) L (st) σ) : OK Γ Ω nL pc L (va :: st) σ := by
  obtain ⟨p, l, e, R, s, m, args, below, meth, c, Q⟩ := Γ
  intro ls H locs hl hP hS
  exact lv_pop C.1 C.2.1 hdg h1 (k ls H locs hl hP hS)
theorem okx_if_eq (C : Cy Γ Ω cc nL own ret fr lo l0 Qc Px) {x : Int32} {off : Int} (tgt : Nat) (hdg : decode cc pc = .ok (.ifCond .eq off, 3)) (ht : (pc : Int) + off = (tgt : Int)) (k1 : x = 0 → OK Γ Ω nL tgt L st σ) (k2 : ¬ x = 0 → OK Γ Ω nL (pc + 3) L st σ) : OK Γ Ω nL pc L (.int x :: st) σ := by
  obtain ⟨p, l, e, R, s, m, args, below, meth, c, Q⟩ := Γ
  intro ls H locs hl hP hS
  exact lv_if_eq C.1 C.2.1 hdg ht (fun h => k1 h ls H locs hl hP hS) (fun h => k2 h ls H locs hl hP hS)
theorem okx_if_ne (C : Cy Γ Ω cc nL own ret fr lo l0 Qc Px) {x : Int32} {off : Int} (tgt : Nat) (hdg : decode cc pc = .ok (.ifCond .ne off, 3)) (ht : (pc : Int) + off = (tgt : Int)) (k1 : ¬ x = 0 → OK Γ Ω nL tgt L st σ) (k2 : x = 0 → OK Γ Ω nL (pc + 3) L st σ) : OK Γ Ω nL pc L (.int x :: st) σ := by
  obtain ⟨p, l, e, R, s, m, args, below, meth, c, Q⟩ := Γ
  intro ls H locs hl hP hS
  exact lv_if_ne C.1 C.2.1 hdg ht (fun h => k1 h ls H locs hl hP hS) (fun h => k2 h ls H locs hl hP hS)
theorem okx_if_lt (C : Cy Γ Ω cc nL own ret fr lo l0 Qc Px) {x : Int32} {off : Int} (tgt : Nat) (hdg : decode cc pc = .ok (.ifCond .lt off, 3)) (ht : (pc : Int) + off = (tgt : Int)) (k1 : x < 0 → OK Γ Ω nL tgt L st σ) (k2 : ¬ x < 0 → OK Γ Ω nL (pc + 3) L st σ) : OK Γ Ω nL pc L (.int x :: st) σ := by
  obtain ⟨p, l, e, R, s, m, args, below, meth, c, Q⟩ := Γ
  intro ls H locs hl hP hS
  exact lv_if_lt C.1 C.2.1 hdg ht (fun h => k1 h ls H locs hl hP hS) (fun h => k2 h ls H locs hl hP hS)
theorem okx_if_ge (C : Cy Γ Ω cc nL own ret fr lo l0 Qc Px) {x : Int32} {off : Int} (tgt : Nat) (hdg : decode cc pc = .ok (.ifCond .ge off, 3)) (ht : (pc : Int) + off = (tgt : Int)) (k1 : 0 ≤ x → OK Γ Ω nL tgt L st σ) (k2 : ¬ 0 ≤ x → OK Γ Ω nL (pc + 3) L st σ) : OK Γ Ω nL pc L (.int x :: st) σ := by
  obtain ⟨p, l, e, R, s, m, args, below, meth, c, Q⟩ := Γ
  intro ls H locs hl hP hS
  exact lv_if_ge C.1 C.2.1 hdg ht (fun h => k1 h ls H locs hl hP hS) (fun h => k2 h ls H locs hl hP hS)
theorem okx_if_gt (C : Cy Γ Ω cc nL own ret fr lo l0 Qc Px) {x : Int32} {off : Int} (tgt : Nat) (hdg : decode cc pc = .ok (.ifCond .gt off, 3)) (ht : (pc : Int) + off = (tgt : Int)) (k1 : 0 < x → OK Γ Ω nL tgt L st σ) (k2 : ¬ 0 < x → OK Γ Ω nL (pc + 3) L st σ) : OK Γ Ω nL pc L (.int x :: st) σ := by
  obtain ⟨p, l, e, R, s, m, args, below, meth, c, Q⟩ := Γ
  intro ls H locs hl hP hS
  exact lv_if_gt C.1 C.2.1 hdg ht (fun h => k1 h ls H locs hl hP hS) (fun h => k2 h ls H locs hl hP hS)
theorem okx_if_le (C : Cy Γ Ω cc nL own ret fr lo l0 Qc Px) {x : Int32} {off : Int} (tgt : Nat) (hdg : decode cc pc = .ok (.ifCond .le off, 3)) (ht : (pc : Int) + off = (tgt : Int)) (k1 : x ≤ 0 → OK Γ Ω nL tgt L st σ) (k2 : ¬ x ≤ 0 → OK Γ Ω nL (pc + 3) L st σ) : OK Γ Ω nL pc L (.int x :: st) σ := by
  obtain ⟨p, l, e, R, s, m, args, below, meth, c, Q⟩ := Γ
  intro ls H locs hl hP hS
  exact lv_if_le C.1 C.2.1 hdg ht (fun h => k1 h ls H locs hl hP hS) (fun h => k2 h ls H locs hl hP hS)
theorem okx_icmp_eq (C : Cy Γ Ω cc nL own ret fr lo l0 Qc Px) {x y : Int32} {off : Int} (tgt : Nat) (hdg : decode cc pc = .ok (.if_icmp .eq off, 3)) (ht : (pc : Int) + off = (tgt : Int)) (k1 : x = y → OK Γ Ω nL tgt L st σ) (k2 : ¬ x = y → OK Γ Ω nL (pc + 3) L st σ) : OK Γ Ω nL pc L (.int y :: .int x :: st) σ := by
  obtain ⟨p, l, e, R, s, m, args, below, meth, c, Q⟩ := Γ
  intro ls H locs hl hP hS
  exact lv_icmp_eq C.1 C.2.1 hdg ht (fun h => k1 h ls H locs hl hP hS) (fun h => k2 h ls H locs hl hP hS)
theorem okx_icmp_ne (C : Cy Γ Ω cc nL own ret fr lo l0 Qc Px) {x y : Int32} {off : Int} (tgt : Nat) (hdg : decode cc pc = .ok (.if_icmp .ne off, 3)) (ht : (pc : Int) + off = (tgt : Int)) (k1 : ¬ x = y → OK Γ Ω nL tgt L st σ) (k2 : x = y → OK Γ Ω nL (pc + 3) L st σ) : OK Γ Ω nL pc L (.int y :: .int x :: st) σ := by
  obtain ⟨p, l, e, R, s, m, args, below, meth, c, Q⟩ := Γ
  intro ls H locs hl hP hS
  exact lv_icmp_ne C.1 C.2.1 hdg ht (fun h => k1 h ls H locs hl hP hS) (fun h => k2 h ls H locs hl hP hS)
theorem okx_icmp_lt (C : Cy Γ Ω cc nL own ret fr lo l0 Qc Px) {x y : Int32} {off : Int} (tgt : Nat) (hdg : decode cc pc = .ok (.if_icmp .lt off, 3)) (ht : (pc : Int) + off = (tgt : Int)) (k1 : x < y → OK Γ Ω nL tgt L st σ) (k2 : ¬ x < y → OK Γ Ω nL (pc + 3) L st σ) : OK Γ Ω nL pc L (.int y :: .int x :: st) σ := by
  obtain ⟨p, l, e, R, s, m, args, below, meth, c, Q⟩ := Γ
  intro ls H locs hl hP hS
  exact lv_icmp_lt C.1 C.2.1 hdg ht (fun h => k1 h ls H locs hl hP hS) (fun h => k2 h ls H locs hl hP hS)
theorem okx_icmp_ge (C : Cy Γ Ω cc nL own ret fr lo l0 Qc Px) {x y : Int32} {off : Int} (tgt : Nat) (hdg : decode cc pc = .ok (.if_icmp .ge off, 3)) (ht : (pc : Int) + off = (tgt : Int)) (k1 : y ≤ x → OK Γ Ω nL tgt L st σ) (k2 : ¬ y ≤ x → OK Γ Ω nL (pc + 3) L st σ) : OK Γ Ω nL pc L (.int y :: .int x :: st) σ := by
  obtain ⟨p, l, e, R, s, m, args, below, meth, c, Q⟩ := Γ
  intro ls H locs hl hP hS
  exact lv_icmp_ge C.1 C.2.1 hdg ht (fun h => k1 h ls H locs hl hP hS) (fun h => k2 h ls H locs hl hP hS)
theorem okx_icmp_gt (C : Cy Γ Ω cc nL own ret fr lo l0 Qc Px) {x y : Int32} {off : Int} (tgt : Nat) (hdg : decode cc pc = .ok (.if_icmp .gt off, 3)) (ht : (pc : Int) + off = (tgt : Int)) (k1 : y < x → OK Γ Ω nL tgt L st σ) (k2 : ¬ y < x → OK Γ Ω nL (pc + 3) L st σ) : OK Γ Ω nL pc L (.int y :: .int x :: st) σ := by
  obtain ⟨p, l, e, R, s, m, args, below, meth, c, Q⟩ := Γ
  intro ls H locs hl hP hS
  exact lv_icmp_gt C.1 C.2.1 hdg ht (fun h => k1 h ls H locs hl hP hS) (fun h => k2 h ls H locs hl hP hS)
theorem okx_icmp_le (C : Cy Γ Ω cc nL own ret fr lo l0 Qc Px) {x y : Int32} {off : Int} (tgt : Nat) (hdg : decode cc pc = .ok (.if_icmp .le off, 3)) (ht : (pc : Int) + off = (tgt : Int)) (k1 : x ≤ y → OK Γ Ω nL tgt L st σ) (k2 : ¬ x ≤ y → OK Γ Ω nL (pc + 3) L st σ) : OK Γ Ω nL pc L (.int y :: .int x :: st) σ := by
  obtain ⟨p, l, e, R, s, m, args, below, meth, c, Q⟩ := Γ
  intro ls H locs hl hP hS
  exact lv_icmp_le C.1 C.2.1 hdg ht (fun h => k1 h ls H locs hl hP hS) (fun h => k2 h ls H locs hl hP hS)
theorem okx_goto (C : Cy Γ Ω cc nL own ret fr lo l0 Qc Px) {off : Int} (tgt : Nat) (hdg : decode cc pc = .ok (.goto off, 3)) (ht : (pc : Int) + off = (tgt : Int)) (k : OK Γ Ω nL tgt L st σ) : OK Γ Ω nL pc L st σ := by
  obtain ⟨p, l, e, R, s, m, args, below, meth, c, Q⟩ := Γ
  intro ls H locs hl hP hS
  exact lv_goto C.1 C.2.1 hdg ht (k ls H locs hl hP hS)
theorem okx_tableIn (C : Cy Γ Ω cc nL own ret fr lo l0 Qc Px) {dflt lw hi off : Int} {offs : Array Int} {len : Nat} {x : Int32} (tgt : Nat) (hdg : decode cc pc = .ok (.tableswitch dflt lw hi offs, len)) (h1 : ¬ x.toInt < lw) (h2 : ¬ hi < x.toInt) (ho : offs[(x.toInt - lw).toNat]? = some off) (ht : (pc : Int) + off = (tgt : Int)) (k : OK Γ Ω nL tgt L st σ) : OK Γ Ω nL pc L (.int x :: st) σ := by
  obtain ⟨p, l, e, R, s, m, args, below, meth, c, Q⟩ := Γ
  intro ls H locs hl hP hS
  exact lv_tableIn C.1 C.2.1 hdg h1 h2 ho ht (k ls H locs hl hP hS)
theorem okx_tableOut (C : Cy Γ Ω cc nL own ret fr lo l0 Qc Px) {dflt lw hi : Int} {offs : Array Int} {len : Nat} {x : Int32} (tgt : Nat) (hdg : decode cc pc = .ok (.tableswitch dflt lw hi offs, len)) (h : x.toInt < lw ∨ hi < x.toInt) (ht : (pc : Int) + dflt = (tgt : Int)) (k : OK Γ Ω nL tgt L st σ) : OK Γ Ω nL pc L (.int x :: st) σ := by
  obtain ⟨p, l, e, R, s, m, args, below, meth, c, Q⟩ := Γ
  intro ls H locs hl hP hS
  exact lv_tableOut C.1 C.2.1 hdg h ht (k ls H locs hl hP hS)
theorem okx_ldc (C : Cy Γ Ω cc nL own ret fr lo l0 Qc Px) {ix : Nat} {v : Int32} (hc : Cond.constant own ix v ∈ GW) (hdg : decode cc pc = .ok (.ldc ix, 2)) (k : OK Γ Ω nL (pc + 2) L (.int v :: st) σ) : OK Γ Ω nL pc L st σ := by
  obtain ⟨p, l, e, R, s, m, args, below, meth, c, Q⟩ := Γ
  intro ls H locs hl hP hS
  exact lv_ldc C.1 C.2.1 C.2.2.2.1 (C.2.2.2.2.1 _ hc) hdg (k ls H locs hl hP hS)
theorem okx_ldcw (C : Cy Γ Ω cc nL own ret fr lo l0 Qc Px) {ix : Nat} {v : Int32} (hc : Cond.constant own ix v ∈ GW) (hdg : decode cc pc = .ok (.ldc_w ix, 3)) (k : OK Γ Ω nL (pc + 3) L (.int v :: st) σ) : OK Γ Ω nL pc L st σ := by
  obtain ⟨p, l, e, R, s, m, args, below, meth, c, Q⟩ := Γ
  intro ls H locs hl hP hS
  exact lv_ldcw C.1 C.2.1 C.2.2.2.1 (C.2.2.2.2.1 _ hc) hdg (k ls H locs hl hP hS)
theorem okx_ldc2 (C : Cy Γ Ω cc nL own ret fr lo l0 Qc Px) {ix : Nat} {v : Int64} (hc : Cond.constantLong own ix v ∈ GW) (hdg : decode cc pc = .ok (.ldc2_w ix, 3)) (k : OK Γ Ω nL (pc + 3) L (.long v :: st) σ) : OK Γ Ω nL pc L st σ := by
  obtain ⟨p, l, e, R, s, m, args, below, meth, c, Q⟩ := Γ
  intro ls H locs hl hP hS
  exact lv_ldc2 C.1 C.2.1 C.2.2.2.1 (C.2.2.2.2.1 _ hc) hdg (k ls H locs hl hP hS)
theorem okx_sub {L2 : List (Nat × Value)} (zs : List Nat) (hz : lv_pick L zs = L2) (k : OK Γ Ω nL pc L2 st σ) : OK Γ Ω nL pc L st σ := fun ls H locs hl hP hS => k ls H locs (lv_sub hl zs hz) hP hS
theorem okx_getI (C : Cy Γ Ω cc nL own ret fr lo l0 Qc Px) {ref C0 : String} {T : u_T} {N ci ix : Nat} (hin : ∀ w ∈ u_ws C0 T N, w ∈ GW) {q : Nat} {fl : List (Option Nat)} {n0 : Nat} (hq : Ω.2.1[q]? = some (ci + 5, n0, fl)) (hc : CLs[ci]? = some (C0, T, N)) (j : Nat) (hj : j < N) (hlink : Cond.fieldLink own ix ref (T j).2.1 (T j).2.2.1 ∈ GW) (hsame : ∀ (s : State) x, s.fieldFound? (T j).1 (T j).2.1 (T j).2.2.1 = some x → s.fieldFound? ref (T j).2.1 (T j).2.2.1 = some x) (hf : fl[j]? = some none) (hdg : decode cc pc = .ok (.getfield ix, 3)) (k : OK Γ Ω nL (pc + 3) L (.int (σ.1 q j) :: st) σ) : OK Γ Ω nL pc L (.ref (Ω.2.2.1 q) :: st) σ := by
  obtain ⟨p, l, e, R, s, m, args, below, meth, c, Q⟩ := Γ
  intro ls H locs hl hP hS
  exact va_get C.1 C.2.1 C.2.2.2.2.1 hin C.2.2.2.1 C.2.2.2.2.2.1 hP q (wl_at hq) hc j hj (C.2.2.2.2.1 _ hlink) (hsame _) (fvs_at hf) hdg (k ls H locs hl hP hS)
theorem okx_getIN (C : Cy Γ Ω cc nL own ret fr lo l0 Qc Px) {ref C0 : String} {T : u_T} {N ci ix : Nat} (hin : ∀ w ∈ u_ws C0 T N, w ∈ GW) {q : Nat} {fl : List (Option Nat)} {n0 : Nat} (hq : Ω.2.1[q]? = some (ci + 5, n0, fl)) (hc : CLs[ci]? = some (C0, T, N)) (j : Nat) (hj : j < N) {host : String} (hlink : (own, ix, ref, (T j).2.1, (T j).2.2.1, host) ∈ NBf) (hsame : ∀ (s : State) x, s.fieldFound? (T j).1 (T j).2.1 (T j).2.2.1 = some x → s.fieldFound? ref (T j).2.1 (T j).2.2.1 = some x) (hf : fl[j]? = some none) (hdg : decode cc pc = .ok (.getfield ix, 3)) (k : OK Γ Ω nL (pc + 3) L (.int (σ.1 q j) :: st) σ) : OK Γ Ω nL pc L (.ref (Ω.2.2.1 q) :: st) σ := by
  obtain ⟨p, l, e, R, s, m, args, below, meth, c, Q⟩ := Γ
  intro ls H locs hl hP hS
  exact va_getN C.1 C.2.1 C.2.2.2.2.1 hin C.2.2.2.1 C.2.2.2.2.2.1 hP q (wl_at hq) hc j hj (va_Nw.use rfl (C.2.2.2.2.2.2.2.2.2.2.2.2.2.1.1 _ hlink)) (hsame _) (fvs_at hf) hdg (k ls H locs hl hP hS)
theorem okx_getR (C : Cy Γ Ω cc nL own ret fr lo l0 Qc Px) {ref C0 : String} {T : u_T} {N ci ix : Nat} (hin : ∀ w ∈ u_ws C0 T N, w ∈ GW) {q : Nat} {fl : List (Option Nat)} {n0 : Nat} (hq : Ω.2.1[q]? = some (ci + 5, n0, fl)) (hc : CLs[ci]? = some (C0, T, N)) (j : Nat) (hj : j < N) (hlink : Cond.fieldLink own ix ref (T j).2.1 (T j).2.2.1 ∈ GW) (hsame : ∀ (s : State) x, s.fieldFound? (T j).1 (T j).2.1 (T j).2.2.1 = some x → s.fieldFound? ref (T j).2.1 (T j).2.2.1 = some x) {r : Nat} (hf : fl[j]? = some (some r)) (hdg : decode cc pc = .ok (.getfield ix, 3)) (k : OK Γ Ω nL (pc + 3) L (.ref (Ω.2.2.1 r) :: st) σ) : OK Γ Ω nL pc L (.ref (Ω.2.2.1 q) :: st) σ := by
  obtain ⟨p, l, e, R, s, m, args, below, meth, c, Q⟩ := Γ
  intro ls H locs hl hP hS
  exact va_get C.1 C.2.1 C.2.2.2.2.1 hin C.2.2.2.1 C.2.2.2.2.2.1 hP q (wl_at hq) hc j hj (C.2.2.2.2.1 _ hlink) (hsame _) (fvs_at hf) hdg (k ls H locs hl hP hS)
theorem okx_getRN (C : Cy Γ Ω cc nL own ret fr lo l0 Qc Px) {ref C0 : String} {T : u_T} {N ci ix : Nat} (hin : ∀ w ∈ u_ws C0 T N, w ∈ GW) {q : Nat} {fl : List (Option Nat)} {n0 : Nat} (hq : Ω.2.1[q]? = some (ci + 5, n0, fl)) (hc : CLs[ci]? = some (C0, T, N)) (j : Nat) (hj : j < N) {host : String} (hlink : (own, ix, ref, (T j).2.1, (T j).2.2.1, host) ∈ NBf) (hsame : ∀ (s : State) x, s.fieldFound? (T j).1 (T j).2.1 (T j).2.2.1 = some x → s.fieldFound? ref (T j).2.1 (T j).2.2.1 = some x) {r : Nat} (hf : fl[j]? = some (some r)) (hdg : decode cc pc = .ok (.getfield ix, 3)) (k : OK Γ Ω nL (pc + 3) L (.ref (Ω.2.2.1 r) :: st) σ) : OK Γ Ω nL pc L (.ref (Ω.2.2.1 q) :: st) σ := by
  obtain ⟨p, l, e, R, s, m, args, below, meth, c, Q⟩ := Γ
  intro ls H locs hl hP hS
  exact va_getN C.1 C.2.1 C.2.2.2.2.1 hin C.2.2.2.1 C.2.2.2.2.2.1 hP q (wl_at hq) hc j hj (va_Nw.use rfl (C.2.2.2.2.2.2.2.2.2.2.2.2.2.1.1 _ hlink)) (hsame _) (fvs_at hf) hdg (k ls H locs hl hP hS)
theorem okx_putI (C : Cy Γ Ω cc nL own ret fr lo l0 Qc Px) {ref C0 : String} {T : u_T} {N ci ix : Nat} (hin : ∀ w ∈ u_ws C0 T N, w ∈ GW) {q : Nat} {fl : List (Option Nat)} {n0 : Nat} (hq : Ω.2.1[q]? = some (ci + 5, n0, fl)) (hc : CLs[ci]? = some (C0, T, N)) (j : Nat) (hj : j < N) (hlink : Cond.fieldLink own ix ref (T j).2.1 (T j).2.2.1 ∈ GW) (hsame : ∀ (s : State) x, s.fieldFound? (T j).1 (T j).2.1 (T j).2.2.1 = some x → s.fieldFound? ref (T j).2.1 (T j).2.2.1 = some x) (ty0 : Nat → FieldType) (hty : ∀ k, k < N → parseFieldDescriptor (T k).2.2.1 = some (ty0 k)) (hnm : ∀ a, a < N → ∀ b, b < N → a ≠ b → (T a).2.1 ≠ (T b).2.1) (hfin : (T j).2.2.2 = false) {v : Int32} (hd : parseFieldDescriptor (T j).2.2.1 = some (ty0 j)) (hnr : narrow (ty0 j) (.int v) = .int v) (hft : fits (ty0 j) (.int v) = true) (hf : fl[j]? = some none) (hdg : decode cc pc = .ok (.putfield ix, 3)) (k : OK Γ Ω nL (pc + 3) L st (pI σ q j v)) : OK Γ Ω nL pc L (.int v :: .ref (Ω.2.2.1 q) :: st) σ := by
  obtain ⟨p, l, e, R, s, m, args, below, meth, c, Q⟩ := Γ
  intro ls H locs hl hP hS
  refine va_put C.1 C.2.1 C.2.2.2.2.1 hin ty0 hty hnm C.2.2.2.1 C.2.2.2.2.2.1 hP (C.2.2.2.2.2.2.1.D σ s.heap.size) hS q (wl_at hq) hc j hj (C.2.2.2.2.1 _ hlink) (hsame _) hfin hd hnr hft (by unfold fvs; rw [List.length_mapIdx]; exact (List.getElem?_eq_some_iff.mp hf).1) hdg (fun H1 locs1 hP1 _ hS1 => ?_)
  have e : (wl Ω σ).set q (Ω.2.2.1 q, .inr (ci, (fvs Ω.2.2.1 (σ.1 q) fl).set j (.int v))) = wl Ω (pI σ q j v) := wl_set hq (by rw [pI_upd, fvs_set hf]; try rfl) (fun a h => pI_ne σ j v h) (fun a _ => rfl)
  exact k ls H1 locs1 hl (e ▸ hP1) hS1
theorem okx_putIN (C : Cy Γ Ω cc nL own ret fr lo l0 Qc Px) {ref C0 : String} {T : u_T} {N ci ix : Nat} (hin : ∀ w ∈ u_ws C0 T N, w ∈ GW) {q : Nat} {fl : List (Option Nat)} {n0 : Nat} (hq : Ω.2.1[q]? = some (ci + 5, n0, fl)) (hc : CLs[ci]? = some (C0, T, N)) (j : Nat) (hj : j < N) {host : String} (hlink : (own, ix, ref, (T j).2.1, (T j).2.2.1, host) ∈ NBf) (hsame : ∀ (s : State) x, s.fieldFound? (T j).1 (T j).2.1 (T j).2.2.1 = some x → s.fieldFound? ref (T j).2.1 (T j).2.2.1 = some x) (ty0 : Nat → FieldType) (hty : ∀ k, k < N → parseFieldDescriptor (T k).2.2.1 = some (ty0 k)) (hnm : ∀ a, a < N → ∀ b, b < N → a ≠ b → (T a).2.1 ≠ (T b).2.1) (hfin : (T j).2.2.2 = false) {v : Int32} (hd : parseFieldDescriptor (T j).2.2.1 = some (ty0 j)) (hnr : narrow (ty0 j) (.int v) = .int v) (hft : fits (ty0 j) (.int v) = true) (hf : fl[j]? = some none) (hdg : decode cc pc = .ok (.putfield ix, 3)) (k : OK Γ Ω nL (pc + 3) L st (pI σ q j v)) : OK Γ Ω nL pc L (.int v :: .ref (Ω.2.2.1 q) :: st) σ := by
  obtain ⟨p, l, e, R, s, m, args, below, meth, c, Q⟩ := Γ
  intro ls H locs hl hP hS
  refine va_putN C.1 C.2.1 C.2.2.2.2.1 hin ty0 hty hnm C.2.2.2.1 C.2.2.2.2.2.1 hP (C.2.2.2.2.2.2.1.D σ s.heap.size) hS q (wl_at hq) hc j hj (va_Nw.use rfl (C.2.2.2.2.2.2.2.2.2.2.2.2.2.1.1 _ hlink)) (hsame _) hfin hd hnr hft (by unfold fvs; rw [List.length_mapIdx]; exact (List.getElem?_eq_some_iff.mp hf).1) hdg (fun H1 locs1 hP1 _ hS1 => ?_)
  have e : (wl Ω σ).set q (Ω.2.2.1 q, .inr (ci, (fvs Ω.2.2.1 (σ.1 q) fl).set j (.int v))) = wl Ω (pI σ q j v) := wl_set hq (by rw [pI_upd, fvs_set hf]; try rfl) (fun a h => pI_ne σ j v h) (fun a _ => rfl)
  exact k ls H1 locs1 hl (e ▸ hP1) hS1
theorem okx_iald (C : Cy Γ Ω cc nL own ret fr lo l0 Qc Px) {q n : Nat} {fl : List (Option Nat)} (hq : Ω.2.1[q]? = some (0, n, fl)) {i : Int32} (hi : vp_in i n) (hdg : decode cc pc = .ok (.iaload, 1)) (k : OK Γ Ω nL (pc + 1) L (.int (σ.1 q i.toNatClampNeg) :: st) σ) : OK Γ Ω nL pc L (.int i :: .ref (Ω.2.2.1 q) :: st) σ := by
  obtain ⟨p, l, e, R, s, m, args, below, meth, c, Q⟩ := Γ
  intro ls H locs hl hP hS
  exact va_iald C.1 C.2.1 C.2.2.2.2.2.1 hP q 0 (wl_at hq) rfl hi hdg (k ls H locs hl hP hS)
theorem okx_zald (C : Cy Γ Ω cc nL own ret fr lo l0 Qc Px) {q n : Nat} {fl : List (Option Nat)} (hq : Ω.2.1[q]? = some (2, n, fl)) {i : Int32} (hi : vp_in i n) (hdg : decode cc pc = .ok (.baload, 1)) (k : OK Γ Ω nL (pc + 1) L (.int (σ.1 q i.toNatClampNeg) :: st) σ) : OK Γ Ω nL pc L (.int i :: .ref (Ω.2.2.1 q) :: st) σ := by
  obtain ⟨p, l, e, R, s, m, args, below, meth, c, Q⟩ := Γ
  intro ls H locs hl hP hS
  exact va_zald C.1 C.2.1 C.2.2.2.2.2.1 hP q 2 (wl_at hq) rfl hi hdg (k ls H locs hl hP hS)
theorem okx_bald (C : Cy Γ Ω cc nL own ret fr lo l0 Qc Px) {q n : Nat} {fl : List (Option Nat)} (hq : Ω.2.1[q]? = some (3, n, fl)) {i : Int32} (hi : vp_in i n) (hdg : decode cc pc = .ok (.baload, 1)) (k : OK Γ Ω nL (pc + 1) L (.int (σ.1 q i.toNatClampNeg) :: st) σ) : OK Γ Ω nL pc L (.int i :: .ref (Ω.2.2.1 q) :: st) σ := by
  obtain ⟨p, l, e, R, s, m, args, below, meth, c, Q⟩ := Γ
  intro ls H locs hl hP hS
  exact va_bald C.1 C.2.1 C.2.2.2.2.2.1 hP q 3 (wl_at hq) rfl hi hdg (k ls H locs hl hP hS)
theorem okx_lald (C : Cy Γ Ω cc nL own ret fr lo l0 Qc Px) {q n : Nat} {fl : List (Option Nat)} (hq : Ω.2.1[q]? = some (1, n, fl)) {i : Int32} (hi : vp_in i n) (hdg : decode cc pc = .ok (.laload, 1)) (k : OK Γ Ω nL (pc + 1) L (.long (σ.2 q i.toNatClampNeg) :: st) σ) : OK Γ Ω nL pc L (.int i :: .ref (Ω.2.2.1 q) :: st) σ := by
  obtain ⟨p, l, e, R, s, m, args, below, meth, c, Q⟩ := Γ
  intro ls H locs hl hP hS
  exact va_lald C.1 C.2.1 C.2.2.2.2.2.1 hP q 1 (wl_at hq) rfl hi hdg (k ls H locs hl hP hS)
theorem okx_iast (C : Cy Γ Ω cc nL own ret fr lo l0 Qc Px) {q n : Nat} {fl : List (Option Nat)} (hq : Ω.2.1[q]? = some (0, n, fl)) {i x : Int32} (hi : vp_in i n) (hdg : decode cc pc = .ok (.iastore, 1)) (k : OK Γ Ω nL (pc + 1) L st (pI σ q i.toNatClampNeg x)) : OK Γ Ω nL pc L (.int x :: .int i :: .ref (Ω.2.2.1 q) :: st) σ := by
  obtain ⟨p, l, e, R, s, m, args, below, meth, c, Q⟩ := Γ
  intro ls H locs hl hP hS
  refine va_iast C.1 C.2.1 C.2.2.2.2.2.1 hP (C.2.2.2.2.2.2.1.D σ s.heap.size) hS q 0 (wl_at hq) rfl hi hdg (fun H1 locs1 hP1 _ hS1 => ?_)
  exact k ls H1 locs1 hl ((wl_set (σ := σ) (σ' := pI σ q i.toNatClampNeg x) hq (by rw [pI_upd]) (fun a h => pI_ne σ _ _ h) (fun a _ => rfl)) ▸ hP1) hS1
theorem okx_zast (C : Cy Γ Ω cc nL own ret fr lo l0 Qc Px) {q n : Nat} {fl : List (Option Nat)} (hq : Ω.2.1[q]? = some (2, n, fl)) {i x : Int32} (hi : vp_in i n) (hdg : decode cc pc = .ok (.bastore, 1)) (k : OK Γ Ω nL (pc + 1) L st (pI σ q i.toNatClampNeg (vp_nar .boolean x))) : OK Γ Ω nL pc L (.int x :: .int i :: .ref (Ω.2.2.1 q) :: st) σ := by
  obtain ⟨p, l, e, R, s, m, args, below, meth, c, Q⟩ := Γ
  intro ls H locs hl hP hS
  refine va_zast C.1 C.2.1 C.2.2.2.2.2.1 hP (C.2.2.2.2.2.2.1.D σ s.heap.size) hS q 2 (wl_at hq) rfl hi hdg (fun H1 locs1 hP1 _ hS1 => ?_)
  exact k ls H1 locs1 hl ((wl_set (σ := σ) (σ' := pI σ q i.toNatClampNeg (vp_nar .boolean x)) hq (by rw [pI_upd]) (fun a h => pI_ne σ _ _ h) (fun a _ => rfl)) ▸ hP1) hS1
theorem okx_bast (C : Cy Γ Ω cc nL own ret fr lo l0 Qc Px) {q n : Nat} {fl : List (Option Nat)} (hq : Ω.2.1[q]? = some (3, n, fl)) {i x : Int32} (hi : vp_in i n) (hdg : decode cc pc = .ok (.bastore, 1)) (k : OK Γ Ω nL (pc + 1) L st (pI σ q i.toNatClampNeg (vp_nar .byte x))) : OK Γ Ω nL pc L (.int x :: .int i :: .ref (Ω.2.2.1 q) :: st) σ := by
  obtain ⟨p, l, e, R, s, m, args, below, meth, c, Q⟩ := Γ
  intro ls H locs hl hP hS
  refine va_bast C.1 C.2.1 C.2.2.2.2.2.1 hP (C.2.2.2.2.2.2.1.D σ s.heap.size) hS q 3 (wl_at hq) rfl hi hdg (fun H1 locs1 hP1 _ hS1 => ?_)
  exact k ls H1 locs1 hl ((wl_set (σ := σ) (σ' := pI σ q i.toNatClampNeg (vp_nar .byte x)) hq (by rw [pI_upd]) (fun a h => pI_ne σ _ _ h) (fun a _ => rfl)) ▸ hP1) hS1
theorem okx_last (C : Cy Γ Ω cc nL own ret fr lo l0 Qc Px) {q n : Nat} {fl : List (Option Nat)} (hq : Ω.2.1[q]? = some (1, n, fl)) {i : Int32} {x : Int64} (hi : vp_in i n) (hdg : decode cc pc = .ok (.lastore, 1)) (k : OK Γ Ω nL (pc + 1) L st (pJ σ q i.toNatClampNeg x)) : OK Γ Ω nL pc L (.long x :: .int i :: .ref (Ω.2.2.1 q) :: st) σ := by
  obtain ⟨p, l, e, R, s, m, args, below, meth, c, Q⟩ := Γ
  intro ls H locs hl hP hS
  refine va_last C.1 C.2.1 C.2.2.2.2.2.1 hP (C.2.2.2.2.2.2.1.D σ s.heap.size) hS q 1 (wl_at hq) rfl hi hdg (fun H1 locs1 hP1 _ hS1 => ?_)
  exact k ls H1 locs1 hl ((wl_set (σ := σ) (σ' := pJ σ q i.toNatClampNeg x) hq (by rw [pJ_upd]) (fun a _ => rfl) (fun a h => pJ_ne σ _ _ h)) ▸ hP1) hS1
theorem okx_alen (C : Cy Γ Ω cc nL own ret fr lo l0 Qc Px) {q n : Nat} {fl : List (Option Nat)} (t : Nat) (ht : t < 4) (hq : Ω.2.1[q]? = some (t, n, fl)) (hdg : decode cc pc = .ok (.arraylength, 1)) (k : OK Γ Ω nL (pc + 1) L (.int (nI n) :: st) σ) : OK Γ Ω nL pc L (.ref (Ω.2.2.1 q) :: st) σ := by
  obtain ⟨p, l, e, R, s, m, args, below, meth, c, Q⟩ := Γ
  intro ls H locs hl hP hS
  match t, ht, hq with
  | 0, _, hq => exact va_alen C.1 C.2.1 C.2.2.2.2.2.1 hP q 0 (wl_at hq) rfl rfl hdg (k ls H locs hl hP hS)
  | 1, _, hq => exact va_alen C.1 C.2.1 C.2.2.2.2.2.1 hP q 1 (wl_at hq) rfl rfl hdg (k ls H locs hl hP hS)
  | 2, _, hq => exact va_alen C.1 C.2.1 C.2.2.2.2.2.1 hP q 2 (wl_at hq) rfl rfl hdg (k ls H locs hl hP hS)
  | 3, _, hq => exact va_alen C.1 C.2.1 C.2.2.2.2.2.1 hP q 3 (wl_at hq) rfl rfl hdg (k ls H locs hl hP hS)
theorem okx_aald (C : Cy Γ Ω cc nL own ret fr lo l0 Qc Px) {q n : Nat} {fl : List (Option Nat)} (hq : Ω.2.1[q]? = some (4, n, fl)) {i : Int32} (hi : vp_in i n) {r : Nat} (hr : fl.getD i.toNatClampNeg none = some r) (hdg : decode cc pc = .ok (.aaload, 1)) (k : OK Γ Ω nL (pc + 1) L (.ref (Ω.2.2.1 r) :: st) σ) : OK Γ Ω nL pc L (.int i :: .ref (Ω.2.2.1 q) :: st) σ := by
  obtain ⟨p, l, e, R, s, m, args, below, meth, c, Q⟩ := Γ
  intro ls H locs hl hP hS
  refine va_aldq C.1 C.2.1 C.2.2.2.2.2.1 hP q 4 (wl_at hq) rfl hi hdg ?_
  show W p l e R s m args below meth c H locs 0 0 Q (F0 m (pc + 1) ls (va_rf ((fl.getD i.toNatClampNeg none).map Ω.2.2.1) :: st))
  rw [hr]
  exact k ls H locs hl hP hS
theorem okx_gets1 (C : Cy Γ Ω cc nL own ret fr lo l0 Qc Px) {ix : Nat} (hlink : Cond.fieldLink own ix RX4 "ROUND_WORDS" "[I" ∈ GW) (hdg : decode cc pc = .ok (.getstatic ix, 3)) (k : ∀ t, IsS1 Ω (gS Γ).heap.size (gS Γ) t (gS Γ).heap → OK Γ Ω nL (pc + 3) L (.ref t :: st) σ) : OK Γ Ω nL pc L st σ := by
  obtain ⟨p, l, e, R, s, m, args, below, meth, c, Q⟩ := Γ
  intro ls H locs hl hP hS
  obtain ⟨⟨t, ht⟩, -⟩ := C.2.2.2.2.2.2.2.1
  exact va_gets C.1 C.2.1 ht.1 hS C.2.2.2.1 (C.2.2.2.2.1 _ hlink) (fun _ h => h) hdg (k t ht ls H locs hl hP hS)
theorem okx_gets2 (C : Cy Γ Ω cc nL own ret fr lo l0 Qc Px) {ix : Nat} (hlink : Cond.fieldLink own ix RX4 "FIRST_STATE" "[I" ∈ GW) (hdg : decode cc pc = .ok (.getstatic ix, 3)) (k : ∀ t, IsS2 Ω (gS Γ).heap.size (gS Γ) t (gS Γ).heap → OK Γ Ω nL (pc + 3) L (.ref t :: st) σ) : OK Γ Ω nL pc L st σ := by
  obtain ⟨p, l, e, R, s, m, args, below, meth, c, Q⟩ := Γ
  intro ls H locs hl hP hS
  obtain ⟨-, t, ht⟩ := C.2.2.2.2.2.2.2.1
  exact va_gets C.1 C.2.1 ht.1 hS C.2.2.2.1 (C.2.2.2.2.1 _ hlink) (fun _ h => h) hdg (k t ht ls H locs hl hP hS)
theorem okx_iald1 (C : Cy Γ Ω cc nL own ret fr lo l0 Qc Px) {t : Nat} (ht : IsS1 Ω (gS Γ).heap.size (gS Γ) t (gS Γ).heap) {i : Int32} (hi : vp_in i 64) (hdg : decode cc pc = .ok (.iaload, 1)) (k : OK Γ Ω nL (pc + 1) L (.int (K64 i.toNatClampNeg) :: st) σ) : OK Γ Ω nL pc L (.int i :: .ref t :: st) σ := by
  obtain ⟨p, l, e, R, s, m, args, below, meth, c, Q⟩ := Γ
  intro ls H locs hl hP hS
  exact va_ti C.1 C.2.1 ht.2 hS hi rfl hdg (k ls H locs hl hP hS)
theorem okx_copyi (C : Cy Γ Ω cc nL own ret fr lo l0 Qc Px) {ix : Nat} (h1 : Cond.methodLink own ix arraycopyName ∈ GW) (h2 : Cond.native arraycopyName ∈ GW) (h3 : Cond.static arraycopyName ∈ GW) (h4 : Cond.initialized "java/lang/System" ∈ GW) {q0 q1 n0 n1 : Nat} {fl0 fl1 : List (Option Nat)} (hq0 : Ω.2.1[q0]? = some (0, n0, fl0)) (hq1 : Ω.2.1[q1]? = some (0, n1, fl1)) {sp dp n : Int32} (g1 : ¬ sp < 0) (g2 : ¬ dp < 0) (g3 : ¬ n < 0) (g4 : sp.toNatClampNeg + n.toNatClampNeg ≤ n0) (g5 : dp.toNatClampNeg + n.toNatClampNeg ≤ n1) (hfr : 1 ≤ fr) (hlo : (st.map fun v => v.category).sum + (nativeFrameWords "java/lang/System" "arraycopy" 5 + 11) ≤ lo) (hdg : decode cc pc = .ok (.invokestatic ix, 3)) (k : OK Γ Ω nL (pc + 3) L st (pR σ q1 (va_cpy (σ.1 q0) (σ.1 q1) sp.toNatClampNeg dp.toNatClampNeg n.toNatClampNeg))) : OK Γ Ω nL pc L (.int n :: .int dp :: .ref (Ω.2.2.1 q1) :: .int sp :: .ref (Ω.2.2.1 q0) :: st) σ := by
  obtain ⟨p, l, e, R, s, m, args, below, meth, c, Q⟩ := Γ
  intro ls H locs hl hP hS
  obtain ⟨c1, c2, c3, c4, c5, c6, c7, c8, c9, c10, c11, c12, c13, c14, c15, c16, c17⟩ := C
  subst c11
  refine va_copyi c1 c2 (c3.trans hl.1.symm) c4 (c5 _ h1) (c5 _ h2) (c5 _ h3) (c5 _ h4) c6 hP (c7.D σ s.heap.size) hS q0 q1 0 0 (wl_at hq0) (wl_at hq1) rfl rfl rfl g1 g2 g3 g4 g5 (fun i _ => rfl) hfr hlo hdg (fun H1 locs1 hP1 _ hS1 => ?_)
  exact k ls H1 locs1 hl ((wl_set (σ := σ) (σ' := pR σ q1 (va_cpy (σ.1 q0) (σ.1 q1) sp.toNatClampNeg dp.toNatClampNeg n.toNatClampNeg)) hq1 (by rw [pR_self]) (fun a h => pR_ne σ _ h) (fun a _ => rfl)) ▸ hP1) hS1
theorem okx_copyx (C : Cy Γ Ω cc nL own ret fr lo l0 Qc Px) {ix : Nat} (h1 : Cond.methodLink own ix arraycopyName ∈ GW) (h2 : Cond.native arraycopyName ∈ GW) (h3 : Cond.static arraycopyName ∈ GW) (h4 : Cond.initialized "java/lang/System" ∈ GW) {t : Nat} (ht : IsS2 Ω (gS Γ).heap.size (gS Γ) t (gS Γ).heap) {q1 n1 : Nat} {fl1 : List (Option Nat)} (hq1 : Ω.2.1[q1]? = some (0, n1, fl1)) {sp dp n : Int32} (g1 : ¬ sp < 0) (g2 : ¬ dp < 0) (g3 : ¬ n < 0) (g4 : sp.toNatClampNeg + n.toNatClampNeg ≤ 8) (g5 : dp.toNatClampNeg + n.toNatClampNeg ≤ n1) (hfr : 1 ≤ fr) (hlo : (st.map fun v => v.category).sum + (nativeFrameWords "java/lang/System" "arraycopy" 5 + 11) ≤ lo) (hdg : decode cc pc = .ok (.invokestatic ix, 3)) (k : OK Γ Ω nL (pc + 3) L st (pR σ q1 (va_cpy H8 (σ.1 q1) sp.toNatClampNeg dp.toNatClampNeg n.toNatClampNeg))) : OK Γ Ω nL pc L (.int n :: .int dp :: .ref (Ω.2.2.1 q1) :: .int sp :: .ref t :: st) σ := by
  obtain ⟨p, l, e, R, s, m, args, below, meth, c, Q⟩ := Γ
  intro ls H locs hl hP hS
  obtain ⟨c1, c2, c3, c4, c5, c6, c7, c8, c9, c10, c11, c12, c13, c14, c15, c16, c17⟩ := C
  subst c11
  refine va_copyx c1 c2 (c3.trans hl.1.symm) c4 (c5 _ h1) (c5 _ h2) (c5 _ h3) (c5 _ h4) c6 hP (c7.D σ s.heap.size) hS ht.2.1 ht.2.2.1 ht.2.2.2 q1 0 (wl_at hq1) rfl g1 g2 g3 g4 g5 hfr hlo hdg (fun H1 locs1 hP1 _ hS1 => ?_)
  exact k ls H1 locs1 hl ((wl_set (σ := σ) (σ' := pR σ q1 (va_cpy H8 (σ.1 q1) sp.toNatClampNeg dp.toNatClampNeg n.toNatClampNeg)) hq1 (by rw [pR_self]) (fun a h => pR_ne σ _ h) (fun a _ => rfl)) ▸ hP1) hS1
theorem okx_mmax (C : Cy Γ Ω cc nL own ret fr lo l0 Qc Px) {ix : Nat} (h1 : Cond.methodLink own ix Lib.Math.max.name ∈ GW) (h2 : Cond.static Lib.Math.max.name ∈ GW) (h3 : Cond.initialized "java/lang/Math" ∈ GW) (h4 : Cond.code Lib.Math.max.name Lib.Math.max.code 2 (some .int) ∈ GW) (hfr : 1 ≤ fr) (hlo : (st.map fun v => v.category).sum + 13 ≤ lo) {x y : Int32} (hdg : decode cc pc = .ok (.invokestatic ix, 3)) (k : OK Γ Ω nL (pc + 3) L (.int (imax x y) :: st) σ) : OK Γ Ω nL pc L (.int y :: .int x :: st) σ := by
  obtain ⟨p, l, e, R, s, m, args, below, meth, c, Q⟩ := Γ
  intro ls H locs hl hP hS
  obtain ⟨c1, c2, c3, c4, c5, c6, c7, c8, c9, c10, c11, c12, c13, c14, c15, c16, c17⟩ := C
  subst c11
  exact va_mmax c1 c2 (c3.trans hl.1.symm) c4 (c5 _ h1) (c5 _ h2) (c5 _ h3) (c5 _ h4) hfr hlo (Nat.zero_le _) (Nat.zero_le _) hdg (k ls H locs hl hP hS)
theorem okx_mmin (C : Cy Γ Ω cc nL own ret fr lo l0 Qc Px) {ix : Nat} (h1 : Cond.methodLink own ix Lib.Math.min.name ∈ GW) (h2 : Cond.static Lib.Math.min.name ∈ GW) (h3 : Cond.initialized "java/lang/Math" ∈ GW) (h4 : Cond.code Lib.Math.min.name Lib.Math.min.code 2 (some .int) ∈ GW) (hfr : 1 ≤ fr) (hlo : (st.map fun v => v.category).sum + 13 ≤ lo) {x y : Int32} (hdg : decode cc pc = .ok (.invokestatic ix, 3)) (k : OK Γ Ω nL (pc + 3) L (.int (imin x y) :: st) σ) : OK Γ Ω nL pc L (.int y :: .int x :: st) σ := by
  obtain ⟨p, l, e, R, s, m, args, below, meth, c, Q⟩ := Γ
  intro ls H locs hl hP hS
  obtain ⟨c1, c2, c3, c4, c5, c6, c7, c8, c9, c10, c11, c12, c13, c14, c15, c16, c17⟩ := C
  subst c11
  exact va_mmin c1 c2 (c3.trans hl.1.symm) c4 (c5 _ h1) (c5 _ h2) (c5 _ h3) (c5 _ h4) hfr hlo (Nat.zero_le _) (Nat.zero_le _) hdg (k ls H locs hl hP hS)
theorem okx_iret (C : Cy Γ Ω cc nL own ret fr lo l0 Qc Px) {Po : Int32 → Sg → Prop} (hQ : Qc = QI Ω Po) (hr : ret = some .int) {v : Int32} (hdg : decode cc pc = .ok (.ireturn, 1)) (hpo : Po v σ) : OK Γ Ω nL pc L [.int v] σ := by
  obtain ⟨p, l, e, R, s, m, args, below, meth, c, Q⟩ := Γ
  intro ls H locs hl hP hS
  obtain ⟨c1, c2, c3, c4, c5, c6, c7, c8, c9, c10, c11, c12, c13, c14, c15, c16, c17⟩ := C
  subst c13 hQ
  exact vx_ret (W.widen (k := 1) (n := 6) (by decide) (by decide) (W.iret c1 c2 (hr ▸ c10) (fun t ht hW => ⟨⟨v, σ, rfl, hpo, (show va_P Ω.1 CLs (wl Ω σ) t.heap by rw [ht]; exact hP)⟩, hS.F ht⟩) hS.2.2 hdg c9))
theorem okx_lret (C : Cy Γ Ω cc nL own ret fr lo l0 Qc Px) {Po : Int64 → Sg → Prop} (hQ : Qc = QL Ω Po) (hr : ret = some .long) {v : Int64} (hdg : decode cc pc = .ok (.lreturn, 1)) (hpo : Po v σ) : OK Γ Ω nL pc L [.long v] σ := by
  obtain ⟨p, l, e, R, s, m, args, below, meth, c, Q⟩ := Γ
  intro ls H locs hl hP hS
  obtain ⟨c1, c2, c3, c4, c5, c6, c7, c8, c9, c10, c11, c12, c13, c14, c15, c16, c17⟩ := C
  subst c13 hQ
  exact vx_ret (W.widen (k := 1) (n := 6) (by decide) (by decide) (W.lret c1 c2 (hr ▸ c10) (fun t ht hW => ⟨⟨v, σ, rfl, hpo, (show va_P Ω.1 CLs (wl Ω σ) t.heap by rw [ht]; exact hP)⟩, hS.F ht⟩) hS.2.2 hdg c9))
theorem okx_zret (C : Cy Γ Ω cc nL own ret fr lo l0 Qc Px) {Po : Int32 → Sg → Prop} (hQ : Qc = QI Ω Po) {v : Int32} {ty : FieldType} (hr : ret = some ty) (hn : narrow ty (.int v) = .int v) (hdg : decode cc pc = .ok (.ireturn, 1)) (hpo : Po v σ) : OK Γ Ω nL pc L [.int v] σ := by
  obtain ⟨p, l, e, R, s, m, args, below, meth, c, Q⟩ := Γ
  intro ls H locs hl hP hS
  obtain ⟨c1, c2, c3, c4, c5, c6, c7, c8, c9, c10, c11, c12, c13, c14, c15, c16, c17⟩ := C
  subst c13 hQ
  exact vx_ret (W.widen (k := 1) (n := 6) (by decide) (by decide) (W.zret c1 c2 (hr ▸ c10) hn (fun t ht hW => ⟨⟨v, σ, rfl, hpo, (show va_P Ω.1 CLs (wl Ω σ) t.heap by rw [ht]; exact hP)⟩, hS.F ht⟩) hS.2.2 hdg c9))
theorem okx_vret (C : Cy Γ Ω cc nL own ret fr lo l0 Qc Px) {Po : Sg → Prop} (hQ : Qc = QV Ω Po) (hr : ret = none) (hdg : decode cc pc = .ok (.return_, 1)) (hpo : Po σ) : OK Γ Ω nL pc L [] σ := by
  obtain ⟨p, l, e, R, s, m, args, below, meth, c, Q⟩ := Γ
  intro ls H locs hl hP hS
  obtain ⟨c1, c2, c3, c4, c5, c6, c7, c8, c9, c10, c11, c12, c13, c14, c15, c16, c17⟩ := C
  subst c13 hQ
  exact vx_ret (W.widen (k := 1) (n := 6) (by decide) (by decide) (W.vret c1 c2 (hr ▸ c10) (fun t ht hW => ⟨⟨σ, rfl, hpo, (show va_P Ω.1 CLs (wl Ω σ) t.heap by rw [ht]; exact hP)⟩, hS.F ht⟩) hS.2.2 hdg c9))
theorem okx_aret (C : Cy Γ Ω cc nL own ret fr lo l0 Qc Px) {Po : Nat → Sg → Prop} (hQ : Qc = QR Ω Po) {C1 : String} (hr : ret = some (.object C1)) {q : Nat} (hdg : decode cc pc = .ok (.areturn, 1)) (hpo : Po q σ) : OK Γ Ω nL pc L [.ref (Ω.2.2.1 q)] σ := by
  obtain ⟨p, l, e, R, s, m, args, below, meth, c, Q⟩ := Γ
  intro ls H locs hl hP hS
  obtain ⟨c1, c2, c3, c4, c5, c6, c7, c8, c9, c10, c11, c12, c13, c14, c15, c16, c17⟩ := C
  subst c13 hQ
  exact vx_ret (W.widen (k := 1) (n := 6) (by decide) (by decide) (W.aret c1 c2 (hr ▸ c10) (Or.inl ⟨_, rfl⟩) (Or.inr ⟨_, rfl⟩) (fun t ht hW => ⟨⟨(q, σ), _, rfl, hpo, rfl, (show va_P Ω.1 CLs (wl Ω σ) t.heap by rw [ht]; exact hP)⟩, hS.F ht⟩) hS.2.2 hdg c9))
end OKRX
section OKCX
variable {Γ : Gm} {Ω : Wm} {cc bytes : ByteArray} {nL maxL n ix fr2 lo2 : Nat} {own : String} {ret ret2 : Option FieldType} {fr lo : Nat} {l0 : Launch} {Qc Qd : Qt} {pc : Nat} {L : List (Nat × Value)} {st rest As : List Value} {σ : Sg} {y : MethodName} {Px : String → Sg → Prop}
theorem okx_callVi (C : Cy Γ Ω cc nL own ret fr lo l0 Qc Px) {Po : Int32 → Sg → Prop} {q ci n0 N : Nat} {fl : List (Option Nat)} {T : u_T} (hq : Ω.2.1[q]? = some (ci + 5, n0, fl)) (hc : CLs[ci]? = some (y.cls, T, N)) (hM : Ct l0 y bytes maxL ret2 fr2 lo2 Ω (.ref (Ω.2.2.1 q) :: As) σ (QI Ω Po)) (hl : Cond.methodLink own ix y ∈ GW) (hin : Cond.instanceMethod y ∈ GW) (hse : Cond.selects y.cls y y ∈ GW) (hcode : Cond.code y bytes maxL ret2 ∈ GW) (hini : Cond.initialized y.cls ∈ GW) (hd : y.cls ≠ "java/lang/invoke/MethodHandle" ∧ y.cls ≠ "java/lang/invoke/VarHandle" ∧ (parseMethodDescriptor y.desc).map (fun d => d.parameters.length) = some n) (hn : As.length = n) (hR : fr2 + 1 ≤ fr ∧ 8 + (maxL + 11) + lo2 ≤ lo) (hw : (rest.map fun v => v.category).sum ≤ 8) (hst : st = As.reverse ++ .ref (Ω.2.2.1 q) :: rest) (hdg : decode cc pc = .ok (.invokevirtual ix, 3)) (k : ∀ r u, Po r u → OK Γ Ω nL (pc + 3) L (.int r :: rest) u) : OK Γ Ω nL pc L st σ := by
  obtain ⟨p, l, e, R, s, m, args, below, meth, c, Q⟩ := Γ
  obtain ⟨c1, c2, c3, c4, c5, c6, c7, c8, c9, c10, c11, c12, c13, c14, c15, c16, c17⟩ := C
  subst c11 c12
  intro ls H locs hl2 hP hS
  refine va_calli (a := (Value.ref (Ω.2.2.1 q) :: As).toArray) (va_runV ⟨c1, c2, c3, c4, c5⟩ (hM H.size) ⟨callB_of n c5 (gw_goodIn hcode (fun _ h => h)) rfl rfl rfl (c5 _ hini) (c5 _ hl) hd hR, c5 _ hin, c5 _ hse⟩ ⟨pb_blind _ _ _ _, va_recv c6 hP hc (wl_at hq), pb_at c6 c7 c8 c14 hP hS⟩ rfl hn hl2.1 hst (lv_room hw) hdg ⟨Nat.zero_le _, Nat.zero_le _⟩) hS (fun q _ h => Ar.mono hS.1 q h) (fun q h => Ar.mono hS.1 q h) (fun r u t H1 locs1 e1 _ hp hB _ _ hS1 => k r u hp ls H1 locs1 hl2 (e1 ▸ hB) hS1)
theorem okx_callVl (C : Cy Γ Ω cc nL own ret fr lo l0 Qc Px) {Po : Int64 → Sg → Prop} {q ci n0 N : Nat} {fl : List (Option Nat)} {T : u_T} (hq : Ω.2.1[q]? = some (ci + 5, n0, fl)) (hc : CLs[ci]? = some (y.cls, T, N)) (hM : Ct l0 y bytes maxL ret2 fr2 lo2 Ω (.ref (Ω.2.2.1 q) :: As) σ (QL Ω Po)) (hl : Cond.methodLink own ix y ∈ GW) (hin : Cond.instanceMethod y ∈ GW) (hse : Cond.selects y.cls y y ∈ GW) (hcode : Cond.code y bytes maxL ret2 ∈ GW) (hini : Cond.initialized y.cls ∈ GW) (hd : y.cls ≠ "java/lang/invoke/MethodHandle" ∧ y.cls ≠ "java/lang/invoke/VarHandle" ∧ (parseMethodDescriptor y.desc).map (fun d => d.parameters.length) = some n) (hn : As.length = n) (hR : fr2 + 1 ≤ fr ∧ 8 + (maxL + 11) + lo2 ≤ lo) (hw : (rest.map fun v => v.category).sum ≤ 8) (hst : st = As.reverse ++ .ref (Ω.2.2.1 q) :: rest) (hdg : decode cc pc = .ok (.invokevirtual ix, 3)) (k : ∀ r u, Po r u → OK Γ Ω nL (pc + 3) L (.long r :: rest) u) : OK Γ Ω nL pc L st σ := by
  obtain ⟨p, l, e, R, s, m, args, below, meth, c, Q⟩ := Γ
  obtain ⟨c1, c2, c3, c4, c5, c6, c7, c8, c9, c10, c11, c12, c13, c14, c15, c16, c17⟩ := C
  subst c11 c12
  intro ls H locs hl2 hP hS
  refine va_calll (a := (Value.ref (Ω.2.2.1 q) :: As).toArray) (va_runV ⟨c1, c2, c3, c4, c5⟩ (hM H.size) ⟨callB_of n c5 (gw_goodIn hcode (fun _ h => h)) rfl rfl rfl (c5 _ hini) (c5 _ hl) hd hR, c5 _ hin, c5 _ hse⟩ ⟨pb_blind _ _ _ _, va_recv c6 hP hc (wl_at hq), pb_at c6 c7 c8 c14 hP hS⟩ rfl hn hl2.1 hst (lv_room hw) hdg ⟨Nat.zero_le _, Nat.zero_le _⟩) hS (fun q _ h => Ar.mono hS.1 q h) (fun q h => Ar.mono hS.1 q h) (fun r u t H1 locs1 e1 _ hp hB _ _ hS1 => k r u hp ls H1 locs1 hl2 (e1 ▸ hB) hS1)
theorem okx_callVv (C : Cy Γ Ω cc nL own ret fr lo l0 Qc Px) {Po : Sg → Prop} {q ci n0 N : Nat} {fl : List (Option Nat)} {T : u_T} (hq : Ω.2.1[q]? = some (ci + 5, n0, fl)) (hc : CLs[ci]? = some (y.cls, T, N)) (hM : Ct l0 y bytes maxL ret2 fr2 lo2 Ω (.ref (Ω.2.2.1 q) :: As) σ (QV Ω Po)) (hl : Cond.methodLink own ix y ∈ GW) (hin : Cond.instanceMethod y ∈ GW) (hse : Cond.selects y.cls y y ∈ GW) (hcode : Cond.code y bytes maxL ret2 ∈ GW) (hini : Cond.initialized y.cls ∈ GW) (hd : y.cls ≠ "java/lang/invoke/MethodHandle" ∧ y.cls ≠ "java/lang/invoke/VarHandle" ∧ (parseMethodDescriptor y.desc).map (fun d => d.parameters.length) = some n) (hn : As.length = n) (hR : fr2 + 1 ≤ fr ∧ 8 + (maxL + 11) + lo2 ≤ lo) (hw : (rest.map fun v => v.category).sum ≤ 8) (hst : st = As.reverse ++ .ref (Ω.2.2.1 q) :: rest) (hdg : decode cc pc = .ok (.invokevirtual ix, 3)) (k : ∀ u, Po u → OK Γ Ω nL (pc + 3) L rest u) : OK Γ Ω nL pc L st σ := by
  obtain ⟨p, l, e, R, s, m, args, below, meth, c, Q⟩ := Γ
  obtain ⟨c1, c2, c3, c4, c5, c6, c7, c8, c9, c10, c11, c12, c13, c14, c15, c16, c17⟩ := C
  subst c11 c12
  intro ls H locs hl2 hP hS
  refine va_callv (a := (Value.ref (Ω.2.2.1 q) :: As).toArray) (va_runV ⟨c1, c2, c3, c4, c5⟩ (hM H.size) ⟨callB_of n c5 (gw_goodIn hcode (fun _ h => h)) rfl rfl rfl (c5 _ hini) (c5 _ hl) hd hR, c5 _ hin, c5 _ hse⟩ ⟨pb_blind _ _ _ _, va_recv c6 hP hc (wl_at hq), pb_at c6 c7 c8 c14 hP hS⟩ rfl hn hl2.1 hst (lv_room hw) hdg ⟨Nat.zero_le _, Nat.zero_le _⟩) hS (fun q _ h => Ar.mono hS.1 q h) (fun q h => Ar.mono hS.1 q h) (fun u t H1 locs1 e1 _ hp hB _ _ hS1 => k u hp ls H1 locs1 hl2 (e1 ▸ hB) hS1)
theorem okx_callVr (C : Cy Γ Ω cc nL own ret fr lo l0 Qc Px) {Po : Nat → Sg → Prop} {q ci n0 N : Nat} {fl : List (Option Nat)} {T : u_T} (hq : Ω.2.1[q]? = some (ci + 5, n0, fl)) (hc : CLs[ci]? = some (y.cls, T, N)) (hM : Ct l0 y bytes maxL ret2 fr2 lo2 Ω (.ref (Ω.2.2.1 q) :: As) σ (QR Ω Po)) (hl : Cond.methodLink own ix y ∈ GW) (hin : Cond.instanceMethod y ∈ GW) (hse : Cond.selects y.cls y y ∈ GW) (hcode : Cond.code y bytes maxL ret2 ∈ GW) (hini : Cond.initialized y.cls ∈ GW) (hd : y.cls ≠ "java/lang/invoke/MethodHandle" ∧ y.cls ≠ "java/lang/invoke/VarHandle" ∧ (parseMethodDescriptor y.desc).map (fun d => d.parameters.length) = some n) (hn : As.length = n) (hR : fr2 + 1 ≤ fr ∧ 8 + (maxL + 11) + lo2 ≤ lo) (hw : (rest.map fun v => v.category).sum ≤ 8) (hst : st = As.reverse ++ .ref (Ω.2.2.1 q) :: rest) (hdg : decode cc pc = .ok (.invokevirtual ix, 3)) (k : ∀ r u, Po r u → OK Γ Ω nL (pc + 3) L (.ref (Ω.2.2.1 r) :: rest) u) : OK Γ Ω nL pc L st σ := by
  obtain ⟨p, l, e, R, s, m, args, below, meth, c, Q⟩ := Γ
  obtain ⟨c1, c2, c3, c4, c5, c6, c7, c8, c9, c10, c11, c12, c13, c14, c15, c16, c17⟩ := C
  subst c11 c12
  intro ls H locs hl2 hP hS
  refine va_callr (a := (Value.ref (Ω.2.2.1 q) :: As).toArray) (va_runV ⟨c1, c2, c3, c4, c5⟩ (hM H.size) ⟨callB_of n c5 (gw_goodIn hcode (fun _ h => h)) rfl rfl rfl (c5 _ hini) (c5 _ hl) hd hR, c5 _ hin, c5 _ hse⟩ ⟨pb_blind _ _ _ _, va_recv c6 hP hc (wl_at hq), pb_at c6 c7 c8 c14 hP hS⟩ rfl hn hl2.1 hst (lv_room hw) hdg ⟨Nat.zero_le _, Nat.zero_le _⟩) hS (fun q _ h => Ar.mono hS.1 q h) (fun q h => Ar.mono hS.1 q h) (fun u ra t H1 locs1 e1 _ hp hB _ _ hS1 => by obtain ⟨hr1, hB⟩ := hB; subst hr1; exact k u.1 u.2 hp ls H1 locs1 hl2 (e1 ▸ hB) hS1)
theorem okx_callSi (C : Cy Γ Ω cc nL own ret fr lo l0 Qc Px) {Po : Int32 → Sg → Prop}  (hM : Ct l0 y bytes maxL ret2 fr2 lo2 Ω As σ (QI Ω Po)) (hl : Cond.methodLink own ix y ∈ GW) (hstat : Cond.static y ∈ GW) (hcode : Cond.code y bytes maxL ret2 ∈ GW) (hini : Cond.initialized y.cls ∈ GW) (hd : y.cls ≠ "java/lang/invoke/MethodHandle" ∧ y.cls ≠ "java/lang/invoke/VarHandle" ∧ (parseMethodDescriptor y.desc).map (fun d => d.parameters.length) = some n) (hn : As.length = n) (hR : fr2 + 1 ≤ fr ∧ 8 + (maxL + 11) + lo2 ≤ lo) (hw : (rest.map fun v => v.category).sum ≤ 8) (hst : st = As.reverse ++ rest) (hdg : decode cc pc = .ok (.invokestatic ix, 3)) (k : ∀ r u, Po r u → OK Γ Ω nL (pc + 3) L (.int r :: rest) u) : OK Γ Ω nL pc L st σ := by
  obtain ⟨p, l, e, R, s, m, args, below, meth, c, Q⟩ := Γ
  obtain ⟨c1, c2, c3, c4, c5, c6, c7, c8, c9, c10, c11, c12, c13, c14, c15, c16, c17⟩ := C
  subst c11 c12
  intro ls H locs hl2 hP hS
  refine va_calli (a := As.toArray) (va_runS ⟨c1, c2, c3, c4, c5⟩ (hM H.size) ⟨callB_of n c5 (gw_goodIn hcode (fun _ h => h)) rfl rfl rfl (c5 _ hini) (c5 _ hl) hd hR, c5 _ hstat⟩ ⟨pb_blind _ _ _ _, pb_at c6 c7 c8 c14 hP hS⟩ rfl hn hl2.1 hst (lv_room hw) hdg ⟨Nat.zero_le _, Nat.zero_le _⟩) hS (fun q _ h => Ar.mono hS.1 q h) (fun q h => Ar.mono hS.1 q h) (fun r u t H1 locs1 e1 _ hp hB _ _ hS1 => k r u hp ls H1 locs1 hl2 (e1 ▸ hB) hS1)
theorem okx_callSl (C : Cy Γ Ω cc nL own ret fr lo l0 Qc Px) {Po : Int64 → Sg → Prop}  (hM : Ct l0 y bytes maxL ret2 fr2 lo2 Ω As σ (QL Ω Po)) (hl : Cond.methodLink own ix y ∈ GW) (hstat : Cond.static y ∈ GW) (hcode : Cond.code y bytes maxL ret2 ∈ GW) (hini : Cond.initialized y.cls ∈ GW) (hd : y.cls ≠ "java/lang/invoke/MethodHandle" ∧ y.cls ≠ "java/lang/invoke/VarHandle" ∧ (parseMethodDescriptor y.desc).map (fun d => d.parameters.length) = some n) (hn : As.length = n) (hR : fr2 + 1 ≤ fr ∧ 8 + (maxL + 11) + lo2 ≤ lo) (hw : (rest.map fun v => v.category).sum ≤ 8) (hst : st = As.reverse ++ rest) (hdg : decode cc pc = .ok (.invokestatic ix, 3)) (k : ∀ r u, Po r u → OK Γ Ω nL (pc + 3) L (.long r :: rest) u) : OK Γ Ω nL pc L st σ := by
  obtain ⟨p, l, e, R, s, m, args, below, meth, c, Q⟩ := Γ
  obtain ⟨c1, c2, c3, c4, c5, c6, c7, c8, c9, c10, c11, c12, c13, c14, c15, c16, c17⟩ := C
  subst c11 c12
  intro ls H locs hl2 hP hS
  refine va_calll (a := As.toArray) (va_runS ⟨c1, c2, c3, c4, c5⟩ (hM H.size) ⟨callB_of n c5 (gw_goodIn hcode (fun _ h => h)) rfl rfl rfl (c5 _ hini) (c5 _ hl) hd hR, c5 _ hstat⟩ ⟨pb_blind _ _ _ _, pb_at c6 c7 c8 c14 hP hS⟩ rfl hn hl2.1 hst (lv_room hw) hdg ⟨Nat.zero_le _, Nat.zero_le _⟩) hS (fun q _ h => Ar.mono hS.1 q h) (fun q h => Ar.mono hS.1 q h) (fun r u t H1 locs1 e1 _ hp hB _ _ hS1 => k r u hp ls H1 locs1 hl2 (e1 ▸ hB) hS1)
theorem okx_callSv (C : Cy Γ Ω cc nL own ret fr lo l0 Qc Px) {Po : Sg → Prop}  (hM : Ct l0 y bytes maxL ret2 fr2 lo2 Ω As σ (QV Ω Po)) (hl : Cond.methodLink own ix y ∈ GW) (hstat : Cond.static y ∈ GW) (hcode : Cond.code y bytes maxL ret2 ∈ GW) (hini : Cond.initialized y.cls ∈ GW) (hd : y.cls ≠ "java/lang/invoke/MethodHandle" ∧ y.cls ≠ "java/lang/invoke/VarHandle" ∧ (parseMethodDescriptor y.desc).map (fun d => d.parameters.length) = some n) (hn : As.length = n) (hR : fr2 + 1 ≤ fr ∧ 8 + (maxL + 11) + lo2 ≤ lo) (hw : (rest.map fun v => v.category).sum ≤ 8) (hst : st = As.reverse ++ rest) (hdg : decode cc pc = .ok (.invokestatic ix, 3)) (k : ∀ u, Po u → OK Γ Ω nL (pc + 3) L rest u) : OK Γ Ω nL pc L st σ := by
  obtain ⟨p, l, e, R, s, m, args, below, meth, c, Q⟩ := Γ
  obtain ⟨c1, c2, c3, c4, c5, c6, c7, c8, c9, c10, c11, c12, c13, c14, c15, c16, c17⟩ := C
  subst c11 c12
  intro ls H locs hl2 hP hS
  refine va_callv (a := As.toArray) (va_runS ⟨c1, c2, c3, c4, c5⟩ (hM H.size) ⟨callB_of n c5 (gw_goodIn hcode (fun _ h => h)) rfl rfl rfl (c5 _ hini) (c5 _ hl) hd hR, c5 _ hstat⟩ ⟨pb_blind _ _ _ _, pb_at c6 c7 c8 c14 hP hS⟩ rfl hn hl2.1 hst (lv_room hw) hdg ⟨Nat.zero_le _, Nat.zero_le _⟩) hS (fun q _ h => Ar.mono hS.1 q h) (fun q h => Ar.mono hS.1 q h) (fun u t H1 locs1 e1 _ hp hB _ _ hS1 => k u hp ls H1 locs1 hl2 (e1 ▸ hB) hS1)
theorem okx_callSr (C : Cy Γ Ω cc nL own ret fr lo l0 Qc Px) {Po : Nat → Sg → Prop}  (hM : Ct l0 y bytes maxL ret2 fr2 lo2 Ω As σ (QR Ω Po)) (hl : Cond.methodLink own ix y ∈ GW) (hstat : Cond.static y ∈ GW) (hcode : Cond.code y bytes maxL ret2 ∈ GW) (hini : Cond.initialized y.cls ∈ GW) (hd : y.cls ≠ "java/lang/invoke/MethodHandle" ∧ y.cls ≠ "java/lang/invoke/VarHandle" ∧ (parseMethodDescriptor y.desc).map (fun d => d.parameters.length) = some n) (hn : As.length = n) (hR : fr2 + 1 ≤ fr ∧ 8 + (maxL + 11) + lo2 ≤ lo) (hw : (rest.map fun v => v.category).sum ≤ 8) (hst : st = As.reverse ++ rest) (hdg : decode cc pc = .ok (.invokestatic ix, 3)) (k : ∀ r u, Po r u → OK Γ Ω nL (pc + 3) L (.ref (Ω.2.2.1 r) :: rest) u) : OK Γ Ω nL pc L st σ := by
  obtain ⟨p, l, e, R, s, m, args, below, meth, c, Q⟩ := Γ
  obtain ⟨c1, c2, c3, c4, c5, c6, c7, c8, c9, c10, c11, c12, c13, c14, c15, c16, c17⟩ := C
  subst c11 c12
  intro ls H locs hl2 hP hS
  refine va_callr (a := As.toArray) (va_runS ⟨c1, c2, c3, c4, c5⟩ (hM H.size) ⟨callB_of n c5 (gw_goodIn hcode (fun _ h => h)) rfl rfl rfl (c5 _ hini) (c5 _ hl) hd hR, c5 _ hstat⟩ ⟨pb_blind _ _ _ _, pb_at c6 c7 c8 c14 hP hS⟩ rfl hn hl2.1 hst (lv_room hw) hdg ⟨Nat.zero_le _, Nat.zero_le _⟩) hS (fun q _ h => Ar.mono hS.1 q h) (fun q h => Ar.mono hS.1 q h) (fun u ra t H1 locs1 e1 _ hp hB _ _ hS1 => by obtain ⟨hr1, hB⟩ := hB; subst hr1; exact k u.1 u.2 hp ls H1 locs1 hl2 (e1 ▸ hB) hS1)
theorem okx_callVNi (C : Cy Γ Ω cc nL own ret fr lo l0 Qc Px) {Po : Int32 → Sg → Prop} {q ci n0 N : Nat} {fl : List (Option Nat)} {T : u_T} (hq : Ω.2.1[q]? = some (ci + 5, n0, fl)) (hc : CLs[ci]? = some (y.cls, T, N)) (hM : Ct l0 y bytes maxL ret2 fr2 lo2 Ω (.ref (Ω.2.2.1 q) :: As) σ (QI Ω Po)) {host : String} (hl : (own, ix, y, host) ∈ NBm) (hin : Cond.instanceMethod y ∈ GW) (hse : Cond.selects y.cls y y ∈ GW) (hcode : Cond.code y bytes maxL ret2 ∈ GW) (hini : Cond.initialized y.cls ∈ GW) (hd : y.cls ≠ "java/lang/invoke/MethodHandle" ∧ y.cls ≠ "java/lang/invoke/VarHandle" ∧ (parseMethodDescriptor y.desc).map (fun d => d.parameters.length) = some n) (hn : As.length = n) (hR : fr2 + 1 ≤ fr ∧ 8 + (maxL + 11) + lo2 ≤ lo) (hw : (rest.map fun v => v.category).sum ≤ 8) (hst : st = As.reverse ++ .ref (Ω.2.2.1 q) :: rest) (hdg : decode cc pc = .ok (.invokevirtual ix, 3)) (k : ∀ r u, Po r u → OK Γ Ω nL (pc + 3) L (.int r :: rest) u) : OK Γ Ω nL pc L st σ := by
  obtain ⟨p, l, e, R, s, m, args, below, meth, c, Q⟩ := Γ
  obtain ⟨c1, c2, c3, c4, c5, c6, c7, c8, c9, c10, c11, c12, c13, c14, c15, c16, c17⟩ := C
  subst c11 c12
  intro ls H locs hl2 hP hS
  refine va_calli (a := (Value.ref (Ω.2.2.1 q) :: As).toArray) (va_runVN ⟨c1, c2, c3, c4, c5⟩ (hM H.size) ⟨va_cnB n c5 (gw_goodIn hcode (fun _ h => h)) rfl rfl rfl (c14.2 _ hl) (c5 _ hini) hd hR, c5 _ hin, c5 _ hse⟩ ⟨pb_blind _ _ _ _, va_recv c6 hP hc (wl_at hq), pb_at c6 c7 c8 c14 hP hS⟩ rfl hn hl2.1 hst (lv_room hw) hdg ⟨Nat.zero_le _, Nat.zero_le _⟩) hS (fun q _ h => Ar.mono hS.1 q h) (fun q h => Ar.mono hS.1 q h) (fun r u t H1 locs1 e1 _ hp hB _ _ hS1 => k r u hp ls H1 locs1 hl2 (e1 ▸ hB) hS1)
theorem okx_callVNl (C : Cy Γ Ω cc nL own ret fr lo l0 Qc Px) {Po : Int64 → Sg → Prop} {q ci n0 N : Nat} {fl : List (Option Nat)} {T : u_T} (hq : Ω.2.1[q]? = some (ci + 5, n0, fl)) (hc : CLs[ci]? = some (y.cls, T, N)) (hM : Ct l0 y bytes maxL ret2 fr2 lo2 Ω (.ref (Ω.2.2.1 q) :: As) σ (QL Ω Po)) {host : String} (hl : (own, ix, y, host) ∈ NBm) (hin : Cond.instanceMethod y ∈ GW) (hse : Cond.selects y.cls y y ∈ GW) (hcode : Cond.code y bytes maxL ret2 ∈ GW) (hini : Cond.initialized y.cls ∈ GW) (hd : y.cls ≠ "java/lang/invoke/MethodHandle" ∧ y.cls ≠ "java/lang/invoke/VarHandle" ∧ (parseMethodDescriptor y.desc).map (fun d => d.parameters.length) = some n) (hn : As.length = n) (hR : fr2 + 1 ≤ fr ∧ 8 + (maxL + 11) + lo2 ≤ lo) (hw : (rest.map fun v => v.category).sum ≤ 8) (hst : st = As.reverse ++ .ref (Ω.2.2.1 q) :: rest) (hdg : decode cc pc = .ok (.invokevirtual ix, 3)) (k : ∀ r u, Po r u → OK Γ Ω nL (pc + 3) L (.long r :: rest) u) : OK Γ Ω nL pc L st σ := by
  obtain ⟨p, l, e, R, s, m, args, below, meth, c, Q⟩ := Γ
  obtain ⟨c1, c2, c3, c4, c5, c6, c7, c8, c9, c10, c11, c12, c13, c14, c15, c16, c17⟩ := C
  subst c11 c12
  intro ls H locs hl2 hP hS
  refine va_calll (a := (Value.ref (Ω.2.2.1 q) :: As).toArray) (va_runVN ⟨c1, c2, c3, c4, c5⟩ (hM H.size) ⟨va_cnB n c5 (gw_goodIn hcode (fun _ h => h)) rfl rfl rfl (c14.2 _ hl) (c5 _ hini) hd hR, c5 _ hin, c5 _ hse⟩ ⟨pb_blind _ _ _ _, va_recv c6 hP hc (wl_at hq), pb_at c6 c7 c8 c14 hP hS⟩ rfl hn hl2.1 hst (lv_room hw) hdg ⟨Nat.zero_le _, Nat.zero_le _⟩) hS (fun q _ h => Ar.mono hS.1 q h) (fun q h => Ar.mono hS.1 q h) (fun r u t H1 locs1 e1 _ hp hB _ _ hS1 => k r u hp ls H1 locs1 hl2 (e1 ▸ hB) hS1)
theorem okx_callVNv (C : Cy Γ Ω cc nL own ret fr lo l0 Qc Px) {Po : Sg → Prop} {q ci n0 N : Nat} {fl : List (Option Nat)} {T : u_T} (hq : Ω.2.1[q]? = some (ci + 5, n0, fl)) (hc : CLs[ci]? = some (y.cls, T, N)) (hM : Ct l0 y bytes maxL ret2 fr2 lo2 Ω (.ref (Ω.2.2.1 q) :: As) σ (QV Ω Po)) {host : String} (hl : (own, ix, y, host) ∈ NBm) (hin : Cond.instanceMethod y ∈ GW) (hse : Cond.selects y.cls y y ∈ GW) (hcode : Cond.code y bytes maxL ret2 ∈ GW) (hini : Cond.initialized y.cls ∈ GW) (hd : y.cls ≠ "java/lang/invoke/MethodHandle" ∧ y.cls ≠ "java/lang/invoke/VarHandle" ∧ (parseMethodDescriptor y.desc).map (fun d => d.parameters.length) = some n) (hn : As.length = n) (hR : fr2 + 1 ≤ fr ∧ 8 + (maxL + 11) + lo2 ≤ lo) (hw : (rest.map fun v => v.category).sum ≤ 8) (hst : st = As.reverse ++ .ref (Ω.2.2.1 q) :: rest) (hdg : decode cc pc = .ok (.invokevirtual ix, 3)) (k : ∀ u, Po u → OK Γ Ω nL (pc + 3) L rest u) : OK Γ Ω nL pc L st σ := by
  obtain ⟨p, l, e, R, s, m, args, below, meth, c, Q⟩ := Γ
  obtain ⟨c1, c2, c3, c4, c5, c6, c7, c8, c9, c10, c11, c12, c13, c14, c15, c16, c17⟩ := C
  subst c11 c12
  intro ls H locs hl2 hP hS
  refine va_callv (a := (Value.ref (Ω.2.2.1 q) :: As).toArray) (va_runVN ⟨c1, c2, c3, c4, c5⟩ (hM H.size) ⟨va_cnB n c5 (gw_goodIn hcode (fun _ h => h)) rfl rfl rfl (c14.2 _ hl) (c5 _ hini) hd hR, c5 _ hin, c5 _ hse⟩ ⟨pb_blind _ _ _ _, va_recv c6 hP hc (wl_at hq), pb_at c6 c7 c8 c14 hP hS⟩ rfl hn hl2.1 hst (lv_room hw) hdg ⟨Nat.zero_le _, Nat.zero_le _⟩) hS (fun q _ h => Ar.mono hS.1 q h) (fun q h => Ar.mono hS.1 q h) (fun u t H1 locs1 e1 _ hp hB _ _ hS1 => k u hp ls H1 locs1 hl2 (e1 ▸ hB) hS1)
theorem okx_callVNr (C : Cy Γ Ω cc nL own ret fr lo l0 Qc Px) {Po : Nat → Sg → Prop} {q ci n0 N : Nat} {fl : List (Option Nat)} {T : u_T} (hq : Ω.2.1[q]? = some (ci + 5, n0, fl)) (hc : CLs[ci]? = some (y.cls, T, N)) (hM : Ct l0 y bytes maxL ret2 fr2 lo2 Ω (.ref (Ω.2.2.1 q) :: As) σ (QR Ω Po)) {host : String} (hl : (own, ix, y, host) ∈ NBm) (hin : Cond.instanceMethod y ∈ GW) (hse : Cond.selects y.cls y y ∈ GW) (hcode : Cond.code y bytes maxL ret2 ∈ GW) (hini : Cond.initialized y.cls ∈ GW) (hd : y.cls ≠ "java/lang/invoke/MethodHandle" ∧ y.cls ≠ "java/lang/invoke/VarHandle" ∧ (parseMethodDescriptor y.desc).map (fun d => d.parameters.length) = some n) (hn : As.length = n) (hR : fr2 + 1 ≤ fr ∧ 8 + (maxL + 11) + lo2 ≤ lo) (hw : (rest.map fun v => v.category).sum ≤ 8) (hst : st = As.reverse ++ .ref (Ω.2.2.1 q) :: rest) (hdg : decode cc pc = .ok (.invokevirtual ix, 3)) (k : ∀ r u, Po r u → OK Γ Ω nL (pc + 3) L (.ref (Ω.2.2.1 r) :: rest) u) : OK Γ Ω nL pc L st σ := by
  obtain ⟨p, l, e, R, s, m, args, below, meth, c, Q⟩ := Γ
  obtain ⟨c1, c2, c3, c4, c5, c6, c7, c8, c9, c10, c11, c12, c13, c14, c15, c16, c17⟩ := C
  subst c11 c12
  intro ls H locs hl2 hP hS
  refine va_callr (a := (Value.ref (Ω.2.2.1 q) :: As).toArray) (va_runVN ⟨c1, c2, c3, c4, c5⟩ (hM H.size) ⟨va_cnB n c5 (gw_goodIn hcode (fun _ h => h)) rfl rfl rfl (c14.2 _ hl) (c5 _ hini) hd hR, c5 _ hin, c5 _ hse⟩ ⟨pb_blind _ _ _ _, va_recv c6 hP hc (wl_at hq), pb_at c6 c7 c8 c14 hP hS⟩ rfl hn hl2.1 hst (lv_room hw) hdg ⟨Nat.zero_le _, Nat.zero_le _⟩) hS (fun q _ h => Ar.mono hS.1 q h) (fun q h => Ar.mono hS.1 q h) (fun u ra t H1 locs1 e1 _ hp hB _ _ hS1 => by obtain ⟨hr1, hB⟩ := hB; subst hr1; exact k u.1 u.2 hp ls H1 locs1 hl2 (e1 ▸ hB) hS1)
theorem okx_callSNi (C : Cy Γ Ω cc nL own ret fr lo l0 Qc Px) {Po : Int32 → Sg → Prop}  (hM : Ct l0 y bytes maxL ret2 fr2 lo2 Ω As σ (QI Ω Po)) {host : String} (hl : (own, ix, y, host) ∈ NBm) (hstat : Cond.static y ∈ GW) (hcode : Cond.code y bytes maxL ret2 ∈ GW) (hini : Cond.initialized y.cls ∈ GW) (hd : y.cls ≠ "java/lang/invoke/MethodHandle" ∧ y.cls ≠ "java/lang/invoke/VarHandle" ∧ (parseMethodDescriptor y.desc).map (fun d => d.parameters.length) = some n) (hn : As.length = n) (hR : fr2 + 1 ≤ fr ∧ 8 + (maxL + 11) + lo2 ≤ lo) (hw : (rest.map fun v => v.category).sum ≤ 8) (hst : st = As.reverse ++ rest) (hdg : decode cc pc = .ok (.invokestatic ix, 3)) (k : ∀ r u, Po r u → OK Γ Ω nL (pc + 3) L (.int r :: rest) u) : OK Γ Ω nL pc L st σ := by
  obtain ⟨p, l, e, R, s, m, args, below, meth, c, Q⟩ := Γ
  obtain ⟨c1, c2, c3, c4, c5, c6, c7, c8, c9, c10, c11, c12, c13, c14, c15, c16, c17⟩ := C
  subst c11 c12
  intro ls H locs hl2 hP hS
  refine va_calli (a := As.toArray) (va_runSN ⟨c1, c2, c3, c4, c5⟩ (hM H.size) ⟨va_cnB n c5 (gw_goodIn hcode (fun _ h => h)) rfl rfl rfl (c14.2 _ hl) (c5 _ hini) hd hR, c5 _ hstat, trivial⟩ ⟨pb_blind _ _ _ _, pb_at c6 c7 c8 c14 hP hS⟩ rfl hn hl2.1 hst (lv_room hw) hdg ⟨Nat.zero_le _, Nat.zero_le _⟩) hS (fun q _ h => Ar.mono hS.1 q h) (fun q h => Ar.mono hS.1 q h) (fun r u t H1 locs1 e1 _ hp hB _ _ hS1 => k r u hp ls H1 locs1 hl2 (e1 ▸ hB) hS1)
theorem okx_callSNl (C : Cy Γ Ω cc nL own ret fr lo l0 Qc Px) {Po : Int64 → Sg → Prop}  (hM : Ct l0 y bytes maxL ret2 fr2 lo2 Ω As σ (QL Ω Po)) {host : String} (hl : (own, ix, y, host) ∈ NBm) (hstat : Cond.static y ∈ GW) (hcode : Cond.code y bytes maxL ret2 ∈ GW) (hini : Cond.initialized y.cls ∈ GW) (hd : y.cls ≠ "java/lang/invoke/MethodHandle" ∧ y.cls ≠ "java/lang/invoke/VarHandle" ∧ (parseMethodDescriptor y.desc).map (fun d => d.parameters.length) = some n) (hn : As.length = n) (hR : fr2 + 1 ≤ fr ∧ 8 + (maxL + 11) + lo2 ≤ lo) (hw : (rest.map fun v => v.category).sum ≤ 8) (hst : st = As.reverse ++ rest) (hdg : decode cc pc = .ok (.invokestatic ix, 3)) (k : ∀ r u, Po r u → OK Γ Ω nL (pc + 3) L (.long r :: rest) u) : OK Γ Ω nL pc L st σ := by
  obtain ⟨p, l, e, R, s, m, args, below, meth, c, Q⟩ := Γ
  obtain ⟨c1, c2, c3, c4, c5, c6, c7, c8, c9, c10, c11, c12, c13, c14, c15, c16, c17⟩ := C
  subst c11 c12
  intro ls H locs hl2 hP hS
  refine va_calll (a := As.toArray) (va_runSN ⟨c1, c2, c3, c4, c5⟩ (hM H.size) ⟨va_cnB n c5 (gw_goodIn hcode (fun _ h => h)) rfl rfl rfl (c14.2 _ hl) (c5 _ hini) hd hR, c5 _ hstat, trivial⟩ ⟨pb_blind _ _ _ _, pb_at c6 c7 c8 c14 hP hS⟩ rfl hn hl2.1 hst (lv_room hw) hdg ⟨Nat.zero_le _, Nat.zero_le _⟩) hS (fun q _ h => Ar.mono hS.1 q h) (fun q h => Ar.mono hS.1 q h) (fun r u t H1 locs1 e1 _ hp hB _ _ hS1 => k r u hp ls H1 locs1 hl2 (e1 ▸ hB) hS1)
theorem okx_callSNv (C : Cy Γ Ω cc nL own ret fr lo l0 Qc Px) {Po : Sg → Prop}  (hM : Ct l0 y bytes maxL ret2 fr2 lo2 Ω As σ (QV Ω Po)) {host : String} (hl : (own, ix, y, host) ∈ NBm) (hstat : Cond.static y ∈ GW) (hcode : Cond.code y bytes maxL ret2 ∈ GW) (hini : Cond.initialized y.cls ∈ GW) (hd : y.cls ≠ "java/lang/invoke/MethodHandle" ∧ y.cls ≠ "java/lang/invoke/VarHandle" ∧ (parseMethodDescriptor y.desc).map (fun d => d.parameters.length) = some n) (hn : As.length = n) (hR : fr2 + 1 ≤ fr ∧ 8 + (maxL + 11) + lo2 ≤ lo) (hw : (rest.map fun v => v.category).sum ≤ 8) (hst : st = As.reverse ++ rest) (hdg : decode cc pc = .ok (.invokestatic ix, 3)) (k : ∀ u, Po u → OK Γ Ω nL (pc + 3) L rest u) : OK Γ Ω nL pc L st σ := by
  obtain ⟨p, l, e, R, s, m, args, below, meth, c, Q⟩ := Γ
  obtain ⟨c1, c2, c3, c4, c5, c6, c7, c8, c9, c10, c11, c12, c13, c14, c15, c16, c17⟩ := C
  subst c11 c12
  intro ls H locs hl2 hP hS
  refine va_callv (a := As.toArray) (va_runSN ⟨c1, c2, c3, c4, c5⟩ (hM H.size) ⟨va_cnB n c5 (gw_goodIn hcode (fun _ h => h)) rfl rfl rfl (c14.2 _ hl) (c5 _ hini) hd hR, c5 _ hstat, trivial⟩ ⟨pb_blind _ _ _ _, pb_at c6 c7 c8 c14 hP hS⟩ rfl hn hl2.1 hst (lv_room hw) hdg ⟨Nat.zero_le _, Nat.zero_le _⟩) hS (fun q _ h => Ar.mono hS.1 q h) (fun q h => Ar.mono hS.1 q h) (fun u t H1 locs1 e1 _ hp hB _ _ hS1 => k u hp ls H1 locs1 hl2 (e1 ▸ hB) hS1)
theorem okx_callSNr (C : Cy Γ Ω cc nL own ret fr lo l0 Qc Px) {Po : Nat → Sg → Prop}  (hM : Ct l0 y bytes maxL ret2 fr2 lo2 Ω As σ (QR Ω Po)) {host : String} (hl : (own, ix, y, host) ∈ NBm) (hstat : Cond.static y ∈ GW) (hcode : Cond.code y bytes maxL ret2 ∈ GW) (hini : Cond.initialized y.cls ∈ GW) (hd : y.cls ≠ "java/lang/invoke/MethodHandle" ∧ y.cls ≠ "java/lang/invoke/VarHandle" ∧ (parseMethodDescriptor y.desc).map (fun d => d.parameters.length) = some n) (hn : As.length = n) (hR : fr2 + 1 ≤ fr ∧ 8 + (maxL + 11) + lo2 ≤ lo) (hw : (rest.map fun v => v.category).sum ≤ 8) (hst : st = As.reverse ++ rest) (hdg : decode cc pc = .ok (.invokestatic ix, 3)) (k : ∀ r u, Po r u → OK Γ Ω nL (pc + 3) L (.ref (Ω.2.2.1 r) :: rest) u) : OK Γ Ω nL pc L st σ := by
  obtain ⟨p, l, e, R, s, m, args, below, meth, c, Q⟩ := Γ
  obtain ⟨c1, c2, c3, c4, c5, c6, c7, c8, c9, c10, c11, c12, c13, c14, c15, c16, c17⟩ := C
  subst c11 c12
  intro ls H locs hl2 hP hS
  refine va_callr (a := As.toArray) (va_runSN ⟨c1, c2, c3, c4, c5⟩ (hM H.size) ⟨va_cnB n c5 (gw_goodIn hcode (fun _ h => h)) rfl rfl rfl (c14.2 _ hl) (c5 _ hini) hd hR, c5 _ hstat, trivial⟩ ⟨pb_blind _ _ _ _, pb_at c6 c7 c8 c14 hP hS⟩ rfl hn hl2.1 hst (lv_room hw) hdg ⟨Nat.zero_le _, Nat.zero_le _⟩) hS (fun q _ h => Ar.mono hS.1 q h) (fun q h => Ar.mono hS.1 q h) (fun u ra t H1 locs1 e1 _ hp hB _ _ hS1 => by obtain ⟨hr1, hB⟩ := hB; subst hr1; exact k u.1 u.2 hp ls H1 locs1 hl2 (e1 ▸ hB) hS1)
end OKCX
