/-! ===== the law's own walk: what is fixed; two worlds side by side ===== -/
def ZA (A : Nat → Prop) (s : State) (H : Heap) : Prop := XW s ∧ (∀ q ∈ NCs, va_Nc q.1 q.2 s) ∧ vx_Zq Bundle.tN "UNASSIGNED_STACK" Bundle.steD A s H ∧ vx_Zq Bundle.tN "SUPPRESSED_SENTINEL" Bundle.listD A s H
theorem ZA.moved {A : Nat → Prop} {u U : State} {H : Heap} (hvm : u.vm.Alike U.vm) (h : ZA A u H) : ZA A U H := ⟨h.1.moved hvm, fun q hq => (h.2.1 q hq).moved hvm, h.2.2.1.moved hvm, h.2.2.2.moved hvm⟩
theorem ZA.kept {A : Nat → Prop} {U : State} {H H1 : Heap} (h : ZA A U H) (hq : ∀ a : Nat, a < H.size → ¬ A a → H1[a]? = H[a]?) : ZA A U H1 := ⟨h.1, h.2.1, h.2.2.1.kept hq, h.2.2.2.kept hq⟩
theorem ZA.narrow {A B : Nat → Prop} {U : State} {H : Heap} (h : ZA A U H) (hAB : ∀ q, B q → A q) : ZA B U H := ⟨h.1, h.2.1, h.2.2.1.narrow hAB, h.2.2.2.narrow hAB⟩
def lwQ (_ : Array Value) (s : State) (o : Outcome) (t : State) : Prop := o = .returned (some (.int 1)) ∧ Framed s o t [] 601024 7293034
def lwZ (below : List Frame) (a : Array Value) (s : State) : State → Prop := fun t => ∃ o, t.status = .running ∧ Ended t below o ∧ lwQ a s o t
def Kl (Γ : Gm) (E : Ev) (b Ln : Nat) (xs : Nat → Int32) (l0 : Launch) : Prop := match Γ with
  | (p, l, _, R, s, m, args, below, meth, c, Q) => p.tables.exec = Jvm.exec ∧ c.code = cL_law ∧ c.maxLocals = 8 ∧ s.vm.findClass RL = some m.cls ∧ (∀ w ∈ GW, w.before args s = true) ∧ va_K E.1 CLs (tyE E) s ∧ (∀ q : Nat, s.heap.size ≤ q → E.2.2 q) ∧ (∀ q : Nat, E.2.2 q → s.heap.size ≤ q) ∧ meth.locks = false ∧ meth.sig.returnType = ret ∧ R = room_1 ∧ l = l0 ∧ (args = #[Value.ref b] ∧ Q = lwZ below args s) ∧ NW s ∧ StA E.2.2 s s.heap ∧ ZA E.2.2 s s.heap ∧ va_AO RX5 s ∧ va_X b Ln xs s s.heap ∧ b < s.heap.size
def Two (A : Nat → Prop) (Ω Ω2 : Wm) : Prop := Dj Ω ∧ Dj Ω2 ∧ (∀ i, i < Ω.2.1.length → A (Ω.2.2.1 i)) ∧ (∀ i, i < Ω2.2.1.length → A (Ω2.2.2.1 i)) ∧ ∀ i j, i < Ω.2.1.length → j < Ω2.2.1.length → Ω.2.2.1 i ≠ Ω2.2.2.1 j
theorem wl_ad {Ω : Wm} {σ : Sg} {k : Nat} {q : Nat × va_E} (h : (wl Ω σ)[k]? = some q) : k < Ω.2.1.length ∧ q.1 = Ω.2.2.1 k := by
  have hl := (List.getElem?_eq_some_iff.mp h).1
  rw [wl_len] at hl
  rw [wl_at (List.getElem?_eq_getElem hl)] at h
  exact ⟨hl, by rw [← Option.some.inj h]⟩
theorem app_l {W1 W2 : va_W} {k : Nat} {q : Nat × va_E} (h : W1[k]? = some q) : (W1 ++ W2)[k]? = some q := by
  rw [List.getElem?_append_left (List.getElem?_eq_some_iff.mp h).1]
  exact h
theorem app_r {W1 W2 : va_W} {k : Nat} {q : Nat × va_E} (h : W2[k]? = some q) : (W1 ++ W2)[W1.length + k]? = some q := by
  rw [List.getElem?_append_right (Nat.le_add_right _ _), Nat.add_sub_cancel_left]
  exact h
theorem two_of {A : Nat → Prop} {Ω Ω2 : Wm} {σ τ : Sg} (hD : va_D A (wl Ω σ ++ wl Ω2 τ)) : Two A Ω Ω2 := by
  refine ⟨fun i j hi hj e => ?_, fun i j hi hj e => ?_, fun i hi => ?_, fun i hi => ?_, fun i j hi hj e => ?_⟩
  · exact hD.1 i j _ _ (app_l (wl_at (List.getElem?_eq_getElem hi))) (app_l (wl_at (List.getElem?_eq_getElem hj))) e
  · have := hD.1 _ _ _ _ (app_r (W1 := wl Ω σ) (wl_at (σ := τ) (List.getElem?_eq_getElem hi))) (app_r (W1 := wl Ω σ) (wl_at (σ := τ) (List.getElem?_eq_getElem hj))) e
    omega
  · exact hD.2 i _ (app_l (wl_at (List.getElem?_eq_getElem hi)))
  · exact hD.2 _ _ (app_r (W1 := wl Ω σ) (wl_at (σ := τ) (List.getElem?_eq_getElem hi)))
  · have := hD.1 _ _ _ _ (app_l (W2 := wl Ω2 τ) (wl_at (σ := σ) (List.getElem?_eq_getElem hi))) (app_r (W1 := wl Ω σ) (wl_at (σ := τ) (List.getElem?_eq_getElem hj))) e
    rw [wl_len] at this
    omega
theorem Two.D {A : Nat → Prop} {Ω Ω2 : Wm} (h : Two A Ω Ω2) (σ τ : Sg) : va_D A (wl Ω σ ++ wl Ω2 τ) := by
  have key : ∀ (k : Nat) (q : Nat × va_E), (wl Ω σ ++ wl Ω2 τ)[k]? = some q → (k < Ω.2.1.length ∧ q.1 = Ω.2.2.1 k) ∨ ∃ i, k = Ω.2.1.length + i ∧ i < Ω2.2.1.length ∧ q.1 = Ω2.2.2.1 i := fun k q hk => by
    by_cases c : k < (wl Ω σ).length
    · rw [List.getElem?_append_left c] at hk
      exact Or.inl (wl_ad hk)
    · rw [List.getElem?_append_right (Nat.le_of_not_lt c)] at hk
      obtain ⟨h1, h2⟩ := wl_ad hk
      rw [wl_len] at c h1 h2
      exact Or.inr ⟨k - Ω.2.1.length, by omega, h1, h2⟩
  obtain ⟨h1, h2, h3, h4, h5⟩ := h
  refine ⟨fun i j x y hi hj e => ?_, fun k q hk => ?_⟩
  · rcases key i x hi with ⟨a1, a2⟩ | ⟨i', a1, a2, a3⟩ <;> rcases key j y hj with ⟨b1, b2⟩ | ⟨j', b1, b2, b3⟩
    · exact h1 i j a1 b1 (by rw [← a2, ← b2]; exact e)
    · exact absurd (by rw [← a2, ← b3]; exact e) (h5 i j' a1 b2)
    · exact absurd (by rw [← a3, ← b2]; exact e.symm) (h5 j i' b1 a2)
    · have := h2 i' j' a2 b2 (by rw [← a3, ← b3]; exact e)
      omega
  · rcases key k q hk with ⟨a1, a2⟩ | ⟨i', a1, a2, a3⟩
    · rw [a2]
      exact h3 k a1
    · rw [a3]
      exact h4 i' a2
theorem p_l {D : va_G} {cl : List vw_C} {H : Heap} {W1 W2 : va_W} (h : va_P D cl (W1 ++ W2) H) : va_P D cl W1 H := fun k q hk => h k q (app_l hk)
theorem p_r {D : va_G} {cl : List vw_C} {H : Heap} {W1 W2 : va_W} (h : va_P D cl (W1 ++ W2) H) : va_P D cl W2 H := fun k q hk => h _ q (app_r hk)
/-- the other world stays -/
theorem p_far {D : va_G} {cl : List vw_C} {H H1 : Heap} {Ω Ω2 : Wm} {τ : Sg} (hP : va_P D cl (wl Ω2 τ) H) (hd : ∀ i j, i < Ω.2.1.length → j < Ω2.2.1.length → Ω.2.2.1 i ≠ Ω2.2.2.1 j) (hk : ∀ q : Nat, q < H.size → ¬ Ar Ω H.size q → H1[q]? = H[q]?) : va_P D cl (wl Ω2 τ) H1 := hP.kept (fun k q hq => by
  have h1 := vx_lt hP hq
  refine hk _ h1 ?_
  obtain ⟨h2, h3⟩ := wl_ad hq
  rintro (⟨i, hi, e⟩ | h)
  · rw [h3] at e
    exact hd i k hi h2 e.symm
  · omega)
def oW (E : Ev) (ad : Nat → Nat) : Wm := (E.1, kW, ad, E.2.1)
def oM (E : Ev) (ad : Nat → Nat) : Wm := (E.1, kM, ad, E.2.1)
theorem oW_k (E : Ev) (ad : Nat → Nat) : Hk (oW E ad) kW := ⟨[], (List.append_nil _).symm⟩
theorem oM_k (E : Ev) (ad : Nat → Nat) : Hk (oM E ad) kM := ⟨[], (List.append_nil _).symm⟩
def W2 (E : Ev) (ad ad2 : Nat → Nat) (σ τ : Sg) : va_W := wl (oW E ad) σ ++ wl (oM E ad2) τ
def bz (v : Int32) : Int32 := if v = 0 then 0 else 1
theorem bz_z (v : Int32) : isZ (bz v) := by
  unfold bz
  split
  · exact Or.inl rfl
  · exact Or.inr rfl
section LAW
variable {Γ : Gm} {E : Ev} {kc ks b Ln : Nat} {xs : Nat → Int32} {l0 : Launch} {pc : Nat} {L : List (Nat × Value)} {st : List Value} {W0 : va_W}
theorem ol_iconst (C : Kl Γ E b Ln xs l0) {n : Int} {v : Int32} (hdg : decode cL_law pc = .ok (.iconst n, 1)) (hv : Int32.ofInt n = v) (k : OC Γ E kc ks 8 (pc + 1) L (.int v :: st) W0) : OC Γ E kc ks 8 pc L st W0 := by
  obtain ⟨p, l, e, R, s, m, args, below, meth, c, Q⟩ := Γ
  intro ls H locs hl hP hD hS
  exact lv_iconst C.1 C.2.1 hdg hv (k ls H locs hl hP hD hS)
theorem ol_lconst (C : Kl Γ E b Ln xs l0) {n : Fin 2} {v : Int64} (hdg : decode cL_law pc = .ok (.lconst n, 1)) (hv : Int64.ofNat (n : Nat) = v) (k : OC Γ E kc ks 8 (pc + 1) L (.long v :: st) W0) : OC Γ E kc ks 8 pc L st W0 := by
  obtain ⟨p, l, e, R, s, m, args, below, meth, c, Q⟩ := Γ
  intro ls H locs hl hP hD hS
  exact lv_lconst C.1 C.2.1 hdg hv (k ls H locs hl hP hD hS)
theorem ol_bipush (C : Kl Γ E b Ln xs l0) {n : Int} {v : Int32} (hdg : decode cL_law pc = .ok (.bipush n, 2)) (hv : (Int8.ofInt n).toInt32 = v) (k : OC Γ E kc ks 8 (pc + 2) L (.int v :: st) W0) : OC Γ E kc ks 8 pc L st W0 := by
  obtain ⟨p, l, e, R, s, m, args, below, meth, c, Q⟩ := Γ
  intro ls H locs hl hP hD hS
  exact lv_bipush C.1 C.2.1 hdg hv (k ls H locs hl hP hD hS)
theorem ol_iload (C : Kl Γ E b Ln xs l0) {i : Nat} {x : Int32} (z : Nat) (hdg : decode cL_law pc = .ok (.iload i, 2)) (hz : L[z]? = some (i, .int x)) (k : OC Γ E kc ks 8 (pc + 2) L (.int x :: st) W0) : OC Γ E kc ks 8 pc L st W0 := by
  obtain ⟨p, l, e, R, s, m, args, below, meth, c, Q⟩ := Γ
  intro ls H locs hl hP hD hS
  exact lv_iload C.1 C.2.1 hdg (lv_at hl z hz) (k ls H locs hl hP hD hS)
theorem ol_lload (C : Kl Γ E b Ln xs l0) {i : Nat} {x : Int64} (z : Nat) (hdg : decode cL_law pc = .ok (.lload i, 2)) (hz : L[z]? = some (i, .long x)) (k : OC Γ E kc ks 8 (pc + 2) L (.long x :: st) W0) : OC Γ E kc ks 8 pc L st W0 := by
  obtain ⟨p, l, e, R, s, m, args, below, meth, c, Q⟩ := Γ
  intro ls H locs hl hP hD hS
  exact lv_lload C.1 C.2.1 hdg (lv_at hl z hz) (k ls H locs hl hP hD hS)
theorem ol_aload_n (C : Kl Γ E b Ln xs l0) {q : Fin 4} {i a : Nat} (z : Nat) (hdg : decode cL_law pc = .ok (.aload_n q, 1)) (hi : (q : Nat) = i) (hz : L[z]? = some (i, .ref a)) (k : OC Γ E kc ks 8 (pc + 1) L (.ref a :: st) W0) : OC Γ E kc ks 8 pc L st W0 := by
  obtain ⟨p, l, e, R, s, m, args, below, meth, c, Q⟩ := Γ
  intro ls H locs hl hP hD hS
  exact lv_aload_n C.1 C.2.1 hdg hi (lv_at hl z hz) (k ls H locs hl hP hD hS)
theorem ol_iadd (C : Kl Γ E b Ln xs l0) {x y : Int32} (hdg : decode cL_law pc = .ok (.iadd, 1)) (k : OC Γ E kc ks 8 (pc + 1) L (.int (x + y) :: st) W0) : OC Γ E kc ks 8 pc L (.int y :: .int x :: st) W0 := by
  obtain ⟨p, l, e, R, s, m, args, below, meth, c, Q⟩ := Γ
  intro ls H locs hl hP hD hS
  exact lv_iadd C.1 C.2.1 hdg (k ls H locs hl hP hD hS)
theorem ol_isub (C : Kl Γ E b Ln xs l0) {x y : Int32} (hdg : decode cL_law pc = .ok (.isub, 1)) (k : OC Γ E kc ks 8 (pc + 1) L (.int (x - y) :: st) W0) : OC Γ E kc ks 8 pc L (.int y :: .int x :: st) W0 := by
  obtain ⟨p, l, e, R, s, m, args, below, meth, c, Q⟩ := Γ
  intro ls H locs hl hP hD hS
  exact lv_isub C.1 C.2.1 hdg (k ls H locs hl hP hD hS)
theorem ol_iand (C : Kl Γ E b Ln xs l0) {x y : Int32} (hdg : decode cL_law pc = .ok (.iand, 1)) (k : OC Γ E kc ks 8 (pc + 1) L (.int (x &&& y) :: st) W0) : OC Γ E kc ks 8 pc L (.int y :: .int x :: st) W0 := by
  obtain ⟨p, l, e, R, s, m, args, below, meth, c, Q⟩ := Γ
  intro ls H locs hl hP hD hS
  exact lv_iand C.1 C.2.1 hdg (k ls H locs hl hP hD hS)
theorem ol_land (C : Kl Γ E b Ln xs l0) {x y : Int64} (hdg : decode cL_law pc = .ok (.land, 1)) (k : OC Γ E kc ks 8 (pc + 1) L (.long (x &&& y) :: st) W0) : OC Γ E kc ks 8 pc L (.long y :: .long x :: st) W0 := by
  obtain ⟨p, l, e, R, s, m, args, below, meth, c, Q⟩ := Γ
  intro ls H locs hl hP hD hS
  exact lv_land C.1 C.2.1 hdg (k ls H locs hl hP hD hS)
theorem ol_lor (C : Kl Γ E b Ln xs l0) {x y : Int64} (hdg : decode cL_law pc = .ok (.lor, 1)) (k : OC Γ E kc ks 8 (pc + 1) L (.long (x ||| y) :: st) W0) : OC Γ E kc ks 8 pc L (.long y :: .long x :: st) W0 := by
  obtain ⟨p, l, e, R, s, m, args, below, meth, c, Q⟩ := Γ
  intro ls H locs hl hP hD hS
  exact lv_lor C.1 C.2.1 hdg (k ls H locs hl hP hD hS)
theorem ol_lshl (C : Kl Γ E b Ln xs l0) {x : Int64} {y : Int32} (hdg : decode cL_law pc = .ok (.lshl, 1)) (k : OC Γ E kc ks 8 (pc + 1) L (.long (x <<< (y.toInt64 &&& 63)) :: st) W0) : OC Γ E kc ks 8 pc L (.int y :: .long x :: st) W0 := by
  obtain ⟨p, l, e, R, s, m, args, below, meth, c, Q⟩ := Γ
  intro ls H locs hl hP hD hS
  exact lv_lshl C.1 C.2.1 hdg rfl (k ls H locs hl hP hD hS)
theorem ol_i2l (C : Kl Γ E b Ln xs l0) {x : Int32} (hdg : decode cL_law pc = .ok (.i2l, 1)) (k : OC Γ E kc ks 8 (pc + 1) L (.long x.toInt64 :: st) W0) : OC Γ E kc ks 8 pc L (.int x :: st) W0 := by
  obtain ⟨p, l, e, R, s, m, args, below, meth, c, Q⟩ := Γ
  intro ls H locs hl hP hD hS
  exact lv_i2l C.1 C.2.1 hdg rfl (k ls H locs hl hP hD hS)
theorem ol_ldc2 (C : Kl Γ E b Ln xs l0) {ix : Nat} {v : Int64} (hc : Cond.constantLong RL ix v ∈ GW) (hdg : decode cL_law pc = .ok (.ldc2_w ix, 3)) (k : OC Γ E kc ks 8 (pc + 3) L (.long v :: st) W0) : OC Γ E kc ks 8 pc L st W0 := by
  obtain ⟨p, l, e, R, s, m, args, below, meth, c, Q⟩ := Γ
  intro ls H locs hl hP hD hS
  exact lv_ldc2 C.1 C.2.1 C.2.2.2.1 (C.2.2.2.2.1 _ hc) hdg (k ls H locs hl hP hD hS)
theorem ol_lcmp (C : Kl Γ E b Ln xs l0) {x y : Int64} (hdg : decode cL_law pc = .ok (.lcmp, 1)) (k : OC Γ E kc ks 8 (pc + 1) L (.int (lg_cmp x y) :: st) W0) : OC Γ E kc ks 8 pc L (.long y :: .long x :: st) W0 := by
  obtain ⟨p, l, e, R, s, m, args, below, meth, c, Q⟩ := Γ
  intro ls H locs hl hP hD hS
  exact W.lcmp C.1 C.2.1 hdg (k ls H locs hl hP hD hS)
theorem ol_dup (C : Kl Γ E b Ln xs l0) {va : Value} (hdg : decode cL_law pc = .ok (.dup, 1)) (h1 : va.category = 1) (k : OC Γ E kc ks 8 (pc + 1) L (va :: va :: st) W0) : OC Γ E kc ks 8 pc L (va :: st) W0 := by
  obtain ⟨p, l, e, R, s, m, args, below, meth, c, Q⟩ := Γ
  intro ls H locs hl hP hD hS
  exact lv_dup C.1 C.2.1 hdg h1 (k ls H locs hl hP hD hS)
theorem ol_istore (C : Kl Γ E b Ln xs l0) {i : Nat} {x : Int32} {L2 : List (Nat × Value)} (hdg : decode cL_law pc = .ok (.istore i, 2)) (hn : i < 8) (hL : (i, Value.int x) :: L.filter (fun q => !(q.1 == i) && !(q.1 + 1 == i && q.2.category == 2)) = L2) (k : OC Γ E kc ks 8 (pc + 2) L2 st W0) : OC Γ E kc ks 8 pc L (.int x :: st) W0 := by
  obtain ⟨p, l, e, R, s, m, args, below, meth, c, Q⟩ := Γ
  intro ls H locs hl hP hD hS
  exact lv_istore C.1 C.2.1 hdg hl hn hL (fun ls2 h2 => k ls2 H locs h2 hP hD hS)
theorem ol_lstore (C : Kl Γ E b Ln xs l0) {i : Nat} {x : Int64} {L2 : List (Nat × Value)} (hdg : decode cL_law pc = .ok (.lstore i, 2)) (hn : i + 1 < 8) (hL : (i, Value.long x) :: L.filter (fun q => !(q.1 == i) && (!(q.1 == i + 1) && !(q.1 + 1 == i && q.2.category == 2))) = L2) (k : OC Γ E kc ks 8 (pc + 2) L2 st W0) : OC Γ E kc ks 8 pc L (.long x :: st) W0 := by
  obtain ⟨p, l, e, R, s, m, args, below, meth, c, Q⟩ := Γ
  intro ls H locs hl hP hD hS
  exact lv_lstore C.1 C.2.1 hdg hl hn hL (fun ls2 h2 => k ls2 H locs h2 hP hD hS)
theorem ol_astore_n (C : Kl Γ E b Ln xs l0) {q : Fin 4} {i x : Nat} {L2 : List (Nat × Value)} (hdg : decode cL_law pc = .ok (.astore_n q, 1)) (hi : (q : Nat) = i) (hn : i < 8) (hL : (i, Value.ref x) :: L.filter (fun q => !(q.1 == i) && !(q.1 + 1 == i && q.2.category == 2)) = L2) (k : OC Γ E kc ks 8 (pc + 1) L2 st W0) : OC Γ E kc ks 8 pc L (.ref x :: st) W0 := by
  obtain ⟨p, l, e, R, s, m, args, below, meth, c, Q⟩ := Γ
  intro ls H locs hl hP hD hS
  exact lv_astore_n C.1 C.2.1 hdg hi hl hn hL (fun ls2 h2 => k ls2 H locs h2 hP hD hS)
theorem ol_iinc (C : Kl Γ E b Ln xs l0) {i : Nat} {n : Int} {x v : Int32} {L2 : List (Nat × Value)} (z : Nat) (hdg : decode cL_law pc = .ok (.iinc i n, 3)) (hz : L[z]? = some (i, .int x)) (hv : x + Int32.ofInt n = v) (hn : i < 8) (hL : (i, Value.int v) :: L.filter (fun q => !(q.1 == i) && !(q.1 + 1 == i && q.2.category == 2)) = L2) (k : OC Γ E kc ks 8 (pc + 3) L2 st W0) : OC Γ E kc ks 8 pc L st W0 := by
  obtain ⟨p, l, e, R, s, m, args, below, meth, c, Q⟩ := Γ
  intro ls H locs hl hP hD hS
  exact lv_iinc C.1 C.2.1 hdg hl (k := z) hz hv hn hL (fun ls2 h2 => k ls2 H locs h2 hP hD hS)
theorem ol_goto (C : Kl Γ E b Ln xs l0) {off : Int} (tgt : Nat) (hdg : decode cL_law pc = .ok (.goto off, 3)) (ht : (pc : Int) + off = (tgt : Int)) (k : OC Γ E kc ks 8 tgt L st W0) : OC Γ E kc ks 8 pc L st W0 := by
  obtain ⟨p, l, e, R, s, m, args, below, meth, c, Q⟩ := Γ
  intro ls H locs hl hP hD hS
  exact lv_goto C.1 C.2.1 hdg ht (k ls H locs hl hP hD hS)
theorem ol_sub {L2 : List (Nat × Value)} (zs : List Nat) (hz : lv_pick L zs = L2) (k : OC Γ E kc ks 8 pc L2 st W0) : OC Γ E kc ks 8 pc L st W0 := fun ls H locs hl hP hD hS => k ls H locs (lv_sub hl zs hz) hP hD hS
theorem ol_icmp_gt (C : Kl Γ E b Ln xs l0) {x y : Int32} {off : Int} (tgt : Nat) (hdg : decode cL_law pc = .ok (.if_icmp .gt off, 3)) (ht : (pc : Int) + off = (tgt : Int)) (k1 : y < x → OC Γ E kc ks 8 tgt L st W0) (k2 : ¬ y < x → OC Γ E kc ks 8 (pc + 3) L st W0) : OC Γ E kc ks 8 pc L (.int y :: .int x :: st) W0 := by
  obtain ⟨p, l, e, R, s, m, args, below, meth, c, Q⟩ := Γ
  intro ls H locs hl hP hD hS
  exact lv_icmp_gt C.1 C.2.1 hdg ht (fun h => k1 h ls H locs hl hP hD hS) (fun h => k2 h ls H locs hl hP hD hS)
theorem ol_icmp_eq (C : Kl Γ E b Ln xs l0) {x y : Int32} {off : Int} (tgt : Nat) (hdg : decode cL_law pc = .ok (.if_icmp .eq off, 3)) (ht : (pc : Int) + off = (tgt : Int)) (k1 : x = y → OC Γ E kc ks 8 tgt L st W0) (k2 : ¬ x = y → OC Γ E kc ks 8 (pc + 3) L st W0) : OC Γ E kc ks 8 pc L (.int y :: .int x :: st) W0 := by
  obtain ⟨p, l, e, R, s, m, args, below, meth, c, Q⟩ := Γ
  intro ls H locs hl hP hD hS
  exact lv_icmp_eq C.1 C.2.1 hdg ht (fun h => k1 h ls H locs hl hP hD hS) (fun h => k2 h ls H locs hl hP hD hS)
theorem ol_if_eq (C : Kl Γ E b Ln xs l0) {x : Int32} {off : Int} (tgt : Nat) (hdg : decode cL_law pc = .ok (.ifCond .eq off, 3)) (ht : (pc : Int) + off = (tgt : Int)) (k1 : x = 0 → OC Γ E kc ks 8 tgt L st W0) (k2 : ¬ x = 0 → OC Γ E kc ks 8 (pc + 3) L st W0) : OC Γ E kc ks 8 pc L (.int x :: st) W0 := by
  obtain ⟨p, l, e, R, s, m, args, below, meth, c, Q⟩ := Γ
  intro ls H locs hl hP hD hS
  exact lv_if_eq C.1 C.2.1 hdg ht (fun h => k1 h ls H locs hl hP hD hS) (fun h => k2 h ls H locs hl hP hD hS)
theorem ol_if_ne (C : Kl Γ E b Ln xs l0) {x : Int32} {off : Int} (tgt : Nat) (hdg : decode cL_law pc = .ok (.ifCond .ne off, 3)) (ht : (pc : Int) + off = (tgt : Int)) (k1 : ¬ x = 0 → OC Γ E kc ks 8 tgt L st W0) (k2 : x = 0 → OC Γ E kc ks 8 (pc + 3) L st W0) : OC Γ E kc ks 8 pc L (.int x :: st) W0 := by
  obtain ⟨p, l, e, R, s, m, args, below, meth, c, Q⟩ := Γ
  intro ls H locs hl hP hD hS
  exact lv_if_ne C.1 C.2.1 hdg ht (fun h => k1 h ls H locs hl hP hD hS) (fun h => k2 h ls H locs hl hP hD hS)
theorem ol_tableIn (C : Kl Γ E b Ln xs l0) {dflt lo hi : Int} {offs : Array Int} {len : Nat} {x : Int32} {off : Int} (tgt : Nat) (hdg : decode cL_law pc = .ok (.tableswitch dflt lo hi offs, len)) (h1 : ¬ x.toInt < lo) (h2 : ¬ hi < x.toInt) (ho : offs[(x.toInt - lo).toNat]? = some off) (ht : (pc : Int) + off = (tgt : Int)) (k : OC Γ E kc ks 8 tgt L st W0) : OC Γ E kc ks 8 pc L (.int x :: st) W0 := by
  obtain ⟨p, l, e, R, s, m, args, below, meth, c, Q⟩ := Γ
  intro ls H locs hl hP hD hS
  exact lv_tableIn C.1 C.2.1 hdg h1 h2 ho ht (k ls H locs hl hP hD hS)
theorem ol_tableOut (C : Kl Γ E b Ln xs l0) {dflt lo hi : Int} {offs : Array Int} {len : Nat} {x : Int32} (tgt : Nat) (hdg : decode cL_law pc = .ok (.tableswitch dflt lo hi offs, len)) (h : x.toInt < lo ∨ hi < x.toInt) (ht : (pc : Int) + dflt = (tgt : Int)) (k : OC Γ E kc ks 8 tgt L st W0) : OC Γ E kc ks 8 pc L (.int x :: st) W0 := by
  obtain ⟨p, l, e, R, s, m, args, below, meth, c, Q⟩ := Γ
  intro ls H locs hl hP hD hS
  exact lv_tableOut C.1 C.2.1 hdg h ht (k ls H locs hl hP hD hS)
theorem ol_sld (C : Kl Γ E b Ln xs l0) {i : Int32} (hin : vp_in i Ln) (hdg : decode cL_law pc = .ok (.iaload, 1)) (k : OC Γ E kc ks 8 (pc + 1) L (.int (xs i.toNatClampNeg) :: st) W0) : OC Γ E kc ks 8 pc L (.int i :: .ref b :: st) W0 := by
  obtain ⟨p, l, e, R, s, m, args, below, meth, c, Q⟩ := Γ
  intro ls H locs hl hP hD hS
  obtain ⟨c1, c2, c3, c4, c5, c6, c7, c8, c9, c10, c11, c12, c13, c14, c15, c16, c17, c18, c19⟩ := C
  exact va_sld c1 c2 c18 c19 (fun h => absurd (c8 b h) (Nat.not_le.mpr c19)) hS hin hdg (k ls H locs hl hP hD hS)
theorem ol_slen (C : Kl Γ E b Ln xs l0) (hdg : decode cL_law pc = .ok (.arraylength, 1)) (k : OC Γ E kc ks 8 (pc + 1) L (.int (Int32.ofNat Ln) :: st) W0) : OC Γ E kc ks 8 pc L (.ref b :: st) W0 := by
  obtain ⟨p, l, e, R, s, m, args, below, meth, c, Q⟩ := Γ
  intro ls H locs hl hP hD hS
  obtain ⟨c1, c2, c3, c4, c5, c6, c7, c8, c9, c10, c11, c12, c13, c14, c15, c16, c17, c18, c19⟩ := C
  exact va_slen c1 c2 c18 c19 (fun h => absurd (c8 b h) (Nat.not_le.mpr c19)) hS hdg (k ls H locs hl hP hD hS)
theorem ol_lald (C : Kl Γ E b Ln xs l0) {ad ad2 : Nat → Nat} {σ τ : Sg} (hdg : decode cL_law pc = .ok (.laload, 1)) (k : OC Γ E kc ks 8 (pc + 1) L (.long (σ.2 141 0) :: st) (W2 E ad ad2 σ τ)) : OC Γ E kc ks 8 pc L (.int 0 :: .ref (ad 141) :: st) (W2 E ad ad2 σ τ) := by
  obtain ⟨p, l, e, R, s, m, args, below, meth, c, Q⟩ := Γ
  intro ls H locs hl hP hD hS
  obtain ⟨c1, c2, c3, c4, c5, c6, -⟩ := C
  exact va_lald c1 c2 c6 hP 141 1 (app_l (wl_at (Ω := oW E ad) kW_141)) rfl (by unfold vp_in; decide) hdg (k ls H locs hl hP hD hS)
theorem ol_widen {kc2 ks2 : Nat} (h1 : kc ≤ kc2) (h2 : ks ≤ ks2) (k : OC Γ E kc2 ks2 8 pc L st W0) : OC Γ E kc ks 8 pc L st W0 := by
  obtain ⟨p, l, e, R, s, m, args, below, meth, c, Q⟩ := Γ
  intro ls H locs hl hP hD hS
  exact W.widen h1 h2 (k ls H locs hl hP hD hS)
theorem ol_nz (C : Kl Γ E b Ln xs l0) {v : Int32} {off1 off2 : Int} (t1 t2 : Nat) (d0 : decode cL_law pc = .ok (.ifCond .eq off1, 3)) (h1 : (pc : Int) + off1 = (t1 : Int)) (d1 : decode cL_law (pc + 3) = .ok (.iconst 1, 1)) (d2 : decode cL_law (pc + 3 + 1) = .ok (.goto off2, 3)) (h2 : ((pc + 3 + 1 : Nat) : Int) + off2 = (t2 : Int)) (d3 : decode cL_law t1 = .ok (.iconst 0, 1)) (h3 : t2 = t1 + 1) (k : OC Γ E kc ks 8 t2 L (.int (bz v) :: st) W0) : OC Γ E kc ks 8 pc L (.int v :: st) W0 := by
  subst h3
  refine ol_if_eq C t1 d0 h1 (fun h => ?_) (fun h => ?_)
  · refine ol_iconst C (v := 0) d3 (by decide) ?_
    have e : bz v = 0 := by unfold bz; rw [if_pos h]
    rw [← e]
    exact k
  · refine ol_iconst C (v := 1) d1 (by decide) ?_
    refine ol_goto C (t1 + 1) d2 h2 ?_
    have e : bz v = 1 := by unfold bz; rw [if_neg h]
    rw [← e]
    exact k
theorem ol_nzL (C : Kl Γ E b Ln xs l0) {v : Int32} (hz : isZ v) {off1 off2 : Int} (t1 t2 : Nat) (d0 : decode cL_law pc = .ok (.ifCond .eq off1, 3)) (h1 : (pc : Int) + off1 = (t1 : Int)) (d1 : decode cL_law (pc + 3) = .ok (.lconst 1, 1)) (d2 : decode cL_law (pc + 3 + 1) = .ok (.goto off2, 3)) (h2 : ((pc + 3 + 1 : Nat) : Int) + off2 = (t2 : Int)) (d3 : decode cL_law t1 = .ok (.lconst 0, 1)) (h3 : t2 = t1 + 1) (k : OC Γ E kc ks 8 t2 L (.long v.toInt64 :: st) W0) : OC Γ E kc ks 8 pc L (.int v :: st) W0 := by
  subst h3
  refine ol_if_eq C t1 d0 h1 (fun h => ?_) (fun h => ?_)
  · refine ol_lconst C (v := 0) d3 (by decide) ?_
    subst h
    exact k
  · refine ol_lconst C (v := 1) d1 (by decide) ?_
    refine ol_goto C (t1 + 1) d2 h2 ?_
    have e : v = 1 := hz.resolve_left h
    subst e
    exact k
theorem ol_newJ (C : Kl Γ E b Ln xs l0) {n : Int32} {N' : Nat} (hn : ¬ n < 0) (hN : n.toNatClampNeg = N') (hbytes : N' * componentBytes .long ≤ 536870912) (hcells : kc + 1 ≤ 601024) (hslots : ks + N' ≤ 7293034) (hdg : decode cL_law pc = .ok (.newarray .long, 2)) (k : ∀ q, OC Γ E (kc + 1) (ks + N') 8 (pc + 2) L (.ref q :: st) (W0 ++ [(q, .inl (E.2.1 1, N', .inr (.inl (fun _ => 0))))])) : OC Γ E kc ks 8 pc L (.int n :: st) W0 := by
  obtain ⟨p, l, e, R, s, m, args, below, meth, c, Q⟩ := Γ
  intro ls H locs hl hP hD hS
  obtain ⟨c1, c2, c3, c4, c5, c6, c7, c8, c9, c10, c11, c12, c13, c14⟩ := C
  subst c11
  refine va_newa (atype := .long) (ty := .long) (a0 := (N', .inr (.inl (fun _ => 0)))) c1 c2 (c5 _ W_1_95) rfl c6 hP hD hS c7 (fun _ => rfl) hn hN hbytes hcells hslots hdg (fun q cA H1 hK1 hP1 hD1 hS1 => ?_)
  have h1 : s.vm.findClass _ = some cA := (hK1.2 5 (cA, .long) rfl).2
  have h2 : s.vm.findClass _ = some (E.2.1 1) := (c6.2 1 (E.2.1 1, .long) rfl).2
  have e1 : cA = E.2.1 1 := Option.some.inj (h1.symm.trans h2)
  subst e1
  exact k q ls H1 locs hl hP1 hD1 hS1
theorem ol_new (C : Kl Γ E b Ln xs l0) {C0 : String} {T : u_T} {N ci ix : Nat} {fs : List Value} (hin : ∀ w ∈ u_ws C0 T N, w ∈ GW) (ty0 : Nat → FieldType) (hty : ∀ k, k < N → parseFieldDescriptor (T k).2.2.1 = some (ty0 k)) (hcl : Cond.classLink RL ix C0 ∈ GW) (hinst : Cond.instantiable C0 N ∈ GW) (hini : Cond.initialized C0 ∈ GW) (hc : CLs[ci]? = some (C0, T, N)) (hfs : ∀ j, j < N → defaultValue (ty0 j) = vp_V fs j) (hcells : kc + 1 ≤ 601024) (hslots : ks + N ≤ 7293034) (hdg : decode cL_law pc = .ok (.new ix, 3)) (k : ∀ q, OC Γ E (kc + 1) (ks + N) 8 (pc + 3) L (.ref q :: st) (W0 ++ [(q, .inr (ci, fs))])) : OC Γ E kc ks 8 pc L st W0 := by
  obtain ⟨p, l, e, R, s, m, args, below, meth, c, Q⟩ := Γ
  intro ls H locs hl hP hD hS
  obtain ⟨c1, c2, c3, c4, c5, c6, c7, c8, c9, c10, c11, c12, c13, c14⟩ := C
  subst c11
  exact va_new c1 c2 c5 hin ty0 hty c4 (c5 _ hcl) (c5 _ hinst) (c5 _ hini) c6 hP hD hS c7 hc hfs hcells hslots hdg (fun q H1 hP1 hD1 hS1 => k q ls H1 locs hl hP1 hD1 hS1)
theorem pj_blind (D : va_G) (dA : Nat → ClassId) (av : List Value) (sz : Nat) (W0 : va_W) : FrameBlind (va_Pc av (PJ D dA sz W0)) := fun a U g mk q => by
  obtain ⟨q0, ⟨q1, q2, q3, q4, q5⟩, q6, q7⟩ := q
  exact ⟨q0, ⟨q1, q2, va_K.moved (u := U) (U := U.calling g mk a) (Vm.Alike.refl U.vm) q3, q4, q5.same rfl⟩, StA.moved (u := U) (U := U.calling g mk a) (Vm.Alike.refl U.vm) q6, va_AO.moved (u := U) (U := U.calling g mk a) (Vm.Alike.refl U.vm) q7⟩
theorem ol_init (C : Kl Γ E b Ln xs l0) {y : MethodName} {bytes : ByteArray} {maxL fr2 cl2 sl2 lo2 ci q ix n : Nat} {fs As rest : List Value} {W1 : va_W} {Po : va_W → Prop} (hM : Cj l0 y bytes maxL fr2 cl2 sl2 lo2 E.1 E.2.1 ci fs q As Po) (hl : Cond.methodLink RL ix y ∈ GW) (hin : Cond.instanceMethod y ∈ GW) (hcode : Cond.code y bytes maxL none ∈ GW) (hini : Cond.initialized y.cls ∈ GW) (hd : y.cls ≠ "java/lang/invoke/MethodHandle" ∧ y.cls ≠ "java/lang/invoke/VarHandle" ∧ (parseMethodDescriptor y.desc).map (fun d => d.parameters.length) = some n) (hyn : y.name = "<init>") (hn : As.length = n) (hR : fr2 + 1 ≤ 2048 ∧ 8 + (maxL + 11) + lo2 ≤ 84000) (hw : (rest.map fun v => v.category).sum ≤ 8) (hst : st = As.reverse ++ .ref q :: rest) (hdg : decode cL_law pc = .ok (.invokespecial ix, 3)) (hcells : kc + cl2 ≤ 601024) (hslots : ks + sl2 ≤ 7293034) (k : ∀ Wc, Po Wc → OC Γ E (kc + cl2) (ks + sl2) 8 (pc + 3) L rest (W1 ++ Wc)) : OC Γ E kc ks 8 pc L st (W1 ++ [(q, .inr (ci, fs))]) := by
  obtain ⟨p, l, e, R, s, m, args, below, meth, c, Q⟩ := Γ
  intro ls H locs hl2 hP hD hS
  obtain ⟨c1, c2, c3, c4, c5, c6, c7, c8, c9, c10, c11, c12, c13, c14, c15, c16, c17, c18, c19⟩ := C
  subst c11 c12
  have hcx : (W1 ++ [(q, (Sum.inr (ci, fs) : va_E))])[W1.length]? = some (q, .inr (ci, fs)) := by
    rw [List.getElem?_append_right (Nat.le_refl _), Nat.sub_self]
    rfl
  have one : ∀ (k : Nat) (x : Nat × va_E), [(q, (Sum.inr (ci, fs) : va_E))][k]? = some x → k = 0 ∧ x = (q, .inr (ci, fs)) := fun k x hk => by
    have k1 : k < 1 := (List.getElem?_eq_some_iff.mp hk).1
    have k0 : k = 0 := by omega
    subst k0
    exact ⟨rfl, (Option.some.inj hk).symm⟩
  have hPc : va_P E.1 CLs [(q, .inr (ci, fs))] H := fun k x hk => by
    obtain ⟨-, rfl⟩ := one k x hk
    exact hP _ _ hcx
  have hDc : va_D (fun _ => True) [(q, (Sum.inr (ci, fs) : va_E))] := ⟨fun i j x y hi hj _ => by rw [(one i x hi).1, (one j y hj).1], fun _ _ _ => trivial⟩
  have hFc : ∀ a, va_A [(q, (Sum.inr (ci, fs) : va_E))] H.size a → E.2.2 a := by
    rintro a (⟨i, e2, hi⟩ | h)
    · obtain ⟨-, e3⟩ := one i _ hi
      have := hD.2 _ _ hcx
      have e4 : a = q := congrArg Prod.fst e3
      rw [e4]
      exact this
    · exact c7 a (Nat.le_trans hS.1 h)
  have hStX : StA (va_A [(q, (Sum.inr (ci, fs) : va_E))] H.size) s H := (StA.kept hS.1 c15 hS.2.1).narrow hFc
  refine va_callv (a := (Value.ref q :: As).toArray) (va_runI ⟨c1, c2, c3, c4, c5⟩ (hM H.size) ⟨callB_of n c5 (gw_goodIn hcode (fun _ h => h)) rfl rfl rfl (c5 _ hini) (c5 _ hl) hd hR, hyn, c5 _ hin⟩ ⟨pj_blind _ _ _ _ _, fun U hU hW => ⟨rfl, ⟨by rw [hU], by rw [hU]; exact hPc, va_K.moved hW.alike c6, hDc, c14.warm hW⟩, by rw [hU]; exact StA.moved hW.alike hStX, va_AO.moved hW.alike c17⟩⟩ rfl hn hl2.1 hst (lv_room hw) hdg ⟨hcells, hslots⟩) hS (fun a _ h => hFc a h) hFc (fun u t H1 locs1 ht hvm hw2 hB hz1 hk1 hS1 => ?_)
  obtain ⟨hP1, hD1⟩ := hB
  rw [ht] at hP1
  obtain ⟨hP2, hD2⟩ := joinG hP hD hFc hk1 hP1 hD1
  exact k u hw2 ls H1 locs1 hl2 hP2 hD2 hS1
theorem ol_callW (C : Kl Γ E b Ln xs l0) {ad ad2 : Nat → Nat} {σ τ : Sg} {y : MethodName} {bytes : ByteArray} {maxL fr2 lo2 ix n : Nat} {hh : List (Nat × Nat × Nat × Nat)} {As rest : List Value} {Po : Int32 → Sg → Prop} (hM : CTw l0 y bytes maxL hh fr2 lo2 (oW E ad) As σ Po) (hl : Cond.methodLink RL ix y ∈ GW) (hstat : Cond.static y ∈ GW) (hini : Cond.initialized y.cls ∈ GW) (hcode : Cond.codeWith y bytes maxL (some .int) hh ∈ GW) (hd : y.cls ≠ "java/lang/invoke/MethodHandle" ∧ y.cls ≠ "java/lang/invoke/VarHandle" ∧ (parseMethodDescriptor y.desc).map (fun d => d.parameters.length) = some n) (hn : As.length = n) (hR : fr2 + 1 ≤ 2048 ∧ 8 + (maxL + 11) + lo2 ≤ 84000) (hw : (rest.map fun v => v.category).sum ≤ 8) (hst : st = As.reverse ++ rest) (hdg : decode cL_law pc = .ok (.invokestatic ix, 3)) (hcells : kc + 1 ≤ 601024) (hslots : ks + 6 ≤ 7293034) (k : ∀ r u, Po r u → OC Γ E (kc + 1) (ks + 6) 8 (pc + 3) L (.int r :: rest) (W2 E ad ad2 u τ)) : OC Γ E kc ks 8 pc L st (W2 E ad ad2 σ τ) := by
  obtain ⟨p, l, e, R, s, m, args, below, meth, c, Q⟩ := Γ
  intro ls H locs hl2 hP hD hS
  obtain ⟨c1, c2, c3, c4, c5, c6, c7, c8, c9, c10, c11, c12, c13, c14, c15, c16, c17, c18, c19⟩ := C
  subst c11 c12
  have hT := two_of hD
  have hA : ∀ a, Ar (oW E ad) H.size a → E.2.2 a := by
    rintro a (⟨k, hk, rfl⟩ | h)
    · exact hT.2.2.1 k hk
    · exact c7 a (Nat.le_trans hS.1 h)
  have hSt2 : St (oW E ad) H.size s H := (StA.kept hS.1 c15 hS.2.1).narrow hA
  have hZ2 : ZW (oW E ad) H.size s H := (c16.kept hS.2.1).narrow hA
  have hG : GoodIn GW (va_wsS RL ix y (Cond.codeWith y bytes maxL (some .int) hh :: GW)) := by
    intro w hw
    unfold va_wsS at hw
    rcases List.mem_append.mp hw with h | h
    · simp only [List.mem_cons, List.not_mem_nil, or_false] at h
      rcases h with rfl | rfl | rfl
      · exact ⟨hl, good_of_word (gw_good hl)⟩
      · exact ⟨hstat, good_of_word (gw_good hstat)⟩
      · exact ⟨hini, good_of_word (gw_good hini)⟩
    · exact gw_goodIn hcode (fun _ h => h) w h
  refine va_calli (vx_runSW ⟨c1, c2, c3, c4, c5⟩ (hM H.size) (vx_cwSW n c5 hG rfl rfl rfl hd hR) ⟨px_blind _ _ _ _, fun U hU hW => ⟨rfl, ⟨by rw [hU], by rw [hU]; exact p_l hP, va_K.moved hW.alike c6, hT.1, by rw [hU]; exact St.moved hW.alike hSt2, c14.warm hW⟩, by rw [hU]; exact ZW.moved hW.alike hZ2⟩⟩ rfl hn hl2.1 hst (lv_room hw) hdg ⟨hcells, hslots⟩) hS (fun a _ h => hA a h) hA (fun r u t H1 locs1 ht hvm hp hB hz1 hk1 hS1 => ?_)
  exact k r u hp ls H1 locs1 hl2 (va_P.app (ht ▸ hB) (p_far (p_r hP) hT.2.2.2.2 hk1)) (hT.D u τ) hS1
theorem ol_callMi (C : Kl Γ E b Ln xs l0) {ad ad2 : Nat → Nat} {σ τ : Sg} {y : MethodName} {bytes : ByteArray} {maxL fr2 lo2 ix n N : Nat} {T : u_T} {ret2 : Option FieldType} {As rest : List Value} {Po : Int32 → Sg → Prop} (hc : CLs[8]? = some (y.cls, T, N)) (hM : Ct l0 y bytes maxL ret2 fr2 lo2 (oM E ad2) (.ref (ad2 0) :: As) τ (QI (oM E ad2) Po)) (hl : Cond.methodLink RL ix y ∈ GW) (hin : Cond.instanceMethod y ∈ GW) (hse : Cond.selects y.cls y y ∈ GW) (hcode : Cond.code y bytes maxL ret2 ∈ GW) (hini : Cond.initialized y.cls ∈ GW) (hd : y.cls ≠ "java/lang/invoke/MethodHandle" ∧ y.cls ≠ "java/lang/invoke/VarHandle" ∧ (parseMethodDescriptor y.desc).map (fun d => d.parameters.length) = some n) (hn : As.length = n) (hR : fr2 + 1 ≤ 2048 ∧ 8 + (maxL + 11) + lo2 ≤ 84000) (hw : (rest.map fun v => v.category).sum ≤ 8) (hst : st = As.reverse ++ .ref (ad2 0) :: rest) (hdg : decode cL_law pc = .ok (.invokevirtual ix, 3)) (hcells : kc ≤ 601024) (hslots : ks ≤ 7293034) (k : ∀ r u, Po r u → OC Γ E kc ks 8 (pc + 3) L (.int r :: rest) (W2 E ad ad2 σ u)) : OC Γ E kc ks 8 pc L st (W2 E ad ad2 σ τ) := by
  obtain ⟨p, l, e, R, s, m, args, below, meth, c, Q⟩ := Γ
  intro ls H locs hl2 hP hD hS
  obtain ⟨c1, c2, c3, c4, c5, c6, c7, c8, c9, c10, c11, c12, c13, c14, c15, c16, c17, c18, c19⟩ := C
  subst c11 c12
  have hT := two_of hD
  have hA : ∀ a, Ar (oM E ad2) H.size a → E.2.2 a := by
    rintro a (⟨k, hk, rfl⟩ | h)
    · exact hT.2.2.2.1 k hk
    · exact c7 a (Nat.le_trans hS.1 h)
  have hSt2 : St (oM E ad2) H.size s H := (StA.kept hS.1 c15 hS.2.1).narrow hA
  have hPm : va_P E.1 CLs (wl (oM E ad2) τ) H := p_r hP
  have h0 : (oM E ad2).2.1[0]? = some (8 + 5, 0, _) := kM_0
  refine va_calli (a := (Value.ref (ad2 0) :: As).toArray) (va_runV ⟨c1, c2, c3, c4, c5⟩ (hM H.size) ⟨callB_of n c5 (gw_goodIn hcode (fun _ h => h)) rfl rfl rfl (c5 _ hini) (c5 _ hl) hd hR, c5 _ hin, c5 _ hse⟩ ⟨pb_blind _ _ _ _, va_recv c6 hPm hc (wl_at h0), fun U hU hW => ⟨rfl, by rw [hU], by rw [hU]; exact hPm, va_K.moved hW.alike c6, hT.2.1, by rw [hU]; exact St.moved hW.alike hSt2, c14.warm hW⟩⟩ rfl hn hl2.1 hst (lv_room hw) hdg ⟨hcells, hslots⟩) hS (fun a _ h => hA a h) hA (fun r u t H1 locs1 ht hvm hp hB hz1 hk1 hS1 => ?_)
  exact k r u hp ls H1 locs1 hl2 (va_P.app (p_far (Ω := oM E ad2) (Ω2 := oW E ad) (p_l hP) (fun i j hi hj e => hT.2.2.2.2 j i hj hi e.symm) hk1) (ht ▸ hB)) (hT.D σ u) hS1
theorem ol_callMl (C : Kl Γ E b Ln xs l0) {ad ad2 : Nat → Nat} {σ τ : Sg} {y : MethodName} {bytes : ByteArray} {maxL fr2 lo2 ix n N : Nat} {T : u_T} {ret2 : Option FieldType} {As rest : List Value} {Po : Int64 → Sg → Prop} (hc : CLs[8]? = some (y.cls, T, N)) (hM : Ct l0 y bytes maxL ret2 fr2 lo2 (oM E ad2) (.ref (ad2 0) :: As) τ (QL (oM E ad2) Po)) (hl : Cond.methodLink RL ix y ∈ GW) (hin : Cond.instanceMethod y ∈ GW) (hse : Cond.selects y.cls y y ∈ GW) (hcode : Cond.code y bytes maxL ret2 ∈ GW) (hini : Cond.initialized y.cls ∈ GW) (hd : y.cls ≠ "java/lang/invoke/MethodHandle" ∧ y.cls ≠ "java/lang/invoke/VarHandle" ∧ (parseMethodDescriptor y.desc).map (fun d => d.parameters.length) = some n) (hn : As.length = n) (hR : fr2 + 1 ≤ 2048 ∧ 8 + (maxL + 11) + lo2 ≤ 84000) (hw : (rest.map fun v => v.category).sum ≤ 8) (hst : st = As.reverse ++ .ref (ad2 0) :: rest) (hdg : decode cL_law pc = .ok (.invokevirtual ix, 3)) (hcells : kc ≤ 601024) (hslots : ks ≤ 7293034) (k : ∀ r u, Po r u → OC Γ E kc ks 8 (pc + 3) L (.long r :: rest) (W2 E ad ad2 σ u)) : OC Γ E kc ks 8 pc L st (W2 E ad ad2 σ τ) := by
  obtain ⟨p, l, e, R, s, m, args, below, meth, c, Q⟩ := Γ
  intro ls H locs hl2 hP hD hS
  obtain ⟨c1, c2, c3, c4, c5, c6, c7, c8, c9, c10, c11, c12, c13, c14, c15, c16, c17, c18, c19⟩ := C
  subst c11 c12
  have hT := two_of hD
  have hA : ∀ a, Ar (oM E ad2) H.size a → E.2.2 a := by
    rintro a (⟨k, hk, rfl⟩ | h)
    · exact hT.2.2.2.1 k hk
    · exact c7 a (Nat.le_trans hS.1 h)
  have hSt2 : St (oM E ad2) H.size s H := (StA.kept hS.1 c15 hS.2.1).narrow hA
  have hPm : va_P E.1 CLs (wl (oM E ad2) τ) H := p_r hP
  have h0 : (oM E ad2).2.1[0]? = some (8 + 5, 0, _) := kM_0
  refine va_calll (a := (Value.ref (ad2 0) :: As).toArray) (va_runV ⟨c1, c2, c3, c4, c5⟩ (hM H.size) ⟨callB_of n c5 (gw_goodIn hcode (fun _ h => h)) rfl rfl rfl (c5 _ hini) (c5 _ hl) hd hR, c5 _ hin, c5 _ hse⟩ ⟨pb_blind _ _ _ _, va_recv c6 hPm hc (wl_at h0), fun U hU hW => ⟨rfl, by rw [hU], by rw [hU]; exact hPm, va_K.moved hW.alike c6, hT.2.1, by rw [hU]; exact St.moved hW.alike hSt2, c14.warm hW⟩⟩ rfl hn hl2.1 hst (lv_room hw) hdg ⟨hcells, hslots⟩) hS (fun a _ h => hA a h) hA (fun r u t H1 locs1 ht hvm hp hB hz1 hk1 hS1 => ?_)
  exact k r u hp ls H1 locs1 hl2 (va_P.app (p_far (Ω := oM E ad2) (Ω2 := oW E ad) (p_l hP) (fun i j hi hj e => hT.2.2.2.2 j i hj hi e.symm) hk1) (ht ▸ hB)) (hT.D σ u) hS1
theorem ol_callMv (C : Kl Γ E b Ln xs l0) {ad ad2 : Nat → Nat} {σ τ : Sg} {y : MethodName} {bytes : ByteArray} {maxL fr2 lo2 ix n N : Nat} {T : u_T} {ret2 : Option FieldType} {As rest : List Value} {Po : Sg → Prop} (hc : CLs[8]? = some (y.cls, T, N)) (hM : Ct l0 y bytes maxL ret2 fr2 lo2 (oM E ad2) (.ref (ad2 0) :: As) τ (QV (oM E ad2) Po)) (hl : Cond.methodLink RL ix y ∈ GW) (hin : Cond.instanceMethod y ∈ GW) (hse : Cond.selects y.cls y y ∈ GW) (hcode : Cond.code y bytes maxL ret2 ∈ GW) (hini : Cond.initialized y.cls ∈ GW) (hd : y.cls ≠ "java/lang/invoke/MethodHandle" ∧ y.cls ≠ "java/lang/invoke/VarHandle" ∧ (parseMethodDescriptor y.desc).map (fun d => d.parameters.length) = some n) (hn : As.length = n) (hR : fr2 + 1 ≤ 2048 ∧ 8 + (maxL + 11) + lo2 ≤ 84000) (hw : (rest.map fun v => v.category).sum ≤ 8) (hst : st = As.reverse ++ .ref (ad2 0) :: rest) (hdg : decode cL_law pc = .ok (.invokevirtual ix, 3)) (hcells : kc ≤ 601024) (hslots : ks ≤ 7293034) (k : ∀ u, Po u → OC Γ E kc ks 8 (pc + 3) L rest (W2 E ad ad2 σ u)) : OC Γ E kc ks 8 pc L st (W2 E ad ad2 σ τ) := by
  obtain ⟨p, l, e, R, s, m, args, below, meth, c, Q⟩ := Γ
  intro ls H locs hl2 hP hD hS
  obtain ⟨c1, c2, c3, c4, c5, c6, c7, c8, c9, c10, c11, c12, c13, c14, c15, c16, c17, c18, c19⟩ := C
  subst c11 c12
  have hT := two_of hD
  have hA : ∀ a, Ar (oM E ad2) H.size a → E.2.2 a := by
    rintro a (⟨k, hk, rfl⟩ | h)
    · exact hT.2.2.2.1 k hk
    · exact c7 a (Nat.le_trans hS.1 h)
  have hSt2 : St (oM E ad2) H.size s H := (StA.kept hS.1 c15 hS.2.1).narrow hA
  have hPm : va_P E.1 CLs (wl (oM E ad2) τ) H := p_r hP
  have h0 : (oM E ad2).2.1[0]? = some (8 + 5, 0, _) := kM_0
  refine va_callv (a := (Value.ref (ad2 0) :: As).toArray) (va_runV ⟨c1, c2, c3, c4, c5⟩ (hM H.size) ⟨callB_of n c5 (gw_goodIn hcode (fun _ h => h)) rfl rfl rfl (c5 _ hini) (c5 _ hl) hd hR, c5 _ hin, c5 _ hse⟩ ⟨pb_blind _ _ _ _, va_recv c6 hPm hc (wl_at h0), fun U hU hW => ⟨rfl, by rw [hU], by rw [hU]; exact hPm, va_K.moved hW.alike c6, hT.2.1, by rw [hU]; exact St.moved hW.alike hSt2, c14.warm hW⟩⟩ rfl hn hl2.1 hst (lv_room hw) hdg ⟨hcells, hslots⟩) hS (fun a _ h => hA a h) hA (fun u t H1 locs1 ht hvm hp hB hz1 hk1 hS1 => ?_)
  exact k u hp ls H1 locs1 hl2 (va_P.app (p_far (Ω := oM E ad2) (Ω2 := oW E ad) (p_l hP) (fun i j hi hj e => hT.2.2.2.2 j i hj hi e.symm) hk1) (ht ▸ hB)) (hT.D σ u) hS1
theorem ol_end (C : Kl Γ E b Ln xs l0) (hret : ∀ {p : Program} {l : Launch} {e : Env} {s : State} {m : MethodId} {below : List Frame} {meth : Method} {c : Code} (_ : p.tables.exec = Jvm.exec) (_ : c.code = cL_law) (_ : meth.sig.returnType = ret) (_ : meth.locks = false) {H : Heap} {ls : Array Slot}, W p l e room_1 s m #[Value.ref b] below meth c H [] 601024 7293034 (lwZ below #[Value.ref b] s) (F0 m pc ls [.int 1])) (h1 : kc ≤ 601024) (h2 : ks ≤ 7293034) : OC Γ E kc ks 8 pc L [.int 1] W0 := by
  obtain ⟨p, l, e, R, s, m, args, below, meth, c, Q⟩ := Γ
  intro ls H locs hl hP hD hS
  obtain ⟨c1, c2, c3, c4, c5, c6, c7, c8, c9, c10, c11, c12, ⟨c13, c13q⟩, c14⟩ := C
  subst c11 c13 c13q
  exact va_forget (fun q hq => c8 _ (hS.2.2 q hq)) (W.widen h1 h2 (hret c1 c2 c10 c9))
end LAW
