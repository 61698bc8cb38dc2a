/-! ===== the law from its start, the claim ===== -/
theorem cell_ad {ad ad1 : Nat → Nat} {dA : Nat → ClassId} {kd : Kd} {f : Nat → Int32} {g : Nat → Int64} (h : ∀ r, some r ∈ kd.2.2 → ad1 r = ad r) : cellOf ad1 dA kd f g = cellOf ad dA kd f g := by
  obtain ⟨c, n, fl⟩ := kd
  match c with
  | 0 => rfl
  | 1 => rfl
  | 2 => rfl
  | 3 => rfl
  | 4 =>
    show (Sum.inl _ : va_E) = Sum.inl _
    have e : (fun j => (fl.getD j none).map ad1) = fun j => (fl.getD j none).map ad := by
      funext j
      cases hj : fl.getD j none with
      | none => rfl
      | some r =>
        have hm : some r ∈ fl := by
          rw [List.getD_eq_getElem?_getD] at hj
          cases hx : fl[j]? with
          | none => rw [hx] at hj; cases hj
          | some y =>
            rw [hx] at hj
            have e1 : y = some r := hj
            rw [← e1]
            exact List.mem_of_getElem? hx
        exact congrArg some (h r hm)
    rw [e]
  | c + 5 =>
    show (Sum.inr (c, fvs ad1 f fl) : va_E) = Sum.inr (c, fvs ad f fl)
    have e : fvs ad1 f fl = fvs ad f fl := by
      apply List.ext_getElem?
      intro j
      unfold fvs
      rw [List.getElem?_mapIdx, List.getElem?_mapIdx]
      cases hx : fl[j]? with
      | none => rfl
      | some y =>
        cases y with
        | none => rfl
        | some r => exact congrArg (fun z => some (Value.ref z)) (h r (List.mem_of_getElem? hx))
    rw [e]
theorem kD_low : ∀ (k : Nat) (kd : Kd), kD[k]? = some kd → ∀ r, some r ∈ kd.2.2 → r < 141 := by
  have h : kD.all (fun kd => kd.2.2.all (fun o => match o with | none => true | some r => decide (r < 141))) = true := by decide +kernel
  intro k kd hk r hr
  have h1 := List.all_eq_true.mp (List.all_eq_true.mp h kd (List.mem_of_getElem? hk)) _ hr
  exact of_decide_eq_true h1
theorem kD_len : kD.length = 141 := by decide +kernel
def adW (ad : Nat → Nat) (q : Nat) : Nat → Nat := fun k => if k = 141 then q else ad k
theorem wl_outK {D : va_G} {dA : Nat → ClassId} {ad : Nat → Nat} {σ : Sg} {q : Nat} (K : List Kd) (hl : K.length = 141) (low : ∀ (k : Nat) (kd : Kd), K[k]? = some kd → ∀ r, some r ∈ kd.2.2 → r < 141) : wl (D, K, ad, dA) σ ++ [(q, .inl (dA 1, 1, .inr (.inl (fun _ => 0))))] = wl (D, K ++ [(1, 1, [])], adW ad q, dA) (pS σ 141 (fun _ => 0)) := by
  have e1 : wl (D, K, ad, dA) σ = wl (D, K, adW ad q, dA) (pS σ 141 (fun _ => 0)) := by
    unfold wl
    apply List.ext_getElem?
    intro i
    rw [List.getElem?_mapIdx, List.getElem?_mapIdx]
    cases hx : K[i]? with
    | none => rfl
    | some kd =>
      have hi : i < 141 := hl ▸ (List.getElem?_eq_some_iff.mp hx).1
      have e1 : adW ad q i = ad i := if_neg (Nat.ne_of_lt hi)
      have e2 : (pS σ 141 (fun _ => 0)).2 i = σ.2 i := pS_ne σ _ (Nat.ne_of_lt hi)
      have e3 : cellOf (adW ad q) dA kd (σ.1 i) (σ.2 i) = cellOf ad dA kd (σ.1 i) (σ.2 i) := cell_ad (fun r hr => if_neg (Nat.ne_of_lt (low i kd hx r hr)))
      show some (ad i, cellOf ad dA kd (σ.1 i) (σ.2 i)) = some (adW ad q i, cellOf (adW ad q) dA kd (σ.1 i) ((pS σ 141 (fun _ => 0)).2 i))
      rw [e1, e2, e3]
  have e5 : adW ad q 141 = q := if_pos rfl
  have e6 : (pS σ 141 (fun _ => 0)).2 141 = fun _ => 0 := pS_self σ _ _
  rw [e1]
  unfold wl
  show _ = List.mapIdx _ (K ++ [(1, 1, [])])
  rw [List.mapIdx_append, hl]
  refine congrArg (List.mapIdx _ K ++ ·) ?_
  rw [List.mapIdx_cons, List.mapIdx_nil, Nat.zero_add]
  show [(q, _)] = [(adW ad q 141, (Sum.inl (dA 1, 1, Sum.inr (Sum.inl ((pS σ 141 (fun _ => 0)).2 141))) : va_E))]
  rw [e5, e6]
theorem wl_out {D : va_G} {dA : Nat → ClassId} {ad : Nat → Nat} {σ : Sg} {q : Nat} : wl (D, kD, ad, dA) σ ++ [(q, .inl (dA 1, 1, .inr (.inl (fun _ => 0))))] = wl (D, kW, adW ad q, dA) (pS σ 141 (fun _ => 0)) := wl_outK kD kD_len kD_low
theorem di_S {h : Hs} {σ : Sg} (d : DI h σ) (f : Nat → Int64) : DI h (pS σ 141 f) := by
  have F : Fr [141] σ (pS σ 141 f) := Fr_pS (Fr.refl _ _) (by decide)
  obtain ⟨d1, d2, d3, d4⟩ := d
  refine ⟨d1.sm (F.sm _ (by decide)), d2, fun k hk => by rw [(F 2 (by decide)).1]; exact d3 k hk, fun i hi => (d4 i hi).sm (fun a h1 h2 => F a ?_)⟩
  simp only [List.mem_cons, List.not_mem_nil, or_false]
  omega
set_option maxRecDepth 100000 in
set_option maxHeartbeats 4000000 in
theorem law_run {Γ : Gm} {E : Ev} {b Ln : Nat} {xs : Nat → Int32} {l0 : Launch} (C : Kl Γ E b Ln xs l0) (hst : l0.stackTraces = false) (hL : Ln ≤ 3584) : OC Γ E 0 0 8 0 (lv_args 0 [Value.ref b]) [] [] := by
  refine ol_sub (L2 := [(0, .ref b)]) [0] rfl ?_
  refine ol_new C (ci := 7) (fs := [.null, .null, .null, .null, .null, .null, .int 0]) hinX7 tyX7 tyX7_ok W_1_31 W_1_32 W_1_1 rfl (fun j hj => match j, hj with | 0, _ => rfl | 1, _ => rfl | 2, _ => rfl | 3, _ => rfl | 4, _ => rfl | 5, _ => rfl | 6, _ => rfl | j + 7, h => absurd h (by omega)) (Nat.le_of_ble_eq_true rfl) (Nat.le_of_ble_eq_true rfl) dL_law_0 (fun h0 => ?_)
  refine ol_dup C dL_law_3 rfl ?_
  refine ol_init C (As := []) (rest := [.ref h0]) i_X7 W_1_33 W_1_34 W_1_35 W_1_1 hd_X7_init rfl rfl ⟨(Nat.le_of_ble_eq_true rfl), (Nat.le_of_ble_eq_true rfl)⟩ (Nat.le_of_ble_eq_true rfl) rfl dL_law_4 (Nat.le_of_ble_eq_true rfl) (Nat.le_of_ble_eq_true rfl) (fun Wc hWc => ?_)
  obtain ⟨ad, σ, eW, e0, d⟩ := hWc
  subst e0
  refine oc_eq (congrArg (fun z : va_W => [] ++ z) eW) ?_
  refine ol_astore_n C (L2 := [(1, .ref (ad 0)), (0, .ref b)]) dL_law_7 rfl (by decide) rfl ?_
  refine ol_new C (ci := 8) (fs := [.int 0, .int 0, .int 0, .null, .null, .null, .null, .null, .null, .null, .null, .null, .null, .null, .null, .null, .null, .null, .null, .null, .null, .null, .int 0, .int 0, .int 0, .null, .null, .null, .null, .null, .null, .null, .null, .null, .null, .null, .int 0, .null, .null]) hinX8 tyX8 tyX8_ok W_5_235 W_5_236 W_1_28 rfl (fun j hj => match j, hj with | 0, _ => rfl | 1, _ => rfl | 2, _ => rfl | 3, _ => rfl | 4, _ => rfl | 5, _ => rfl | 6, _ => rfl | 7, _ => rfl | 8, _ => rfl | 9, _ => rfl | 10, _ => rfl | 11, _ => rfl | 12, _ => rfl | 13, _ => rfl | 14, _ => rfl | 15, _ => rfl | 16, _ => rfl | 17, _ => rfl | 18, _ => rfl | 19, _ => rfl | 20, _ => rfl | 21, _ => rfl | 22, _ => rfl | 23, _ => rfl | 24, _ => rfl | 25, _ => rfl | 26, _ => rfl | 27, _ => rfl | 28, _ => rfl | 29, _ => rfl | 30, _ => rfl | 31, _ => rfl | 32, _ => rfl | 33, _ => rfl | 34, _ => rfl | 35, _ => rfl | 36, _ => rfl | 37, _ => rfl | 38, _ => rfl | j + 39, h => absurd h (by omega)) (Nat.le_of_ble_eq_true rfl) (Nat.le_of_ble_eq_true rfl) dL_law_8 (fun h0 => ?_)
  refine ol_dup C dL_law_11 rfl ?_
  refine ol_init C (As := []) (rest := [.ref h0]) i_X8 W_5_237 W_5_238 W_5_239 W_1_28 hd_X8_init rfl rfl ⟨(Nat.le_of_ble_eq_true rfl), (Nat.le_of_ble_eq_true rfl)⟩ (Nat.le_of_ble_eq_true rfl) rfl dL_law_12 (Nat.le_of_ble_eq_true rfl) (Nat.le_of_ble_eq_true rfl) (fun Wc hWc => ?_)
  obtain ⟨ad2, τ, eW, e0, m0⟩ := hWc
  subst e0
  refine oc_eq (congrArg (fun z : va_W => [] ++ wl (E.1, kD, ad, E.2.1) σ ++ z) eW) ?_
  refine ol_astore_n C (L2 := [(2, .ref (ad2 0)), (1, .ref (ad 0)), (0, .ref b)]) dL_law_15 rfl (by decide) rfl ?_
  refine ol_iconst C (v := 1) dL_law_16 (by decide) ?_
  refine ol_newJ C (N' := 1) (by decide) (by decide) (Nat.le_of_ble_eq_true rfl) (Nat.le_of_ble_eq_true rfl) (Nat.le_of_ble_eq_true rfl) dL_law_17 (fun q => ?_)
  refine ol_astore_n C (L2 := [(3, .ref q), (2, .ref (ad2 0)), (1, .ref (ad 0)), (0, .ref b)]) dL_law_19 rfl (by decide) rfl ?_
  refine ol_iconst C (v := 0) dL_law_20 (by decide) ?_
  refine ol_istore C (L2 := [(4, .int 0), (3, .ref q), (2, .ref (ad2 0)), (1, .ref (ad 0)), (0, .ref b)]) dL_law_21 (by decide) rfl ?_
  refine ol_sub (L2 := [(4, .int 0), (0, .ref b), (1, .ref (ad 0)), (2, .ref (ad2 0)), (3, .ref q)]) [0, 4, 3, 2, 1] rfl ?_
  refine oc_eq (W1 := wl (E.1, kD, ad, E.2.1) σ ++ (wl (E.1, kM, ad2, E.2.1) τ ++ ([(q, .inl (E.2.1 1, 1, .inr (.inl (fun _ => 0))))] ++ []))) (by rw [List.nil_append, List.append_nil, List.append_assoc]) ?_
  refine oc_swap ?_
  refine oc_eq (W1 := W2 E (adW ad q) ad2 (pS σ 141 (fun _ => 0)) τ) (by rw [List.append_nil, ← List.append_assoc, wl_out]; exact Eq.refl _) ?_
  have g := law_loop C hst (ad := adW ad q) (ad2 := ad2) hL 512 0 _ _ _ rfl (di_S d (fun _ => 0)) m0
  have e1 : adW ad q 0 = ad 0 := if_neg (by decide)
  have e2 : adW ad q 141 = q := if_pos rfl
  rw [e1, e2] at g
  exact g
set_option maxRecDepth 100000 in
set_option maxHeartbeats 1000000 in
theorem whole_start {p : Program} {e : Env} {s : State} {m : MethodId} {below : List Frame} {meth : Method} {c : Code} (l : Launch) (hflags : l.flags = flags0) {b L : Nat} {xs : Nat → Int32} (hL : L ≤ 3584) (C0 : lw_At p s m meth c b L xs) : W p l e room_1 s m #[Value.ref b] below meth c s.heap [] 0 0 (lw_Z below #[Value.ref b] s) (entryFrame m ([Value.ref b] : List Value).toArray 8) := by
  obtain ⟨hx, hcode, hret, hml, hown, htbl, hX, hbl, hlocks, hgn⟩ := C0
  have hn : ∀ w ∈ flatN, w.before #[Value.ref b] s = true := flat_of_before _ hgn
  have hG : ∀ w ∈ GW, w.before #[Value.ref b] s = true := fun w hw => htbl w (gw_tbl hw)
  have hAO : va_AO RX5 s := va_AO.of (htbl _ tb_a.2.2.2.2.2.2)
  obtain ⟨D, dA, hK⟩ := vk_of hG hAO
  have hst : l.stackTraces = false := by
    unfold Launch.stackTraces
    rw [hflags]
    decide +kernel
  have C : Kl (p, l, e, room_1, s, m, #[Value.ref b], below, meth, c, lwZ below #[Value.ref b] s) (D, dA, fun q => s.heap.size ≤ q) b L xs l := ⟨hx, hcode, hml, hown, hG, hK, fun q hq => hq, fun q hq => hq, hlocks, hret, rfl, rfl, ⟨rfl, rfl⟩, nw_of htbl, sta_of htbl hn, za_of htbl hn, hAO, hX, hbl⟩
  have main := law_run C hst hL
  rw [lg_entry_eq]
  exact main _ _ _ (lv_entry [Value.ref b] (Nat.le_of_ble_eq_true rfl)) (fun k q hk => by cases hk) ⟨(fun i j x y hi => by cases hi), (fun k q hk => by cases hk)⟩ va_S.rf
set_option maxHeartbeats 4000000 in
theorem lw_walk (l : Launch) (hflags : l.flags = flags0) (b : Addr) (xs : List Int32) : MetFree l x (headSpec (Jvm.Cond.code x code maxLocals ret :: tables_1) room_1) (lw_P b xs) (fun _ _ _ _ _ => True) lw_Q := by
  refine MetFree.of_bodyS (code := code) (maxLocals := maxLocals) (ret := ret) (by decide) ?_ ?_
  · intro args s m h hn
    obtain ⟨meth, c, h1, h2, h3, h4, h5, h6, -, -⟩ := Cond.code_spec hn (atoms_spec (ws := Jvm.Cond.code x code maxLocals ret :: tables_1) h _ List.mem_cons_self)
    exact ⟨meth, c, h1, h2, h3, h4, h5, h6⟩
  · intro p e s m args below meth c s₁ B hml0 hP _
    obtain ⟨rfl, hx, hbd, hgv⟩ := hP
    obtain ⟨scr, harrAt, hlist, hof, hsmall⟩ := hx
    obtain ⟨hcb, hkn, -, -⟩ := State.arrayAt?_spec harrAt
    have hown : s.vm.findClass R_law = some m.cls := findClass_of_methodNamed B.named
    have hts0 : ∀ c ∈ (Jvm.Cond.code x code maxLocals ret :: tables_1), c.before #[Value.ref b] s = true := atoms_spec (ws := Jvm.Cond.code x code maxLocals ret :: tables_1) B.pre
    have hts : ∀ w ∈ lw_tbl, w.before #[Value.ref b] s = true := k2_hts_sels lw_privs (fun w hw => hts0 w (List.mem_cons_of_mem _ hw)) lw_privs_ok
    have hml : c.maxLocals = 8 := B.maxLocals_eq (hts0 _ List.mem_cons_self)
    have X₀ : Stand p l e room_1 s m #[Value.ref b] below meth c s₁ [] 0 0 := Stand.of_body B
    have hh0 : s₁.heap = s.heap := by rw [B.state]; rfl
    have hsz : scr.slots.size = xs.length := by rw [← Array.length_toList, hlist, List.length_map]
    have hval : ∀ j : Nat, j < xs.length → scr.slots[j]? = some (.int (xs.getD j 0)) := fun j hj => by
      rw [← Array.getElem?_toList, hlist]
      simp [hj]
    have hbl : b < s.heap.size := (Array.getElem?_eq_some_iff.mp hcb).1
    have hX : va_X b xs.length (fun j => xs.getD j 0) s s.heap := ⟨scr, hcb, hof, hkn, hsz, hval⟩
    have K : W p l e room_1 s m #[Value.ref b] below meth c s₁.heap [] 0 0 (lw_Z below #[Value.ref b] s) (entryFrame m ([Value.ref b] : List Value).toArray 8) := by
      rw [hh0]
      exact whole_start l hflags hbd ⟨B.exec, B.bytes, B.returns, hml, hown, hts, hX, hbl, B.notSynchronized, hgv⟩
    obtain ⟨t, a1, o, b1, b2, b3⟩ := K s₁ rfl X₀
    exact ⟨t, o, a1, b1, b2, b3⟩
theorem lw_pre_spec {args : Array Value} {s : State} (h : (Jvm.Cond.and given_1 narrow_1).before args s = true) (hr : rest_1_c.before args s = true) : ∃ (b : Addr) (xs : List Int32), lw_P b xs args s := by
  have hs := flat_of_before _ h
  have hq := flat_of_before _ hr
  have hc : (Cond.count 1).before args s = true := hs _ (by decide +kernel)
  have harr : (Cond.arrayOf (.arg 0) .int).before args s = true := hs _ (by decide +kernel)
  have hle : (Cond.le (.length (.arg 0)) (.int 3584)).before args s = true := hs _ (by decide +kernel)
  have hlen : (Cond.isInt (.length (.arg 0))).before args s = true := hq _ (by decide +kernel)
  have hall : (Cond.all (.arg 0) (.isInt (.elem (.arg 0) (.index 0)))).before args s = true := hq _ (by decide +kernel)
  obtain ⟨b, xs, hb, hx⟩ := State.ints_of_pre rfl harr hlen hall
  have hsm : xs.length < 2 ^ 31 := hx.choose_spec.2.2.2
  have hev : (Term.length (.arg 0)).eval args s none [] s = some (.int xs.length.toInt32) := hx.length_eval hb
  have hv := Cond.le_ints hev (show (Term.int 3584).eval args s none [] s = some (.int 3584) from rfl)
  have hd : xs.length.toInt32 ≤ 3584 := by
    simpa [Cond.before, Cond.holds, hv] using hle
  have hN : xs.length ≤ 3584 := (Int32.ofNat_le_ofNat hsm (by decide)).mp (show Int32.ofNat xs.length ≤ Int32.ofNat 3584 from hd)
  exact ⟨b, xs, Cond.one_arg hc (show args[0]? = some (.ref b) from hb), hx, hN, h⟩
theorem lw_comes (l : Launch) (hflags : l.flags = flags0) : Comes l x (Jvm.Cond.code x code maxLocals ret :: tables_1) room_1 (fun tb e args s => Calls_1 tb e args s ∧ rest_1 tb e args s ∧ Pre_1 tb e args s)
    (fun _ _ args s o t => lw_Q args s o t) := by
  intro p e ha hc hk s m args below hf hfit hheap happ hpre
  obtain ⟨b, xs, hP⟩ := lw_pre_spec hpre.2.2 hpre.2.1
  obtain ⟨k, o, h1, h2, h3, hQ⟩ := lw_walk l hflags b xs p e ha hc hk s m args below hf ((Spec.applies_iff_loose hf).mp happ).1 hP trivial
  exact ⟨k, o, h1, h2, h3, hQ⟩
theorem lw_frame {s t : State} {o : Outcome} {args : Array Value} (h : Framed s o t [] 601024 7293034) :
    Framed s o t (fieldLocs frame_1_writes args s ++ arrayLocs frame_1_arrays args s ++ staticLocs frame_1_statics s) 601024 7293034 := h
theorem lw_limb (L : Cond) (hL : ∀ (args : Array Value) (s t : State), L.after args s (.returned (some (.int 1))) t = true) :
    ArmFor flags0 classFile x code maxLocals ret World_1 tables_1 room_1 Calls_1 rest_1 Pre_1
      (fun tb e a s o t => postC L tb e a s o t ∧ Framed s o t (fieldLocs frame_1_writes a s ++ arrayLocs frame_1_arrays a s ++ staticLocs frame_1_statics s) 601024 7293034) := by
  intro l hflags _ _ p e ha hc hk s m args below hf hfit hheap happ hpre
  obtain ⟨k, o, h1, h2, h3, rfl, hF⟩ := lw_comes l hflags p e ha hc hk s m args below hf hfit hheap happ hpre
  exact ⟨k, _, h1, h2, h3, hL args s _, lw_frame hF⟩
theorem i_vc : Claimed_1_1 ∧ Claimed_1_2 := ⟨lw_limb limb_1_1 (fun args s t => by simp [limb_1_1, Cond.after, Cond.holds, Cond.value]), lw_limb limb_1_2 (fun args s t => Cond.after_iff.mpr (by
  first | (rw [show limb_1_2 = Cond.eq .result (.int 1) from rfl, Cond.eq_ints (x := 1) (y := 1) rfl rfl]; simp; done) | (simp [limb_1_2, Cond.value, Term.eval]; done)))⟩
