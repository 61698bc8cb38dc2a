/-! ===== the law: its loop, its start, the claim ===== -/
/-! THE CLAIM OUT OF ONE WALK OF THE LAW'S BODY. Your part is whole_start (and what it stands on); all else here is the same for every law, but numbers. -/
def R_law : String := "HashgraphDeskLaw"
def lw_P (b : Addr) (xs : List Int32) (args : Array Value) (s : State) : Prop := args = #[.ref b] ∧ s.IntsAt b xs ∧ xs.length ≤ 3584 ∧ (Jvm.Cond.and given_1 narrow_1).before args s = true
def lw_Q (_ : Array Value) (s : State) (o : Outcome) (t : State) : Prop := o = .returned (some (.int 1)) ∧ Framed s o t [] 601024 7293034
def lw_Z (below : List Frame) (a : Array Value) (s : State) : State → Prop := fun t => ∃ o, t.status = .running ∧ Ended t below o ∧ lw_Q a s o t
/-- the law's own end, with 1 on the stack, nothing written that was there before, its room as the claim has it -/
theorem lw_ret {p : Program} {l : Launch} {e : Env} {s : State} {m : MethodId} {below : List Frame} {meth : Method} {c : Code} {b : Nat} (hx : p.tables.exec = Jvm.exec) (hb : c.code = code) (hr : meth.sig.returnType = ret) (hlocks : meth.locks = false) {pc : Nat} {H : Heap} {ls : Array Slot} (hdg : decode code pc = .ok (.ireturn, 1)) : W p l e room_1 s m #[Value.ref b] below meth c H [] 601024 7293034 (lw_Z below #[Value.ref b] s) (F0 m pc ls [.int 1]) := by
  intro T hT X
  obtain ⟨fs, hret, hrun, hended, hW, hframe⟩ := X.leave (v := some (.int 1)) (hlocks := hlocks) (fun h => by rw [hr] at h; cases h)
  have hmeth' : T.vm.method? m = some meth := X.method'
  refine ⟨T.setFrames fs, ?_, .returned (some (.int 1)), hrun, hended, rfl, ⟨_, rfl⟩, hW, hframe⟩
  jvm_step X.here [X.here.top, hx, hb, hdg, hmeth', hr, ret, narrow_b1]
  (try refine ⟨rfl, ?_⟩); (try refine ⟨rfl, ?_⟩)
  first | (intro acts; rw [hret _ acts rfl rfl rfl]) | rw [hret _ _ rfl rfl rfl]
  exact Steps.refl _
/-- what holds at the law's entry: the machine, the code, the tables' words (any of lw_tbl by 'hts w (by decide +kernel)'), the script of L ints xs at the cell b, what the Statement gives of the start (any of its parts by flat_of_before) -/
def lw_At (p : Program) (s : State) (m : MethodId) (meth : Method) (c : Code) (b L : Nat) (xs : Nat → Int32) : Prop :=
  p.tables.exec = Jvm.exec ∧ c.code = code ∧ meth.sig.returnType = ret ∧ c.maxLocals = 8 ∧ s.vm.findClass R_law = some m.cls ∧ (∀ w ∈ lw_tbl, w.before #[Value.ref b] s = true) ∧ va_X b L xs s s.heap ∧ b < s.heap.size ∧ meth.locks = false ∧ (Jvm.Cond.and given_1 narrow_1).before #[Value.ref b] s = true
theorem lw_retZ {p : Program} {l : Launch} {e : Env} {s : State} {m : MethodId} {below : List Frame} {meth : Method} {c : Code} {b : Nat} (hx : p.tables.exec = Jvm.exec) (hb : c.code = cL_law) (hr : meth.sig.returnType = ret) (hlocks : meth.locks = false) {H : Heap} {ls : Array Slot} : W p l e room_1 s m #[Value.ref b] below meth c H [] 601024 7293034 (lwZ below #[Value.ref b] s) (F0 m 1187 ls [.int 1]) := lw_ret hx hb hr hlocks dL_law_1187
set_option maxRecDepth 100000 in
set_option maxHeartbeats 4000000 in
theorem law_loop {Γ : Gm} {E : Ev} {b Ln : Nat} {xs : Nat → Int32} {l0 : Launch} (C : Kl Γ E b Ln xs l0) (hst : l0.stackTraces = false) {ad ad2 : Nat → Nat} (hL : Ln ≤ 3584) : ∀ (n k : Nat) (h : Hs) (σ τ : Sg), k + n = 512 → DI h σ → MI h τ → OC Γ E (175 + k) (239855 + 6 * k) 8 23 [(4, .int (nI (7 * k))), (0, .ref b), (1, .ref (ad 0)), (2, .ref (ad2 0)), (3, .ref (ad 141))] [] (W2 E ad ad2 σ τ) := by
  have step : ∀ (k : Nat) (h : Hs) (σ τ : Sg), DI h σ → MI h τ → k ≤ 512 → (7 * k + 7 ≤ Ln → ∀ (h2 : Hs) (u v : Sg), DI h2 u → MI h2 v → OC Γ E (175 + k + 1) (239855 + 6 * k + 6) 8 1180 [(4, .int (nI (7 * k))), (0, .ref b), (1, .ref (ad 0)), (2, .ref (ad2 0)), (3, .ref (ad 141))] [] (W2 E ad ad2 u v)) → OC Γ E (175 + k) (239855 + 6 * k) 8 23 [(4, .int (nI (7 * k))), (0, .ref b), (1, .ref (ad 0)), (2, .ref (ad2 0)), (3, .ref (ad 141))] [] (W2 E ad ad2 σ τ) := by
    intro k h σ τ d m hk512 IH0
    refine ol_iload C 0 dL_law_23 rfl ?_
    refine ol_aload_n C 1 dL_law_25 rfl rfl ?_
    refine ol_slen C dL_law_26 ?_
    refine ol_bipush C (v := 7) dL_law_27 (by decide) ?_
    refine ol_isub C dL_law_29 ?_
    refine ol_icmp_gt C 1186 dL_law_30 rfl (fun _ => ?_) (fun hc => ?_)
    · refine ol_iconst C (v := 1) dL_law_1186 (by decide) ?_
      exact ol_end C (fun h1 h2 h3 h4 => lw_retZ h1 h2 h3 h4) (by omega) (by omega)
    have hk : 7 * k + 7 ≤ Ln := by
      have e := pk_sub_toInt (a := Ln) (b := 7) (by omega) (by decide)
      rw [Int32.lt_iff_toInt_lt, nI_toInt (by omega)] at hc
      have e2 : (Int32.ofNat Ln - 7).toInt = (Ln : Int) - (7 : Nat) := e
      rw [e2] at hc
      omega
    have IH := IH0 hk
    have hcc : 175 + k + 1 ≤ 601024 := by omega
    have hss : 239855 + 6 * k + 6 ≤ 7293034 := by omega
    refine ol_aload_n C 1 dL_law_33 rfl rfl ?_
    refine ol_iload C 0 dL_law_34 rfl ?_
    refine ol_sld C (vin0 hL hk) dL_law_36 ?_
    refine ol_bipush C (v := 15) dL_law_37 (by decide) ?_
    refine ol_iand C dL_law_39 ?_
    generalize xs (nI (7 * k)).toNatClampNeg &&& 15 = v
    by_cases h0 : v = 0
    · subst h0
      exact ol_tableIn C 112 dL_law_40 (off := 72) (by decide) (by decide) (by decide) rfl (law_begin C hst d m hL hk hcc hss IH)
    by_cases h1 : v = 1
    · subst h1
      exact ol_tableIn C 148 dL_law_40 (off := 108) (by decide) (by decide) (by decide) rfl (law_submit C hst d m hL hk hcc hss IH)
    by_cases h2 : v = 2
    · subst h2
      exact ol_tableIn C 228 dL_law_40 (off := 188) (by decide) (by decide) (by decide) rfl (law_sync C hst d m hL hk hcc hss IH)
    by_cases h3 : v = 3
    · subst h3
      exact ol_tableIn C 340 dL_law_40 (off := 300) (by decide) (by decide) (by decide) rfl (law_inject C hst d m hL hk hcc hss IH)
    by_cases h4 : v = 4
    · subst h4
      exact ol_tableIn C 478 dL_law_40 (off := 438) (by decide) (by decide) (by decide) rfl (law_event C hst d m hL hk hcc hss IH)
    by_cases h5 : v = 5
    · subst h5
      exact ol_tableIn C 546 dL_law_40 (off := 506) (by decide) (by decide) (by decide) rfl (law_hash C hst d m hL hk hcc hss IH)
    by_cases h6 : v = 6
    · subst h6
      exact ol_tableIn C 614 dL_law_40 (off := 574) (by decide) (by decide) (by decide) rfl (law_sees C hst d m hL hk hcc hss IH)
    by_cases h7 : v = 7
    · subst h7
      exact ol_tableIn C 717 dL_law_40 (off := 677) (by decide) (by decide) (by decide) rfl (law_vote C hst d m hL hk hcc hss IH)
    by_cases h8 : v = 8
    · subst h8
      exact ol_tableIn C 785 dL_law_40 (off := 745) (by decide) (by decide) (by decide) rfl (law_found C hst d m hL hk hcc hss IH)
    by_cases h9 : v = 9
    · subst h9
      exact ol_tableIn C 865 dL_law_40 (off := 825) (by decide) (by decide) (by decide) rfl (law_stamp C hst d m hL hk hcc hss IH)
    by_cases h10 : v = 10
    · subst h10
      exact ol_tableIn C 932 dL_law_40 (off := 892) (by decide) (by decide) (by decide) rfl (law_order C hst d m hL hk hcc hss IH)
    by_cases h11 : v = 11
    · subst h11
      exact ol_tableIn C 988 dL_law_40 (off := 948) (by decide) (by decide) (by decide) rfl (law_at C hst d m hL hk hcc hss IH)
    by_cases h12 : v = 12
    · subst h12
      exact ol_tableIn C 1056 dL_law_40 (off := 1016) (by decide) (by decide) (by decide) rfl (law_balance C hst d m hL hk hcc hss IH)
    by_cases h13 : v = 13
    · subst h13
      exact ol_tableIn C 1124 dL_law_40 (off := 1084) (by decide) (by decide) (by decide) rfl (law_count C hst d m hL hk hcc hss IH)
    refine ol_tableOut C 1180 dL_law_40 ?_ rfl (ol_widen (kc2 := 175 + k + 1) (ks2 := 239855 + 6 * k + 6) (Nat.le_succ _) (Nat.le_add_right _ _) (IH h σ τ d m))
    rcases Int.lt_or_le v.toInt 0 with c | c
    · exact Or.inl c
    · rcases Int.lt_or_le 13 v.toInt with c2 | c2
      · exact Or.inr c2
      · exfalso
        have e : v.toInt = 0 ∨ v.toInt = 1 ∨ v.toInt = 2 ∨ v.toInt = 3 ∨ v.toInt = 4 ∨ v.toInt = 5 ∨ v.toInt = 6 ∨ v.toInt = 7 ∨ v.toInt = 8 ∨ v.toInt = 9 ∨ v.toInt = 10 ∨ v.toInt = 11 ∨ v.toInt = 12 ∨ v.toInt = 13 := by omega
        rcases e with e | e | e | e | e | e | e | e | e | e | e | e | e | e
        · exact h0 (Int32.toInt_inj.mp (e.trans (by decide)))
        · exact h1 (Int32.toInt_inj.mp (e.trans (by decide)))
        · exact h2 (Int32.toInt_inj.mp (e.trans (by decide)))
        · exact h3 (Int32.toInt_inj.mp (e.trans (by decide)))
        · exact h4 (Int32.toInt_inj.mp (e.trans (by decide)))
        · exact h5 (Int32.toInt_inj.mp (e.trans (by decide)))
        · exact h6 (Int32.toInt_inj.mp (e.trans (by decide)))
        · exact h7 (Int32.toInt_inj.mp (e.trans (by decide)))
        · exact h8 (Int32.toInt_inj.mp (e.trans (by decide)))
        · exact h9 (Int32.toInt_inj.mp (e.trans (by decide)))
        · exact h10 (Int32.toInt_inj.mp (e.trans (by decide)))
        · exact h11 (Int32.toInt_inj.mp (e.trans (by decide)))
        · exact h12 (Int32.toInt_inj.mp (e.trans (by decide)))
        · exact h13 (Int32.toInt_inj.mp (e.trans (by decide)))
  intro n
  induction n with
  | zero =>
    intro k h σ τ hk d m
    exact step k h σ τ d m (by omega) (fun q => absurd q (by omega))
  | succ n ih =>
    intro k h σ τ hk d m
    refine step k h σ τ d m (by omega) (fun _ h2 u v d2 m2 => ?_)
    have g := ih (k + 1) h2 u v (by omega) d2 m2
    rw [show 175 + (k + 1) = 175 + k + 1 from rfl, show 239855 + 6 * (k + 1) = 239855 + 6 * k + 6 by omega] at g
    refine ol_iinc C (v := nI (7 * (k + 1))) (L2 := [(4, .int (nI (7 * (k + 1)))), (0, .ref b), (1, .ref (ad 0)), (2, .ref (ad2 0)), (3, .ref (ad 141))]) 0 dL_law_1180 rfl ?_ (by decide) rfl (ol_goto C 23 dL_law_1183 rfl g)
    show nI (7 * k) + nI 7 = nI (7 * (k + 1))
    rw [nI_add]
    rfl
