section PUB2
variable {h : Hs} {σ : Sg} {Px : String → Sg → Prop}
theorem vview {i : Nat} (hi : i < 8) : IsView (45 + 12 * i) := ⟨i, hi, rfl⟩
theorem lt240 {x : Nat} (d : DI h σ) (hx : x < hN h) : x < 240 := by have := d.1.1.2.1; omega
theorem g_found {K : Int32 → Sg → Prop} {n x w : Int32} (d : DI h σ) (hK : (opFound h n x w).1 = 0 → ∀ τ, DI h τ → K (opFound h n x w).2 τ) (h1 : (opFound h n x w).1 = 1 → Px xIA σ) (h2 : (opFound h n x w).1 = 2 → Px xIO σ) : sp_X7_found n x w σ K Px := by
  obtain ⟨n1, n2, n3, n4, n5⟩ := di_n d
  refine node_op (by omega) n1 (fun i hi hx hn => ?_) (fun hn => ⟨fun _ => h1 (by unfold opFound; rw [hn]), fun q => absurd rfl q⟩)
  have e0 : opFound h n x w = if 0 ≤ w ∧ w ≤ 3 then (match nd (hN h) x with
    | some e => (0, fdV h i e w)
    | none => (2, 0)) else (1, 0) := by unfold opFound; rw [hn] <;> rfl
  have no : (w < 0 ∨ ¬ w ≤ 3) → Px xIA σ := fun q => h1 (by
    rw [e0, if_neg (fun z => by
      rcases q with q | q
      · exact Int32.not_le.mpr q z.1
      · exact q z.2)])
  refine ⟨fun q => absurd q one_ne, fun _ => ⟨fun c => no (Or.inl c), fun c => ⟨fun c2 => ?_, fun c2 => no (Or.inr c2)⟩⟩⟩
  rw [if_pos ⟨Int32.not_lt.mp c, c2⟩] at e0
  refine event_op (by omega) n4 (fun e he hx2 hn2 => ?_) (fun hn2 => ⟨fun q => absurd rfl q, fun _ => h2 (by rw [e0, hn2])⟩)
  rw [hn2] at e0
  rw [e0] at hK
  have hK2 := hK rfl
  subst hx hx2
  have ce : (nI e).toNatClampNeg = e := cl_nI (by omega)
  have hv : vp_in (nI e) 240 := v240 (by omega)
  obtain ⟨k, hk, rfl⟩ := i32_cases (n := 3) (by decide) c c2
  refine ⟨fun _ => ?_, fun q => absurd q one_ne⟩
  rw [ce, nI_toInt (by omega)]
  refine ⟨fun q => ?_, fun q => ?_, fun q => ?_, fun q => ?_⟩
  · have : k = 3 := by omega
    subst this
    refine fresh_ok d hi (fun τ dt hv2 => ⟨vview (by omega), hv, ?_⟩)
    rw [hv2.2.2.1.1 e (lt240 d he)]
    exact hK2 τ dt
  · have : k = 0 := by omega
    subst this
    have h4 : ∀ τ, DI h τ → K (bI (hhd h i e)) τ := hK2
    refine ⟨by decide, i, e, rfl, rfl, by omega, by omega, ?_⟩
    rw [d.1.2.2.2.1.2 i e (by omega) (by omega)]
    refine ⟨fun q => ?_, fun q => ?_⟩
    · rw [bI_0] at q
      rw [q] at h4
      exact h4 σ d
    · rw [bI_1] at q
      rw [q] at h4
      exact h4 σ d
  · have : k = 1 := by omega
    subst this
    refine fresh_ok d hi (fun τ dt hv2 => ⟨vview (by omega), hv, ?_⟩)
    rw [hv2.1.1 e (lt240 d he)]
    exact hK2 τ dt
  · have : k = 2 := by omega
    subst this
    refine fresh_ok d hi (fun τ dt hv2 => ⟨vview (by omega), hv, ?_⟩)
    rw [hv2.2.1.1 e (lt240 d he)]
    exact hK2 τ dt
theorem g_stamp {K : Int64 → Sg → Prop} {n x : Int32} (d : DI h σ) (hK : (opStamp h n x).1 = 0 → ∀ τ, DI h τ → K (opStamp h n x).2 τ) (h1 : (opStamp h n x).1 = 1 → Px xIA σ) (h2 : (opStamp h n x).1 = 2 → Px xIO σ) (h3 : (opStamp h n x).1 = 3 → ∀ τ, DI h τ → Px xUO τ) : sp_X7_stamp n x σ K Px := by
  obtain ⟨n1, n2, n3, n4, n5⟩ := di_n d
  refine node_op (by omega) n1 (fun i hi hx hn => ?_) (fun hn => ⟨fun q => absurd rfl q, fun _ => h1 (by unfold opStamp; rw [hn])⟩)
  refine ⟨fun _ => event_op (by omega) n4 (fun e he hx2 hn2 => ?_) (fun hn2 => ⟨fun q => absurd rfl q, fun _ => h2 (by unfold opStamp; rw [hn, hn2])⟩), fun q => absurd q one_ne⟩
  have e0 : opStamp h n x = if rcv (vp h i) e = 0 then (3, 0) else (0, stp (vp h i) e) := by unfold opStamp; rw [hn, hn2]
  subst hx hx2
  have ce : (nI e).toNatClampNeg = e := cl_nI (by omega)
  have hv : vp_in (nI e) 240 := v240 (by omega)
  refine ⟨fun _ => fresh_ok d hi (fun τ dt hv2 => ?_), fun q => absurd q one_ne⟩
  have hr := rcv_le (p := vp h i) e
  rw [ce, hv2.2.1.1 e (lt240 d he)]
  refine ⟨vview (by omega), hv, fun q => ⟨hv, ?_⟩, fun q => ?_⟩
  · have q2 : ¬ rcv (vp h i) e = 0 := fun z => q (by rw [z]; rfl)
    rw [hv2.2.1.2 e he (by unfold inR; rw [decide_eq_false q2]; rfl)]
    rw [e0, if_neg q2] at hK
    exact hK rfl τ dt
  · have q2 : rcv (vp h i) e = 0 := (nI_eq (by omega) (by decide)).mp q
    exact h3 (by rw [e0, if_pos q2]) τ dt
theorem g_order {K : Int32 → Sg → Prop} {n : Int32} (d : DI h σ) (hK : (opOrder h n).1 = 0 → ∀ τ, DI h τ → K (opOrder h n).2 τ) (h1 : (opOrder h n).1 = 1 → Px xIA σ) : sp_X7_order n σ K Px := by
  obtain ⟨n1, n2, n3, n4, n5⟩ := di_n d
  refine node_op (by omega) n1 (fun i hi hx hn => ?_) (fun hn => ⟨fun q => absurd rfl q, fun _ => h1 (by unfold opOrder; rw [hn])⟩)
  have e0 : opOrder h n = (0, nI (oL (vp h i))) := by unfold opOrder; rw [hn]
  rw [e0] at hK
  subst hx
  refine ⟨fun _ => fresh_ok d hi (fun τ dt hv2 => ⟨vview (by omega), ?_⟩), fun q => absurd q one_ne⟩
  rw [hv2.2.2.1.2.2]
  exact hK rfl τ dt
theorem g_at {K : Int32 → Sg → Prop} {n x : Int32} (d : DI h σ) (hK : (opAt h n x).1 = 0 → ∀ τ, DI h τ → K (opAt h n x).2 τ) (h1 : (opAt h n x).1 = 1 → Px xIA σ) (h2 : (opAt h n x).1 = 2 → ∀ τ, DI h τ → Px xIO τ) : sp_X7_at n x σ K Px := by
  obtain ⟨n1, n2, n3, n4, n5⟩ := di_n d
  refine node_op (by omega) n1 (fun i hi hx hn => ?_) (fun hn => ⟨fun q => absurd rfl q, fun _ => h1 (by unfold opAt; rw [hn])⟩)
  subst hx
  refine ⟨fun _ => fresh_ok d hi (fun τ dt hv2 => ?_), fun q => absurd q one_ne⟩
  have hoL : oL (vp h i) ≤ hN h := cnt_le _ _
  have eA : opAt h (nI i) x = match nd (oL (vp h i)) x with
    | some j => (0, nI (atk (vp h i) j))
    | none => (2, 0) := by unfold opAt; rw [hn] <;> rfl
  rw [eA] at hK h2
  have no : nd (oL (vp h i)) x = none → Px xIO τ := fun q => h2 (by rw [q]) τ dt
  rw [hv2.2.2.1.2.2]
  refine ⟨fun c => no (by unfold nd; rw [if_pos c]), fun c => ⟨vview (by omega), ?_⟩⟩
  obtain ⟨k, hk, rfl⟩ := nI_of c
  refine ⟨fun q => ?_, fun q => no (by unfold nd; rw [if_neg c, cl_nI hk, if_neg (fun z => q (nI_lt z (by omega)))])⟩
  have k8 : k < oL (vp h i) := (nI_ltI hk (by omega)).mp q
  rw [nd_at k8 (by omega)] at hK
  obtain ⟨a1, a2, a3⟩ := atk_spec (p := vp h i) n5 k8
  have e5 : τ.1 (45 + 12 * i + 5) k = nI (atk (vp h i) k) := by
    have := hv2.2.2.1.2.1 _ a1 a2
    rw [a3] at this
    exact this
  rw [cl_nI hk, e5]
  exact ⟨v240 (by omega), hK rfl τ dt⟩
theorem g_balance {K : Int32 → Sg → Prop} {n x : Int32} (d : DI h σ) (hK : (opBalance h n x).1 = 0 → ∀ τ, DI h τ → K (opBalance h n x).2 τ) (h1 : (opBalance h n x).1 = 1 → Px xIA σ) : sp_X7_balance n x σ K Px := by
  obtain ⟨n1, n2, n3, n4, n5⟩ := di_n d
  refine node_op (by omega) n1 (fun i hi hx hn => ?_) (fun hn => ⟨fun _ => h1 (by unfold opBalance; rw [hn]), fun q => absurd rfl q⟩)
  refine ⟨fun q => absurd q one_ne, fun _ => node_op (by omega) n1 (fun j hj hx2 hn2 => ?_) (fun hn2 => ⟨fun q => absurd rfl q, fun _ => h1 (by unfold opBalance; rw [hn, hn2])⟩)⟩
  have e0 : opBalance h n x = (0, balk (vp h i) (oL (vp h i)) j) := by unfold opBalance; rw [hn, hn2]
  rw [e0] at hK
  subst hx hx2
  refine ⟨fun _ => fresh_ok d hi (fun τ dt hv2 => ⟨vview (by omega), vp_in_nI (by omega) (by omega), ?_⟩), fun q => absurd q one_ne⟩
  rw [cl_nI (by omega), hv2.2.2.2.1 j (by omega)]
  exact hK rfl τ dt
theorem sum_nI {f : Nat → Int32} {g : Nat → Nat} : ∀ n, (∀ i, i < n → f i = nI (g i)) → sumN f n = nI (sumT g n)
  | 0, _ => rfl
  | n + 1, e => by
    show sumN f n + f n = nI (sumT g n + g n)
    rw [sum_nI n (fun i hi => e i (by omega)), e n (by omega), nI_add]
theorem g_count {K : Int32 → Sg → Prop} {w : Int32} (d : DI h σ) (hK : (opCount h w).1 = 0 → ∀ τ, DI h τ → K (opCount h w).2 τ) (h1 : (opCount h w).1 = 1 → Px xIA σ) : sp_X7_count w σ K Px := by
  obtain ⟨n1, n2, n3, n4, n5⟩ := di_n d
  obtain ⟨t1, t2, t3, t4, t5, t6, t7, t8, t9, t10⟩ := d.1.2.2.2.2.1
  have key : ∀ k : Nat, k ≤ 5 → w.toInt = (k : Int) → w = nI k ∧ ∀ τ, DI h τ → K (ctV h (nI k)) τ := fun k hk e => by
    have ew : w = nI k := Int32.toInt_inj.mp (by rw [e, nI_toInt (by omega)])
    subst ew
    refine ⟨rfl, fun τ dt => ?_⟩
    have e0 : opCount h (nI k) = (0, ctV h (nI k)) := if_pos ⟨nI_pos' (by omega), nI_le hk (by decide)⟩
    rw [e0] at hK
    exact hK rfl τ dt
  refine ⟨fun q => h1 ?_, fun q => ?_, fun q => ?_, fun q => ?_, fun q => ?_, fun q => ?_, fun q => ?_⟩
  · unfold opCount
    rw [if_neg]
    rintro ⟨z1, z2⟩
    rw [Int32.le_iff_toInt_le] at z1 z2
    have : (0 : Int32).toInt = 0 := by decide
    have : (5 : Int32).toInt = 5 := by decide
    omega
  · rw [n1]; exact (key 0 (by decide) q).2 σ d
  · rw [n4]; exact (key 1 (by decide) q).2 σ d
  · rw [t9]; exact (key 2 (by decide) q).2 σ d
  · rw [t8]; exact (key 3 (by decide) q).2 σ d
  · refine fresh_ok (i := 0) d (by omega) (fun τ dt hv2 => ⟨vview (by decide), ?_⟩)
    rw [hv2.2.2.2.2.1]
    exact (key 4 (by decide) q).2 τ dt
  · show K (sumN (σ.1 6) 8) σ
    rw [sum_nI (g := hwn h) 8 (fun i hi => (d.1.2.2.2.2.2.2.2 i hi).1)]
    exact (key 5 (by decide) q).2 σ d
end PUB2
