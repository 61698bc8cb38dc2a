/-! ===== the desk's public methods answer as the pure calls ===== -/
section PUB
variable {h : Hs} {σ : Sg} {Px : String → Sg → Prop}
theorem di_n (d : DI h σ) : σ.1 0 6 = nI (gn (hg h)) ∧ gn (hg h) ≤ 8 ∧ 2 ≤ gn (hg h) ∧ σ.1 7 10 = nI (hN h) ∧ hN h ≤ 240 := ⟨d.1.2.1, d.1.1.2.2.1.2.2, d.1.1.1, d.1.2.2.2.2.2.2.1, d.1.1.2.1⟩
theorem vt_le {g : Gr} {hb : Nat → Bool} (x y : Nat) : vt g hb x y ≤ 3 := by
  have b1 : ∀ b, bN b ≤ 1 := fun b => by cases b <;> decide
  rw [vt_eq]
  unfold vtF
  split
  · have := b1 (see g y x); omega
  · split
    · split
      · have := b1 (decide (vtN g (vt g hb x) y ≤ vtY g (vt g hb x) y)); omega
      · have := b1 (hb y); omega
    · have := b1 (decide (vtN g (vt g hb x) y ≤ vtY g (vt g hb x) y))
      split <;> omega
theorem g_begin {K : Sg → Prop} {x : Int32} (d : DI h σ) (hK : (opBegin h x).1 = 0 → ∀ τ, DI (opBegin h x).2 τ → K τ) (h1 : (opBegin h x).1 = 1 → Px xIA σ) : sp_X7_begin x σ K Px := by
  have no : (x < 2 ∨ ¬ x ≤ 8) → Px xIA σ := fun q => h1 (by
    unfold opBegin
    rw [if_neg (fun z => by
      rcases q with q | q
      · exact Int32.not_le.mpr q z.1
      · exact q z.2)])
  refine ⟨fun c => no (Or.inl c), fun c => ⟨fun c2 => ?_, fun c2 => no (Or.inr c2)⟩⟩
  have c1 : 2 ≤ x := Int32.not_lt.mp c
  have e : opBegin h x = (0, hst x.toNatClampNeg x.toNatClampNeg) := if_pos ⟨c1, c2⟩
  rw [e] at hK
  have hx0 : ¬ x < 0 := fun q => by
    rw [Int32.lt_iff_toInt_lt] at q
    rw [Int32.le_iff_toInt_le] at c1
    have : (0 : Int32).toInt = 0 := by decide
    have : (2 : Int32).toInt = 2 := by decide
    omega
  obtain ⟨k, hk, rfl⟩ := nI_of hx0
  have k2 : 2 ≤ k := (nI_leI (by omega) hk).mp (show nI 2 ≤ nI k from c1)
  have k8 : k ≤ 8 := (nI_leI hk (by omega)).mp (show nI k ≤ nI 8 from c2)
  rw [cl_nI hk] at hK
  refine ⟨k, k2, k8, rfl, ⟨d.1.2.2.2.1.1, d.1.2.2.2.2.1.2.2.2.2.2.2.2.2.2, fun i hi => ⟨(d.2.2.2 i hi).1, (d.2.2.2 i hi).2.1⟩⟩, fun τ dt => hK rfl τ dt⟩
theorem i32_cases {w : Int32} {n : Nat} (hn : n < 2 ^ 31) (h0 : ¬ w < 0) (h1 : w ≤ nI n) : ∃ k, k ≤ n ∧ w = nI k := by
  obtain ⟨k, hk, rfl⟩ := nI_of h0
  exact ⟨k, (nI_leI hk hn).mp h1, rfl⟩
theorem g_event {K : Int32 → Sg → Prop} {x w : Int32} (d : DI h σ) (hK : (opEvent h x w).1 = 0 → K (opEvent h x w).2 σ) (h1 : (opEvent h x w).1 = 1 → Px xIA σ) (h2 : (opEvent h x w).1 = 2 → Px xIO σ) : sp_X7_event x w σ K Px := by
  obtain ⟨n1, n2, n3, n4, n5⟩ := di_n d
  obtain ⟨hC, d0, ⟨eA, eH, eT, eX⟩, ⟨hd0, hd⟩, hG, hE, h7, hW⟩ := id d.1
  have no : (w < 0 ∨ ¬ w ≤ 7) → Px xIA σ := fun q => h1 (by
    unfold opEvent
    rw [if_neg (fun z => by
      rcases q with q | q
      · exact Int32.not_le.mpr q z.1
      · exact q z.2)])
  refine ⟨fun c => no (Or.inl c), fun c => ⟨fun c2 => ?_, fun c2 => no (Or.inr c2)⟩⟩
  have e0 : opEvent h x w = match nd (hN h) x with
    | some e => (0, evV h e w)
    | none => (2, 0) := if_pos ⟨Int32.not_lt.mp c, c2⟩
  rw [e0] at hK h2
  refine event_op (by omega) n4 (fun e he hx hn => ?_) (fun hn => ⟨fun q => absurd rfl q, fun _ => h2 (by rw [hn])⟩)
  rw [hn] at hK
  subst hx
  have ce : (nI e).toNatClampNeg = e := cl_nI (by omega)
  have hv : vp_in (nI e) 240 := v240 (by omega)
  have hK2 : K (evV h e w) σ := hK rfl
  obtain ⟨k, hk, rfl⟩ := i32_cases (n := 7) (by decide) c c2
  refine ⟨fun _ => ?_, fun q => absurd q one_ne⟩
  rw [ce, nI_toInt (by omega)]
  obtain ⟨r1, r2, r3⟩ := eA e he
  have hT : bt σ 23 e = bt σ 23 e := rfl
  obtain ⟨t1, t2, t3, t4, t5, -⟩ := hG
  refine ⟨fun q => ?_, fun q => ?_, fun q => ?_, fun q => ?_, fun q => ?_, fun q => ?_, fun q => ?_, fun q => ?_⟩
  · have : k = 7 := by omega
    subst this
    refine ⟨by decide, e, rfl, by omega, ?_⟩
    rw [cnt_congr (q := anc (hg h) e) 256 (fun y hy => t1 e y he hy)]
    exact hK2
  · have : k = 0 := by omega
    subst this
    rw [r1]; exact ⟨hv, hK2⟩
  · have : k = 1 := by omega
    subst this
    rw [r2]; exact ⟨hv, hK2⟩
  · have : k = 2 := by omega
    subst this
    rw [r3]; exact ⟨hv, hK2⟩
  · have : k = 3 := by omega
    subst this
    rw [(t5 e he).1]; exact ⟨hv, hK2⟩
  · have : k = 4 := by omega
    subst this
    rw [(t5 e he).2]
    have h4 : K (bI (wit (hg h) e)) σ := hK2
    refine ⟨hv, fun q => ?_, fun q => ?_⟩
    · rw [bI_0] at q
      rw [q] at h4
      exact h4
    · rw [bI_1] at q
      rw [q] at h4
      exact h4
  · have : k = 5 := by omega
    subst this
    rw [(eX e he).1]; exact ⟨hv, hK2⟩
  · have : k = 6 := by omega
    subst this
    refine ⟨by decide, 8, e, hd0, rfl, by decide, by omega, ?_⟩
    rw [cnt_congr (q := fun k => hhd h k e) 8 (fun r hr => hd r e hr (by omega))]
    exact hK2
theorem g_hash {K : Int32 → Sg → Prop} {x w : Int32} (d : DI h σ) (hK : (opHash h x w).1 = 0 → K (opHash h x w).2 σ) (h1 : (opHash h x w).1 = 1 → Px xIO σ) : sp_X7_hash x w σ K Px := by
  obtain ⟨n1, n2, n3, n4, n5⟩ := di_n d
  refine event_op (by omega) n4 (fun e he hx hn => ?_) (fun hn => ⟨fun _ => h1 (by unfold opHash; rw [hn]), fun q => absurd rfl q⟩)
  have no : nd 8 w = none → Px xIO σ := fun q => h1 (by unfold opHash; rw [hn, q])
  refine ⟨fun q => absurd q one_ne, fun _ => ⟨fun c => no (by unfold nd; rw [if_pos c]), fun c => ?_⟩⟩
  obtain ⟨k, hk, rfl⟩ := nI_of c
  subst hx
  refine ⟨fun q => ?_, fun q => no ?_⟩
  · have k8 : k < 8 := (nI_ltI hk (by omega)).mp (show nI k < nI 8 from q)
    have e2 : opHash h (nI e) (nI k) = (0, hsh h e k) := by unfold opHash; rw [hn, nd_at k8 (by decide)]
    rw [e2] at hK
    have e3 : nI e * 8 + nI k = nI (e * 8 + k) := by rw [show (8 : Int32) = nI 8 from rfl, pk_mul, nI_add]
    show vp_in (nI e * 8 + nI k) 1920 ∧ K (σ.1 19 (nI e * 8 + nI k).toNatClampNeg) σ
    rw [e3, cl_nI (by omega), d.1.2.2.1.2.1 e k he k8]
    exact ⟨vp_in_nI (by omega) (by omega), hK rfl⟩
  · unfold nd
    rw [if_neg c, cl_nI hk, if_neg (fun z => q (nI_lt z (by decide)))]
theorem g_sees {K : Int32 → Sg → Prop} {x y z : Int32} (d : DI h σ) (hK : (opSees h x y z).1 = 0 → K (opSees h x y z).2 σ) (h1 : (opSees h x y z).1 = 1 → Px xIO σ) : sp_X7_sees x y z σ K Px := by
  obtain ⟨n1, n2, n3, n4, n5⟩ := di_n d
  obtain ⟨t1, t2, t3, t4, t5, -⟩ := d.1.2.2.2.2.1
  refine event_op (by omega) n4 (fun a ha hx hn => ?_) (fun hn => ⟨fun _ => h1 (by unfold opSees; rw [hn]), fun q => absurd rfl q⟩)
  refine ⟨fun q => absurd q one_ne, fun _ => event_op (by omega) n4 (fun b hb hy hn2 => ?_) (fun hn2 => ⟨fun q => absurd rfl q, fun _ => h1 (by unfold opSees; rw [hn, hn2])⟩)⟩
  have e2 : opSees h x y z = (0, bI (if z = 0 then see (hg h) a b else str (hg h) a b)) := by unfold opSees; rw [hn, hn2]
  rw [e2] at hK
  have hK2 := hK rfl
  subst hx hy
  refine ⟨fun _ => ⟨fun q => ?_, fun q => ?_⟩, fun q => absurd q one_ne⟩
  · rw [if_pos q] at hK2
    refine ⟨by decide, a, b, rfl, rfl, by omega, by omega, ?_⟩
    rw [t2 a b ha (by omega)]
    exact ⟨isZ_bI _, hK2⟩
  · rw [if_neg q] at hK2
    refine ⟨by decide, a, b, rfl, rfl, by omega, by omega, ?_⟩
    rw [t3 a b ha (by omega)]
    exact ⟨isZ_bI _, hK2⟩
theorem g_vote {K : Int32 → Sg → Prop} {y x : Int32} (d : DI h σ) (hK : (opVote h y x).1 = 0 → K (opVote h y x).2 σ) (h1 : (opVote h y x).1 = 1 → Px xIO σ) (h2 : (opVote h y x).1 = 2 → Px xIA σ) : sp_X7_vote y x σ K Px := by
  obtain ⟨n1, n2, n3, n4, n5⟩ := di_n d
  have hP := d.1.1.2.2.1
  obtain ⟨t1, t2, t3, t4, t5, -⟩ := d.1.2.2.2.2.1
  obtain ⟨l1, l2, l3, l4, l5, l6⟩ := d.1.2.2.2.2.2.1
  refine event_op (by omega) n4 (fun a ha hx hn => ?_) (fun hn => ⟨fun _ => h1 (by unfold opVote; rw [hn]), fun q => absurd rfl q⟩)
  refine ⟨fun q => absurd q one_ne, fun _ => event_op (by omega) n4 (fun b hb hy hn2 => ?_) (fun hn2 => ⟨fun q => absurd rfl q, fun _ => h1 (by unfold opVote; rw [hn, hn2])⟩)⟩
  have e2 : opVote h y x = if wit (hg h) a = true ∧ wit (hg h) b = true ∧ rnd (hg h) b < rnd (hg h) a then (0, nI (vt (hg h) (hhb h) b a)) else (2, 0) := by unfold opVote; rw [hn, hn2]
  have no : ¬ (wit (hg h) a = true ∧ wit (hg h) b = true ∧ rnd (hg h) b < rnd (hg h) a) → Px xIA σ := fun q => h2 (by rw [e2, if_neg q])
  subst hx hy
  have ca : (nI a).toNatClampNeg = a := cl_nI (by omega)
  have cb : (nI b).toNatClampNeg = b := cl_nI (by omega)
  have va := v240 (show a < 240 by omega)
  have vb := v240 (show b < 240 by omega)
  have ra := rnd_pos hP a ha
  have rb := rnd_pos hP b hb
  refine ⟨fun _ => ?_, fun q => absurd q one_ne⟩
  rw [ca, cb, (t5 a ha).2, (t5 b hb).2, (t5 a ha).1, (t5 b hb).1]
  refine ⟨va, fun q => no (fun z => by rw [bI_0, z.1] at q; cases q), fun q1 => ⟨vb, fun q => no (fun z => by rw [bI_0, z.2.1] at q; cases q), fun q2 => ⟨va, vb, fun q3 => ?_, fun q => no (fun z => q (nI_lt z.2.2 (by omega)))⟩⟩⟩
  rw [bI_1] at q1 q2
  have q4 : rnd (hg h) b < rnd (hg h) a := (nI_ltI (by omega) (by omega)).mp q3
  rw [e2, if_pos ⟨q1, q2, q4⟩] at hK
  have hK2 : K (nI (vt (hg h) (hhb h) b a)) σ := hK rfl
  have hvq : vq (hg h) (hhb h) (hN h) b a = true := vq_iff.mpr ⟨ha, q1, q4⟩
  have hle := vt_le (g := hg h) (hb := hhb h) b a
  have e41 := l5 b a hb q2 (by omega)
  have e43 := l6 b a hb q2 (by omega)
  rw [hvq, Bool.true_and] at e41 e43
  have two : ∀ (s : Int32) (m : Nat), s = nI m → (m % 2 = vt (hg h) (hhb h) b a % 2 ∧ m < 2) → f_X7_vote_94 (nI a) (nI b) K Px s σ := fun s m hs hm => by
    subst hs
    refine ⟨by decide, b, a, rfl, rfl, by omega, by omega, ?_⟩
    rw [e43]
    refine ⟨isZ_bI _, fun q => ?_, fun q => ?_⟩
    · rw [bI_0, decide_eq_false_iff_not] at q
      show K (nI m + 0) σ
      rw [show nI m + 0 = nI m from nI_add m 0, show m = vt (hg h) (hhb h) b a by omega]
      exact hK2
    · rw [bI_1, decide_eq_true_eq] at q
      show K (nI m + 2) σ
      rw [show nI m + 2 = nI (m + 2) from nI_add m 2, show m + 2 = vt (hg h) (hhb h) b a by omega]
      exact hK2
  refine ⟨by decide, b, a, rfl, rfl, by omega, by omega, ?_⟩
  rw [e41]
  refine ⟨isZ_bI _, fun q => two 0 0 rfl ?_, fun q => two 1 1 rfl ?_⟩
  · rw [bI_0] at q
    unfold odd at q
    rw [decide_eq_false_iff_not] at q
    omega
  · rw [bI_1] at q
    unfold odd at q
    rw [decide_eq_true_eq] at q
    omega
end PUB
