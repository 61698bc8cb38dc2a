/-! ===== the model's calls: helpers; those without loops ===== -/
theorem MVw.fr0 {p : Vp} {σ τ : Sg} (m : MVw p σ) (F : Fr [0] σ τ) (k3 : τ.1 0 23 = σ.1 0 23) (k4 : τ.1 0 24 = σ.1 0 24) : MVw p τ := by
  obtain ⟨m1, m2, m3, m4⟩ := m
  refine ⟨?_, by rw [k3]; exact m2, by rw [k4]; exact m3, ?_⟩
  · rw [(F 20 (by decide)).1, (F 21 (by decide)).1, (F 22 (by decide)).1, (F 26 (by decide)).2, (F 23 (by decide)).1]
    exact m1
  · rw [(F 24 (by decide)).1]
    exact m4
theorem MI.fr0 {h : Hs} {σ τ : Sg} (m : MI h σ) (F : Fr [0] σ τ) (k : K0 [0, 36] σ τ) : MI h τ := by
  obtain ⟨m1, m2, m3, m4, m5, m6⟩ := m
  refine ⟨m1.fr F (by decide) (k 1 (by decide)) (k 2 (by decide)), fun a b ha hb => by rw [(F 15 (by decide)).1]; exact m2 a b ha hb, fun a ha => by rw [(F 10 (by decide)).1, (F 11 (by decide)).1, (F 12 (by decide)).1]; exact m3 a ha, fun a ha => by rw [(F 9 (by decide)).1]; exact m4 a ha, m5, ?_⟩
  rw [k 22 (by decide)]
  rcases m6 with z | ⟨i, z1, z2, z3⟩
  · exact Or.inl z
  · exact Or.inr ⟨i, z1, z2, z3.fr0 F (k 23 (by decide)) (k 24 (by decide))⟩
theorem mi_err {h : Hs} {σ : Sg} (m : MI h σ) (v : Int32) : MI h (pI σ 0 0 v) ∧ (pI σ 0 0 v).1 0 0 = v := ⟨m.fr0 (Fr_pI (Fr.refl _ _) (by decide)) (K0_pI K0.refl (by decide)), by rw [pI_at, if_pos ⟨rfl, rfl⟩]⟩
theorem mi_n {h : Hs} {σ : Sg} (m : MI h σ) : σ.1 0 1 = nI (gn (hg h)) ∧ gn (hg h) ≤ 8 ∧ 2 ≤ gn (hg h) ∧ σ.1 0 2 = nI (hN h) ∧ hN h ≤ 240 ∧ 1 ≤ hN h := by
  obtain ⟨m1, m2, m3, m4, m5, m6⟩ := m
  have := (m5 0 (by have := m1.1.1; omega)).1
  exact ⟨m1.2.1.2.1, m1.1.2.2.1.2.2, m1.1.1, m1.2.2.2.2.2.1, m1.1.2.1, by omega⟩
theorem fails_0 {τ : Sg} {c : Int32} {K : Int32 → Sg → Prop} (h0 : τ.1 0 0 = 0) (hK : K 0 τ) : sp_X8_fails 0 c τ K := by
  unfold sp_X8_fails vc_X8_fails f_X8_fails_e f_X8_fails_16
  exact ⟨fun _ => ⟨fun _ => ⟨isZ_0, hK⟩, fun q => absurd h0 q⟩, fun q => absurd rfl q⟩
theorem fails_1 {τ : Sg} {c : Int32} {K : Int32 → Sg → Prop} (h0 : τ.1 0 0 = 0) (hc : ¬ c = 0) (hK : K 1 (pI τ 0 0 c)) : sp_X8_fails 1 c τ K := by
  unfold sp_X8_fails vc_X8_fails f_X8_fails_e f_X8_fails_16
  have e : (pI τ 0 0 c).1 0 0 = c := by rw [pI_at, if_pos ⟨rfl, rfl⟩]
  exact ⟨fun q => absurd q one_ne, fun _ => ⟨fun q => absurd h0 q, fun _ => ⟨fun q => absurd (e.symm.trans q) hc, fun _ => ⟨isZ_1, hK⟩⟩⟩⟩
theorem in_ok {x lo hi : Int32} {τ : Sg} {K : Int32 → Sg → Prop} (h1 : lo ≤ x → x ≤ hi → K 1 τ) (h0 : ¬ (lo ≤ x ∧ x ≤ hi) → K 0 τ) : sp_X8_in x lo hi τ K := by
  unfold sp_X8_in vc_X8_in f_X8_in_e f_X8_in_14
  exact ⟨fun q => ⟨isZ_0, h0 (fun z => Int32.not_le.mpr q z.1)⟩, fun q => ⟨fun q2 => ⟨isZ_0, h0 (fun z => Int32.not_le.mpr q2 z.2)⟩, fun q2 => ⟨isZ_1, h1 (Int32.not_lt.mp q) (Int32.not_lt.mp q2)⟩⟩⟩
theorem rng_ok {x : Int32} {n : Nat} {τ : Sg} {K : Int32 → Sg → Prop} (hn : 1 ≤ n) (hn2 : n < 2 ^ 31) (h1 : ∀ k, k < n → x = nI k → nd n x = some k → K 1 τ) (h0 : nd n x = none → K 0 τ) : sp_X8_in x 0 (nI n - 1) τ K := by
  have e : nI n - 1 = nI (n - 1) := by rw [show (1 : Int32) = nI 1 from rfl, pk_sub (by omega)]
  rw [e]
  refine in_ok (fun a b => ?_) (fun z => ?_)
  · obtain ⟨k, hk, rfl⟩ := nI_of (Int32.not_lt.mpr a)
    have hk2 : k ≤ n - 1 := (nI_leI hk (by omega)).mp b
    exact h1 k (by omega) rfl (nd_at (by omega) hn2)
  · refine h0 (nd_no hn2 (fun k hk e2 => z ?_))
    rw [e2]
    exact ⟨nI_pos' (by omega), nI_le (by omega) (by omega)⟩
theorem mnode_ok {x : Int32} {n : Nat} {τ : Sg} {K : Int32 → Sg → Prop} (hn : 1 ≤ n) (hn2 : n < 2 ^ 31) (e : τ.1 0 1 = nI n) (h1 : ∀ k, k < n → x = nI k → nd n x = some k → K 1 τ) (h0 : nd n x = none → K 0 τ) : sp_X8_isNode x τ K := by
  unfold sp_X8_isNode vc_X8_isNode f_X8_isNode_e
  rw [e]
  exact rng_ok hn hn2 (fun k a b c => ⟨isZ_1, h1 k a b c⟩) (fun z => ⟨isZ_0, h0 z⟩)
theorem mevent_ok {x : Int32} {n : Nat} {τ : Sg} {K : Int32 → Sg → Prop} (hn : 1 ≤ n) (hn2 : n < 2 ^ 31) (e : τ.1 0 2 = nI n) (h1 : ∀ k, k < n → x = nI k → nd n x = some k → K 1 τ) (h0 : nd n x = none → K 0 τ) : sp_X8_isEvent x τ K := by
  unfold sp_X8_isEvent vc_X8_isEvent f_X8_isEvent_e
  rw [e]
  exact rng_ok hn hn2 (fun k a b c => ⟨isZ_1, h1 k a b c⟩) (fun z => ⟨isZ_0, h0 z⟩)
theorem find_ok {h : Hs} {i : Nat} {τ : Sg} {K : Sg → Prop} (m : MI h τ) (hi : i < gn (hg h)) (hK : ∀ τ2, MI h τ2 → MVw (vp h i) τ2 → τ2.1 0 0 = τ.1 0 0 → K τ2) : sp_X8_find (nI i) τ K := ⟨h, i, rfl, hi, m, hK⟩
section MOPS
variable {h : Hs} {σ : Sg}
theorem k_begin {K : Sg → Prop} {x : Int32} (m : MI h σ) (hK : ∀ τ, MI (opBegin h x).2 τ → τ.1 0 0 = nI (opBegin h x).1 → K τ) : sp_X8_begin x σ K := by
  obtain ⟨m0, e0⟩ := mi_err m 0
  unfold sp_X8_begin vc_X8_begin f_X8_begin_e f_X8_begin_21 f_X8_begin_33
  refine in_ok (fun a b => ⟨fun _ => fails_0 e0 ⟨fun q => absurd rfl q, fun _ => ?_⟩, fun q => absurd q one_ne⟩) (fun z => ⟨fun q => absurd rfl q, fun _ => fails_1 e0 one_ne ⟨fun _ => ?_, fun q => absurd q one_ne⟩⟩)
  · have e : opBegin h x = (0, hst x.toNatClampNeg x.toNatClampNeg) := if_pos ⟨a, b⟩
    rw [e] at hK
    have hx0 : ¬ x < 0 := fun q => by
      rw [Int32.lt_iff_toInt_lt] at q
      rw [Int32.le_iff_toInt_le] at a
      have : (0 : Int32).toInt = 0 := by decide
      have : (2 : Int32).toInt = 2 := by decide
      omega
    obtain ⟨k, hk, rfl⟩ := nI_of hx0
    have k2 : 2 ≤ k := (nI_leI (by omega) hk).mp (show nI 2 ≤ nI k from a)
    have k8 : k ≤ 8 := (nI_leI hk (by omega)).mp (show nI k ≤ nI 8 from b)
    rw [cl_nI hk] at hK
    exact ⟨k, k2, k8, rfl, ⟨m0.1.2.2.2.2.2.2.2.2.2.1, m0.1.2.2.2.2.2.2.2.2.2.2⟩, fun τ mt et => hK τ mt (et.trans e0)⟩
  · have e : opBegin h x = (1, h) := if_neg z
    rw [e] at hK
    obtain ⟨m1, e1⟩ := mi_err m0 1
    exact hK _ m1 e1
theorem k_hash {K : Int32 → Sg → Prop} {x w : Int32} (m : MI h σ) (hK : ∀ τ, MI h τ → τ.1 0 0 = nI (opHash h x w).1 → K (opHash h x w).2 τ) : sp_X8_hash_ x w σ K := by
  obtain ⟨m0, e0⟩ := mi_err m 0
  obtain ⟨n1, n2, n3, n4, n5, n6⟩ := mi_n m0
  have bad : opHash h x w = (1, 0) → K 0 (pI (pI σ 0 0 0) 0 0 1) := fun e => by
    rw [e] at hK
    obtain ⟨m1, e1⟩ := mi_err m0 1
    exact hK _ m1 e1
  unfold sp_X8_hash_ vc_X8_hash_ f_X8_hash__e f_X8_hash__24 f_X8_hash__29 f_X8_hash__51
  refine mevent_ok n6 (by omega) n4 (fun k hk hx hn => ⟨fun q => absurd q one_ne, fun _ => in_ok (fun a b => ⟨fun _ => fails_0 e0 ⟨fun _ => ?_, fun q => absurd rfl q⟩, fun q => absurd q one_ne⟩) (fun z => ⟨fun q => absurd rfl q, fun _ => fails_1 e0 one_ne ⟨fun q => absurd q one_ne, fun _ => bad ?_⟩⟩)⟩) (fun hn => ⟨fun _ => fails_1 e0 one_ne ⟨fun q => absurd q one_ne, fun _ => bad ?_⟩, fun q => absurd rfl q⟩)
  · obtain ⟨j, hj, rfl⟩ := i32_cases (n := 7) (by decide) (Int32.not_lt.mpr a) b
    have e : opHash h x (nI j) = (0, hsh h k j) := by unfold opHash; rw [hn, nd_at (show j < 8 by omega) (by decide)]
    rw [e] at hK
    subst hx
    rw [mi8, cl_nI (show k * 8 + j < 2 ^ 31 by omega), m0.1.2.2.2.2.2.2.1 k j hk (by omega)]
    exact ⟨v19 (by omega) (by omega), hK _ m0 e0⟩
  · unfold opHash
    rw [hn]
    have : nd 8 w = none := by
      rcases nd_cases 8 (by decide) w with ⟨j, hj, e, -⟩ | e
      · exact absurd ⟨by rw [e]; exact nI_pos' (by omega), by rw [e]; exact nI_le (b := 7) (by omega) (by decide)⟩ z
      · exact e
    rw [this]
  · unfold opHash
    rw [hn]
theorem k_sees {K : Int32 → Sg → Prop} {x y z : Int32} (m : MI h σ) (hK : ∀ τ, MI h τ → τ.1 0 0 = nI (opSees h x y z).1 → K (opSees h x y z).2 τ) : sp_X8_sees_ x y z σ K := by
  obtain ⟨m0, e0⟩ := mi_err m 0
  obtain ⟨n1, n2, n3, n4, n5, n6⟩ := mi_n m0
  have bad : opSees h x y z = (1, 0) → K 0 (pI (pI σ 0 0 0) 0 0 1) := fun e => by
    rw [e] at hK
    obtain ⟨m1, e1⟩ := mi_err m0 1
    exact hK _ m1 e1
  unfold sp_X8_sees_ vc_X8_sees_ f_X8_sees__e f_X8_sees__22 f_X8_sees__27 f_X8_sees__55
  refine mevent_ok n6 (by omega) n4 (fun k hk hx hn => ⟨fun q => absurd q one_ne, fun _ => mevent_ok n6 (by omega) n4 (fun j hj hy hn2 => ⟨fun _ => fails_0 e0 ⟨fun _ => ?_, fun q => absurd rfl q⟩, fun q => absurd q one_ne⟩) (fun hn2 => ⟨fun q => absurd rfl q, fun _ => fails_1 e0 one_ne ⟨fun q => absurd q one_ne, fun _ => bad ?_⟩⟩)⟩) (fun hn => ⟨fun _ => fails_1 e0 one_ne ⟨fun q => absurd q one_ne, fun _ => bad ?_⟩, fun q => absurd rfl q⟩)
  · have e : opSees h x y z = (0, bI (if z = 0 then see (hg h) k j else str (hg h) k j)) := by unfold opSees; rw [hn, hn2]
    rw [e] at hK
    subst hx hy
    refine ⟨fun q => ?_, fun q => ?_⟩
    · rw [if_pos q] at hK
      exact ⟨hg h, hN h, k, j, rfl, rfl, hk, hj, m0.1.2.1, isZ_bI _, hK _ m0 e0⟩
    · rw [if_neg q] at hK
      refine ⟨hg h, hN h, k, j, rfl, rfl, hk, hj, m0.1.2.1, m0.1.2.2.1, fun τ s f => ⟨isZ_bI _, hK τ ?_ (by rw [(f 0 (by decide)).1]; exact e0)⟩⟩
      obtain ⟨⟨a1, a2, a3, a4, a5, a6, a7, a8, a9, a10, a11⟩, m2, m3, m4, m5, m6⟩ := m0
      refine ⟨⟨a1, a2.fr f (by decide), s, a4.sm (f 7 (by decide)).1 (f 17 (by decide)).1, a5.sm (f 19 (by decide)).1, ?_, ?_, ?_, ?_, ?_, ?_⟩, ?_, ?_, ?_, m5, ?_⟩
      · rw [(f 0 (by decide)).1]; exact a6
      · rw [(f 8 (by decide)).1]; exact a7
      · rw [(f 13 (by decide)).2]; exact a8
      · rw [(f 4 (by decide)).1, (f 5 (by decide)).1, (f 6 (by decide)).1]; exact a9
      · rw [(f 30 (by decide)).1]; exact a10
      · rw [(f 32 (by decide)).1]; exact a11
      · unfold MH; rw [(f 15 (by decide)).1]; exact m2
      · unfold MW; rw [(f 10 (by decide)).1, (f 11 (by decide)).1, (f 12 (by decide)).1]; exact m3
      · unfold MLt; rw [(f 9 (by decide)).1]; exact m4
      · unfold MVw
        rw [(f 0 (by decide)).1, (f 20 (by decide)).1, (f 21 (by decide)).1, (f 22 (by decide)).1, (f 26 (by decide)).2, (f 23 (by decide)).1, (f 24 (by decide)).1]
        exact m6
  · unfold opSees
    rw [hn, hn2]
  · unfold opSees
    rw [hn]
theorem mi_vote {τ : Sg} (m0 : MI h σ) (s : MS (hg h) (hN h) τ) (v : MV (hg h) (hhb h) (hN h) τ) (f : Fr [18, 19] σ τ) : MI h τ := by
  obtain ⟨⟨a1, a2, a3, a4, a5, a6, a7, a8, a9, a10, a11⟩, m2, m3, m4, m5, m6⟩ := m0
  refine ⟨⟨a1, a2.fr f (by decide), s, a4.sm (f 7 (by decide)).1 (f 17 (by decide)).1, v, ?_, ?_, ?_, ?_, ?_, ?_⟩, ?_, ?_, ?_, m5, ?_⟩
  · rw [(f 0 (by decide)).1]; exact a6
  · rw [(f 8 (by decide)).1]; exact a7
  · rw [(f 13 (by decide)).2]; exact a8
  · rw [(f 4 (by decide)).1, (f 5 (by decide)).1, (f 6 (by decide)).1]; exact a9
  · rw [(f 30 (by decide)).1]; exact a10
  · rw [(f 32 (by decide)).1]; exact a11
  · unfold MH; rw [(f 15 (by decide)).1]; exact m2
  · unfold MW; rw [(f 10 (by decide)).1, (f 11 (by decide)).1, (f 12 (by decide)).1]; exact m3
  · unfold MLt; rw [(f 9 (by decide)).1]; exact m4
  · unfold MVw
    rw [(f 0 (by decide)).1, (f 20 (by decide)).1, (f 21 (by decide)).1, (f 22 (by decide)).1, (f 26 (by decide)).2, (f 23 (by decide)).1, (f 24 (by decide)).1]
    exact m6
theorem k_vote {K : Int32 → Sg → Prop} {y x : Int32} (m : MI h σ) (hK : ∀ τ, MI h τ → τ.1 0 0 = nI (opVote h y x).1 → K (opVote h y x).2 τ) : sp_X8_vote y x σ K := by
  obtain ⟨m0, e0⟩ := mi_err m 0
  obtain ⟨n1, n2, n3, n4, n5, n6⟩ := mi_n m0
  have bad : opVote h y x = (1, 0) → K 0 (pI (pI σ 0 0 0) 0 0 1) := fun e => by
    rw [e] at hK
    obtain ⟨m1, e1⟩ := mi_err m0 1
    exact hK _ m1 e1
  have bad2 : opVote h y x = (2, 0) → K 0 (pI (pI σ 0 0 0) 0 0 2) := fun e => by
    rw [e] at hK
    obtain ⟨m1, e1⟩ := mi_err m0 2
    exact hK _ m1 e1
  have ne2 : ¬ (2 : Int32) = 0 := by decide
  unfold sp_X8_vote vc_X8_vote f_X8_vote_e f_X8_vote_22 f_X8_vote_27 f_X8_vote_68 f_X8_vote_73 f_X8_vote_80
  refine mevent_ok n6 (by omega) n4 (fun k hk hx hn => ⟨fun q => absurd q one_ne, fun _ => mevent_ok n6 (by omega) n4 (fun j hj hy hn2 => ⟨fun _ => fails_0 e0 ⟨fun q => absurd rfl q, fun _ => ?_⟩, fun q => absurd q one_ne⟩) (fun hn2 => ⟨fun q => absurd rfl q, fun _ => fails_1 e0 one_ne ⟨fun _ => bad ?_, fun q => absurd q one_ne⟩⟩)⟩) (fun hn => ⟨fun _ => fails_1 e0 one_ne ⟨fun _ => bad ?_, fun q => absurd q one_ne⟩, fun q => absurd rfl q⟩)
  · have e : opVote h y x = if wit (hg h) j = true ∧ wit (hg h) k = true ∧ rnd (hg h) k < rnd (hg h) j then (0, nI (vt (hg h) (hhb h) k j)) else (2, 0) := by unfold opVote; rw [hn2, hn]
    subst hx hy
    have hP := m0.1.1.2.2.1
    have vk := v240 (show k < 240 by omega)
    have vj := v240 (show j < 240 by omega)
    have r1 := (rnd_pos hP k hk).2
    have r2 := (rnd_pos hP j hj).2
    rw [cl_nI (show k < 2 ^ 31 by omega), cl_nI (show j < 2 ^ 31 by omega), (m0.1.2.2.2.1 k hk).1, (m0.1.2.2.2.1 k hk).2, (m0.1.2.2.2.1 j hj).1, (m0.1.2.2.2.1 j hj).2]
    have b2 : ¬ (wit (hg h) j = true ∧ wit (hg h) k = true ∧ rnd (hg h) k < rnd (hg h) j) → opVote h (nI j) (nI k) = (2, 0) := fun z => by rw [e, if_neg z]
    refine ⟨vk, fun q => fails_1 e0 ne2 ⟨fun q2 => absurd q2 one_ne, fun _ => bad2 (b2 (fun z => by rw [z.2.1] at q; exact absurd q one_ne))⟩, fun q => ⟨vj, fun q2 => fails_1 e0 ne2 ⟨fun q3 => absurd q3 one_ne, fun _ => bad2 (b2 (fun z => by rw [z.1] at q2; exact absurd q2 one_ne))⟩, fun q2 => ⟨vj, vk, fun q3 => fails_0 e0 ⟨fun _ => ?_, fun q4 => absurd rfl q4⟩, fun q3 => fails_1 e0 ne2 ⟨fun q4 => absurd q4 one_ne, fun _ => bad2 (b2 (fun z => q3 (nI_lt z.2.2 (by omega))))⟩⟩⟩⟩
    have hlt := (nI_ltI (by omega) (by omega)).mp q3
    rw [bI_1] at q q2
    rw [if_pos ⟨q2, q, hlt⟩] at e
    rw [e] at hK
    exact vote_ok m0.1 hj hk q2 q hlt (fun τ s v f => hK τ (mi_vote m0 s v f) (by rw [(f 0 (by decide)).1]; exact e0))
  · unfold opVote
    rw [hn2]
  · unfold opVote
    rw [hn]
    cases nd (hN h) y <;> rfl
theorem k_found {K : Int32 → Sg → Prop} {n x w : Int32} (m : MI h σ) (hK : ∀ τ, MI h τ → τ.1 0 0 = nI (opFound h n x w).1 → K (opFound h n x w).2 τ) : sp_X8_found n x w σ K := by
  obtain ⟨m0, e0⟩ := mi_err m 0
  obtain ⟨n1, n2, n3, n4, n5, n6⟩ := mi_n m0
  have ne2 : ¬ (2 : Int32) = 0 := by decide
  have bad : opFound h n x w = (1, 0) → K 0 (pI (pI σ 0 0 0) 0 0 1) := fun e => by
    rw [e] at hK
    obtain ⟨m1, e1⟩ := mi_err m0 1
    exact hK _ m1 e1
  have bad2 : opFound h n x w = (2, 0) → K 0 (pI (pI σ 0 0 0) 0 0 2) := fun e => by
    rw [e] at hK
    obtain ⟨m1, e1⟩ := mi_err m0 2
    exact hK _ m1 e1
  unfold sp_X8_found vc_X8_found f_X8_found_e f_X8_found_23 f_X8_found_28 f_X8_found_49 f_X8_found_56 f_X8_found_86 f_X8_found_102 f_X8_found_142
  refine mnode_ok (by omega) (by omega) n1 (fun i hi hx hn => ⟨fun q => absurd q one_ne, fun _ => in_ok (fun a b => ⟨fun _ => fails_0 e0 ⟨fun q => absurd rfl q, fun _ => ?_⟩, fun q => absurd q one_ne⟩) (fun z => ⟨fun q => absurd rfl q, fun _ => fails_1 e0 one_ne ⟨fun _ => bad ?_, fun q => absurd q one_ne⟩⟩)⟩) (fun hn => ⟨fun _ => fails_1 e0 one_ne ⟨fun _ => bad ?_, fun q => absurd q one_ne⟩, fun q => absurd rfl q⟩)
  · have e : opFound h n x w = (match nd (hN h) x with
      | some e => (0, fdV h i e w)
      | none => (2, 0)) := by unfold opFound; rw [hn]; exact if_pos ⟨a, b⟩
    refine mevent_ok n6 (by omega) n4 (fun k hk hx2 hn2 => ⟨fun _ => fails_0 e0 ⟨fun _ => ?_, fun q => absurd rfl q⟩, fun q => absurd q one_ne⟩) (fun hn2 => ⟨fun q => absurd rfl q, fun _ => fails_1 e0 ne2 ⟨fun q => absurd q one_ne, fun _ => bad2 (by rw [e, hn2])⟩⟩)
    rw [hn2] at e
    rw [e] at hK
    have hK : ∀ τ, MI h τ → τ.1 0 0 = 0 → K (fdV h i k w) τ := hK
    subst hx hx2
    obtain ⟨j, hj, rfl⟩ := i32_cases (n := 3) (by decide) (Int32.not_lt.mpr a) b
    have vk := v240 (show k < 240 by omega)
    have ck : (nI k).toNatClampNeg = k := cl_nI (by omega)
    rw [mi240, cl_nI (show i * 240 + k < 2 ^ 31 by omega), m0.2.1 i k (by omega) (by omega), ck]
    have hj0 : nI j = 0 ↔ j = 0 := nI_eq (b := 0) (by omega) (by decide)
    have hj1 : nI j = 1 ↔ j = 1 := nI_eq (b := 1) (by omega) (by decide)
    have hj2 : nI j = 2 ↔ j = 2 := nI_eq (b := 2) (by omega) (by decide)
    have hj3 : nI j = 3 ↔ j = 3 := nI_eq (b := 3) (by omega) (by decide)
    have ev : fdV h i k (nI j) = if j = 0 then bI (hhd h i k) else if j = 1 then nI (f3 (vp h i) k) else if j = 2 then nI (rcv (vp h i) k) else if inR (vp h i) k then nI (pl (vp h i) k) else -1 := by
      unfold fdV
      simp only [hj0, hj1, hj2]
    rw [ev] at hK
    refine ⟨vp_in_nI (by omega) (by omega), fun q0 => ⟨fun q => find_ok m0 hi (fun τ mt mv et => ⟨fun q1 => ⟨fun q2 => ⟨vk, ?_⟩, fun q2 => ⟨vk, ?_⟩⟩, fun q1 => ⟨vk, ?_⟩⟩), fun q => ?_⟩, fun q0 => ⟨fun q => ?_, fun q => ?_⟩⟩
    · rw [if_neg (fun z => q0 (hj0.mpr z)), if_neg (fun z => q1 (hj1.mpr z)), if_neg (fun z => q2 (hj2.mpr z))] at hK
      rw [(mv.1 k hk).2.2.1]
      exact hK τ mt (et.trans e0)
    · rw [if_neg (fun z => q0 (hj0.mpr z)), if_neg (fun z => q1 (hj1.mpr z)), if_pos (hj2.mp q2)] at hK
      rw [(mv.1 k hk).2.1]
      exact hK τ mt (et.trans e0)
    · rw [if_neg (fun z => q0 (hj0.mpr z)), if_pos (hj1.mp q1)] at hK
      rw [(mv.1 k hk).1]
      exact hK τ mt (et.trans e0)
    · rw [bI_0] at q
      have pd : phd (vp h i) k = false := q
      have r0 : rcv (vp h i) k = 0 := by unfold rcv; rw [pd]; rfl
      have i0 : inR (vp h i) k = false := by unfold inR; rw [r0]; rfl
      have u0 : f3 (vp h i) k = 0 := by
        have f0 := fam_out (p := vp h i) pd
        rcases f3_of (p := vp h i) k with ⟨-, c, -⟩ | ⟨-, c⟩ <;> omega
      rw [if_neg (fun z => q0 (hj0.mpr z)), u0, r0, i0] at hK
      refine ⟨fun q3 => ?_, fun q3 => ?_⟩
      · have := hK _ m0 e0
        by_cases c1 : j = 1
        · rw [if_pos c1] at this; exact this
        · rw [if_neg c1, if_pos (show j = 2 by have : j ≠ 3 := fun z => q3 (hj3.mpr z); have : j ≠ 0 := fun z => q0 (hj0.mpr z); omega)] at this
          exact this
      · have c3 := hj3.mp q3
        rw [if_neg (by omega), if_neg (by omega)] at hK
        exact hK _ m0 e0
    · rw [if_pos (hj0.mp q0)] at hK
      rw [bI_0] at q
      have q : hhd h i k = false := q
      rw [q] at hK
      exact hK _ m0 e0
    · rw [if_pos (hj0.mp q0)] at hK
      rw [bI_1] at q
      have q : hhd h i k = true := q
      rw [q] at hK
      exact hK _ m0 e0
  · unfold opFound
    rw [hn]
    exact if_neg z
  · unfold opFound
    rw [hn]
theorem k_stamp {K : Int64 → Sg → Prop} {n x : Int32} (m : MI h σ) (hK : ∀ τ, MI h τ → τ.1 0 0 = nI (opStamp h n x).1 → K (opStamp h n x).2 τ) : sp_X8_stamp n x σ K := by
  obtain ⟨m0, e0⟩ := mi_err m 0
  obtain ⟨n1, n2, n3, n4, n5, n6⟩ := mi_n m0
  have ne2 : ¬ (2 : Int32) = 0 := by decide
  have ne3 : ¬ (3 : Int32) = 0 := by decide
  have bad : ∀ c : Nat, opStamp h n x = (c, 0) → ∀ τ, MI h τ → K 0 (pI τ 0 0 (nI c)) := fun c e τ mt => by
    rw [e] at hK
    obtain ⟨m1, e1⟩ := mi_err mt (nI c)
    exact hK _ m1 e1
  unfold sp_X8_stamp vc_X8_stamp f_X8_stamp_e f_X8_stamp_19 f_X8_stamp_40 f_X8_stamp_47 f_X8_stamp_79 f_X8_stamp_84 f_X8_stamp_101
  refine mnode_ok (by omega) (by omega) n1 (fun i hi hx hn => ⟨fun _ => fails_0 e0 ⟨fun q => absurd rfl q, fun _ => mevent_ok n6 (by omega) n4 (fun k hk hx2 hn2 => ⟨fun _ => fails_0 e0 ⟨fun _ => ?_, fun q => absurd rfl q⟩, fun q => absurd q one_ne⟩) (fun hn2 => ⟨fun q => absurd rfl q, fun _ => fails_1 e0 ne2 ⟨fun q => absurd q one_ne, fun _ => bad 2 (by unfold opStamp; rw [hn, hn2]) _ m0⟩⟩)⟩, fun q => absurd q one_ne⟩) (fun hn => ⟨fun q => absurd rfl q, fun _ => fails_1 e0 one_ne ⟨fun _ => bad 1 (by unfold opStamp; rw [hn]) _ m0, fun q => absurd q one_ne⟩⟩)
  have e : opStamp h n x = if rcv (vp h i) k = 0 then (3, 0) else (0, stp (vp h i) k) := by unfold opStamp; rw [hn, hn2]
  subst hx hx2
  have vk := v240 (show k < 240 by omega)
  have ck : (nI k).toNatClampNeg = k := cl_nI (by omega)
  refine find_ok m0 hi (fun τ mt mv et => ?_)
  have et0 := et.trans e0
  obtain ⟨w1, w2, w3, w4⟩ := mv.1 k hk
  have rl := rcv_le (p := vp h i) k
  rw [mi240, cl_nI (show i * 240 + k < 2 ^ 31 by omega), mt.2.1 i k (by omega) (by omega), ck, w2]
  have b3 : rcv (vp h i) k = 0 → K 0 (pI τ 0 0 3) := fun z => bad 3 (by rw [e, if_pos z]) τ mt
  refine ⟨vp_in_nI (by omega) (by omega), fun q => fails_1 et0 ne3 ⟨fun q2 => absurd q2 one_ne, fun _ => b3 ?_⟩, fun q => ⟨vk, fun q2 => fails_0 et0 ⟨fun _ => ⟨vk, ?_⟩, fun q3 => absurd rfl q3⟩, fun q2 => fails_1 et0 ne3 ⟨fun q3 => absurd q3 one_ne, fun _ => b3 ((nI_eq (b := 0) (by omega) (by decide)).mp q2)⟩⟩⟩
  · rw [bI_0] at q
    have pd : phd (vp h i) k = false := q
    unfold rcv
    rw [pd]
    rfl
  · have rn : rcv (vp h i) k ≠ 0 := fun z => q2 (by rw [z]; rfl)
    rw [e, if_neg rn] at hK
    rw [(w4 (inR_iff.mpr rn)).1]
    exact hK τ mt et0
theorem k_order {K : Int32 → Sg → Prop} {n : Int32} (m : MI h σ) (hK : ∀ τ, MI h τ → τ.1 0 0 = nI (opOrder h n).1 → K (opOrder h n).2 τ) : sp_X8_order n σ K := by
  obtain ⟨m0, e0⟩ := mi_err m 0
  obtain ⟨n1, n2, n3, n4, n5, n6⟩ := mi_n m0
  unfold sp_X8_order vc_X8_order f_X8_order_e f_X8_order_19
  refine mnode_ok (by omega) (by omega) n1 (fun i hi hx hn => ⟨fun _ => fails_0 e0 ⟨fun _ => ?_, fun q => absurd rfl q⟩, fun q => absurd q one_ne⟩) (fun hn => ⟨fun q => absurd rfl q, fun _ => fails_1 e0 one_ne ⟨fun q => absurd q one_ne, fun _ => ?_⟩⟩)
  · have e : opOrder h n = (0, nI (oL (vp h i))) := by unfold opOrder; rw [hn]
    rw [e] at hK
    subst hx
    refine find_ok m0 hi (fun τ mt mv et => ?_)
    rw [mv.2.1]
    exact hK τ mt (et.trans e0)
  · have e : opOrder h n = (1, 0) := by unfold opOrder; rw [hn]
    rw [e] at hK
    obtain ⟨m1, e1⟩ := mi_err m0 1
    exact hK _ m1 e1
theorem k_at {K : Int32 → Sg → Prop} {n x : Int32} (m : MI h σ) (hK : ∀ τ, MI h τ → τ.1 0 0 = nI (opAt h n x).1 → K (opAt h n x).2 τ) : sp_X8_at n x σ K := by
  obtain ⟨m0, e0⟩ := mi_err m 0
  obtain ⟨n1, n2, n3, n4, n5, n6⟩ := mi_n m0
  have ne2 : ¬ (2 : Int32) = 0 := by decide
  unfold sp_X8_at vc_X8_at f_X8_at_e f_X8_at_19 f_X8_at_53 f_X8_at_70
  refine mnode_ok (by omega) (by omega) n1 (fun i hi hx hn => ⟨fun _ => fails_0 e0 ⟨fun _ => ?_, fun q => absurd rfl q⟩, fun q => absurd q one_ne⟩) (fun hn => ⟨fun q => absurd rfl q, fun _ => fails_1 e0 one_ne ⟨fun q => absurd q one_ne, fun _ => ?_⟩⟩)
  · have e : opAt h n x = match nd (oL (vp h i)) x with
      | some j => (0, nI (atk (vp h i) j))
      | none => (2, 0) := by unfold opAt; rw [hn] <;> rfl
    subst hx
    refine find_ok m0 hi (fun τ mt mv et => ?_)
    have et0 := et.trans e0
    have hoL : oL (vp h i) ≤ hN h := cnt_le _ _
    rw [mv.2.1]
    have bad : nd (oL (vp h i)) x = none → K 0 (pI τ 0 0 2) := fun z => by
      rw [e, z] at hK
      obtain ⟨m1, e1⟩ := mi_err mt 2
      exact hK _ m1 e1
    by_cases o0 : oL (vp h i) = 0
    · have nn : nd (oL (vp h i)) x = none := nd_no (by omega) (fun k hk => by omega)
      refine in_ok (fun a b => ?_) (fun z => ⟨fun q => absurd rfl q, fun _ => fails_1 et0 ne2 ⟨fun q => absurd q one_ne, fun _ => bad nn⟩⟩)
      rw [o0] at b
      rw [Int32.le_iff_toInt_le] at a b
      have c1 : (0 : Int32).toInt = 0 := by decide
      have c2 : (nI 0 - 1).toInt = -1 := by decide
      omega
    · refine rng_ok (by omega) (by omega) (fun k hk hx2 hn2 => ⟨fun _ => fails_0 et0 ⟨fun _ => ?_, fun q => absurd rfl q⟩, fun q => absurd q one_ne⟩) (fun hn2 => ⟨fun q => absurd rfl q, fun _ => fails_1 et0 ne2 ⟨fun q => absurd q one_ne, fun _ => bad hn2⟩⟩)
      rw [e, hn2] at hK
      subst hx2
      obtain ⟨a1, a2, a3⟩ := atk_spec (p := vp h i) n5 hk
      have e5 := ((mv.1 _ a1).2.2.2 a2).2
      rw [a3] at e5
      rw [cl_nI (show k < 2 ^ 31 by omega), e5]
      exact ⟨v240 (by omega), hK τ mt et0⟩
  · have e : opAt h n x = (1, 0) := by unfold opAt; rw [hn]
    rw [e] at hK
    obtain ⟨m1, e1⟩ := mi_err m0 1
    exact hK _ m1 e1
theorem k_balance {K : Int32 → Sg → Prop} {n x : Int32} (m : MI h σ) (hK : ∀ τ, MI h τ → τ.1 0 0 = nI (opBalance h n x).1 → K (opBalance h n x).2 τ) : sp_X8_balance n x σ K := by
  obtain ⟨m0, e0⟩ := mi_err m 0
  obtain ⟨n1, n2, n3, n4, n5, n6⟩ := mi_n m0
  have bad : opBalance h n x = (1, 0) → K 0 (pI (pI σ 0 0 0) 0 0 1) := fun e => by
    rw [e] at hK
    obtain ⟨m1, e1⟩ := mi_err m0 1
    exact hK _ m1 e1
  unfold sp_X8_balance vc_X8_balance f_X8_balance_e f_X8_balance_22 f_X8_balance_27
  refine mnode_ok (by omega) (by omega) n1 (fun i hi hx hn => ⟨fun q => absurd q one_ne, fun _ => mnode_ok (by omega) (by omega) n1 (fun j hj hx2 hn2 => ⟨fun _ => fails_0 e0 ⟨fun _ => ?_, fun q => absurd rfl q⟩, fun q => absurd q one_ne⟩) (fun hn2 => ⟨fun q => absurd rfl q, fun _ => fails_1 e0 one_ne ⟨fun q => absurd q one_ne, fun _ => bad (by unfold opBalance; rw [hn, hn2])⟩⟩)⟩) (fun hn => ⟨fun _ => fails_1 e0 one_ne ⟨fun q => absurd q one_ne, fun _ => bad (by unfold opBalance; rw [hn])⟩, fun q => absurd rfl q⟩)
  have e : opBalance h n x = (0, balk (vp h i) (oL (vp h i)) j) := by unfold opBalance; rw [hn, hn2]
  rw [e] at hK
  subst hx hx2
  refine find_ok m0 hi (fun τ mt mv et => ⟨vp_in_nI (by omega) (by omega), ?_⟩)
  rw [cl_nI (show j < 2 ^ 31 by omega), mv.2.2.2 j hj]
  exact hK τ mt (et.trans e0)
theorem k_submit {K : Int32 → Sg → Prop} {x y a : Int32} (m : MI h σ) (hK : ∀ τ, MI (opSubmit h x y a).2.2 τ → τ.1 0 0 = nI (opSubmit h x y a).1 → K (opSubmit h x y a).2.1 τ) : sp_X8_submit x y a σ K := by
  obtain ⟨m0, e0⟩ := mi_err m 0
  obtain ⟨n1, n2, n3, n4, n5, n6⟩ := mi_n m0
  have ne2 : ¬ (2 : Int32) = 0 := by decide
  have bad : opSubmit h x y a = (1, 0, h) → K 0 (pI (pI σ 0 0 0) 0 0 1) := fun e => by
    rw [e] at hK
    obtain ⟨m1, e1⟩ := mi_err m0 1
    exact hK _ m1 e1
  unfold sp_X8_submit vc_X8_submit f_X8_submit_e f_X8_submit_33 f_X8_submit_38 f_X8_submit_62 f_X8_submit_69
  refine mnode_ok (by omega) (by omega) n1 (fun i hi hx hn => ⟨fun q => absurd q one_ne, fun _ => mnode_ok (by omega) (by omega) n1 (fun j hj hx2 hn2 => ⟨fun q => absurd q one_ne, fun _ => in_ok (fun b c => ⟨fun _ => fails_0 e0 ⟨fun q => absurd rfl q, fun _ => ?_⟩, fun q => absurd q one_ne⟩) (fun z => ⟨fun q => absurd rfl q, fun _ => fails_1 e0 one_ne ⟨fun _ => bad (by unfold opSubmit; rw [hn, hn2]; exact if_neg z), fun q => absurd q one_ne⟩⟩)⟩) (fun hn2 => ⟨fun _ => fails_1 e0 one_ne ⟨fun _ => bad (by unfold opSubmit; rw [hn, hn2]), fun q => absurd q one_ne⟩, fun q => absurd rfl q⟩)⟩) (fun hn => ⟨fun _ => fails_1 e0 one_ne ⟨fun _ => bad (by unfold opSubmit; rw [hn]), fun q => absurd q one_ne⟩, fun q => absurd rfl q⟩)
  have e : opSubmit h x y a = if hwn h i = 8 then (2, 0, h) else (0, nI (hwn h i + 1), hwj h i y a) := by unfold opSubmit; rw [hn, hn2]; exact if_pos ⟨b, c⟩
  subst hx
  have vi : vp_in (nI i) 8 := vp_in_nI (by omega) (by omega)
  have ci : (nI i).toNatClampNeg = i := cl_nI (by omega)
  have hw8 := (m0.1.1.2.2.2.2.2.2 i (by omega))
  obtain ⟨w1, w2⟩ := m0.2.2.1 i hi
  rw [ci, w1]
  have e8 : nI (hwn h i) = 8 ↔ hwn h i = 8 := nI_eq (b := 8) (by omega) (by decide)
  refine ⟨vi, fun q => fails_0 e0 ⟨fun _ => ?_, fun q2 => absurd rfl q2⟩, fun q => fails_1 e0 ne2 ⟨fun q2 => absurd q2 one_ne, fun _ => ?_⟩⟩
  · have q' : ¬ hwn h i = 8 := fun z => q (e8.mpr z)
    rw [e, if_neg q'] at hK
    rw [w1, mi8, cl_nI (show i * 8 + hwn h i < 2 ^ 31 by omega)]
    obtain ⟨τ, hτ⟩ : ∃ z, z = pI σ 0 0 0 := ⟨_, rfl⟩
    rw [← hτ] at m0 e0 w1 w2 n1 n4 ⊢
    have g1 : (pI τ 11 (i * 8 + hwn h i) y).1 10 i = nI (hwn h i) := by rw [pI_ne _ _ _ (by decide)]; exact w1
    rw [g1, mi8, cl_nI (show i * 8 + hwn h i < 2 ^ 31 by omega)]
    have g2 : (pI (pI τ 11 (i * 8 + hwn h i) y) 12 (i * 8 + hwn h i) a).1 10 i = nI (hwn h i) := by rw [pI_ne _ _ _ (by decide)]; exact g1
    rw [g2, nI_1]
    have v64 : vp_in (nI (i * 8 + hwn h i)) 64 := vp_in_nI (by omega) (by omega)
    refine ⟨vi, v64, vi, v64, vi, vi, hK _ ?_ ?_⟩
    · obtain ⟨φ, hφ⟩ : ∃ z, z = pI (pI (pI τ 11 (i * 8 + hwn h i) y) 12 (i * 8 + hwn h i) a) 10 i (nI (hwn h i + 1)) := ⟨_, rfl⟩
      rw [← hφ]
      have F : Fr [10, 11, 12] τ φ := by rw [hφ]; exact Fr_pI (Fr_pI (Fr_pI (Fr.refl _ _) (by decide)) (by decide)) (by decide)
      obtain ⟨a1, a2, a3, a4, a5, a6⟩ := m0
      have k0 := (F 0 (by decide)).1
      have ME2 : ME h φ := a1.fr F (by decide) (by rw [k0]) (by rw [k0])
      have hy : vp_in y 8 := by rw [hx2]; exact vp_in_nI (by omega) (by omega)
      refine ⟨⟨hc_wj a1.1 hi (by omega) hy, ME2.2⟩, ?_, fun k hk => ?_, ?_, a5, ?_⟩
      · unfold MH; rw [(F 15 (by decide)).1]; exact a2
      · have hk : k < gn (hg h) := hk
        show φ.1 10 k = nI (uN (hwn h) i (hwn h i + 1) k) ∧ ∀ j, j < uN (hwn h) i (hwn h i + 1) k → φ.1 11 (k * 8 + j) = uN (hwt h) i (uN (hwt h i) (hwn h i) y) k j ∧ φ.1 12 (k * 8 + j) = uN (hwa h) i (uN (hwa h i) (hwn h i) a) k j
        have p10 : φ.1 10 k = if k = i then nI (hwn h i + 1) else τ.1 10 k := by
          rw [hφ, pI_at]
          by_cases e : k = i
          · rw [if_pos ⟨rfl, e⟩, if_pos e]
          · rw [if_neg (fun z => e z.2), if_neg e, pI_ne _ _ _ (by decide), pI_ne _ _ _ (by decide)]
        have p11 : ∀ z, φ.1 11 z = if z = i * 8 + hwn h i then y else τ.1 11 z := fun z => by
          rw [hφ, pI_ne _ _ _ (by decide), pI_ne _ _ _ (by decide), pI_at]
          by_cases e : z = i * 8 + hwn h i
          · rw [if_pos ⟨rfl, e⟩, if_pos e]
          · rw [if_neg (fun w => e w.2), if_neg e]
        have p12 : ∀ z, φ.1 12 z = if z = i * 8 + hwn h i then a else τ.1 12 z := fun z => by
          rw [hφ, pI_ne _ _ _ (by decide), pI_at, pI_ne _ _ _ (by decide)]
          by_cases e : z = i * 8 + hwn h i
          · rw [if_pos ⟨rfl, e⟩, if_pos e]
          · rw [if_neg (fun w => e w.2), if_neg e]
        by_cases ek : k = i
        · subst ek
          rw [p10, if_pos rfl, uN_at, uN_at, uN_at]
          refine ⟨rfl, fun j hj => ?_⟩
          rw [p11, p12]
          by_cases ej : j = hwn h k
          · subst ej
            rw [if_pos rfl, if_pos rfl, uN_at, uN_at]
            exact ⟨rfl, rfl⟩
          · rw [if_neg (by omega), if_neg (by omega), uN_ne _ _ ej, uN_ne _ _ ej]
            exact w2 j (by omega)
        · rw [p10, if_neg ek, uN_ne _ _ ek, uN_ne _ _ ek, uN_ne _ _ ek]
          obtain ⟨z1, z2⟩ := a3 k hk
          refine ⟨z1, fun j hj => ?_⟩
          have := (a1.1.2.2.2.2.2.2 k (by omega)).1
          rw [p11, p12, if_neg (by omega), if_neg (by omega)]
          exact z2 j hj
      · unfold MLt; rw [(F 9 (by decide)).1]; exact a4
      · unfold MVw
        rw [k0, (F 20 (by decide)).1, (F 21 (by decide)).1, (F 22 (by decide)).1, (F 26 (by decide)).2, (F 23 (by decide)).1, (F 24 (by decide)).1]
        exact a6
    · rw [pI_ne _ _ _ (by decide), pI_ne _ _ _ (by decide), pI_ne _ _ _ (by decide)]
      exact e0
  · rw [e, if_pos (e8.mp q)] at hK
    obtain ⟨m1, e1⟩ := mi_err m0 2
    exact hK _ m1 e1
end MOPS
