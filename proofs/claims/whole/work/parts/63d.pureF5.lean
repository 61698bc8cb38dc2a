theorem di_vb {h : Hs} {i : Nat} {σ : Sg} (d : DC h σ) (hi : i < 8) (h0 : σ.1 (45 + 12 * i) 0 = nI i) : Vb (vp h i) (45 + 12 * i) σ := by
  obtain ⟨hC, d0, ⟨eA, eH, eT, eX⟩, ⟨hd0, hd⟩, hG, hE, h7, hW⟩ := d
  exact ⟨by omega, hC.2.2.1, hC.2.1, eA, eH, eT, fun x hx => ⟨(hC.2.2.2.2.1 x hx).1, (eX x hx).1, fun j hj => ⟨((eX x hx).2 j hj).1, ((eX x hx).2 j hj).2, (hC.2.2.2.2.1 x hx).2 j hj⟩⟩, ⟨i, hi, h0, fun x hx => hd i x hi hx⟩, fun x hx => (hC.2.2.2.2.2.1 i x hx).1, hG, hE, h7⟩
theorem fresh_ok {h : Hs} {i : Nat} {σ : Sg} {K : Nat → Sg → Prop} (d : DI h σ) (hi : i < gn (hg h)) (hK : ∀ τ, DI h τ → VF (vp h i) (45 + 12 * i) τ → K (45 + 12 * i) τ) : sp_X7_freshView (nI i) σ K := by
  obtain ⟨d1, d2, d3, d4⟩ := id d
  have hi8 : i < 8 := by have := d1.1.2.2.1.2.2; omega
  obtain ⟨w1, w2, w3⟩ := d4 i hi8
  have ci : (nI i).toNatClampNeg = i := cl_nI (by omega)
  unfold sp_X7_freshView vc_X7_freshView f_X7_freshView_e f_X7_freshView_22
  rw [ci]
  refine ⟨vp_in_nI hi8 (by omega), ⟨i, hi8, rfl⟩, fun c => hK σ d (w3 hi c), fun _ => ?_⟩
  refine ⟨vp h i, di_vb d1 hi8 w1, d1.2.1, fun τ v1 v2 F => hK τ ?_ v1⟩
  have out : ∀ a, (a < 45 + 12 * i ∨ 45 + 12 * i + 12 ≤ a) → τ.1 a = σ.1 a ∧ τ.2 a = σ.2 a := fun a ha => F a (by simp only [List.mem_cons, List.not_mem_nil, or_false]; omega)
  refine ⟨d1.sm (fun a ha => out a ?_), d2, fun k hk => by rw [(out 2 (by omega)).1]; exact d3 k hk, fun j hj => ?_⟩
  · have : ∀ a ∈ LD, a < 45 := by decide
    have := this a ha
    omega
  · by_cases e : j = i
    · subst e
      refine ⟨by rw [v2]; exact w1, ?_, fun _ _ => v1⟩
      rw [v1.2.2.2.2.2]
      exact isZ_0
    · exact (d4 j hj).sm (fun a h1 h2 => out a (by omega))
/-- an int as a node's number, or not -/
theorem node_ok {x : Int32} {σ : Sg} {n : Nat} {K : Int32 → Sg → Prop} (hn : n < 2 ^ 31) (h0 : σ.1 0 6 = nI n) (h1 : ∀ k, k < n → x = nI k → K 1 σ) (h2 : (∀ k, k < n → x ≠ nI k) → K 0 σ) : sp_X7_isNode x σ K := by
  have no : x < 0 → ∀ k, k < n → x ≠ nI k := fun c k hk e => by
    subst e
    exact nI_pos (by omega) c
  refine ⟨fun c => ⟨isZ_0, h2 (no c)⟩, fun c => ?_⟩
  obtain ⟨k, hk, rfl⟩ := nI_of c
  rw [h0]
  refine ⟨fun q => ⟨isZ_0, h2 (fun j hj e => ?_)⟩, fun q => ⟨isZ_1, h1 k ?_ rfl⟩⟩
  · rw [nI_leI hn hk] at q
    rw [nI_eq hk (by omega)] at e
    omega
  · rw [nI_leI hn hk] at q
    omega
theorem event_ok {x : Int32} {σ : Sg} {n : Nat} {K : Int32 → Sg → Prop} (hn : n < 2 ^ 31) (h0 : σ.1 7 10 = nI n) (h1 : ∀ k, k < n → x = nI k → K 1 σ) (h2 : (∀ k, k < n → x ≠ nI k) → K 0 σ) : sp_X7_isEvent x σ K := by
  have no : x < 0 → ∀ k, k < n → x ≠ nI k := fun c k hk e => by
    subst e
    exact nI_pos (by omega) c
  refine ⟨fun c => ⟨isZ_0, h2 (no c)⟩, fun c => ?_⟩
  obtain ⟨k, hk, rfl⟩ := nI_of c
  rw [h0]
  refine ⟨fun q => ⟨isZ_0, h2 (fun j hj e => ?_)⟩, fun q => ⟨isZ_1, h1 k ?_ rfl⟩⟩
  · rw [nI_leI hn hk] at q
    rw [nI_eq hk (by omega)] at e
    omega
  · rw [nI_leI hn hk] at q
    omega
