theorem cnt_split (p q : Nat → Bool) : ∀ n, cnt p n = cnt (fun i => p i && q i) n + cnt (fun i => p i && !q i) n
  | 0 => rfl
  | n + 1 => by
    show cnt p n + (if p n then 1 else 0) = (cnt (fun i => p i && q i) n + (if (p n && q n) then 1 else 0)) + (cnt (fun i => p i && !q i) n + (if (p n && !q n) then 1 else 0))
    rw [cnt_split p q n]
    cases p n <;> cases q n <;> simp <;> omega
theorem frk_cnt {g : Gr} {N x : Nat} (h : POK g N) (hx : x < N) : cnt (fun y => decide (gc g y = gc g x)) x = cnt (frk g x) x + (dep g x - 1) := by
  rw [cnt_split _ (fun y => !sa g x y) x]
  congr 1
  · refine cnt_congr x (fun y hy => ?_)
    have e : sa g y x = false := by
      cases e : sa g y x
      · rfl
      · have := sa_le h (show y < N by omega) e; omega
    unfold frk
    rw [e, decide_eq_true (show x ≠ y by omega), Bool.true_and, Bool.not_false, Bool.and_true]
    congr 1
    exact decide_eq_decide.mpr ⟨fun q => q.symm, fun q => q.symm⟩
  · rw [dep_cnt h x hx]
    have e1 : cnt (sa g x) (x + 1) = cnt (sa g x) x + 1 := by
      show _ + _ = _
      rw [sa_self h hx]
      rfl
    rw [e1, Nat.add_sub_cancel]
    refine cnt_congr x (fun y hy => ?_)
    rw [Bool.not_not]
    cases e : sa g x y
    · rw [Bool.and_false]
    · rw [decide_eq_true (sa_anc h x hx y e).2]
      rfl
theorem FK_le {g : Gr} : ∀ N, FK g N ≤ N * N
  | 0 => Nat.le_refl _
  | N + 1 => by
    have h1 := FK_le (g := g) N
    have h2 := cnt_le (frk g N) N
    show FK g N + cnt (frk g N) N ≤ (N + 1) * (N + 1)
    rw [Nat.add_mul, Nat.mul_add]
    omega
theorem v_X3_take (x1 : Int32) (σ : Sg) (K : Sg → Prop) (h : sp_X3_take x1 σ K) : vc_X3_take x1 σ K := by
  obtain ⟨g, x, rfl, hx, hP, hE, ⟨t1, t2, t3, t4, t5, t6, t7, t8, t9, t10⟩, hK⟩ := h
  have hxx : x < x + 1 := Nat.lt_succ_self x
  have cx : (nI x).toNatClampNeg = x := cl_nI (by omega)
  refine ⟨g, x, rfl, hx, hP, hE, t1, t4, fun σ1 a1 a2 f1 => ?_⟩
  have hc8 := (hP.1 x hxx).1
  have cc : (nI (gc g x)).toNatClampNeg = gc g x := cl_nI (by omega)
  have hE1 : EvA g (x + 1) σ1 := hE.keep f1 (by decide) (by decide) (by decide)
  have hde := dep_eq hP hxx
  have hdl := dep_le hP hxx
  have hfc := frk_cnt hP hxx
  have hcl : cnt (fun y => decide (gc g y = gc g x)) x ≤ x := cnt_le _ _
  have hfl := FK_le (g := g) x
  have hfl2 : x * x ≤ 240 * 240 := Nat.mul_le_mul (by omega) (by omega)
  show f_X3_countForks_e (nI x) (fun u4 => _) σ1
  unfold f_X3_countForks_e
  rw [cx, (hE1 x hxx).1, cc, (f1 22 (by decide)).1, (f1 34 (by decide)).1, t8, t6 _ hc8, a2 x hxx]
  have hv : vp_in (nI (gc g x)) 8 := vp_in_nI hc8 (by omega)
  refine ⟨v240 hx, hv, v240 hx, hv, hv, ?_⟩
  have e1 : nI (dep g x) - 1 = nI (dep g x - 1) := by rw [show (1 : Int32) = nI 1 from rfl, pk_sub (by omega)]
  have e2 : nI (FK g x) + (nI (cnt (fun y => decide (gc g y = gc g x)) x) - (nI (dep g x) - 1)) = nI (FK g (x + 1)) := by
    rw [e1, pk_sub (by omega), nI_add]
    congr 1
    show _ = FK g x + cnt (frk g x) x
    omega
  rw [e2]
  obtain ⟨σ2, hs2⟩ : ∃ z, z = pI (pI σ1 22 12 (nI (FK g (x + 1)))) 34 (gc g x) (((pI σ1 22 12 (nI (FK g (x + 1)))).1 34 (gc g x)) + 1) := ⟨_, rfl⟩
  rw [← hs2]
  have f2 : Fr [22, 34] σ1 σ2 := by rw [hs2]; exact Fr_pI (Fr_pI (Fr.refl _ _) (by decide)) (by decide)
  have m34 : ∀ c, c < 8 → σ2.1 34 c = nI (cnt (fun y => decide (gc g y = c)) (x + 1)) := by
    intro c hc
    have e34 : (pI σ1 22 12 (nI (FK g (x + 1)))).1 34 (gc g x) = nI (cnt (fun y => decide (gc g y = gc g x)) x) := by
      rw [pI_at, if_neg (fun q => absurd q.1 (by decide)), (f1 34 (by decide)).1, t6 _ hc8]
    rw [hs2, e34, pI_at]
    by_cases e : c = gc g x
    · rw [if_pos ⟨rfl, e⟩, nI_1, e]
      congr 1
      show _ = cnt _ x + (if decide (gc g x = gc g x) = true then 1 else 0)
      rw [if_pos (by simp)]
    · rw [if_neg (fun q => e q.2), pI_at, if_neg (fun q => absurd q.1 (by decide)), (f1 34 (by decide)).1, t6 c hc]
      congr 1
      show _ = cnt _ x + (if decide (gc g x = c) = true then 1 else 0)
      rw [if_neg (by simp; exact fun q => e q.symm)]
      rfl
  have g22 : ∀ j, σ2.1 22 j = if j = 12 then nI (FK g (x + 1)) else σ.1 22 j := by
    intro j
    rw [hs2, pI_at, if_neg (fun q => absurd q.1 (by decide)), pI_at]
    by_cases e : j = 12
    · rw [if_pos ⟨rfl, e⟩, if_pos e]
    · rw [if_neg (fun q => e q.2), if_neg e, (f1 22 (by decide)).1]
  have f12 : Fr [22, 24, 31, 34] σ σ2 := (f1.mono (by decide)).trans (f2.mono (by decide))
  clear hs2
  have hE2 : EvA g (x + 1) σ2 := hE.keep f12 (by decide) (by decide) (by decide)
  refine ⟨g, x, rfl, hx, hP, hE2, a1.keep f2 (by decide), a2.keep f2 (by decide), t2.keep f12 (by decide), fun σ3 b1 f3 => ?_⟩
  have f13 : Fr [22, 24, 31, 34, 26, 35, 36] σ σ3 := (f12.mono (by decide)).trans (f3.mono (by decide))
  refine ⟨g, x, rfl, hx, hP, hE.keep f13 (by decide) (by decide) (by decide), b1, t3.keep f13 (by decide), ?_, ?_, fun σ4 c1 f4 => ?_⟩
  · rw [(f3 22 (by decide)).1, g22, if_neg (by decide)]
    exact t7
  · rw [(f13 29 (by decide)).1]
    exact t10
  have f14 : Fr [22, 24, 31, 34, 26, 35, 36, 28, 30] σ σ4 := (f13.mono (by decide)).trans (f4.mono (by decide))
  refine ⟨g, x, rfl, hx, hP, hE.keep f14 (by decide) (by decide) (by decide), c1, t5.keep f14 (by decide) (by decide), ?_, ?_, fun σ5 d1 d2 d3 f5 => ?_⟩
  · rw [(f4 22 (by decide)).1, (f3 22 (by decide)).1, g22, if_neg (by decide)]
    exact t7
  · rw [(f4 22 (by decide)).1, (f3 22 (by decide)).1, g22, if_neg (by decide)]
    exact t9
  have f35 : Fr [22, 32, 33, 28, 30] σ3 σ5 := (f4.mono (by decide)).trans (f5.mono (by decide))
  have f25 : Fr [22, 32, 33, 28, 30, 26, 35, 36] σ2 σ5 := (f3.mono (by decide)).trans (f35.mono (by decide))
  refine hK σ5 ⟨(a1.keep f2 (by decide)).keep f25 (by decide), b1.keep f35 (by decide), c1.keep f5 (by decide), (a2.keep f2 (by decide)).keep f25 (by decide), d1, fun c hc => ?_, ?_, ?_, d2, ?_⟩ ((f14.mono (by decide)).trans (f5.mono (by decide)))
  · rw [(f25 34 (by decide)).1]
    exact m34 c hc
  · rw [d3 11 (by decide), (f4 22 (by decide)).1, (f3 22 (by decide)).1, g22, if_neg (by decide)]
    exact t7
  · rw [d3 12 (by decide), (f4 22 (by decide)).1, (f3 22 (by decide)).1, g22, if_pos rfl]
  · rw [(f5 29 (by decide)).1, (f14 29 (by decide)).1]
    exact t10
