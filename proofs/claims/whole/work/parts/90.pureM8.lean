/-! ===== the model: what is received in a round ===== -/
theorem faF_step {g : Gr} {N : Nat} (hP : POK g N) {m z s : Nat} (hz : z < N) (hs : gs g z = some s) : fa g m z = if anc g s m then fa g m s else z := by
  rw [fa_eq hP m hz, hs]
theorem faF_none {g : Gr} {N : Nat} (hP : POK g N) {m z : Nat} (hz : z < N) (hs : gs g z = none) : fa g m z = z := by
  rw [fa_eq hP m hz, hs]
theorem v_X8_receive (x1 x2 : Int32) (σ : Sg) (K : Sg → Prop) (h : sp_X8_receive x1 x2 σ K) : vc_X8_receive x1 x2 σ K := by
  obtain ⟨H, i, r, rfl, hi, rfl, hr31, hst, hE, hM, hQ, hK⟩ := h
  obtain ⟨hC, hT, hS, hR, hV, h02, hH, hTm, hTx, hpr, hfi⟩ := id hE
  obtain ⟨⟨hN240, hP, hO⟩, hn, hEv, hA, hF⟩ := id hT
  obtain ⟨g, eg⟩ : ∃ g, g = hg H := ⟨_, rfl⟩
  obtain ⟨N, eN⟩ : ∃ N, N = hN H := ⟨_, rfl⟩
  obtain ⟨p, ep⟩ : ∃ p, p = vp H i := ⟨_, rfl⟩
  have pgp : pg p = g := by rw [ep, eg]; rfl
  have pNp : pN p = N := by rw [ep, eN]; rfl
  have phdp : phd p = hhd H i := by rw [ep]; rfl
  have pHs : phs p = hsh H := by rw [ep]; rfl
  have pTm : ptm p = htm H := by rw [ep]; rfl
  rw [← eg, ← eN] at hP hEv hA
  rw [← eg] at hi hn
  rw [← eN] at hN240 h02 hH hTm hR
  rw [← eg] at hR
  rw [← ep] at hst hQ hK
  have hi8 : i < 8 := by have := hP.2.2; omega
  have hPp : POK g (pN p) := by rw [pNp]; exact hP
  intro L8 L32 L54 L99 L146 L195 L246 L358 r8 r32 r54 r99 r146 r195 r246 r358
  obtain ⟨F0, eF⟩ : ∃ F0, F0 = cnt (rq p r 0) N := ⟨_, rfl⟩
  obtain ⟨s1, s2, s3⟩ := stl_iff.mp hst
  have hlot := lot_le (p := p) (pN p)
  have F0le : F0 ≤ N := by rw [eF]; exact cnt_le _ _
  -- every x: what it reads
  have base : ∀ τ : Sg, Fr [0, 21, 23, 25, 26, 27] σ τ → K0 [23] σ τ → τ.1 0 2 = nI N ∧ (∀ a, a ∉ [0, 21, 23, 25, 26, 27] → τ.1 a = σ.1 a ∧ τ.2 a = σ.2 a) := fun τ f k => ⟨by rw [k 2 (by decide)]; exact h02, f⟩
  -- the outer loop
  have l99 : ∀ m, m ≤ N → ∀ τ : Sg, (MQ2 p r m τ ∧ K0 [23] σ τ ∧ Fr [0, 21, 23, 25, 26, 27] σ τ ∧ ∀ w, w < 8 → τ.1 25 w = xr p r w) → L99 (nI F0) (nI m) τ := by
    refine lup (L := fun m τ => L99 (nI F0) (nI m) τ) (fun m τ => MQ2 p r m τ ∧ K0 [23] σ τ ∧ Fr [0, 21, 23, 25, 26, 27] σ τ ∧ ∀ w, w < 8 → τ.1 25 w = xr p r w) N (fun τ ht => ?_) (fun m τ hm ht ih => ?_)
    · obtain ⟨t1, t2, t3, t4⟩ := ht
      have e02 := (base τ t3 t2).1
      refine r99 _ _ _ ?_
      unfold f_X8_receive_99
      rw [e02]
      refine ⟨fun _ => hK τ ?_ t2 t3, fun q => absurd (Int32.le_refl _) q⟩
      have e : ∀ y, y < N → rq p (r + 1) 0 y = rq p r N y := fun y hy => by
        apply bool_ext
        rw [rq_iff, rq_iff]
        constructor
        · rintro ⟨a, b | ⟨c, d⟩⟩
          · by_cases z : rcv p y = r
            · exact ⟨a, Or.inr ⟨z, hy⟩⟩
            · exact ⟨a, Or.inl (by omega)⟩
          · exact absurd d (Nat.not_lt_zero _)
        · rintro ⟨a, b | ⟨c, d⟩⟩
          · exact ⟨a, Or.inl (by omega)⟩
          · exact ⟨a, Or.inl (by omega)⟩
      obtain ⟨q1, q2, q3, q4, q5⟩ := t1
      rw [pNp] at q1 q2 q3 q4 q5
      refine ⟨?_, ?_, ?_, ?_, ?_⟩
      · rw [pNp]; exact q1
      · rw [pNp]
        intro x hx
        rw [e x hx]
        exact q2 x hx
      · rw [pNp]
        intro x hx hq
        rw [e x hx] at hq
        exact q3 x hx hq
      · rw [pNp]
        intro x hx hq
        rw [e x hx] at hq
        have e2 : cnt (fun y => rq p (r + 1) 0 y && decide (key p y < key p x)) N = cnt (fun y => rq p r N y && decide (key p y < key p x)) N := cnt_congr N (fun y hy => by rw [e y hy])
        rw [e2]
        exact q4 x hx hq
      · rw [pNp, q5, cnt_congr N (fun y hy => (e y hy).symm)]
    · obtain ⟨t1, t2, t3, t4⟩ := ht
      obtain ⟨e02, eK⟩ := base τ t3 t2
      have cm : (nI m).toNatClampNeg = m := cl_nI (by omega)
      have vm := v240 (show m < 240 by omega)
      have eh : τ.1 15 (i * 240 + m) = bI (phd p m) := by rw [(eK 15 (by decide)).1, hM i m hi8 (by omega), phdp]
      -- nothing to be done
      have skip : ¬ (inR p m = true ∧ rcv p m = r) → ∀ τ2 : Sg, Fr [27] τ τ2 → L99 (nI F0) (nI m + 1) τ2 := fun hne τ2 f2 => by
        rw [nI_1]
        refine ih τ2 ⟨?_, fun j hj => ?_, t3.trans (f2.mono (by decide)), fun w hw => ?_⟩
        · have t1' : MQ2 p r (m + 1) τ := by
            unfold MQ2 at t1 ⊢
            rw [rq_same hne]
            exact t1
          exact t1'.fr f2 (by decide) (by rw [(f2 0 (by decide)).1])
        · rw [(f2 0 (by decide)).1]; exact t2 j hj
        · rw [(f2 25 (by decide)).1]; exact t4 w hw
      refine r99 _ _ _ ?_
      unfold f_X8_receive_99
      rw [e02, mi240, cl_nI (show i * 240 + m < 2 ^ 31 by omega), eh, cm]
      obtain ⟨q1, q2, q3, q4, q5⟩ := id t1
      rw [pNp] at q1 q2 q3 q4 q5
      refine ⟨fun q => absurd q (nI_ge hm (by omega)), fun _ => ⟨vp_in_nI (by omega) (by omega), fun c => ?_, fun c => ⟨vm, fun d => ?_, fun d => ?_⟩⟩⟩
      · rw [bI_0] at c
        exact skip (fun z => by have := inR_hd z.1; rw [c] at this; cases this) τ (Fr.refl _ _)
      · rw [bI_1] at c
        rw [q2 m hm] at d
        have hrq : rq p r m m = false := by
          cases z : rq p r m m
          · rfl
          · rw [z] at d
            have z1 := (rq_iff.mp z).1
            have z2 := inR_iff.mp z1
            have z3 := rcv_le (p := p) m
            have d' : nI (rcv p m) = nI 0 := d
            exact absurd ((nI_eq (by omega) (by decide)).mp d') z2
        have hn2 : ¬ (inR p m = true ∧ rcv p m < r) := fun z => by
          have := (rq_iff (p := p) (r := r) (m := m) (y := m)).mpr ⟨z.1, Or.inl z.2⟩
          rw [hrq] at this
          cases this
        -- put into the order
        have put : rcv p m = r → inR p m = true → ∀ τ2 : Sg, Fr [27] τ τ2 → τ2.2 27 (uc p r / 2) = stp p m → L358 (nI F0) (nI m) (((pJ (pI τ2 21 m (nI r)) 26 m ((pI τ2 21 m (nI r)).2 27 (uc p r / 2)))).1 0 23) (pI (pJ (pI τ2 21 m (nI r)) 26 m ((pI τ2 21 m (nI r)).2 27 (uc p r / 2))) 0 23 ((((pJ (pI τ2 21 m (nI r)) 26 m ((pI τ2 21 m (nI r)).2 27 (uc p r / 2)))).1 0 23) + 1)) := by
          intro hrm him τ2 f2 h27
          have e27 : (pI τ2 21 m (nI r)).2 27 (uc p r / 2) = stp p m := h27
          have C240 : cnt (rq p r m) N < N := by
            have := cnt_lt (p := rq p r m) (q := fun _ => true) (n := N) (fun _ _ _ => rfl) hm hrq rfl
            have := cnt_le (fun _ => true) N
            omega
          obtain ⟨C, eC⟩ : ∃ C, C = cnt (rq p r m) N := ⟨_, rfl⟩
          rw [← eC] at q5 C240
          have e23 : (pJ (pI τ2 21 m (nI r)) 26 m (stp p m)).1 0 23 = nI C := by
            rw [pJ_I, pI_ne _ _ _ (by decide), (f2 0 (by decide)).1]
            exact q5
          rw [e27, e23, nI_1]
          obtain ⟨ρ, hρ⟩ : ∃ z, z = pI (pJ (pI τ2 21 m (nI r)) 26 m (stp p m)) 0 23 (nI (C + 1)) := ⟨_, rfl⟩
          rw [← hρ]
          have Fρ : Fr [0, 21, 26] τ2 ρ := by rw [hρ]; exact Fr_pI (Fr_pJ (Fr_pI (Fr.refl _ _) (by decide)) (by decide)) (by decide)
          have Kρ : K0 [23] τ2 ρ := by
            rw [hρ]
            refine K0_pI ?_ (by decide)
            intro j hj
            rw [pJ_I, pI_ne _ _ _ (by decide)]
          have ρ23 : ρ.1 0 23 = nI (C + 1) := by rw [hρ, pI_at, if_pos ⟨rfl, rfl⟩]
          have ρ21 : ∀ x, ρ.1 21 x = if x = m then nI r else τ.1 21 x := fun x => by
            rw [hρ, pI_ne _ _ _ (by decide), pJ_I, pI_at, (f2 21 (by decide)).1]
            by_cases e : x = m
            · rw [if_pos ⟨rfl, e⟩, if_pos e]
            · rw [if_neg (fun z => e z.2), if_neg e]
          have ρ26 : ∀ x, ρ.2 26 x = if x = m then stp p m else τ.2 26 x := fun x => by
            rw [hρ, pI_J, pJ_at, pI_J, (f2 26 (by decide)).2]
            by_cases e : x = m
            · rw [if_pos ⟨rfl, e⟩, if_pos e]
            · rw [if_neg (fun z => e z.2), if_neg e]
          have ρl : ρ.1 23 = τ.1 23 := by rw [(Fρ 23 (by decide)).1, (f2 23 (by decide)).1]
          have hins := rq_ins him hrm
          -- the place of m
          obtain ⟨R, eR⟩ : ∃ R, R = rk p (rq p r m) N m := ⟨_, rfl⟩
          have RC : R ≤ C := by rw [eR, eC]; exact cnt_mono N (fun z _ hz => by rw [Bool.and_eq_true] at hz; exact hz.1)
          have k_lt : ∀ z, rcv p z < r → z < N → key p z < key p m := fun z hz hzN => (key_lt (p := p) (show z < 256 by omega) (show m < 256 by omega)).mpr (Or.inl (by rw [hrm]; exact hz))
          have RF : F0 ≤ R := by
            rw [eF, eR]
            refine cnt_mono N (fun z hz hq => ?_)
            obtain ⟨a, b | ⟨-, b⟩⟩ := rq_iff.mp hq
            · rw [Bool.and_eq_true, decide_eq_true_eq]
              exact ⟨rq_iff.mpr ⟨a, Or.inl b⟩, k_lt z b hz⟩
            · exact absurd b (Nat.not_lt_zero _)
          -- the end of it
          have fin : ∀ τ3 : Sg, (∀ j, τ3.1 23 j = if R < j ∧ j ≤ C then τ.1 23 (j - 1) else τ.1 23 j) → Fr [23] ρ τ3 → f_X8_receive_404 (nI i) (nI r) L8 L32 L54 L99 L146 L195 L246 L358 K (nI F0) (nI m) (nI R) τ3 := by
            intro τ3 h3 f3'
            unfold f_X8_receive_404 f_X8_receive_413
            rw [cl_nI (show R < 2 ^ 31 by omega), nI_1]
            obtain ⟨τ4, h4⟩ : ∃ z, z = pI τ3 23 R (nI m) := ⟨_, rfl⟩
            rw [← h4]
            have f4 : Fr [23] τ3 τ4 := by rw [h4]; exact Fr_pI (Fr.refl _ _) (by decide)
            have Fall : Fr [0, 21, 23, 26, 27] τ τ4 := (f2.mono (by decide)).trans ((Fρ.mono (by decide)).trans ((f3'.mono (by decide)).trans (f4.mono (by decide))))
            have k4 : τ4.1 0 = ρ.1 0 := by rw [(f4 0 (by decide)).1, (f3' 0 (by decide)).1]
            refine ⟨v240 (by omega), ih τ4 ⟨⟨?_, ?_, ?_, ?_, ?_⟩, fun j hj => ?_, t3.trans (Fall.mono (by decide)), fun w hw => ?_⟩⟩
            · rw [pNp]
              intro x hx
              rw [(Fall 20 (by decide)).1]
              exact q1 x hx
            · rw [pNp]
              intro x hx
              rw [(f4 21 (by decide)).1, (f3' 21 (by decide)).1, ρ21, hins]
              show _ = if (rq p r m x || decide (x = m)) = true then nI (rcv p x) else 0
              by_cases e : x = m
              · subst e
                rw [if_pos rfl, decide_eq_true rfl, Bool.or_true, if_pos rfl, hrm]
              · rw [if_neg e, decide_eq_false e, Bool.or_false]
                exact q2 x hx
            · rw [pNp]
              intro x hx hq
              rw [hins] at hq
              rw [(f4 26 (by decide)).2, (f3' 26 (by decide)).2, ρ26]
              by_cases e : x = m
              · subst e
                rw [if_pos rfl]
              · rw [if_neg e]
                have hq : (rq p r m x || decide (x = m)) = true := hq
                rw [decide_eq_false e, Bool.or_false] at hq
                exact q3 x hx hq
            · rw [pNp]
              intro y hy hq
              show τ4.1 23 (rk p (rq p r (m + 1)) N y) = nI y
              rw [hins, rk_ins hrq hm, h4, pI_at]
              by_cases e : y = m
              · subst e
                rw [if_neg (Nat.lt_irrefl _), Nat.add_zero, ← eR, if_pos ⟨rfl, rfl⟩]
              · rw [hins] at hq
                have hq : (rq p r m y || decide (y = m)) = true := hq
                rw [decide_eq_false e, Bool.or_false] at hq
                have l2 := rk_lt (p := p) (q := rq p r m) hy hq
                rw [← eC] at l2
                by_cases hk2 : key p m < key p y
                · have h1 := rk_mono (p := p) (q := rq p r m) (M := N) (Nat.le_of_lt hk2)
                  rw [← eR] at h1
                  rw [if_pos hk2, if_neg (fun z => by omega), h3, if_pos ⟨by omega, by omega⟩, Nat.add_sub_cancel]
                  exact q4 y hy hq
                · have hne : key p y ≠ key p m := fun z => e (key_inj (p := p) (by omega) (by omega) z)
                  have h1 := rk_slt (p := p) (q := rq p r m) (M := N) hy hq (show key p y < key p m by omega)
                  rw [← eR] at h1
                  rw [if_neg hk2, Nat.add_zero, if_neg (fun z => by omega), h3, if_neg (by omega)]
                  exact q4 y hy hq
            · rw [pNp, hins, cnt_ins1 hrq hm, ← eC, k4]
              exact ρ23
            · rw [k4, Kρ j hj, (f2 0 (by decide)).1]
              exact t2 j hj
            · rw [(Fall 25 (by decide)).1]
              exact t4 w hw
          have cb : ∀ (k : Nat) (y : Nat) (τ3 : Sg) (G : Int32 → Sg → Prop), y < N → rq p r m y = true → rk p (rq p r m) N y = k → F0 ≤ k → Fr [23] ρ τ3 → G (bI (decide (key p m < key p y))) τ3 → sp_X8_comesBefore (nI m) (nI y) τ3 G := by
            intro k y τ3 G hy hq hk hF3 f3' hG
            have ry : rcv p y = r := by
              obtain ⟨a, b | ⟨b, -⟩⟩ := rq_iff.mp hq
              · have h1 : rk p (rq p r m) N y < F0 := by
                  rw [eF]
                  unfold rk
                  refine cnt_lt (k := y) (fun z hz hzq => ?_) hy (by rw [decide_eq_false (Nat.lt_irrefl _), Bool.and_false]) (rq_iff.mpr ⟨a, Or.inl b⟩)
                  rw [Bool.and_eq_true, decide_eq_true_eq] at hzq
                  obtain ⟨z1, z2⟩ := hzq
                  refine rq_iff.mpr ⟨(rq_iff.mp z1).1, Or.inl ?_⟩
                  rcases (key_lt (p := p) (show z < 256 by omega) (show y < 256 by omega)).mp z2 with z3 | ⟨z3, -⟩ <;> omega
                omega
              · exact b
            refine ⟨p, m, y, r, rfl, rfl, by omega, by omega, by omega, hrm, ry, ?_, ?_, fun z w hz hw => ?_, fun w hw => ?_, hG⟩
            · rw [(f3' 26 (by decide)).2, ρ26, if_pos rfl]
            · rw [(f3' 26 (by decide)).2, ρ26]
              by_cases e : y = m
              · subst e; rw [if_pos rfl]
              · rw [if_neg e]; exact q3 y hy hq
            · rw [(f3' 8 (by decide)).1, (Fρ 8 (by decide)).1, (f2 8 (by decide)).1, (eK 8 (by decide)).1, pHs]
              exact hH z w (by omega) hw
            · rw [(f3' 25 (by decide)).1, (Fρ 25 (by decide)).1, (f2 25 (by decide)).1]
              exact t4 w hw
          have shift : ∀ d k, k = R + d → k ≤ C → ∀ τ3 : Sg, (∀ j, τ3.1 23 j = if k < j ∧ j ≤ C then τ.1 23 (j - 1) else τ.1 23 j) → Fr [23] ρ τ3 → L358 (nI F0) (nI m) (nI k) τ3 := by
            intro d
            induction d with
            | zero =>
              intro k hk hkC τ3 h3 f3'
              have hk : k = R := hk
              have fin' := fin τ3 (by rw [← hk]; exact h3) f3'
              rw [← hk] at fin'
              refine r358 _ _ _ _ ⟨fun _ => fin', fun c => ?_⟩
              have hkF : F0 < k := by
                apply Classical.byContradiction
                intro z
                exact c (nI_le (by omega) (by omega))
              obtain ⟨y, hy1, hy2, hy3⟩ := rk_surj (p := p) (rq p r m) N (by omega) (k - 1) (by omega)
              have e1 : nI k - 1 = nI (k - 1) := by rw [show (1 : Int32) = nI 1 from rfl, pk_sub (by omega)]
              have ey : τ3.1 23 (nI (k - 1)).toNatClampNeg = nI y := by rw [cl_nI (by omega), h3, if_neg (by omega), ← hy3]; exact q4 y hy1 hy2
              rw [e1, ey]
              have hnk : ¬ key p m < key p y := fun z => by
                have := rk_mono (p := p) (q := rq p r m) (M := N) (Nat.le_of_lt z)
                omega
              refine ⟨v240 (by omega), cb (k - 1) y τ3 _ hy1 hy2 hy3 (by omega) f3' ?_⟩
              rw [decide_eq_false hnk]
              exact ⟨fun _ => fin', fun q => absurd rfl q⟩
            | succ d ihd =>
              intro k hk hkC τ3 h3 f3'
              obtain ⟨y, hy1, hy2, hy3⟩ := rk_surj (p := p) (rq p r m) N (by omega) (k - 1) (by omega)
              have e1 : nI k - 1 = nI (k - 1) := by rw [show (1 : Int32) = nI 1 from rfl, pk_sub (by omega)]
              have ck1 : (nI (k - 1)).toNatClampNeg = k - 1 := cl_nI (by omega)
              have ey : τ3.1 23 (k - 1) = nI y := by rw [h3, if_neg (by omega), ← hy3]; exact q4 y hy1 hy2
              have hnk : key p m < key p y := by
                apply Classical.byContradiction
                intro z
                have hym : y ≠ m := fun e => by rw [e, hrq] at hy2; cases hy2
                have hne : key p y ≠ key p m := fun e => hym (key_inj (p := p) (by omega) (by omega) e)
                have := rk_slt (p := p) (q := rq p r m) (M := N) hy1 hy2 (show key p y < key p m by omega)
                omega
              refine r358 _ _ _ _ ?_
              unfold f_X8_receive_358
              rw [e1, ck1, ey]
              refine ⟨fun c => absurd c (nI_ge (by omega) (by omega)), fun _ => ⟨v240 (by omega), cb (k - 1) y τ3 _ hy1 hy2 hy3 (by omega) f3' ?_⟩⟩
              rw [decide_eq_true hnk]
              refine ⟨fun q => absurd q (by decide), fun _ => ⟨v240 (by omega), v240 (by omega), ?_⟩⟩
              have em : nI k + (-1) = nI (k - 1) := by
                rw [show k = (k - 1) + 1 by omega, pk_m1, Nat.add_sub_cancel]
              show L358 (nI F0) (nI m) (nI k + (-1)) (pI τ3 23 (nI k).toNatClampNeg (τ3.1 23 (k - 1)))
              rw [em, cl_nI (show k < 2 ^ 31 by omega)]
              refine ihd (k - 1) (by omega) (by omega) _ (fun j => ?_) (Fr_pI f3' (by decide))
              rw [pI_at]
              by_cases e : j = k
              · rw [if_pos ⟨rfl, e⟩, if_pos ⟨by omega, by omega⟩, e, h3, if_neg (by omega)]
              · rw [if_neg (fun z => e z.2), h3 j]
                by_cases e2 : k < j ∧ j ≤ C
                · rw [if_pos e2, if_pos ⟨by omega, e2.2⟩]
                · rw [if_neg e2, if_neg (by omega)]
          exact shift (C - R) C (by omega) (Nat.le_refl _) ρ (fun j => by rw [if_neg (by omega), ρl]) (Fr.refl _ _)
        -- over the unique ones
        have l146 : ∀ u, u ≤ N → ∀ z : (Nat × Bool) × Sg, (z.1.1 ≤ u ∧ Fr [27] τ z.2 ∧ (z.1.2 = true → (∀ u', u' < u → ur p r u' = true → anc g u' m = true) ∧ z.1.1 = cnt (ur p r) u ∧ ∀ j, j < z.1.1 → z.2.2 27 j = srt p r m u j) ∧ (z.1.2 = false → ∃ u', u' < u ∧ ur p r u' = true ∧ anc g u' m = false)) → L146 (nI F0) (nI m) (nI z.1.1) (bI z.1.2) (nI u) z.2 := by
          refine lup (S := (Nat × Bool) × Sg) (L := fun u z => L146 (nI F0) (nI m) (nI z.1.1) (bI z.1.2) (nI u) z.2) (fun u z => z.1.1 ≤ u ∧ Fr [27] τ z.2 ∧ (z.1.2 = true → (∀ u', u' < u → ur p r u' = true → anc g u' m = true) ∧ z.1.1 = cnt (ur p r) u ∧ ∀ j, j < z.1.1 → z.2.2 27 j = srt p r m u j) ∧ (z.1.2 = false → ∃ u', u' < u ∧ ur p r u' = true ∧ anc g u' m = false)) N (fun z ht => ?_) (fun u z hu ht ih2 => ?_)
          · obtain ⟨⟨cc, a⟩, τ2⟩ := z
            obtain ⟨b1, b2, b3, b4⟩ := ht
            have b1 : cc ≤ N := b1
            have b3 : a = true → (∀ u', u' < N → ur p r u' = true → anc g u' m = true) ∧ cc = cnt (ur p r) N ∧ ∀ j, j < cc → τ2.2 27 j = srt p r m N j := b3
            have b4 : a = false → ∃ u', u' < N ∧ ur p r u' = true ∧ anc g u' m = false := b4
            have b2 : Fr [27] τ τ2 := b2
            show L146 (nI F0) (nI m) (nI cc) (bI a) (nI N) τ2
            have e02' : τ2.1 0 2 = nI N := by rw [(b2 0 (by decide)).1]; exact e02
            refine r146 _ _ _ _ _ _ ?_
            unfold f_X8_receive_146
            have ed : nI cc / 2 = nI (cc / 2) := pk_div (d := 2) (by omega) (by decide) (by decide)
            rw [e02', ed, cm, cl_nI (show cc / 2 < 2 ^ 31 by omega)]
            refine ⟨fun _ => ⟨fun q => ⟨vm, v240 (by omega), vm, ?_⟩, fun q => ?_⟩, fun q => absurd (Int32.le_refl _) q⟩
            · rw [bI_1] at q
              obtain ⟨c1, c2, c3⟩ := b3 q
              have hb : bel p r m = true := by
                unfold bel
                cases z : anyN (fun u => ur p r u && !anc (pg p) u m) (pN p)
                · rfl
                · obtain ⟨u', h1, h2⟩ := (anyN_iff _ _).mp z
                  rw [Bool.and_eq_true, pgp] at h2
                  rw [c1 u' (by omega) h2.1] at h2
                  exact absurd h2.2 (by decide)
              have hrm := rcv_is (p := p) (by rw [c]) hst hb hn2
              have him : inR p m = true := inR_iff.mpr (by omega)
              have euc : cc = uc p r := by rw [c2]; unfold uc; rw [pNp]
              rw [euc]
              refine put hrm him τ2 b2 ?_
              rw [c3 (uc p r / 2) (by omega)]
              unfold stp
              rw [hrm, pNp]
            · rw [bI_0] at q
              obtain ⟨u', h1, h2, h3⟩ := b4 q
              refine skip (fun z => ?_) τ2 b2
              have hb := (rcv_bel z.1).2
              rw [z.2] at hb
              unfold bel at hb
              have : anyN (fun u => ur p r u && !anc (pg p) u m) (pN p) = true := (anyN_iff _ _).mpr ⟨u', by omega, by rw [h2, pgp, h3]; rfl⟩
              rw [this] at hb
              cases hb
          · obtain ⟨⟨cc, a⟩, τ2⟩ := z
            obtain ⟨b1, b2, b3, b4⟩ := ht
            have b1 : cc ≤ u := b1
            have b3 : a = true → (∀ u', u' < u → ur p r u' = true → anc g u' m = true) ∧ cc = cnt (ur p r) u ∧ ∀ j, j < cc → τ2.2 27 j = srt p r m u j := b3
            have b4 : a = false → ∃ u', u' < u ∧ ur p r u' = true ∧ anc g u' m = false := b4
            have b2 : Fr [27] τ τ2 := b2
            have ih2 : ∀ z : (Nat × Bool) × Sg, (z.1.1 ≤ u + 1 ∧ Fr [27] τ z.2 ∧ (z.1.2 = true → (∀ u', u' < u + 1 → ur p r u' = true → anc g u' m = true) ∧ z.1.1 = cnt (ur p r) (u + 1) ∧ ∀ j, j < z.1.1 → z.2.2 27 j = srt p r m (u + 1) j) ∧ (z.1.2 = false → ∃ u', u' < u + 1 ∧ ur p r u' = true ∧ anc g u' m = false)) → L146 (nI F0) (nI m) (nI z.1.1) (bI z.1.2) (nI (u + 1)) z.2 := ih2
            show L146 (nI F0) (nI m) (nI cc) (bI a) (nI u) τ2
            have e02' : τ2.1 0 2 = nI N := by rw [(b2 0 (by decide)).1]; exact e02
            have eK2 : ∀ x, x ∉ [0, 21, 23, 25, 26, 27] → τ2.1 x = σ.1 x ∧ τ2.2 x = σ.2 x := fun x hx => by
              have hx2 : x ∉ [27] := fun z => hx (by simp only [List.mem_cons, List.not_mem_nil, or_false] at z ⊢; omega)
              exact ⟨(b2 x hx2).1.trans (eK x hx).1, (b2 x hx2).2.trans (eK x hx).2⟩
            refine r146 _ _ _ _ _ _ ?_
            unfold f_X8_receive_146
            rw [e02']
            refine ⟨fun q => absurd q (nI_ge hu (by omega)), fun _ => isU_ok pgp hPp (by omega) (by omega) hr31 ?_ ?_ ⟨fun q => ⟨?_, fun q2 => ?_, fun q2 => ?_⟩, fun q => ?_⟩⟩
            · rw [(b2 20 (by decide)).1]; exact q1 u (by omega)
            · rw [(eK2 7 (by decide)).1]; exact (hR u hu).1
            · rw [mi240]; exact v57 (by omega) (by omega)
            · -- it counts
              rw [bI_1] at q
              rw [mi240, cl_nI (show u * 240 + m < 2 ^ 31 by omega), (eK2 14 (by decide)).1, hA u m (by omega) (by omega), if_pos hu, bI_1] at q2
              have q2 : anc g u m = true := q2
              -- the place of a time
              have inner : ∀ k, k ≤ 239 → ∀ (y : Nat), y < N → ∀ τ3 : Sg, Fr [27] τ τ3 → L146 (nI F0) (nI m) (nI (cc + 1)) (bI a) (nI (u + 1)) (pS τ3 27 (insA (τ3.2 27) k (ptm p y))) → L246 (nI F0) (nI m) (nI (cc + 1)) (bI a) (nI u) (nI y) (nI k) τ3 := by
                intro k
                induction k with
                | zero =>
                  intro _ y hy τ3 f3' hL
                  have e13 : τ3.2 13 y = ptm p y := by rw [(f3' 13 (by decide)).2, (eK 13 (by decide)).2, hTm y hy, pTm]
                  refine r246 _ _ _ _ _ _ _ _ ⟨fun _ => ⟨v240 (by omega), v240 (by omega), ?_⟩, fun c => absurd (Int32.le_refl _) c⟩
                  show L146 (nI F0) (nI m) (nI (cc + 1)) (bI a) (nI u + 1) (pJ τ3 27 0 (τ3.2 13 (nI y).toNatClampNeg))
                  rw [cl_nI (show y < 2 ^ 31 by omega), e13, pJ_eq, nI_1]
                  exact hL
                | succ k ihk =>
                  intro hk8 y hy τ3 f3' hL
                  have hL : L146 (nI F0) (nI m) (nI (cc + 1)) (bI a) (nI (u + 1)) (pS τ3 27 (if τ3.2 27 k ≤ ptm p y then vp_updL (τ3.2 27) (k + 1) (ptm p y) else insA (vp_updL (τ3.2 27) (k + 1) (τ3.2 27 k)) k (ptm p y))) := hL
                  have e13 : τ3.2 13 y = ptm p y := by rw [(f3' 13 (by decide)).2, (eK 13 (by decide)).2, hTm y hy, pTm]
                  have e1 : nI (k + 1) - 1 = nI k := nI_pred k
                  have ck : (nI k).toNatClampNeg = k := cl_nI (by omega)
                  have cy : (nI y).toNatClampNeg = y := cl_nI (by omega)
                  refine r246 _ _ _ _ _ _ _ _ ?_
                  unfold f_X8_receive_246 f_X8_receive_293 f_X8_receive_307
                  rw [e1, ck, cy, e13, lg_cmp_le, nI_1]
                  refine ⟨fun c => absurd c (nI_ge (a := 0) (b := k + 1) (by omega) (by omega)), fun _ => ⟨v240 (by omega), v240 (by omega), fun c => ⟨v240 (by omega), v240 (by omega), ?_⟩, fun c => ⟨v240 (by omega), v240 (by omega), ?_⟩⟩⟩
                  · rw [if_pos c] at hL
                    rw [cl_nI (by omega), pJ_eq]
                    exact hL
                  · rw [if_neg c] at hL
                    rw [pk_m1, cl_nI (by omega), pJ_eq]
                    refine ihk (by omega) y hy _ (Fr_pS f3' (by decide)) ?_
                    have e : pS (pS τ3 27 (vp_updL (τ3.2 27) (k + 1) (τ3.2 27 k))) 27 (insA ((pS τ3 27 (vp_updL (τ3.2 27) (k + 1) (τ3.2 27 k))).2 27) k (ptm p y)) = pS τ3 27 (insA (vp_updL (τ3.2 27) (k + 1) (τ3.2 27 k)) k (ptm p y)) := by
                      rw [pS_self]
                      refine sg_ext (fun _ _ => rfl) (fun a b => ?_)
                      rw [pS_at, pS_at, pS_at]
                      by_cases h : a = 27
                      · rw [if_pos h, if_pos h]
                      · rw [if_neg h, if_neg h, if_neg h]
                    rw [e]
                    exact hL
              -- down to the first above
              have walk : ∀ z, z < N → L246 (nI F0) (nI m) (nI (cc + 1)) (bI a) (nI u) (nI (fa g m z)) (nI cc) τ2 → L195 (nI F0) (nI m) (nI cc) (bI a) (nI u) (nI z) τ2 := by
                intro z
                induction z using Nat.strongRecOn with
                | ind z ihz =>
                  intro hz hL
                  have cz : (nI z).toNatClampNeg = z := cl_nI (by omega)
                  have vz := v240 (show z < 240 by omega)
                  refine r195 _ _ _ _ _ _ _ ?_
                  unfold f_X8_receive_195 f_X8_receive_239
                  rw [cz, (eK2 2 (by decide)).1, (hEv z hz).2.1, nI_1]
                  cases hs : gs g z with
                  | none =>
                    rw [faF_none hP hz hs] at hL
                    exact ⟨vz, fun _ => hL, fun q => absurd (by decide) q⟩
                  | some s =>
                    have hsz := ((hP.1 z hz).2.1 s hs).1
                    rw [faF_step hP hz hs] at hL
                    show vp_in (nI z) 240 ∧ (nI s < 0 → _) ∧ (¬ nI s < 0 → vp_in (nI z) 240 ∧ vp_in ((240 * nI s) + nI m) 57600 ∧ (τ2.1 14 ((240 * nI s) + nI m).toNatClampNeg = 0 → _) ∧ (¬ τ2.1 14 ((240 * nI s) + nI m).toNatClampNeg = 0 → vp_in (nI z) 240 ∧ L195 (nI F0) (nI m) (nI cc) (bI a) (nI u) (nI s) τ2))
                    rw [mi240, cl_nI (show s * 240 + m < 2 ^ 31 by omega), (eK2 14 (by decide)).1, hA s m (by omega) (by omega), if_pos (show s < N by omega)]
                    refine ⟨vz, fun q => absurd q (nI_pos (by omega)), fun _ => ⟨vz, v57 (by omega) (by omega), fun q => ?_, fun q => ⟨vz, ?_⟩⟩⟩
                    · rw [bI_0] at q
                      rw [q, if_neg (by decide)] at hL
                      exact hL
                    · rw [bI_1] at q
                      rw [q, if_pos rfl] at hL
                      exact ihz s hsz (by omega) hL
              have hfl := fa_le hP m u hu
              refine walk u hu (inner cc (by omega) _ (by omega) τ2 b2 ?_)
              refine ih2 ((cc + 1, a), pS τ2 27 (insA (τ2.2 27) cc (ptm p (fa g m u)))) ⟨by show cc + 1 ≤ u + 1; omega, Fr_pS b2 (by decide), fun ha => ?_, fun ha => ?_⟩
              · obtain ⟨c1, c2, c3⟩ := b3 ha
                refine ⟨fun u' hu' hur => ?_, ?_, fun j hj => ?_⟩
                · by_cases e : u' = u
                  · rw [e]; exact q2
                  · exact c1 u' (by omega) hur
                · show cc + 1 = cnt (ur p r) u + if ur p r u then 1 else 0
                  rw [q, if_pos rfl, c2]
                · have hj : j < cc + 1 := hj
                  have e2 : srt p r m (u + 1) = if ur p r u then insA (srt p r m u) (cnt (ur p r) u) (ptm p (fa (pg p) m u)) else srt p r m u := rfl
                  show (pS τ2 27 (insA (τ2.2 27) cc (ptm p (fa g m u)))).2 27 j = _
                  rw [e2, q, if_pos rfl, pS_self, pgp, ← c2]
                  exact insA_congr _ _ _ _ c3 j (by omega)
              · obtain ⟨u', h1, h2, h3⟩ := b4 ha
                exact ⟨u', by omega, h2, h3⟩
            · -- not above
              rw [bI_1] at q
              rw [mi240, cl_nI (show u * 240 + m < 2 ^ 31 by omega), (eK2 14 (by decide)).1, hA u m (by omega) (by omega), if_pos hu, bI_0] at q2
              have q2 : anc g u m = false := q2
              show L146 (nI F0) (nI m) (nI cc) 0 (nI u + 1) τ2
              rw [nI_1]
              exact ih2 ((cc, false), τ2) ⟨by show cc ≤ u + 1; omega, b2, fun ha => (by cases ha), fun _ => ⟨u, by omega, q, q2⟩⟩
            · rw [bI_0] at q
              show L146 (nI F0) (nI m) (nI cc) (bI a) (nI u + 1) τ2
              rw [nI_1]
              refine ih2 ((cc, a), τ2) ⟨by show cc ≤ u + 1; omega, b2, fun ha => ?_, fun ha => ?_⟩
              · obtain ⟨c1, c2, c3⟩ := b3 ha
                refine ⟨fun u' hu' hur => ?_, ?_, fun j hj => ?_⟩
                · by_cases e : u' = u
                  · rw [e, q] at hur; cases hur
                  · exact c1 u' (by omega) hur
                · show cc = cnt (ur p r) u + if ur p r u then 1 else 0
                  rw [q, c2]
                  rfl
                · have e2 : srt p r m (u + 1) = if ur p r u then insA (srt p r m u) (cnt (ur p r) u) (ptm p (fa (pg p) m u)) else srt p r m u := rfl
                  show τ2.2 27 j = _
                  rw [e2, q]
                  exact c3 j hj
              · obtain ⟨u', h1, h2, h3⟩ := b4 ha
                exact ⟨u', by omega, h2, h3⟩
        exact l146 0 (Nat.zero_le _) ((0, true), τ) ⟨Nat.le_refl _, Fr.refl _ _, fun _ => ⟨fun u' hu' => absurd hu' (Nat.not_lt_zero _), rfl, fun j hj => absurd hj (Nat.not_lt_zero _)⟩, fun ha => (by cases ha)⟩
      · rw [q2 m hm] at d
        have hrq : rq p r m m = true := by
          cases z : rq p r m m
          · rw [z] at d
            exact absurd rfl d
          · rfl
        obtain ⟨-, z2 | ⟨-, z3⟩⟩ := rq_iff.mp hrq
        · exact skip (fun z => by have := z.2; omega) τ (Fr.refl _ _)
        · exact absurd z3 (Nat.lt_irrefl _)
  -- the hashes of the unique ones
  have l54 : ∀ u, u < N → ur p r u = true → (∀ τ : Sg, ((∀ w, w < 8 → τ.1 25 w = xrt p r w (u + 1)) ∧ Fr [25] σ τ) → L32 (nI F0) (nI u + 1) τ) → ∀ k, k ≤ 8 → ∀ τ : Sg, ((∀ w, w < 8 → τ.1 25 w = if w < k then xrt p r w (u + 1) else xrt p r w u) ∧ Fr [25] σ τ) → L54 (nI F0) (nI u) (nI k) τ := by
    intro u hu hur hL
    refine lup (L := fun k τ => L54 (nI F0) (nI u) (nI k) τ) (fun k τ => (∀ w, w < 8 → τ.1 25 w = if w < k then xrt p r w (u + 1) else xrt p r w u) ∧ Fr [25] σ τ) 8 (fun τ ht => ?_) (fun k τ hk ht ih => ?_)
    · refine r54 _ _ _ _ ⟨fun _ => ?_, fun q => absurd (Int32.le_refl _) q⟩
      exact hL τ ⟨fun w hw => by rw [ht.1 w hw, if_pos hw], ht.2⟩
    · obtain ⟨t1, t2⟩ := ht
      refine r54 _ _ _ _ ?_
      unfold f_X8_receive_54
      rw [mi8, cl_nI (show u * 8 + k < 2 ^ 31 by omega), cl_nI (show k < 2 ^ 31 by omega), (t2 8 (by decide)).1, hH u k hu hk, t1 k hk, if_neg (Nat.lt_irrefl _), nI_1]
      refine ⟨fun q => absurd q (nI_ge (b := 8) hk (by decide)), fun _ => ⟨vp_in_nI hk (by decide), v19 (by omega) hk, vp_in_nI hk (by decide), ih _ ⟨fun w hw => ?_, Fr_pI t2 (by decide)⟩⟩⟩
      rw [pI_at]
      by_cases e : w = k
      · subst e
        rw [if_pos ⟨rfl, rfl⟩, if_pos (Nat.lt_succ_self _)]
        show _ = if ur p r u then xrt p r w u ^^^ phs p u w else xrt p r w u
        rw [hur, if_pos rfl, pHs]
      · rw [if_neg (fun z => e z.2), t1 w hw]
        by_cases q : w < k
        · rw [if_pos q, if_pos (by omega)]
        · rw [if_neg q, if_neg (by omega)]
  have l32 : ∀ u, u ≤ N → ∀ τ : Sg, ((∀ w, w < 8 → τ.1 25 w = xrt p r w u) ∧ Fr [25] σ τ) → L32 (nI F0) (nI u) τ := by
    refine lup (L := fun u τ => L32 (nI F0) (nI u) τ) (fun u τ => (∀ w, w < 8 → τ.1 25 w = xrt p r w u) ∧ Fr [25] σ τ) N (fun τ ht => ?_) (fun u τ hu ht ih => ?_)
    · obtain ⟨t1, t2⟩ := ht
      refine r32 _ _ _ ?_
      unfold f_X8_receive_32
      rw [(t2 0 (by decide)).1, h02]
      refine ⟨fun _ => l99 0 (Nat.zero_le _) τ ⟨hQ.fr t2 (by decide) (by rw [(t2 0 (by decide)).1]), K0.of t2 (by decide), t2.mono (by decide), fun w hw => ?_⟩, fun q => absurd (Int32.le_refl _) q⟩
      rw [t1 w hw]
      unfold xr
      rw [pNp]
    · obtain ⟨t1, t2⟩ := ht
      refine r32 _ _ _ ?_
      unfold f_X8_receive_32 f_X8_receive_90
      rw [(t2 0 (by decide)).1, h02]
      have q1 := hQ.1
      rw [pNp] at q1
      refine ⟨fun q => absurd q (nI_ge hu (by omega)), fun _ => isU_ok pgp hPp (by omega) (by omega) hr31 (by rw [(t2 20 (by decide)).1]; exact q1 u hu) (by rw [(t2 7 (by decide)).1]; exact (hR u hu).1) ⟨fun q => ?_, fun q => ?_⟩⟩
      · rw [bI_0] at q
        rw [nI_1]
        refine ih τ ⟨fun w hw => ?_, t2⟩
        show _ = if ur p r u then xrt p r w u ^^^ phs p u w else xrt p r w u
        rw [q]
        exact t1 w hw
      · rw [bI_1] at q
        refine l54 u hu q (fun τ2 ht2 => by rw [nI_1]; exact ih τ2 ht2) 0 (Nat.zero_le _) τ ⟨fun w hw => ?_, t2⟩
        rw [if_neg (Nat.not_lt_zero _)]
        exact t1 w hw
  have l8 : ∀ k, k ≤ 8 → ∀ τ : Sg, ((∀ w, w < k → τ.1 25 w = 0) ∧ Fr [25] σ τ) → L8 (nI F0) (nI k) τ := by
    refine lup (L := fun k τ => L8 (nI F0) (nI k) τ) (fun k τ => (∀ w, w < k → τ.1 25 w = 0) ∧ Fr [25] σ τ) 8 (fun τ ht => ?_) (fun k τ hk ht ih => ?_)
    · refine r8 _ _ _ ⟨fun _ => l32 0 (Nat.zero_le _) τ ⟨fun w hw => ?_, ht.2⟩, fun q => absurd (Int32.le_refl _) q⟩
      rw [ht.1 w hw]
      rfl
    · refine r8 _ _ _ ⟨fun q => absurd q (nI_ge (b := 8) hk (by decide)), fun _ => ⟨vp_in_nI hk (by decide), ?_⟩⟩
      rw [cl_nI (show k < 2 ^ 31 by omega), nI_1]
      refine ih _ ⟨fun w hw => ?_, Fr_pI ht.2 (by decide)⟩
      rw [pI_at]
      by_cases e : w = k
      · rw [if_pos ⟨rfl, e⟩]
      · rw [if_neg (fun z => e z.2)]
        exact ht.1 w (by omega)
  show f_X8_receive_e (nI i) (nI r) L8 L32 L54 L99 L146 L195 L246 L358 K σ
  unfold f_X8_receive_e
  have q5 := hQ.2.2.2.2
  rw [pNp, ← eF] at q5
  rw [q5]
  exact l8 0 (Nat.zero_le _) σ ⟨fun w hw => absurd hw (Nat.not_lt_zero _), Fr.refl _ _⟩
