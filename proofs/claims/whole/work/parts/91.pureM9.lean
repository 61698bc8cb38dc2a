/-! ===== the model: find ===== -/
theorem bI_and (a b : Bool) : bI a &&& bI b = bI (a && b) := by cases a <;> cases b <;> rfl
theorem bI_or (a b : Bool) : bI a ||| bI b = bI (a || b) := by cases a <;> cases b <;> rfl
def MBs (H : Hs) (i : Nat) (σ τ : Sg) : Prop := Fr [0, 18, 19, 20, 21, 22, 23, 24, 25, 26, 27] σ τ ∧ K0 [22, 23, 24] σ τ ∧ MS (hg H) (hN H) τ ∧ MV (hg H) (hhb H) (hN H) τ ∧ τ.1 0 22 = nI i
theorem MBs.me {H : Hs} {i : Nat} {σ τ : Sg} (m : ME H σ) (b : MBs H i σ τ) : ME H τ := by
  obtain ⟨m1, m2, m3, m4, m5, m6, m7, m8, m9, m10, m11⟩ := m
  obtain ⟨F, k, s, v, e⟩ := b
  refine ⟨m1, m2.sm (k 1 (by decide)) (F 1 (by decide)).1 (F 2 (by decide)).1 (F 3 (by decide)).1 (F 14 (by decide)).1 (F 16 (by decide)).1, s, m4.sm (F 7 (by decide)).1 (F 17 (by decide)).1, v, by rw [k 2 (by decide)]; exact m6, fun x w hx hw => by rw [(F 8 (by decide)).1]; exact m7 x w hx hw, fun x hx => by rw [(F 13 (by decide)).2]; exact m8 x hx, fun x hx => by rw [(F 4 (by decide)).1, (F 5 (by decide)).1, (F 6 (by decide)).1]; exact m9 x hx, fun j hj => by rw [(F 30 (by decide)).1]; exact m10 j hj, fun j hj => by rw [(F 32 (by decide)).1]; exact m11 j hj⟩
theorem MBs.fr {H : Hs} {i : Nat} {σ τ τ2 : Sg} (b : MBs H i σ τ) (F : Fr [20, 21, 22, 23, 24, 25, 26, 27] τ τ2) : MBs H i σ τ2 := by
  obtain ⟨f, k, s, v, e⟩ := b
  exact ⟨f.trans (F.mono (by decide)), fun j hj => by rw [(F 0 (by decide)).1]; exact k j hj, s.sm (F 18 (by decide)).1, v.sm (F 19 (by decide)).1, by rw [(F 0 (by decide)).1]; exact e⟩
theorem MBs.vote {H : Hs} {i : Nat} {σ τ τ2 : Sg} (b : MBs H i σ τ) (s : MS (hg H) (hN H) τ2) (v : MV (hg H) (hhb H) (hN H) τ2) (F : Fr [18, 19] τ τ2) : MBs H i σ τ2 := by
  obtain ⟨f, k, -, -, e⟩ := b
  exact ⟨f.trans (F.mono (by decide)), fun j hj => by rw [(F 0 (by decide)).1]; exact k j hj, s, v, by rw [(F 0 (by decide)).1]; exact e⟩
theorem vote_ok {H : Hs} {τ : Sg} {y x : Nat} {K : Int32 → Sg → Prop} (m : ME H τ) (hy : y < hN H) (hx : x < hN H) (wy : wit (hg H) y = true) (wx : wit (hg H) x = true) (hr : rnd (hg H) x < rnd (hg H) y) (hK : ∀ τ2, MS (hg H) (hN H) τ2 → MV (hg H) (hhb H) (hN H) τ2 → Fr [18, 19] τ τ2 → K (nI (vt (hg H) (hhb H) x y)) τ2) : sp_X8_voteOf (nI y) (nI x) τ K :=
  ⟨hg H, hhb H, hN H, y, x, rfl, rfl, hy, hx, wy, wx, hr, m.2.1, m.2.2.1, m.2.2.2.1, m.2.2.2.2.1, fun z hz => by
    rw [m.2.2.2.2.2.2.1 z 4 hz (by decide)]
    unfold hhb
    exact decide_eq_true_iff.symm, hK⟩
theorem lot_min {p : Vp} {y : Nat} (ho : opn p y = true) : ∀ M, y < M → lot p M ≤ rnd (pg p) y
  | 0, h => absurd h (Nat.not_lt_zero _)
  | M + 1, h => by
    show (if opn p M then min (lot p M) (rnd (pg p) M) else lot p M) ≤ _
    by_cases e : y = M
    · subst e
      rw [if_pos ho]
      exact Nat.min_le_right _ _
    · have := lot_min ho M (by omega)
      by_cases c : opn p M = true
      · rw [if_pos c]; omega
      · rw [if_neg c]; exact this
theorem lot_at {p : Vp} : ∀ M, lot p M = 241 ∨ ∃ y, y < M ∧ opn p y = true ∧ rnd (pg p) y = lot p M
  | 0 => Or.inl rfl
  | M + 1 => by
    have e : lot p (M + 1) = if opn p M then min (lot p M) (rnd (pg p) M) else lot p M := rfl
    rw [e]
    by_cases c : opn p M = true
    · rw [if_pos c]
      by_cases q : rnd (pg p) M ≤ lot p M
      · rw [Nat.min_eq_right q]
        exact Or.inr ⟨M, Nat.lt_succ_self M, c, rfl⟩
      · rw [Nat.min_eq_left (by omega)]
        rcases lot_at M with h | ⟨y, h1, h2, h3⟩
        · exact Or.inl h
        · exact Or.inr ⟨y, by omega, h2, h3⟩
    · rw [if_neg c]
      rcases lot_at M with h | ⟨y, h1, h2, h3⟩
      · exact Or.inl h
      · exact Or.inr ⟨y, by omega, h2, h3⟩
theorem payF_cn {b b2 : Nat → Int32} {n fr to : Nat} {am : Int32} (hf : fr < n) (h : ∀ c, c < n → b c = b2 c) : ∀ c, c < n → payF b fr to am c = payF b2 fr to am c := by
  intro c hc
  unfold payF
  rw [h fr hf]
  split
  · exact h c hc
  · have u : ∀ i, i < n → upd b fr (b2 fr - am) i = upd b2 fr (b2 fr - am) i := by
      intro i hi
      unfold upd
      split
      · rfl
      · exact h i hi
    unfold upd at u ⊢
    by_cases e : c = to
    · subst e
      rw [if_pos rfl, if_pos rfl, u c hc]
    · rw [if_neg e, if_neg e]
      exact u c hc
theorem hO_of {h : Hs} (c : HC h) {x : Nat} (hx : x < hN h) : gc (hg h) x < gn (hg h) := c.2.2.2.1 x hx
theorem rq_stl {p : Vp} {r : Nat} (h : stl p r = false) : rq p (r + 1) 0 = rq p r 0 := by
  funext y
  apply bool_ext
  rw [rq_iff, rq_iff]
  constructor
  · rintro ⟨a, b | ⟨c, d⟩⟩
    · refine ⟨a, Or.inl ?_⟩
      have : rcv p y ≠ r := fun e => by
        have := (rcv_bel a).1
        rw [e, h] at this
        cases this
      omega
    · exact absurd d (Nat.not_lt_zero _)
  · rintro ⟨a, b | ⟨c, d⟩⟩
    · exact ⟨a, Or.inl (by omega)⟩
    · exact absurd d (Nat.not_lt_zero _)
set_option maxHeartbeats 8000000 in
theorem v_X8_find (x1 : Int32) (σ : Sg) (K : Sg → Prop) (h : sp_X8_find x1 σ K) : vc_X8_find x1 σ K := by
  obtain ⟨H, i, rfl, hi, hMI, hK⟩ := h
  obtain ⟨hE, hM, hW, hLt, hLK, hVw⟩ := hMI
  have hC := hE.1
  have hP := hC.2.2.1
  have hN240 := hC.2.1
  have hg8 := hP.2.2
  obtain ⟨p, ep⟩ : ∃ p, p = vp H i := ⟨_, rfl⟩
  have pgp : pg p = hg H := by rw [ep]; rfl
  have pNp : pN p = hN H := by rw [ep]; rfl
  have phdp : phd p = hhd H i := by rw [ep]; rfl
  have phbp : phb p = hhb H := by rw [ep]; rfl
  rw [← ep] at hK
  obtain ⟨N, eN⟩ : ∃ N, N = hN H := ⟨_, rfl⟩
  obtain ⟨g, eg⟩ : ∃ g, g = hg H := ⟨_, rfl⟩
  rw [← eN] at pNp hN240 hP
  rw [← eg] at pgp hP hi hg8
  have hPp : POK (pg p) (pN p) := by rw [pgp, pNp]; exact hP
  have hdN : ∀ x, phd p x = true → x < N := fun x hx => by rw [phdp] at hx; rw [eN]; exact (hC.2.2.2.2.2.1 i x hx).1
  intro L25 L108 L238 L267 L372 L384 L516 L544 L574 r25 r108 r238 r267 r372 r384 r516 r544 r574
  -- what a state has
  have rd : ∀ τ : Sg, MBs H i σ τ → τ.1 0 1 = nI (gn g) ∧ τ.1 0 2 = nI N ∧ (∀ x, x < N → τ.1 7 x = nI (rnd g x) ∧ τ.1 17 x = bI (wit g x) ∧ τ.1 1 x = nI (gc g x)) ∧ (∀ x, x < 240 → τ.1 15 (i * 240 + x) = bI (phd p x)) ∧ ME H τ := fun τ b => by
    have m := b.me hE
    refine ⟨by rw [eg]; exact m.2.1.2.1, by rw [eN]; exact m.2.2.2.2.2.1, fun x hx => ?_, fun x hx => ?_, m⟩
    · rw [eN] at hx
      rw [eg]
      exact ⟨(m.2.2.2.1 x hx).1, (m.2.2.2.1 x hx).2, (m.2.1.2.2.1 x hx).1⟩
    · rw [(b.1 15 (by decide)).1, phdp]
      exact hM i x (by omega) hx
  have rpos : ∀ x, x < N → 1 ≤ rnd g x ∧ rnd g x ≤ x + 1 := rnd_pos hP
  -- the last round with a witness held
  obtain ⟨last, elast⟩ : ∃ l, l = mx (fun y => phd p y && wit g y) (rnd g) N := ⟨_, rfl⟩
  have mxle : ∀ x, x ≤ N → mx (fun y => phd p y && wit g y) (rnd g) x ≤ N := fun x hx => mx_le x (fun j hj => by have := (rpos j (by omega)).2; omega)
  have lastN : last ≤ N := by rw [elast]; exact mxle N (Nat.le_refl _)
  have url : ∀ r u, u < N → ur p r u = true → rnd g u = r ∧ phd p u = true ∧ wit g u = true ∧ r ≤ last := fun r u hu hur => by
    obtain ⟨w1, w2⟩ := ur_wit hur
    have w3 := (ur_iff.mp hur).2
    rw [pgp] at w1 w3
    refine ⟨w3, w2, w1, ?_⟩
    have := mx_ge (p := fun y => phd p y && wit g y) (f := rnd g) N u hu (by rw [w2, w1]; rfl)
    omega
  have stll : ∀ r, stl p r = true → r ≤ last := fun r hs => by
    obtain ⟨u, h1, h2⟩ := uc_pos (stl_iff.mp hs).2.2
    rw [pNp] at h1
    exact (url r u h1 h2).2.2.2
  have oLN : oL p ≤ N := by unfold oL; rw [pNp]; exact cnt_le _ _
  -- the balances
  have l544 : ∀ k, k ≤ oL p → ∀ τ : Sg, (MBs H i σ τ ∧ (∀ x, x < N → τ.1 20 x = nI (f3 p x) ∧ τ.1 21 x = nI (rcv p x) ∧ (inR p x = true → τ.2 26 x = stp p x ∧ τ.1 23 (pl p x) = nI x)) ∧ τ.1 0 23 = nI (oL p) ∧ τ.1 0 24 = nI (cnt (stl p) 241) ∧ (∀ x, x < N → τ.1 22 x = if (inR p x && decide (pl p x < k)) = true then nI (pl p x) else -1) ∧ ∀ c, c < gn g → τ.1 24 c = balk p k c) → L544 (nI k) τ := by
    refine lup (L := fun k τ => L544 (nI k) τ) (fun k τ => MBs H i σ τ ∧ (∀ x, x < N → τ.1 20 x = nI (f3 p x) ∧ τ.1 21 x = nI (rcv p x) ∧ (inR p x = true → τ.2 26 x = stp p x ∧ τ.1 23 (pl p x) = nI x)) ∧ τ.1 0 23 = nI (oL p) ∧ τ.1 0 24 = nI (cnt (stl p) 241) ∧ (∀ x, x < N → τ.1 22 x = if (inR p x && decide (pl p x < k)) = true then nI (pl p x) else -1) ∧ ∀ c, c < gn g → τ.1 24 c = balk p k c) (oL p) (fun τ ht => ?_) (fun k τ hk ht ih => ?_)
    · obtain ⟨b, t1, t2, t3, t4, t5⟩ := ht
      refine r544 _ _ ?_
      unfold f_X8_find_544
      rw [t2]
      have hvw : MVw p τ := by
        refine ⟨fun x hx => ?_, t2, t3, fun c hc => ?_⟩
        · rw [pNp] at hx
          obtain ⟨q1, q2, q3⟩ := t1 x hx
          refine ⟨q1, q2, ?_, q3⟩
          rw [t4 x hx]
          cases hin : inR p x
          · rfl
          · have : pl p x < oL p := rk_lt (by rw [pNp]; exact hx) hin
            rw [decide_eq_true this]
            rfl
        · rw [pgp] at hc
          exact t5 c hc
      refine ⟨fun _ => hK τ ⟨b.me hE, fun k x hk hx => ?_, fun k hk => ?_, fun k hk => ?_, hLK, Or.inr ⟨i, by rw [← eg]; exact hi, b.2.2.2.2, by rw [← ep]; exact hvw⟩⟩ hvw (b.2.1 0 (by decide)), fun q => absurd (Int32.le_refl _) q⟩
      · rw [(b.1 15 (by decide)).1]; exact hM k x hk hx
      · rw [(b.1 10 (by decide)).1, (b.1 11 (by decide)).1, (b.1 12 (by decide)).1]; exact hW k hk
      · rw [(b.1 9 (by decide)).1]; exact hLt k hk
    · obtain ⟨b, t1, t2, t3, t4, t5⟩ := ht
      obtain ⟨y1, y2, y3⟩ := atk_spec (p := p) (by omega) hk
      obtain ⟨x, hxe⟩ : ∃ x, x = atk p k := ⟨_, rfl⟩
      rw [← hxe] at y1 y2 y3
      rw [pNp] at y1
      have cx : (nI x).toNatClampNeg = x := cl_nI (by omega)
      have ck : (nI k).toNatClampNeg = k := cl_nI (by omega)
      have e23 : τ.1 23 k = nI x := by rw [← y3]; exact ((t1 x y1).2.2 y2).2
      have vx := v240 (show x < 240 by omega)
      refine r544 _ _ ?_
      unfold f_X8_find_544
      rw [t2, ck, e23, cx]
      refine ⟨fun q => absurd q (nI_ge hk (by omega)), fun _ => ⟨v240 (by omega), vx, ?_⟩⟩
      obtain ⟨τ1, h1⟩ : ∃ z, z = pI τ 22 x (nI k) := ⟨_, rfl⟩
      rw [← h1]
      have F1 : Fr [22] τ τ1 := by rw [h1]; exact Fr_pI (Fr.refl _ _) (by decide)
      have b1 := b.fr (F1.mono (by decide))
      have hxH : x < hN H := by rw [← eN]; exact y1
      obtain ⟨tn3, ttv⟩ := hC.2.2.2.2.1 x hxH
      have ptnp : ptn p x = htn H x := by rw [ep]; rfl
      have ptap : pta p x = hta H x := by rw [ep]; rfl
      have pttp : ptt p x = htt H x := by rw [ep]; rfl
      have gcx := hO_of hC hxH
      rw [← eg] at gcx
      have l574 : ∀ j, j ≤ ptn p x → ∀ τ2 : Sg, (Fr [24] τ1 τ2 ∧ ∀ c, c < gn g → τ2.1 24 c = payE p x (balk p k) j c) → L574 (nI k) (nI x) (nI j) τ2 := by
        refine lup (L := fun j τ2 => L574 (nI k) (nI x) (nI j) τ2) (fun j τ2 => Fr [24] τ1 τ2 ∧ ∀ c, c < gn g → τ2.1 24 c = payE p x (balk p k) j c) (ptn p x) (fun τ2 hs => ?_) (fun j τ2 hj hs ih2 => ?_)
        · obtain ⟨f2, s2⟩ := hs
          have b2 := b1.fr (f2.mono (by decide))
          have m2 := (b2.me hE).2.2.2.2.2.2.2.2.1 x hxH
          refine r574 _ _ _ _ ?_
          unfold f_X8_find_574
          rw [cx, m2.1, ← ptnp, nI_1]
          have F12 : Fr [22, 24] τ τ2 := (F1.mono (by decide)).trans (f2.mono (by decide))
          refine ⟨vx, fun _ => ih τ2 ⟨b2, fun z hz => ?_, ?_, ?_, fun z hz => ?_, fun c hc => ?_⟩, fun q => absurd (Int32.le_refl _) q⟩
          · rw [(F12 20 (by decide)).1, (F12 21 (by decide)).1, (F12 26 (by decide)).2, (F12 23 (by decide)).1]
            exact t1 z hz
          · rw [(F12 0 (by decide)).1]; exact t2
          · rw [(F12 0 (by decide)).1]; exact t3
          · rw [(f2 22 (by decide)).1, h1, pI_at]
            by_cases e : z = x
            · subst e
              rw [if_pos ⟨rfl, rfl⟩, y2, y3, decide_eq_true (Nat.lt_succ_self k)]
              rfl
            · rw [if_neg (fun q => e q.2), t4 z hz]
              cases hin : inR p z
              · rfl
              · have hne : pl p z ≠ k := fun q => e (pl_inj (p := p) (by omega) (by omega) (by omega) hin y2 (q.trans y3.symm))
                rw [show decide (pl p z < k) = decide (pl p z < k + 1) from decide_eq_decide.mpr (by omega)]
          · show _ = payE p (atk p k) (balk p k) (ptn p (atk p k)) c
            rw [← hxe]
            exact s2 c hc
        · obtain ⟨f2, s2⟩ := hs
          have b2 := b1.fr (f2.mono (by decide))
          have m2 := (b2.me hE).2.2.2.2.2.2.2.2.1 x hxH
          have jl : j < htn H x := by rw [← ptnp]; exact hj
          obtain ⟨m5, m6⟩ := m2.2 j jl
          have hto := ttv j jl
          have e1 := ((rd τ2 b2).2.2.1 x y1).2.2
          have cg : (nI (gc g x)).toNatClampNeg = gc g x := cl_nI (by omega)
          have vg : vp_in (nI (gc g x)) 8 := vp_in_nI (by omega) (by omega)
          have e5 : ∀ v : Int32, (pI τ2 24 (gc g x) v).1 5 (x * 3 + j) = htt H x j := fun v => by rw [pI_ne _ _ _ (by decide)]; exact m5
          have v72 : vp_in (nI (x * 3 + j)) 720 := vp_in_nI (by omega) (by omega)
          have pc := payF_cn (b := τ2.1 24) (b2 := payE p x (balk p k) j) (n := gn g) (fr := gc g x) (to := (htt H x j).toNatClampNeg) (am := hta H x j) gcx s2
          have pe : ∀ c, payE p x (balk p k) (j + 1) c = payF (payE p x (balk p k) j) (gc g x) (htt H x j).toNatClampNeg (hta H x j) c := fun c => by
            show payF (payE p x (balk p k) j) (gc (pg p) x) (ptt p x j).toNatClampNeg (pta p x j) c = _
            rw [pgp, pttp, ptap]
          refine r574 _ _ _ _ ?_
          unfold f_X8_find_574 f_X8_find_659
          rw [cx, m2.1, ← ptnp, mi3, cl_nI (show x * 3 + j < 2 ^ 31 by omega), e1, cg, m6, e5, nI_1, nI_1]
          refine ⟨vx, fun q => absurd q (nI_ge hj (by omega)), fun _ => ⟨v72, vx, vg, fun q => ⟨vx, vg, vg, v72, hto, hto, ih2 _ ⟨Fr_pI (Fr_pI f2 (by decide)) (by decide), fun c hc => ?_⟩⟩, fun q => ih2 τ2 ⟨f2, fun c hc => ?_⟩⟩⟩
          · rw [pe, ← pc c hc]
            unfold payF
            rw [if_neg (Int32.not_lt.mpr q), pI_upd, pI_upd]
          · rw [pe, ← pc c hc]
            unfold payF
            rw [if_pos (Int32.not_le.mp q)]
      exact l574 0 (Nat.zero_le _) τ1 ⟨Fr.refl _ _, fun c hc => by rw [(F1 24 (by decide)).1]; exact t5 c hc⟩
  have l516 : ∀ c, c ≤ gn g → ∀ τ : Sg, (MBs H i σ τ ∧ (∀ x, x < N → τ.1 20 x = nI (f3 p x) ∧ τ.1 21 x = nI (rcv p x) ∧ (inR p x = true → τ.2 26 x = stp p x ∧ τ.1 23 (pl p x) = nI x)) ∧ τ.1 0 23 = nI (oL p) ∧ τ.1 0 24 = nI (cnt (stl p) 241) ∧ (∀ x, x < N → τ.1 22 x = -1) ∧ ∀ d, d < c → τ.1 24 d = 1000000) → L516 (nI c) τ := by
    refine lup (L := fun c τ => L516 (nI c) τ) (fun c τ => MBs H i σ τ ∧ (∀ x, x < N → τ.1 20 x = nI (f3 p x) ∧ τ.1 21 x = nI (rcv p x) ∧ (inR p x = true → τ.2 26 x = stp p x ∧ τ.1 23 (pl p x) = nI x)) ∧ τ.1 0 23 = nI (oL p) ∧ τ.1 0 24 = nI (cnt (stl p) 241) ∧ (∀ x, x < N → τ.1 22 x = -1) ∧ ∀ d, d < c → τ.1 24 d = 1000000) (gn g) (fun τ ht => ?_) (fun c τ hc ht ih => ?_)
    · obtain ⟨b, t1, t2, t3, t4, t5⟩ := ht
      refine r516 _ _ ?_
      unfold f_X8_find_516
      rw [(rd τ b).1]
      refine ⟨fun _ => l544 0 (Nat.zero_le _) τ ⟨b, t1, t2, t3, fun x hx => ?_, fun c hc => ?_⟩, fun q => absurd (Int32.le_refl _) q⟩
      · rw [t4 x hx, decide_eq_false (Nat.not_lt_zero _), Bool.and_false]
        rfl
      · rw [t5 c hc]
        show _ = if c < gn (pg p) then (1000000 : Int32) else 0
        rw [pgp, if_pos hc]
    · obtain ⟨b, t1, t2, t3, t4, t5⟩ := ht
      refine r516 _ _ ?_
      unfold f_X8_find_516
      rw [(rd τ b).1, cl_nI (show c < 2 ^ 31 by omega), nI_1]
      have F1 : Fr [24] τ (pI τ 24 c 1000000) := Fr_pI (Fr.refl _ _) (by decide)
      refine ⟨fun q => absurd q (nI_ge hc (by omega)), fun _ => ⟨vp_in_nI (by omega) (by omega), ih _ ⟨b.fr (F1.mono (by decide)), fun x hx => ?_, t2, t3, t4, fun d hd => ?_⟩⟩⟩
      · rw [(F1 20 (by decide)).1, (F1 21 (by decide)).1, (F1 26 (by decide)).2, (F1 23 (by decide)).1]
        exact t1 x hx
      · rw [pI_at]
        by_cases e : d = c
        · rw [if_pos ⟨rfl, e⟩]
        · rw [if_neg (fun q => e q.2)]
          exact t5 d (by omega)
  -- the rounds
  have l372 : ∀ r, r ≤ last + 1 → ∀ τ : Sg, (1 ≤ r ∧ MBs H i σ τ ∧ MQ2 p r 0 τ ∧ τ.1 0 24 = nI (cnt (stl p) r) ∧ ∀ x, x < N → τ.1 22 x = -1) → L372 (nI last) (nI (i * 240)) (bI (decide (r ≤ lot p N))) (nI r) τ := by
    refine lup (L := fun r τ => L372 (nI last) (nI (i * 240)) (bI (decide (r ≤ lot p N))) (nI r) τ) (fun r τ => 1 ≤ r ∧ MBs H i σ τ ∧ MQ2 p r 0 τ ∧ τ.1 0 24 = nI (cnt (stl p) r) ∧ ∀ x, x < N → τ.1 22 x = -1) (last + 1) (fun τ ht => ?_) (fun r τ hr ht ih => ?_)
    · obtain ⟨h1, b, ⟨q1, q2, q3, q4, q5⟩, t3, t4⟩ := ht
      rw [pNp] at q1 q2 q3 q4 q5
      have er : rq p (last + 1) 0 = inR p := by
        funext y
        apply bool_ext
        rw [rq_iff]
        constructor
        · exact fun z => z.1
        · intro z
          have := stll _ (rcv_bel z).1
          exact ⟨z, Or.inl (by omega)⟩
      rw [er] at q2 q3 q4 q5
      refine r372 _ _ _ _ _ ⟨fun _ => l516 0 (Nat.zero_le _) τ ⟨b, fun x hx => ⟨q1 x hx, ?_, fun hin => ⟨q3 x hx hin, ?_⟩⟩, ?_, ?_, t4, fun d hd => absurd hd (Nat.not_lt_zero _)⟩, fun q => absurd (nI_lt (Nat.lt_succ_self last) (by omega)) q⟩
      · rw [q2 x hx]
        cases hin : inR p x
        · have : rcv p x = 0 := by
            apply Classical.byContradiction
            intro z
            rw [inR_iff.mpr z] at hin
            cases hin
          rw [this]
          rfl
        · rfl
      · have := q4 x hx hin
        unfold pl
        rw [pNp]
        exact this
      · rw [q5]
        unfold oL
        rw [pNp]
      · rw [t3, cnt_ext (p := stl p) (n := last + 1) (m := 241) (by omega) (fun j h1 _ => by
          cases z : stl p j
          · rfl
          · have := stll j z; omega)]
    · obtain ⟨h1, b, hq, t3, t4⟩ := ht
      have hr' : r ≤ last := by omega
      have hq1 := hq.1
      rw [pNp] at hq1
      obtain ⟨rd1, rd2, rd3, rd4, rd5⟩ := rd τ b
      refine r372 _ _ _ _ _ ⟨fun q => absurd q (nI_nlt hr' (by omega)), fun _ => ?_⟩
      have l384 : ∀ y, y ≤ N → L384 (nI last) (nI (i * 240)) (bI (decide (r ≤ lot p N) && !anyN (fun z => opn p z && decide (rnd g z = r)) y)) (nI r) (bI (anyN (ur p r) y)) (nI y) τ := by
        refine down N ?_ (fun y hy ihy => ?_)
        · have hall : (decide (r ≤ lot p N) && !anyN (fun z => opn p z && decide (rnd g z = r)) N) = decide (r + 1 ≤ lot p N) := by
            apply bool_ext
            rw [Bool.and_eq_true, decide_eq_true_eq, decide_eq_true_eq]
            constructor
            · rintro ⟨a, c⟩
              rcases lot_at (p := p) N with z | ⟨y, z1, z2, z3⟩
              · omega
              · rw [pgp] at z3
                have : rnd g y ≠ r := fun e => by
                  have : anyN (fun z => opn p z && decide (rnd g z = r)) N = true := (anyN_iff _ _).mpr ⟨y, z1, by rw [z2, decide_eq_true e]; rfl⟩
                  rw [this] at c
                  cases c
                omega
            · intro a
              refine ⟨by omega, ?_⟩
              cases c : anyN (fun z => opn p z && decide (rnd g z = r)) N
              · rfl
              · obtain ⟨y, z1, z2⟩ := (anyN_iff _ _).mp c
                rw [Bool.and_eq_true, decide_eq_true_eq] at z2
                have := lot_min z2.1 N z1
                rw [pgp] at this
                omega
          have hone : anyN (ur p r) N = decide (0 < uc p r) := by
            apply bool_ext
            rw [anyN_iff, decide_eq_true_eq]
            constructor
            · rintro ⟨u, hu, hur⟩
              have := cnt_step (p := ur p r) hu hur
              unfold uc
              rw [pNp]
              omega
            · intro z
              obtain ⟨u, hu, hur⟩ := uc_pos z
              rw [pNp] at hu
              exact ⟨u, hu, hur⟩
          have hstl : stl p r = (decide (r + 1 ≤ lot p N) && decide (0 < uc p r)) := by
            unfold stl
            rw [pNp, decide_eq_true h1, Bool.true_and]
            rfl
          have cs : cnt (stl p) (r + 1) = cnt (stl p) r + if stl p r then 1 else 0 := rfl
          have no : stl p r = false → L372 (nI last) (nI (i * 240)) (bI (decide (r + 1 ≤ lot p N))) (nI r + 1) τ := fun hs => by
            rw [nI_1]
            refine ih τ ⟨by omega, b, ?_, ?_, t4⟩
            · have hq' := hq
              unfold MQ2 at hq' ⊢
              rw [rq_stl hs]
              exact hq'
            · rw [cs, hs]
              exact t3
          refine r384 _ _ _ _ _ _ _ ?_
          unfold f_X8_find_384 f_X8_find_507
          rw [rd2, hall, hone]
          refine ⟨fun _ => ⟨fun q => ?_, fun q => ⟨fun q2 => ?_, fun q2 => ?_⟩⟩, fun q => absurd (Int32.le_refl _) q⟩
          · rw [bI_0] at q
            refine no ?_
            rw [hstl, q]
            rfl
          · rw [bI_1] at q q2
            have hs : stl p r = true := by rw [hstl, q, q2]; rfl
            have e24 : pI τ 0 24 (τ.1 0 24 + 1) = pI τ 0 24 (nI (cnt (stl p) (r + 1))) := by
              rw [t3, nI_1, cs, hs]
              rfl
            rw [e24]
            obtain ⟨τ1, hτ1⟩ : ∃ z, z = pI τ 0 24 (nI (cnt (stl p) (r + 1))) := ⟨_, rfl⟩
            rw [← hτ1]
            have F1 : Fr [0] τ τ1 := by rw [hτ1]; exact Fr_pI (Fr.refl _ _) (by decide)
            have K1 : K0 [24] τ τ1 := by rw [hτ1]; exact K0_pI K0.refl (by decide)
            have b1 : MBs H i σ τ1 := ⟨b.1.trans (F1.mono (by decide)), b.2.1.trans (K1.mono (by decide)), b.2.2.1.sm (F1 18 (by decide)).1, b.2.2.2.1.sm (F1 19 (by decide)).1, by rw [K1 22 (by decide)]; exact b.2.2.2.2⟩
            refine ⟨H, i, r, rfl, by rw [← eg]; exact hi, rfl, by omega, by rw [← ep]; exact hs, b1.me hE, fun k x hk hx => by rw [(b1.1 15 (by decide)).1]; exact hM k x hk hx, by rw [← ep]; exact hq.fr F1 (by decide) (K1 23 (by decide)), fun τ2 m2 k2 f2 => ?_⟩
            rw [← ep] at m2
            rw [nI_1]
            refine ih τ2 ⟨by omega, ⟨b1.1.trans (f2.mono (by decide)), b1.2.1.trans (k2.mono (by decide)), b1.2.2.1.sm (f2 18 (by decide)).1, b1.2.2.2.1.sm (f2 19 (by decide)).1, by rw [k2 22 (by decide)]; exact b1.2.2.2.2⟩, m2, ?_, fun x hx => ?_⟩
            · rw [k2 24 (by decide), hτ1, pI_at, if_pos ⟨rfl, rfl⟩]
            · rw [(f2 22 (by decide)).1, (F1 22 (by decide)).1]
              exact t4 x hx
          · rw [bI_0] at q2
            refine no ?_
            rw [hstl, q2, Bool.and_false]
        · have cy : (nI y).toNatClampNeg = y := cl_nI (by omega)
          obtain ⟨a7, a17, -⟩ := rd3 y hy
          have vy := v240 (show y < 240 by omega)
          have sA : ∀ t, anyN t (y + 1) = (anyN t y || t y) := fun t => rfl
          have same : (opn p y && decide (rnd g y = r)) = false → ur p r y = false → L384 (nI last) (nI (i * 240)) (bI (decide (r ≤ lot p N) && !anyN (fun z => opn p z && decide (rnd g z = r)) y)) (nI r) (bI (anyN (ur p r) y)) (nI y + 1) τ := fun e1 e2 => by
            rw [sA, sA, e1, e2, Bool.or_false, Bool.or_false] at ihy
            rw [nI_1]
            exact ihy
          have urf : ¬ (phd p y = true ∧ wit g y = true ∧ rnd g y = r) → ur p r y = false := fun z => by
            cases e : ur p r y
            · rfl
            · obtain ⟨c1, c2, c3, -⟩ := url r y hy e
              exact absurd ⟨c2, c3, c1⟩ z
          refine r384 _ _ _ _ _ _ _ ?_
          unfold f_X8_find_384 f_X8_find_471 f_X8_find_447 f_X8_find_468 f_X8_find_471
          rw [rd2, nI_add, cl_nI (show i * 240 + y < 2 ^ 31 by omega), rd4 y (by omega), cy, a7, a17, hq1 y hy]
          have f3l := f3_le (p := p) y
          have rle := rpos y hy
          refine ⟨fun q => absurd q (nI_ge hy (by omega)), fun _ => ⟨vp_in_nI (by omega) (by omega), fun q => ?_, fun q => ⟨vy, fun q2 => ?_, fun q2 => ⟨vy, fun q3 => ⟨vy, fun q4 => ⟨vy, fun q5 => ?_, fun q5 => ?_⟩, fun q4 => ⟨vy, fun q5 => ?_, fun q5 => ?_⟩⟩, fun q3 => ?_⟩⟩⟩⟩
          · rw [bI_0] at q
            refine same ?_ (urf (fun z => by rw [q] at z; exact absurd z.1 (by decide)))
            unfold opn
            rw [q]
            rfl
          · rw [bI_0] at q2
            refine same ?_ (urf (fun z => by rw [q2] at z; exact absurd z.2.1 (by decide)))
            unfold opn
            rw [pgp, q2]
            simp
          · -- open
            have e0 : f3 p y = 0 := (nI_eq (b := 0) (by omega) (by decide)).mp q4
            rw [bI_1] at q q2
            have er := (nI_eq (by omega) (by omega)).mp q3
            have ef : fam p y = 0 := by
              rcases f3_of (p := p) y with ⟨-, -, c⟩ | ⟨-, c⟩ <;> omega
            have eo : (opn p y && decide (rnd g y = r)) = true := by unfold opn; rw [pgp, q, q2, ef, er]; simp
            have eu : ur p r y = false := by
              cases e : ur p r y
              · rfl
              · have := (unq_iff.mp (ur_iff.mp e).1).1; omega
            rw [sA, sA, eo, eu, Bool.or_true, Bool.or_false, Bool.not_true, Bool.and_false] at ihy
            rw [show (0 : Int32) = bI false from rfl, bI_and, bI_or, Bool.and_false, Bool.or_false, nI_1]
            exact ihy
          · have e0 : f3 p y = 0 := (nI_eq (b := 0) (by omega) (by decide)).mp q4
            rw [e0] at q5
            exact absurd q5 (by decide)
          · -- decided, not unique
            rw [bI_1] at q q2
            have er := (nI_eq (by omega) (by omega)).mp q3
            have n0 : f3 p y ≠ 0 := fun e => q4 (by rw [e]; rfl)
            have n3 : f3 p y ≠ 3 := fun e => q5 (by rw [e]; rfl)
            obtain ⟨un, ef⟩ : unq p y = false ∧ f3 p y = fam p y := by
              rcases f3_of (p := p) y with ⟨-, -, c⟩ | c
              · exact absurd c n3
              · exact c
            have eo : (opn p y && decide (rnd g y = r)) = false := by unfold opn; rw [decide_eq_false (show ¬ fam p y = 0 by omega)]; simp
            have eu : ur p r y = false := by unfold ur; rw [un]; rfl
            rw [show (1 : Int32) = bI true from rfl, show (0 : Int32) = bI false from rfl, bI_and, bI_or, Bool.and_true, Bool.or_false]
            exact same eo eu
          · rw [bI_1] at q q2
            have er := (nI_eq (by omega) (by omega)).mp q3
            have e3 : f3 p y = 3 := (nI_eq (b := 3) (by omega) (by decide)).mp q5
            obtain ⟨un, ef⟩ : unq p y = true ∧ fam p y = 2 := by
              rcases f3_of (p := p) y with ⟨c1, c2, -⟩ | ⟨-, c⟩
              · exact ⟨c1, c2⟩
              · have := fam_le (p := p) y; omega
            have eo : (opn p y && decide (rnd g y = r)) = false := by unfold opn; rw [decide_eq_false (show ¬ fam p y = 0 by omega)]; simp
            have eu : ur p r y = true := ur_iff.mpr ⟨un, by rw [pgp]; exact er⟩
            rw [sA, sA, eo, eu, Bool.or_true, Bool.or_false] at ihy
            rw [nI_1, show (1 : Int32) = bI true from rfl, bI_and, bI_or, Bool.and_true, Bool.or_true]
            exact ihy
          · have nr : ¬ rnd g y = r := fun e => q3 (by rw [e])
            refine same ?_ (urf (fun z => nr z.2.2))
            rw [decide_eq_false nr, Bool.and_false]
      have := l384 0 (Nat.zero_le _)
      have e0 : (decide (r ≤ lot p N) && !anyN (fun z => opn p z && decide (rnd g z = r)) 0) = decide (r ≤ lot p N) := by
        show (_ && !false) = _
        rw [Bool.not_false, Bool.and_true]
      rw [e0] at this
      exact this
  -- who is unique
  have l238 : ∀ x, x ≤ N → ∀ τ : Sg, (MBs H i σ τ ∧ (∀ y, y < N → τ.1 20 y = nI (if y < x then f3 p y else fam p y)) ∧ ∀ y, y < N → τ.1 21 y = 0 ∧ τ.1 22 y = -1) → L238 (nI last) (nI (i * 240)) (nI x) τ := by
    refine lup (L := fun x τ => L238 (nI last) (nI (i * 240)) (nI x) τ) (fun x τ => MBs H i σ τ ∧ (∀ y, y < N → τ.1 20 y = nI (if y < x then f3 p y else fam p y)) ∧ ∀ y, y < N → τ.1 21 y = 0 ∧ τ.1 22 y = -1) N (fun τ ht => ?_) (fun x τ hx ht ih => ?_)
    · obtain ⟨b, t1, t2⟩ := ht
      refine r238 _ _ _ _ ?_
      unfold f_X8_find_238
      rw [(rd τ b).2.1]
      refine ⟨fun _ => ?_, fun q => absurd (Int32.le_refl _) q⟩
      obtain ⟨τ1, h1⟩ : ∃ z, z = pI (pI τ 0 23 0) 0 24 0 := ⟨_, rfl⟩
      rw [← h1]
      have F1 : Fr [0] τ τ1 := by rw [h1]; exact Fr_pI (Fr_pI (Fr.refl _ _) (by decide)) (by decide)
      have K1 : K0 [23, 24] τ τ1 := by rw [h1]; exact K0_pI (K0_pI K0.refl (by decide)) (by decide)
      have r10 : rq p 1 0 = fun _ => false := by
        funext y
        cases e : rq p 1 0 y
        · rfl
        · obtain ⟨a, c | ⟨-, c⟩⟩ := rq_iff.mp e
          · have := inR_iff.mp a; omega
          · exact absurd c (Nat.not_lt_zero _)
      have b1 : MBs H i σ τ1 := ⟨b.1.trans (F1.mono (by decide)), b.2.1.trans (K1.mono (by decide)), b.2.2.1.sm (F1 18 (by decide)).1, b.2.2.2.1.sm (F1 19 (by decide)).1, by rw [K1 22 (by decide)]; exact b.2.2.2.2⟩
      have go := l372 1 (by omega) τ1 ⟨Nat.le_refl _, b1, ⟨fun y hy => ?_, fun y hy => ?_, fun y hy hq => ?_, fun y hy hq => ?_, ?_⟩, ?_, fun y hy => ?_⟩
      · have e1 : decide (1 ≤ lot p N) = true := by
          refine decide_eq_true ?_
          rcases lot_at (p := p) N with z | ⟨y, z1, -, z3⟩
          · omega
          · rw [pgp] at z3
            have := (rpos y z1).1
            omega
        rw [e1] at go
        exact go
      · rw [pNp] at hy
        rw [(F1 20 (by decide)).1, t1 y hy, if_pos hy]
      · rw [pNp] at hy
        rw [(F1 21 (by decide)).1, (t2 y hy).1, r10]
        rfl
      · rw [r10] at hq
        cases hq
      · rw [r10] at hq
        cases hq
      · rw [h1, pI_at, if_neg (by decide), pI_at, if_pos (by decide), r10, cnt_0 _ (fun _ _ => rfl)]
        rfl
      · rw [h1, pI_at, if_pos (by decide)]
        have : cnt (stl p) 1 = 0 := by
          refine cnt_0 1 (fun j hj => ?_)
          have : j = 0 := by omega
          subst this
          rfl
        rw [this]
        rfl
      · rw [(F1 22 (by decide)).1]
        exact (t2 y hy).2
    · obtain ⟨b, t1, t2⟩ := ht
      obtain ⟨rd1, rd2, rd3, rd4, rd5⟩ := rd τ b
      have cx : (nI x).toNatClampNeg = x := cl_nI (by omega)
      have vx := v240 (show x < 240 by omega)
      have fl := fam_le (p := p) x
      have ex : τ.1 20 x = nI (fam p x) := by rw [t1 x hx, if_neg (Nat.lt_irrefl _)]
      have keep : unq p x = false → L238 (nI last) (nI (i * 240)) (nI x + 1) τ := fun hu => by
        rw [nI_1]
        refine ih τ ⟨b, fun y hy => ?_, t2⟩
        rw [t1 y hy]
        by_cases e : y = x
        · subst e
          rw [if_neg (Nat.lt_irrefl _), if_pos (Nat.lt_succ_self _)]
          unfold f3
          rw [hu]
          rfl
        · by_cases q : y < x
          · rw [if_pos q, if_pos (by omega)]
          · rw [if_neg q, if_neg (by omega)]
      refine r238 _ _ _ _ ?_
      unfold f_X8_find_238 f_X8_find_350
      rw [rd2, cx, ex]
      refine ⟨fun q => absurd q (nI_ge hx (by omega)), fun _ => ⟨vx, fun q => ?_, fun q => keep ?_⟩⟩
      · have e2 : fam p x = 2 := (nI_eq (b := 2) (by omega) (by decide)).mp q
        have l267 : ∀ y, y ≤ N → L267 (nI last) (nI (i * 240)) (nI x) (bI (!anyN (riv p x) y)) (nI y) τ := by
          refine down N ?_ (fun y hy ihy => ?_)
          · have eu : unq p x = !anyN (riv p x) N := by unfold unq; rw [e2, decide_eq_true rfl, Bool.true_and, pNp]
            refine r267 _ _ _ _ _ _ ?_
            unfold f_X8_find_267 f_X8_find_350
            rw [rd2, ← eu, cx]
            refine ⟨fun _ => ⟨fun q2 => keep ((bI_0 _).mp q2), fun q2 => ⟨vx, ?_⟩⟩, fun q => absurd (Int32.le_refl _) q⟩
            rw [bI_1] at q2
            rw [nI_1]
            have F1 : Fr [20] τ (pI τ 20 x 3) := Fr_pI (Fr.refl _ _) (by decide)
            refine ih _ ⟨b.fr (F1.mono (by decide)), fun y hy => ?_, fun y hy => ?_⟩
            · rw [pI_at]
              by_cases e : y = x
              · subst e
                rw [if_pos ⟨rfl, rfl⟩, if_pos (Nat.lt_succ_self _)]
                unfold f3
                rw [q2, if_pos rfl]
                rfl
              · rw [if_neg (fun z => e z.2), t1 y hy]
                by_cases q : y < x
                · rw [if_pos q, if_pos (by omega)]
                · rw [if_neg q, if_neg (by omega)]
            · rw [(F1 21 (by decide)).1, (F1 22 (by decide)).1]
              exact t2 y hy
          · have cy : (nI y).toNatClampNeg = y := cl_nI (by omega)
            have vy := v240 (show y < 240 by omega)
            have sA : anyN (riv p x) (y + 1) = (anyN (riv p x) y || riv p x y) := rfl
            have same : riv p x y = false → L267 (nI last) (nI (i * 240)) (nI x) (bI (!anyN (riv p x) y)) (nI y + 1) τ := fun e => by
              rw [sA, e, Bool.or_false] at ihy
              rw [nI_1]
              exact ihy
            have rno : ¬ (y ≠ x ∧ 2 ≤ fam p y ∧ rnd g y = rnd g x ∧ gc g y = gc g x) → riv p x y = false := fun z => by
              cases e : riv p x y
              · rfl
              · have := riv_iff.mp e
                rw [pgp] at this
                exact absurd this z
            obtain ⟨c7, -, c1⟩ := rd3 y hy
            obtain ⟨d7, -, d1⟩ := rd3 x hx
            have g1 := (hP.1 y hy).1
            have g2 := (hP.1 x hx).1
            have k1 := (rpos y hy).2
            have k2 := (rpos x hx).2
            have fly := fam_le (p := p) y
            have f3y := f3_of (p := p) y
            refine r267 _ _ _ _ _ _ ?_
            unfold f_X8_find_267 f_X8_find_331
            rw [rd2, cx, cy, c1, d1, c7, d7, t1 y hy]
            refine ⟨fun q => absurd q (nI_ge hy (by omega)), fun _ => ⟨fun q2 => same (rno (fun z => z.1 ((nI_eq (by omega) (by omega)).mp q2))), fun q2 => ⟨vy, fun q3 => same (rno (fun z => ?_)), fun q3 => ⟨vy, vx, fun q4 => same (rno (fun z => q4 (by rw [z.2.2.2]))), fun q4 => ⟨vy, vx, fun q5 => same (rno (fun z => q5 (by rw [z.2.2.1]))), fun q5 => ?_⟩⟩⟩⟩⟩
            · have : (if y < x then f3 p y else fam p y) < 2 := by
                refine (nI_ltI ?_ (by decide)).mp q3
                split
                · have := f3_le (p := p) y; omega
                · omega
              have z2 := z.2.1
              by_cases q : y < x
              · rw [if_pos q] at this
                rcases f3y with ⟨-, -, c⟩ | ⟨-, c⟩ <;> omega
              · rw [if_neg q] at this
                omega
            · have h2 : ¬ (if y < x then f3 p y else fam p y) < 2 := fun z => q3 (nI_lt z (by decide))
              have hf2 : 2 ≤ fam p y := by
                by_cases q : y < x
                · rw [if_pos q] at h2
                  rcases f3y with ⟨-, c, -⟩ | ⟨-, c⟩ <;> omega
                · rw [if_neg q] at h2
                  omega
              have hr : riv p x y = true := riv_iff.mpr ⟨fun z => q2 (by rw [z]), hf2, by rw [pgp]; exact (nI_eq (by omega) (by omega)).mp q5, by rw [pgp]; exact (nI_eq (by omega) (by omega)).mp q4⟩
              rw [sA, hr, Bool.or_true] at ihy
              rw [nI_1]
              exact ihy
        exact l267 0 (Nat.zero_le _)
      · cases hu : unq p x
        · rfl
        · have := (unq_iff.mp hu).1
          exact absurd (by rw [this]; rfl) q
  -- who is famous
  have l25 : ∀ x, x ≤ N → ∀ τ : Sg, (MBs H i σ τ ∧ ∀ y, y < x → τ.1 20 y = nI (fam p y) ∧ τ.1 21 y = 0 ∧ τ.1 22 y = -1) → L25 (nI (mx (fun y => phd p y && wit g y) (rnd g) x)) (nI (i * 240)) (nI x) τ := by
    refine lup (L := fun x τ => L25 (nI (mx (fun y => phd p y && wit g y) (rnd g) x)) (nI (i * 240)) (nI x) τ) (fun x τ => MBs H i σ τ ∧ ∀ y, y < x → τ.1 20 y = nI (fam p y) ∧ τ.1 21 y = 0 ∧ τ.1 22 y = -1) N (fun τ ht => ?_) (fun x τ hx ht ih => ?_)
    · obtain ⟨b, t1⟩ := ht
      refine r25 _ _ _ _ ?_
      unfold f_X8_find_25
      rw [(rd τ b).2.1, ← elast]
      refine ⟨fun _ => l238 0 (Nat.zero_le _) τ ⟨b, fun y hy => ?_, fun y hy => (t1 y hy).2⟩, fun q => absurd (Int32.le_refl _) q⟩
      rw [if_neg (Nat.not_lt_zero _)]
      exact (t1 y hy).1
    · obtain ⟨b, t1⟩ := ht
      have cx : (nI x).toNatClampNeg = x := cl_nI (by omega)
      have vx := v240 (show x < 240 by omega)
      refine r25 _ _ _ _ ?_
      unfold f_X8_find_25 f_X8_find_229 f_X8_find_102
      rw [(rd τ b).2.1, cx, nI_add, cl_nI (show i * 240 + x < 2 ^ 31 by omega)]
      obtain ⟨τ1, h1⟩ : ∃ z, z = pI (pI (pI τ 20 x 0) 21 x 0) 22 x (-1) := ⟨_, rfl⟩
      rw [← h1]
      have F1 : Fr [20, 21, 22] τ τ1 := by rw [h1]; exact Fr_pI (Fr_pI (Fr_pI (Fr.refl _ _) (by decide)) (by decide)) (by decide)
      have b1 := b.fr (F1.mono (by decide))
      obtain ⟨rd1, rd2, rd3, rd4, rd5⟩ := rd τ1 b1
      obtain ⟨a7, a17, -⟩ := rd3 x hx
      rw [rd4 x (by omega), a17, a7]
      have e20 : ∀ y, τ1.1 20 y = if y = x then 0 else τ.1 20 y := fun y => by
        rw [h1, pI_ne _ _ _ (by decide), pI_ne _ _ _ (by decide), pI_at]
        by_cases e : y = x
        · rw [if_pos ⟨rfl, e⟩, if_pos e]
        · rw [if_neg (fun q => e q.2), if_neg e]
      have e21 : ∀ y, τ1.1 21 y = if y = x then 0 else τ.1 21 y := fun y => by
        rw [h1, pI_ne _ _ _ (by decide), pI_at, pI_ne _ _ _ (by decide)]
        by_cases e : y = x
        · rw [if_pos ⟨rfl, e⟩, if_pos e]
        · rw [if_neg (fun q => e q.2), if_neg e]
      have e22 : ∀ y, τ1.1 22 y = if y = x then -1 else τ.1 22 y := fun y => by
        rw [h1, pI_at, pI_ne _ _ _ (by decide), pI_ne _ _ _ (by decide)]
        by_cases e : y = x
        · rw [if_pos ⟨rfl, e⟩, if_pos e]
        · rw [if_neg (fun q => e q.2), if_neg e]
      have sM : mx (fun y => phd p y && wit g y) (rnd g) (x + 1) = if (phd p x && wit g x) = true then max (mx (fun y => phd p y && wit g y) (rnd g) x) (rnd g x) else mx (fun y => phd p y && wit g y) (rnd g) x := rfl
      -- done with x
      have done : ∀ τ2 : Sg, MBs H i σ τ2 → Fr [18, 19, 20] τ1 τ2 → (∀ y, y < x → τ2.1 20 y = τ1.1 20 y) → τ2.1 20 x = nI (fam p x) → L25 (nI (mx (fun y => phd p y && wit g y) (rnd g) (x + 1))) (nI (i * 240)) (nI x + 1) τ2 := fun τ2 b2 f2 o2 n2 => by
        rw [nI_1]
        refine ih τ2 ⟨b2, fun y hy => ?_⟩
        rw [(f2 21 (by decide)).1, (f2 22 (by decide)).1, e21, e22]
        by_cases e : y = x
        · subst e
          rw [if_pos rfl, if_pos rfl]
          exact ⟨n2, rfl, rfl⟩
        · rw [if_neg e, if_neg e, o2 y (by omega), e20, if_neg e]
          exact t1 y (by omega)
      have none : (phd p x && wit g x) = false → L25 (nI (mx (fun y => phd p y && wit g y) (rnd g) x)) (nI (i * 240)) (nI x + 1) τ1 := fun hf => by
        have e := done τ1 b1 (Fr.refl _ _) (fun _ _ => rfl) (by
          rw [e20, if_pos rfl]
          cases c1 : phd p x
          · rw [fam_out c1]; rfl
          · rw [c1, Bool.true_and] at hf
            rw [fam_nw (by rw [pgp]; exact hf)]
            rfl)
        rw [sM, hf] at e
        exact e
      -- its deciders
      have l108 : phd p x = true → wit g x = true → ∀ y, y ≤ N → ∀ τ2 : Sg, (MBs H i σ τ2 ∧ Fr [18, 19] τ1 τ2) → L108 (nI (mx (fun y => phd p y && wit g y) (rnd g) (x + 1))) (nI (i * 240)) (nI x) (nO (bst p x y)) (nI y) τ2 := by
        intro hd hw
        have hxp : x < hN H := by rw [← eN]; exact hx
        have bl : ∀ y b, y ≤ N → bst p x y = some b → b < N ∧ wit g b = true ∧ rnd g x < rnd g b ∧ 2 ≤ vt g (hhb H) x b := fun y b hy hb => by
          obtain ⟨c1, c2⟩ := bst_at y hb
          unfold dcs at c2
          rw [Bool.and_eq_true, Bool.and_eq_true, Bool.and_eq_true, decide_eq_true_eq, decide_eq_true_eq, pgp, phbp] at c2
          exact ⟨by omega, c2.2.1, c2.2.2.1, c2.2.2.2⟩
        refine lup (L := fun y τ2 => L108 (nI (mx (fun y => phd p y && wit g y) (rnd g) (x + 1))) (nI (i * 240)) (nI x) (nO (bst p x y)) (nI y) τ2) (fun y τ2 => MBs H i σ τ2 ∧ Fr [18, 19] τ1 τ2) N (fun τ2 ht => ?_) (fun y τ2 hy ht ih2 => ?_)
        · obtain ⟨b2, f2⟩ := ht
          refine r108 _ _ _ _ _ _ ?_
          unfold f_X8_find_108 f_X8_find_229
          rw [(rd τ2 b2).2.1]
          refine ⟨fun _ => ⟨fun q => ?_, fun q => ?_⟩, fun q => absurd (Int32.le_refl _) q⟩
          · have hb : bst p x N = Option.none := by
              cases hb : bst p x N with
              | none => rfl
              | some z => rw [hb] at q; exact absurd q (nI_pos (by have := (bl N z (Nat.le_refl _) hb).1; omega))
            refine done τ2 b2 (f2.mono (by decide)) (fun y _ => by rw [(f2 20 (by decide)).1]) ?_
            rw [(f2 20 (by decide)).1, e20, if_pos rfl]
            unfold fam
            rw [pgp, hw, hd, pNp, hb]
            rfl
          · cases hb : bst p x N with
            | none => rw [hb] at q; exact absurd (by decide) q
            | some z =>
              obtain ⟨z1, z2, z3, z4⟩ := bl N z (Nat.le_refl _) hb
              have vl := vt_le (g := g) (hb := hhb H) x z
              show sp_X8_voteOf (nI z) (nI x) τ2 _
              refine vote_ok (b2.me hE) (by omega) hxp (by rw [← eg]; exact z2) (by rw [← eg]; exact hw) (by rw [← eg]; exact z3) (fun τ3 s3 v3 f3' => ?_)
              rw [← eg]
              have b3 := b2.vote s3 v3 f3'
              unfold f_X8_find_228 f_X8_find_229
              rw [cx]
              have fe : fam p x = if odd (vt g (hhb H) x z) then 2 else 1 := by
                unfold fam
                rw [pgp, hw, hd, pNp, hb, phbp]
                rfl
              have fin : ∀ v : Int32, v = nI (fam p x) → L25 (nI (mx (fun y => phd p y && wit g y) (rnd g) (x + 1))) (nI (i * 240)) (nI x + 1) (pI τ3 20 x v) := fun v hv => by
                have F4 : Fr [20] τ3 (pI τ3 20 x v) := Fr_pI (Fr.refl _ _) (by decide)
                refine done _ (b3.fr (F4.mono (by decide))) ((f2.mono (by decide)).trans ((f3'.mono (by decide)).trans (F4.mono (by decide)))) (fun y hy => ?_) ?_
                · rw [pI_at, if_neg (fun q => by omega), (f3' 20 (by decide)).1, (f2 20 (by decide)).1]
                · rw [pI_at, if_pos ⟨rfl, rfl⟩]; exact hv
              refine ⟨fun q3 => ⟨vx, fin 1 ?_⟩, fun q3 => ⟨vx, fin 2 ?_⟩⟩
              · have n3 : vt g (hhb H) x z ≠ 3 := fun e => q3 (by rw [e]; rfl)
                have : vt g (hhb H) x z = 2 := by omega
                rw [fe, this]
                rfl
              · have : vt g (hhb H) x z = 3 := (nI_eq (b := 3) (by omega) (by decide)).mp q3
                rw [fe, this]
                rfl
        · obtain ⟨b2, f2⟩ := ht
          obtain ⟨s1, s2, s3, s4, s5⟩ := rd τ2 b2
          have cy : (nI y).toNatClampNeg = y := cl_nI (by omega)
          have vy := v240 (show y < 240 by omega)
          obtain ⟨c7, c17, -⟩ := s3 y hy
          obtain ⟨d7, -, -⟩ := s3 x hx
          have k1 := (rpos y hy).2
          have k2 := (rpos x hx).2
          have sB : bst p x (y + 1) = if (dcs p x y && erl p y (bst p x y)) = true then some y else bst p x y := rfl
          have same : (dcs p x y && erl p y (bst p x y)) = false → ∀ τ3 : Sg, MBs H i σ τ3 → Fr [18, 19] τ1 τ3 → L108 (nI (mx (fun y => phd p y && wit g y) (rnd g) (x + 1))) (nI (i * 240)) (nI x) (nO (bst p x y)) (nI y + 1) τ3 := fun e τ3 b3 f3' => by
            rw [nI_1]
            have := ih2 τ3 ⟨b3, f3'⟩
            rw [sB, e] at this
            exact this
          have take : (dcs p x y && erl p y (bst p x y)) = true → ∀ τ3 : Sg, MBs H i σ τ3 → Fr [18, 19] τ1 τ3 → L108 (nI (mx (fun y => phd p y && wit g y) (rnd g) (x + 1))) (nI (i * 240)) (nI x) (nI y) (nI y + 1) τ3 := fun e τ3 b3 f3' => by
            rw [nI_1]
            have := ih2 τ3 ⟨b3, f3'⟩
            rw [sB, e] at this
            exact this
          refine r108 _ _ _ _ _ _ ?_
          unfold f_X8_find_108 f_X8_find_194 f_X8_find_190 f_X8_find_194
          rw [s2, nI_add, cl_nI (show i * 240 + y < 2 ^ 31 by omega), s4 y (by omega), cy, c17, c7, cx, d7]
          refine ⟨fun q => absurd q (nI_ge hy (by omega)), fun _ => ⟨vp_in_nI (by omega) (by omega), fun q => same ?_ τ2 b2 f2, fun q => ⟨vy, fun q2 => same ?_ τ2 b2 f2, fun q2 => ⟨vy, vx, fun q3 => same ?_ τ2 b2 f2, fun q3 => ?_⟩⟩⟩⟩
          · rw [bI_0] at q
            unfold dcs
            rw [q]
            rfl
          · rw [bI_0] at q2
            unfold dcs
            rw [pgp, q2]
            simp
          · have : rnd g y ≤ rnd g x := (nI_leI (by omega) (by omega)).mp q3
            unfold dcs
            rw [pgp, decide_eq_false (show ¬ rnd g x < rnd g y by omega)]
            simp
          · rw [bI_1] at q q2
            have hlt : rnd g x < rnd g y := by
              apply Classical.byContradiction
              intro z
              exact q3 (nI_le (by omega) (by omega))
            have vl := vt_le (g := g) (hb := hhb H) x y
            refine vote_ok (b2.me hE) (by omega) hxp (by rw [← eg]; exact q2) (by rw [← eg]; exact hw) (by rw [← eg]; exact hlt) (fun τ3 s3' v3 f3' => ?_)
            rw [← eg]
            have b3 := b2.vote s3' v3 f3'
            have f13 : Fr [18, 19] τ1 τ3 := f2.trans f3'
            have hdc : dcs p x y = decide (2 ≤ vt g (hhb H) x y) := by
              unfold dcs
              rw [pgp, phbp, q, q2, decide_eq_true hlt]
              rfl
            refine ⟨fun q4 => same ?_ τ3 b3 f13, fun q4 => ⟨fun q5 => take ?_ τ3 b3 f13, fun q5 => ?_⟩⟩
            · have : vt g (hhb H) x y ≤ 1 := (nI_leI (b := 1) (by omega) (by decide)).mp q4
              rw [hdc, decide_eq_false (by omega)]
              rfl
            · have h2 : 2 ≤ vt g (hhb H) x y := by
                apply Classical.byContradiction
                intro z
                exact q4 (nI_le (b := 1) (by omega) (by decide))
              have hb : bst p x y = Option.none := by
                cases hb : bst p x y with
                | none => rfl
                | some z => rw [hb] at q5; exact absurd q5 (nI_pos (by have := (bl y z (by omega) hb).1; omega))
              rw [hdc, decide_eq_true h2, hb]
              rfl
            · have h2 : 2 ≤ vt g (hhb H) x y := by
                apply Classical.byContradiction
                intro z
                exact q4 (nI_le (b := 1) (by omega) (by decide))
              cases hb : bst p x y with
              | none => rw [hb] at q5; exact absurd (by decide) q5
              | some z =>
                obtain ⟨z1, z2, z3, z4⟩ := bl y z (by omega) hb
                rw [hb] at same take
                have cz : (nI z).toNatClampNeg = z := cl_nI (by omega)
                have kz := (rpos z z1).2
                have e7z := ((rd τ3 b3).2.2.1 z z1).1
                have e7y := ((rd τ3 b3).2.2.1 y hy).1
                have her : erl p y (some z) = decide (rnd g y < rnd g z) := by unfold erl; rw [pgp]
                show vp_in (nI y) 240 ∧ vp_in (nI z) 240 ∧ (τ3.1 7 (nI z).toNatClampNeg ≤ τ3.1 7 y → _) ∧ (¬ τ3.1 7 (nI z).toNatClampNeg ≤ τ3.1 7 y → _)
                rw [cz, e7z, e7y]
                refine ⟨vy, v240 (by omega), fun q6 => same ?_ τ3 b3 f13, fun q6 => take ?_ τ3 b3 f13⟩
                · have : rnd g z ≤ rnd g y := (nI_leI (by omega) (by omega)).mp q6
                  rw [her, decide_eq_false (by omega), Bool.and_false]
                · have : ¬ rnd g z ≤ rnd g y := fun w => q6 (nI_le w (by omega))
                  rw [hdc, decide_eq_true h2, her, decide_eq_true (by omega)]
                  rfl
      have k2 := (rpos x hx).2
      have mb := mxle x (by omega)
      refine ⟨fun q => absurd q (nI_ge hx (by omega)), fun _ => ⟨vx, vx, vx, vp_in_nI (by omega) (by omega), fun q => none ?_, fun q => ⟨vx, fun q2 => ⟨vx, fun q3 => ?_, fun q3 => ⟨vx, ?_⟩⟩, fun q2 => none ?_⟩⟩⟩
      · rw [bI_0] at q
        rw [q]
        rfl
      · rw [bI_1] at q q2
        have go := l108 q q2 0 (Nat.zero_le _) τ1 ⟨b1, Fr.refl _ _⟩
        have : rnd g x ≤ mx (fun y => phd p y && wit g y) (rnd g) x := (nI_leI (by omega) (by omega)).mp q3
        rw [sM, q, q2, if_pos (by decide), Nat.max_eq_left this] at go
        exact go
      · rw [bI_1] at q q2
        have go := l108 q q2 0 (Nat.zero_le _) τ1 ⟨b1, Fr.refl _ _⟩
        have : ¬ rnd g x ≤ mx (fun y => phd p y && wit g y) (rnd g) x := fun w => q3 (nI_le w (by omega))
        rw [sM, q, q2, if_pos (by decide), Nat.max_eq_right (by omega)] at go
        exact go
      · rw [bI_0] at q2
        rw [q2, Bool.and_false]
  show f_X8_find_e (nI i) L25 L108 L238 L267 L372 L384 L516 L544 L574 K σ
  unfold f_X8_find_e
  refine ⟨fun _ => ?_, fun q => ?_⟩
  · have e240 : (240 : Int32) * nI i = nI (i * 240) := by rw [show (240 : Int32) = nI 240 from rfl, pk_mul, Nat.mul_comm]
    rw [e240]
    have F0 : Fr [0] σ (pI σ 0 22 (nI i)) := Fr_pI (Fr.refl _ _) (by decide)
    exact l25 0 (Nat.zero_le _) _ ⟨⟨F0.mono (by decide), K0_pI K0.refl (by decide), hE.2.2.1.sm (F0 18 (by decide)).1, hE.2.2.2.2.1.sm (F0 19 (by decide)).1, by rw [pI_at, if_pos ⟨rfl, rfl⟩]⟩, fun y hy => absurd hy (Nat.not_lt_zero _)⟩
  · rcases hVw with e | ⟨j, h1, h2, h3⟩
    · rw [e] at q
      exact absurd q.symm (nO_some (by omega))
    · rw [h2] at q
      have hj : j = i := (nI_eq (by rw [← eg] at h1; omega) (by omega)).mp q
      rw [hj, ← ep] at h3
      exact hK σ ⟨hE, hM, hW, hLt, hLK, Or.inr ⟨i, by rw [← eg]; exact hi, by rw [h2, hj], by rw [← ep]; exact h3⟩⟩ h3 rfl
