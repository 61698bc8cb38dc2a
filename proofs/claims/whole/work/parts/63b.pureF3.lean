theorem phO_ph {h : Hs} {σ : Sg} (hH : ∀ x w, x < hN h → w < 8 → σ.1 19 (x * 8 + w) = hsh h x w) {q : Option Nat} (hq : ∀ y, q = some y → y < hN h) : ∀ w, w < 8 → ph (σ.1 19) q w = phO (hsh h) q w := fun w hw => by
  cases q with
  | none => rfl
  | some y => exact hH y w (hq y rfl) hw
theorem v_X7_makeEvent (x1 x2 x3 : Int32) (x4 : Int64) (x6 : Int32) (σ : Sg) (K : Int32 → Sg → Prop) (h : sp_X7_makeEvent x1 x2 x3 x4 x6 σ K) : vc_X7_makeEvent x1 x2 x3 x4 x6 σ K := by
  obtain ⟨H, c, s, o, k, hD, m, rfl, rfl, rfl, rfl, hK⟩ := h
  obtain ⟨hC, d0, ⟨eA, eH, eT, eX⟩, ⟨hd0, hd⟩, hG, hE, h7, hW⟩ := id hD
  obtain ⟨m1, m2, m3, m4, m5, m6, m7⟩ := id m
  have hP := hC.2.2.1
  have hc8 : c < 8 := by have := hP.2.2; omega
  have hP2 := pok_mk (t := x4) hC m
  have hC2 := hc_mk (t := x4) hC m
  have hA : AG (hg H) (hg (hmk H c s o x4 k)) (hN H) := ag_mk
  have cN : (nI (hN H)).toNatClampNeg = hN H := cl_nI (by omega)
  intro L r
  have loop : ∀ i, i ≤ k → ∀ τ : Sg, ML H c s o x4 σ i τ → L (nI (hN H)) (nI i) τ := by
    refine lup (L := fun i τ => L (nI (hN H)) (nI i) τ) (fun i τ => ML H c s o x4 σ i τ) k (fun τ ht => ?_) (fun i τ hi ht ih => ?_)
    · refine r _ _ _ ⟨fun _ => ?_, fun q => absurd (Int32.le_refl _) q⟩
      obtain ⟨w, z7, z12, z13, z14, z15, z16, zo, zn, F⟩ := ht
      have a12 : τ.1 12 (hN H) = nI c := by rw [z12, if_pos rfl]
      have a13 : τ.1 13 (hN H) = nO s := by rw [z13, if_pos rfl]
      have a14 : τ.1 14 (hN H) = nO o := by rw [z14, if_pos rfl]
      have a15 : τ.2 15 (hN H) = x4 := by rw [z15, if_pos rfl]
      have a16 : τ.1 16 (hN H) = nI k := by rw [z16, if_pos rfl]
      have g19 : τ.1 19 = σ.1 19 := (F 19 (by decide)).1
      refine ⟨hN H, k, s, o, rfl, m1, m6, a16, a13, a14, fun y hy => by have := (m3 y hy).1; omega, fun y hy => by have := m4 y hy; omega, fun τ1 z19 F1 => ?_⟩
      have hev : evL (τ.1 12 (hN H)) (ph (τ.1 19) s) (ph (τ.1 19) o) (τ.2 15 (hN H)) k (fun i => τ.1 17 (hN H * 3 + i)) (fun i => τ.1 18 (hN H * 3 + i)) = evL (nI c) (phO (hsh H) s) (phO (hsh H) o) x4 k (hwt H c) (hwa H c) := by
        rw [a12, a15, g19]
        exact evL_congr (phO_ph eH (fun y hy => (m3 y hy).1)) (phO_ph eH m4) (fun i hi => zn i hi)
      rw [hev, ← hsh_new m (t := x4)] at z19
      have F2 : Fr [4, 5, 6, 7, 8, 9, 10, 11, 12, 13, 14, 15, 16, 17, 18, 19] σ τ1 := (F.mono (by decide)).trans (F1.mono (by decide))
      have E1 : EvP (hmk H c s o x4 k) τ1 := by
        refine ⟨fun x hx => ?_, fun x w hx hw => ?_, fun x hx => ?_, fun x hx => ?_⟩
        · rw [(F1 12 (by decide)).1, (F1 13 (by decide)).1, (F1 14 (by decide)).1, z12, z13, z14]
          have hx2 : x < hN H + 1 := hx
          by_cases e : x = hN H
          · subst e
            obtain ⟨n1, n2, n3, -⟩ := mk_new (h := H) (c := c) (s := s) (o := o) (t := x4) (k := k)
            rw [if_pos rfl, if_pos rfl, if_pos rfl, n1, n2, n3]
            exact ⟨rfl, rfl, rfl⟩
          · obtain ⟨o1, o2, o3⟩ := mk_old (h := H) (c := c) (s := s) (o := o) (t := x4) (k := k) x (by omega)
            rw [if_neg e, if_neg e, if_neg e, o1, o2, o3]
            exact eA x (by omega)
        · have hx2 : x < hN H + 1 := hx
          rw [z19]
          by_cases e : x = hN H
          · subst e
            rw [if_pos (by omega), Nat.add_sub_cancel_left]
          · rw [if_neg (by omega), g19, hsh_mk x (by omega)]
            exact eH x w (by omega) hw
        · have hx2 : x < hN H + 1 := hx
          rw [(F1 15 (by decide)).2, z15]
          by_cases e : x = hN H
          · subst e
            rw [if_pos rfl]
            exact (uN_at _ _ _).symm
          · rw [if_neg e, show htm (hmk H c s o x4 k) x = htm H x from uN_ne _ _ e]
            exact eT x (by omega)
        · have hx2 : x < hN H + 1 := hx
          rw [(F1 16 (by decide)).1, (F1 17 (by decide)).1, (F1 18 (by decide)).1, z16]
          by_cases e : x = hN H
          · subst e
            obtain ⟨-, -, -, -, n5, n6, n7⟩ := mk_new (h := H) (c := c) (s := s) (o := o) (t := x4) (k := k)
            rw [if_pos rfl, n5, n6, n7]
            exact ⟨rfl, zn⟩
          · rw [if_neg e, show htn (hmk H c s o x4 k) x = htn H x from uN_ne _ _ e, show htt (hmk H c s o x4 k) x = htt H x from uN_ne _ _ e, show hta (hmk H c s o x4 k) x = hta H x from uN_ne _ _ e]
            obtain ⟨q1, q2⟩ := eX x (by omega)
            have q3 := (hC.2.2.2.2.1 x (by omega)).1
            refine ⟨q1, fun i hi => ?_⟩
            obtain ⟨p1, p2⟩ := zo (x * 3 + i) (by omega)
            rw [p1, p2]
            exact q2 i hi
      refine ⟨hg (hmk H c s o x4 k), hN H, rfl, m1, hP2, E1.1, (hG.ag hA hP).sm (F2.sm _ (by decide)), fun τ2 G2 F3 => ?_⟩
      have HB2 : HB (hhb (hmk H c s o x4 k)) (hN H + 1) τ2 := fun y hy => by
        rw [(F3 19 (by decide)).1, E1.2.1 y 4 hy (by omega)]
        unfold hhb
        rw [decide_eq_true_eq]
      have hb2 : ∀ y, y < hN H → hhb (hmk H c s o x4 k) y = hhb H y := fun y hy => by
        unfold hhb
        rw [hsh_mk y hy]
      have F4 : Fr [4, 5, 6, 7, 8, 9, 10, 11, 12, 13, 14, 15, 16, 17, 18, 19, 22, 24, 26, 28, 30, 31, 32, 33, 34, 35, 36] σ τ2 := (F2.mono (by decide)).trans (F3.mono (by decide))
      refine ⟨hg (hmk H c s o x4 k), hhb (hmk H c s o x4 k), hN H, rfl, m1, hP2, G2.2.1, G2.2.2.1, G2.2.2.2.2.1, HB2, (hE.ag hA hP (hP2.mono (Nat.le_succ _)) hb2).sm (F4.sm _ (by decide)), fun τ3 E3 F5 => ?_⟩
      have F6 : Fr SM σ τ3 := (F4.mono (by decide)).trans (F5.mono (by decide))
      have F7 : Fr [22, 24, 26, 28, 30, 31, 32, 33, 34, 35, 36, 37, 38, 40, 42, 44] τ1 τ3 := (F3.mono (by decide)).trans (F5.mono (by decide))
      refine hK τ3 ⟨hC2, ?_, E1.sm (F7.sm _ (by decide)), ⟨?_, fun q x hq hx => ?_⟩, G2.sm (F5.sm _ (by decide)), E3, ?_, ?_⟩ F6
      · rw [(F6 0 (by decide)).1]; exact d0
      · rw [(F6 20 (by decide)).1]; exact hd0
      · rw [F6.bt (by decide)]; exact hd q x hq hx
      · rw [(F7 7 (by decide)).1, (F1 7 (by decide)).1]; exact z7
      · exact (w.sm (F1.sm _ (by decide))).sm (F7.sm _ (by decide))
    · refine r _ _ _ ⟨fun q => absurd q (nI_ge hi (by omega)), fun _ => ?_⟩
      rw [nI_1]
      exact ml_step hC m1 hc8 (by omega) (by omega) ht ih
  show f_X7_makeEvent_e (nI c) (nO s) (nO o) x4 (nI k) L K σ
  unfold f_X7_makeEvent_e sp_X2_open vc_X2_open f_X2_open_e
  rw [h7, cN, nI_1]
  refine ⟨v240 m1, v240 m1, v240 m1, v240 m1, v240 m1, ?_⟩
  refine loop 0 (Nat.zero_le _) _ ⟨?_, ?_, fun a => ?_, fun a => ?_, fun a => ?_, fun a => ?_, fun a => ?_, fun a ha => ⟨rfl, rfl⟩, fun j hj => absurd hj (Nat.not_lt_zero _), ?_⟩
  · rw [uN_zero, uN_zero, Nat.sub_zero, uN_id]
    exact hW
  · simp [pI, pJ]
  · simp [pI, pJ]
  · simp [pI, pJ]
  · simp [pI, pJ]
  · simp [pI, pJ]
  · simp [pI, pJ, nI_0]
  · exact Fr_pI (Fr_pJ (Fr_pI (Fr_pI (Fr_pI (Fr_pI (Fr.refl _ _) (by decide)) (by decide)) (by decide)) (by decide)) (by decide)) (by decide)
