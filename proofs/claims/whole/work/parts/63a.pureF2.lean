theorem wt_drop {wn : Nat → Nat} {wt wa : Nat → Nat → Int32} {c : Nat} {τ : Sg} {K : Sg → Prop} (hW : WT wn wt wa τ) (hc : c < 8) (h0 : 0 < wn c) (h88 : ∀ k, k < 8 → wn k ≤ 8) (hK : ∀ τ', WT (uN wn c (wn c - 1)) (uN wt c (fun j => wt c (j + 1))) (uN wa c (fun j => wa c (j + 1))) τ' → Fr [4, 5, 6] τ τ' → K τ') : sp_X6_dropFirst (nI c) τ K := by
  have h8 := h88 c hc
  obtain ⟨w6, w45⟩ := hW c hc
  have cc : (nI c).toNatClampNeg = c := cl_nI (by omega)
  have c8 : nI c * 8 = nI (c * 8) := by rw [show (8 : Int32) = nI 8 from rfl, pk_mul]
  have hv : vp_in (nI c) 8 := vp_in_nI hc (by omega)
  obtain ⟨m, hm⟩ : ∃ m, wn c = m + 1 := ⟨wn c - 1, by omega⟩
  have e1 : τ.1 6 c - 1 = nI m := by rw [w6, hm]; exact nI_pred m
  have e6 : (pI τ 6 c (nI m)).1 6 c = nI m := by rw [pI_at, if_pos ⟨rfl, rfl⟩]
  have e4 : (pI τ 6 c (nI m)).1 4 = τ.1 4 := pI_ne _ _ _ (by decide)
  unfold sp_X6_dropFirst vc_X6_dropFirst f_X6_dropFirst_e
  rw [cc, c8, nI_1, e1, e4, cl_nI (show c * 8 + 1 < 2 ^ 31 by omega), cl_nI (show c * 8 < 2 ^ 31 by omega), e6, cl_nI (show m < 2 ^ 31 by omega)]
  obtain ⟨τ2, h2⟩ : ∃ z, z = pR (pI τ 6 c (nI m)) 4 (va_cpy (τ.1 4) (τ.1 4) (c * 8 + 1) (c * 8) m) := ⟨_, rfl⟩
  rw [← h2]
  have f6 : τ2.1 6 = upd (τ.1 6) c (nI m) := by rw [h2, pR_ne _ _ (by decide), pI_upd]
  have f5 : τ2.1 5 = τ.1 5 := by rw [h2, pR_ne _ _ (by decide), pI_ne _ _ _ (by decide)]
  have f4 : τ2.1 4 = va_cpy (τ.1 4) (τ.1 4) (c * 8 + 1) (c * 8) m := by rw [h2, pR_self]
  have g6 : τ2.1 6 c = nI m := by rw [f6]; exact if_pos rfl
  rw [g6, f5, cl_nI (show m < 2 ^ 31 by omega)]
  refine ⟨hv, hv, hv, nneg_nI (by omega), nneg_nI (by omega), nneg_nI (by omega), by omega, by omega, hv, nneg_nI (by omega), nneg_nI (by omega), nneg_nI (by omega), by omega, by omega, hK _ (fun k hk => ?_) ?_⟩
  · obtain ⟨u6, u45⟩ := hW k hk
    rw [pR_ne _ _ (by decide), pR_ne _ _ (by decide), f6, f4, pR_self]
    by_cases e : k = c
    · subst e
      rw [uN_at, uN_at, uN_at, hm]
      refine ⟨if_pos rfl, fun j hj => ?_⟩
      have hj2 : j < m := hj
      have := u45 (j + 1) (by omega)
      rw [show k * 8 + (j + 1) = k * 8 + 1 + (k * 8 + j - k * 8) by omega] at this
      unfold va_cpy
      rw [if_pos (by omega), if_pos (by omega)]
      exact this
    · rw [uN_ne _ _ e, uN_ne _ _ e, uN_ne _ _ e]
      refine ⟨(if_neg e).trans u6, fun j hj => ?_⟩
      have hk8 := h88 k hk
      have key : ¬ (c * 8 ≤ k * 8 + j ∧ k * 8 + j < c * 8 + m) := by omega
      unfold va_cpy
      rw [if_neg key, if_neg key]
      exact u45 j hj
  · subst h2
    exact Fr_pR (Fr_pR (Fr_pI (Fr.refl _ _) (by simp)) (by simp)) (by simp)
theorem uN_zero {α : Type} (f : Nat → Nat → α) (c : Nat) : uN f c (fun j => f c (j + 0)) = f := by
  funext k
  by_cases e : k = c
  · subst e; rw [uN_at]; rfl
  · rw [uN_ne _ _ e]
theorem uN_id {α : Type} (f : Nat → α) (c : Nat) : uN f c (f c) = f := by
  funext k
  by_cases e : k = c
  · subst e; rw [uN_at]
  · rw [uN_ne _ _ e]
theorem uN_twice {α : Type} (f : Nat → α) (c : Nat) (u v : α) : uN (uN f c u) c v = uN f c v := by
  funext k
  by_cases e : k = c
  · subst e; rw [uN_at, uN_at]
  · rw [uN_ne _ _ e, uN_ne _ _ e, uN_ne _ _ e]
/-- while the transactions of a new event are taken over -/
def ML (h : Hs) (c : Nat) (s o : Option Nat) (t : Int64) (σ : Sg) (i : Nat) (τ : Sg) : Prop := WT (uN (hwn h) c (hwn h c - i)) (uN (hwt h) c (fun j => hwt h c (j + i))) (uN (hwa h) c (fun j => hwa h c (j + i))) τ ∧ τ.1 7 10 = nI (hN h + 1) ∧ (∀ a, τ.1 12 a = if a = hN h then nI c else σ.1 12 a) ∧ (∀ a, τ.1 13 a = if a = hN h then nO s else σ.1 13 a) ∧ (∀ a, τ.1 14 a = if a = hN h then nO o else σ.1 14 a) ∧ (∀ a, τ.2 15 a = if a = hN h then t else σ.2 15 a) ∧ (∀ a, τ.1 16 a = if a = hN h then nI i else σ.1 16 a) ∧ (∀ a, a < hN h * 3 → τ.1 17 a = σ.1 17 a ∧ τ.1 18 a = σ.1 18 a) ∧ (∀ j, j < i → τ.1 17 (hN h * 3 + j) = hwt h c j ∧ τ.1 18 (hN h * 3 + j) = hwa h c j) ∧ Fr [4, 5, 6, 7, 12, 13, 14, 15, 16, 17, 18] σ τ
theorem ml_step {h : Hs} {c : Nat} {s o : Option Nat} {t : Int64} {σ τ : Sg} {i : Nat} {K : Sg → Prop} (hC : HC h) (hN2 : hN h < 240) (hc : c < 8) (hi : i < 3) (hin : i < hwn h c) (m : ML h c s o t σ i τ) (hK : ∀ τ', ML h c s o t σ (i + 1) τ' → K τ') : sp_X6_firstTo (nI c) τ (fun r9 u10 => sp_X6_firstAmount (nI c) u10 (fun r11 u12 => sp_X2_addTransaction (nI (hN h)) r9 r11 u12 (fun u14 => sp_X6_dropFirst (nI c) u14 K))) := by
  obtain ⟨w, z7, z12, z13, z14, z15, z16, zo, zn, F⟩ := m
  obtain ⟨N, hNe⟩ : ∃ N, N = hN h := ⟨_, rfl⟩
  rw [← hNe] at hN2 z7 z12 z13 z14 z15 z16 zo zn ⊢
  have cc : (nI c).toNatClampNeg = c := cl_nI (by omega)
  have cN : (nI N).toNatClampNeg = N := cl_nI (by omega)
  have c8 : nI c * 8 = nI (c * 8) := by rw [show (8 : Int32) = nI 8 from rfl, pk_mul]
  obtain ⟨w6, w45⟩ := w c hc
  rw [uN_at, uN_at, uN_at] at w45
  have w0 := w45 0 (by omega)
  rw [Nat.add_zero, Nat.zero_add] at w0
  have z16N : τ.1 16 N = nI i := by rw [z16, if_pos rfl]
  have n3 : nI N * 3 + nI i = nI (N * 3 + i) := by rw [show (3 : Int32) = nI 3 from rfl, pk_mul, nI_add]
  unfold sp_X6_firstTo vc_X6_firstTo f_X6_firstTo_e sp_X6_firstAmount vc_X6_firstAmount f_X6_firstAmount_e sp_X2_addTransaction vc_X2_addTransaction f_X2_addTransaction_e
  dsimp only
  rw [c8, cN, cl_nI (show c * 8 < 2 ^ 31 by omega), z16N, n3, cl_nI (show N * 3 + i < 2 ^ 31 by omega), w0.1, w0.2]
  refine ⟨vp_in_nI (by omega) (by omega), vp_in_nI (by omega) (by omega), v240 (by omega), vp_in_nI (by omega) (by omega), vp_in_nI (by omega) (by omega), v240 (by omega), v240 (by omega), ?_⟩
  obtain ⟨τ2, h2⟩ : ∃ q, q = pI (pI τ 17 (N * 3 + i) (hwt h c i)) 18 (N * 3 + i) (hwa h c i) := ⟨_, rfl⟩
  rw [← h2]
  have e16 : τ2.1 16 = τ.1 16 := by rw [h2, pI_ne _ _ _ (by decide), pI_ne _ _ _ (by decide)]
  rw [e16, z16N, nI_1]
  obtain ⟨τ3, h3⟩ : ∃ q, q = pI τ2 16 N (nI (i + 1)) := ⟨_, rfl⟩
  rw [← h3]
  have F3 : Fr [16, 17, 18] τ τ3 := by
    rw [h3, h2]
    exact Fr_pI (Fr_pI (Fr_pI (Fr.refl _ _) (by decide)) (by decide)) (by decide)
  have W3 : WT (uN (hwn h) c (hwn h c - i)) (uN (hwt h) c (fun j => hwt h c (j + i))) (uN (hwa h) c (fun j => hwa h c (j + i))) τ3 := w.sm (F3.sm _ (by decide))
  refine wt_drop W3 hc (by rw [uN_at]; omega) (fun k hk => ?_) (fun τ4 W4 F4 => hK τ4 ?_)
  · have := (hC.2.2.2.2.2.2 k hk).1
    by_cases e : k = c
    · subst e; rw [uN_at]; omega
    · rw [uN_ne _ _ e]; exact this
  have F34 : Fr [4, 5, 6, 16, 17, 18] τ τ4 := (F3.mono (by decide)).trans (F4.mono (by decide))
  have q16 : τ4.1 16 = upd (τ.1 16) N (nI (i + 1)) := by rw [(F4 16 (by decide)).1, h3, pI_upd, e16]
  have q17 : τ4.1 17 = upd (τ.1 17) (N * 3 + i) (hwt h c i) := by rw [(F4 17 (by decide)).1, h3, pI_ne _ _ _ (by decide), h2, pI_ne _ _ _ (by decide), pI_upd]
  have q18 : τ4.1 18 = upd (τ.1 18) (N * 3 + i) (hwa h c i) := by rw [(F4 18 (by decide)).1, h3, pI_ne _ _ _ (by decide), h2, pI_upd, pI_ne _ _ _ (by decide)]
  unfold ML
  rw [← hNe]
  refine ⟨?_, ?_, fun a => ?_, fun a => ?_, fun a => ?_, fun a => ?_, fun a => ?_, fun a ha => ?_, fun j hj => ?_, F.trans (F34.mono (by decide))⟩
  · rw [uN_at, uN_at, uN_at, uN_twice, uN_twice, uN_twice] at W4
    rw [show hwn h c - (i + 1) = hwn h c - i - 1 by omega]
    have e : ∀ f : Nat → Int32, (fun j => f (j + (i + 1))) = fun j => f (j + 1 + i) := fun f => by
      funext j
      rw [show j + (i + 1) = j + 1 + i by omega]
    rw [e, e]
    exact W4
  · rw [(F34 7 (by decide)).1]; exact z7
  · rw [(F34 12 (by decide)).1]; exact z12 a
  · rw [(F34 13 (by decide)).1]; exact z13 a
  · rw [(F34 14 (by decide)).1]; exact z14 a
  · rw [(F34 15 (by decide)).2]; exact z15 a
  · rw [q16]
    unfold upd
    by_cases e : a = N
    · rw [if_pos e, if_pos e]
    · rw [if_neg e, if_neg e, z16 a, if_neg e]
  · rw [q17, q18]
    unfold upd
    rw [if_neg (by omega), if_neg (by omega)]
    exact zo a ha
  · rw [q17, q18]
    unfold upd
    by_cases e : j = i
    · subst e
      rw [if_pos rfl, if_pos rfl]
      exact ⟨rfl, rfl⟩
    · rw [if_neg (by omega), if_neg (by omega)]
      exact zn j (by omega)
