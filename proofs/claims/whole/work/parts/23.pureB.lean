/-! ===== Sha256 ===== -/
theorem ishl_0 (k : Nat) (hk : k < 32) : ishl 0 (nI k) = 0 := by
  revert k
  decide +kernel
theorem ior_0 (x : Int32) : x ||| 0 = x := Int32.or_zero
theorem z_or (x : Int32) : 0 ||| x = x := Int32.zero_or
theorem wd_z1 (a : Int32) : wd a 0 0 0 = ishl a 24 := by
  unfold wd
  rw [show ishl 0 16 = 0 from by decide, show ishl 0 8 = 0 from by decide, ior_0, ior_0, ior_0]
theorem wd_0 : wd 0 0 0 0 = 0 := by decide
theorem wd_z2 (a b : Int32) : wd a b 0 0 = wd a 0 0 0 ||| ishl b 16 := by
  rw [wd_z1]
  unfold wd
  rw [show ishl 0 8 = 0 from by decide, ior_0, ior_0]
theorem wd_z3 (a b c : Int32) : wd a b c 0 = wd a b 0 0 ||| ishl c 8 := by
  rw [wd_z2, wd_z1]
  unfold wd
  rw [ior_0]
theorem wd_z4 (a b c d : Int32) : wd a b c d = wd a b c 0 ||| d := by
  rw [wd_z3, wd_z2, wd_z1]
  rfl
theorem getD_lt {l : List Int32} {o : Int32} {i : Nat} (h : i < l.length) : (l ++ [o]).getD i 0 = l.getD i 0 := by
  simp [List.getD_eq_getElem?_getD, List.getElem?_append_left h]
theorem getD_at (l : List Int32) (o : Int32) : (l ++ [o]).getD l.length 0 = o := by
  simp [List.getD_eq_getElem?_getD]
theorem getD_ge {l : List Int32} {i : Nat} (h : l.length ≤ i) : l.getD i 0 = 0 := by
  simp [List.getD_eq_getElem?_getD, List.getElem?_eq_none h]
theorem wrd_app (l : List Int32) (o : Int32) (i : Nat) : wrd (l ++ [o]) i = if i = l.length / 4 then wrd l i ||| ishl o (24 - 8 * nI (l.length % 4)) else wrd l i := by
  have gl : (l ++ [o]).length = l.length + 1 := by simp
  by_cases hi : i = l.length / 4
  · rw [if_pos hi]
    have h4 : l.length % 4 = 0 ∨ l.length % 4 = 1 ∨ l.length % 4 = 2 ∨ l.length % 4 = 3 := by omega
    have A : ∀ k, l.length < k → (l ++ [o]).getD k 0 = 0 := fun k hk => getD_ge (by omega)
    have Z : ∀ k, l.length ≤ k → l.getD k 0 = 0 := fun k hk => getD_ge hk
    unfold wrd
    rcases h4 with h | h | h | h
    · have e : 4 * i = l.length := by omega
      rw [h, e, getD_at, A (l.length + 1) (by omega), A (l.length + 2) (by omega), A (l.length + 3) (by omega), Z l.length (by omega), Z (l.length + 1) (by omega), Z (l.length + 2) (by omega), Z (l.length + 3) (by omega), wd_z1, wd_0, z_or]
      rfl
    · have e : 4 * i + 1 = l.length := by omega
      have e2 : 4 * i + 2 = l.length + 1 := by omega
      have e3 : 4 * i + 3 = l.length + 2 := by omega
      rw [h, getD_lt (show 4 * i < l.length by omega), e, e2, e3, getD_at, A (l.length + 1) (by omega), A (l.length + 2) (by omega), Z l.length (by omega), Z (l.length + 1) (by omega), Z (l.length + 2) (by omega), wd_z2]
      rfl
    · have e : 4 * i + 2 = l.length := by omega
      have e3 : 4 * i + 3 = l.length + 1 := by omega
      rw [h, getD_lt (show 4 * i < l.length by omega), getD_lt (show 4 * i + 1 < l.length by omega), e, e3, getD_at, A (l.length + 1) (by omega), Z l.length (by omega), Z (l.length + 1) (by omega), wd_z3]
      rfl
    · have e : 4 * i + 3 = l.length := by omega
      rw [h, getD_lt (show 4 * i < l.length by omega), getD_lt (show 4 * i + 1 < l.length by omega), getD_lt (show 4 * i + 2 < l.length by omega), e, getD_at, Z l.length (by omega), wd_z4, show (24 : Int32) - 8 * nI 3 = 0 from by decide]
      rw [show ishl o 0 = o from sb_shl0 o]
  · rw [if_neg hi]
    unfold wrd
    by_cases hl : i < l.length / 4
    · rw [getD_lt (show 4 * i < l.length by omega), getD_lt (show 4 * i + 1 < l.length by omega), getD_lt (show 4 * i + 2 < l.length by omega), getD_lt (show 4 * i + 3 < l.length by omega)]
    · have A : ∀ k, l.length < k → (l ++ [o]).getD k 0 = 0 := fun k hk => getD_ge (by omega)
      have Z : ∀ k, l.length ≤ k → l.getD k 0 = 0 := fun k hk => getD_ge hk
      rw [A (4 * i) (by omega), A (4 * i + 1) (by omega), A (4 * i + 2) (by omega), A (4 * i + 3) (by omega), Z (4 * i) (by omega), Z (4 * i + 1) (by omega), Z (4 * i + 2) (by omega), Z (4 * i + 3) (by omega)]
theorem v_X4_putOctet (x1 : Int32) (σ : Sg) (K : Sg → Prop) (h : sp_X4_putOctet x1 σ K) : vc_X4_putOctet x1 σ K := by
  obtain ⟨l, ⟨h1, h2, h3⟩, hl, hK⟩ := h
  have e1 : ishr (σ.1 8 3) 2 = nI (l.length / 4) := by rw [h1]; exact pk_shrN (by omega) ((2 : Int32) &&& 31) 2 (by decide)
  have e2 : (σ.1 8 3) &&& 3 = nI (l.length % 4) := by rw [h1]; exact pk_andN (by omega) 2 (by decide)
  unfold vc_X4_putOctet f_X4_putOctet_e
  rw [e1, e2, cl_nI (by omega)]
  have hv : vp_in (nI (l.length / 4)) 32 := vp_in_nI (by omega) (by omega)
  refine ⟨hv, hv, hK _ ⟨?_, by simp; omega, fun i hi => ?_⟩ (Fr_pI (Fr_pI (Fr.refl _ _) (by decide)) (by decide))⟩
  · rw [pI_at, if_pos ⟨rfl, rfl⟩, pI_at, if_neg (fun h => absurd h.1 (by decide)), h1, nI_1]
    simp
  · rw [pI_at, if_neg (fun h => absurd h.1 (by decide)), pI_at, wrd_app]
    by_cases hi2 : i = l.length / 4
    · rw [if_pos ⟨rfl, hi2⟩, if_pos hi2, h3 _ (by omega), hi2]
    · rw [if_neg (fun h => hi2 h.2), if_neg hi2, h3 i hi]
theorem v_X4_putInt (x1 : Int32) (σ : Sg) (K : Sg → Prop) (h : sp_X4_putInt x1 σ K) : vc_X4_putInt x1 σ K := by
  obtain ⟨l, hM, hl, hK⟩ := h
  intro L3 r3
  have e1 : (24 : Int32) + (-8) = 16 := by decide
  have e2 : (16 : Int32) + (-8) = 8 := by decide
  have e3 : (8 : Int32) + (-8) = 0 := by decide
  have e4 : (0 : Int32) + (-8) = -8 := by decide
  refine r3 24 σ ⟨fun c => absurd c (by decide), fun _ => ⟨l, hM, by omega, fun σ1 m1 f1 => ?_⟩⟩
  rw [e1]
  refine r3 16 σ1 ⟨fun c => absurd c (by decide), fun _ => ⟨_, m1, by simp; omega, fun σ2 m2 f2 => ?_⟩⟩
  rw [e2]
  refine r3 8 σ2 ⟨fun c => absurd c (by decide), fun _ => ⟨_, m2, by simp; omega, fun σ3 m3 f3 => ?_⟩⟩
  rw [e3]
  refine r3 0 σ3 ⟨fun c => absurd c (by decide), fun _ => ⟨_, m3, by simp; omega, fun σ4 m4 f4 => ?_⟩⟩
  rw [e4]
  refine r3 (-8) σ4 ⟨fun _ => hK σ4 ?_ (f1.trans (f2.trans (f3.trans f4))), fun c => absurd (by decide) c⟩
  have e : l ++ [iush x1 24 &&& 255] ++ [iush x1 16 &&& 255] ++ [iush x1 8 &&& 255] ++ [iush x1 0 &&& 255] = l ++ oct4 x1 := by simp [oct4]
  rw [← e]
  exact m4
theorem wrd_nil (i : Nat) : wrd [] i = 0 := by
  unfold wrd
  simp only [List.getD_nil]
  exact wd_0
theorem v_X4_start (σ : Sg) (K : Sg → Prop) (h : sp_X4_start σ K) : vc_X4_start σ K := by
  refine ⟨by omega, h _ ⟨?_, by simp, fun i hi => ?_⟩ (Fr_pI (Fr_pR (Fr.refl _ _) (by decide)) (by decide))⟩
  · rw [pI_at, if_pos ⟨rfl, rfl⟩]; rfl
  · rw [pI_at, if_neg (fun h => absurd h.1 (by decide)), pR_at, if_pos rfl, if_pos hi, wrd_nil]
theorem Wm16_eq (m : Nat → Int32) (j : Nat) : Wm16 m j = if j < 16 then m j else ((Wm16 m (j - 16) + sg0 (Wm16 m (j - 15))) + Wm16 m (j - 7)) + sg1 (Wm16 m (j - 2)) := by
  refine (fx_eq j (fun f g h => ?_)).trans rfl
  unfold stW
  by_cases hj : j < 16
  · rw [if_pos hj, if_pos hj]
  · rw [if_neg hj, if_neg hj, h _ (by omega), h _ (by omega), h _ (by omega), h _ (by omega)]
theorem Wm16_congr {m m2 : Nat → Int32} (h : ∀ i, i < 16 → m i = m2 i) (j : Nat) : Wm16 m j = Wm16 m2 j := by
  induction j using Nat.strongRecOn with
  | ind j ih =>
    rw [Wm16_eq m, Wm16_eq m2]
    by_cases hj : j < 16
    · rw [if_pos hj, if_pos hj, h j hj]
    · rw [if_neg hj, if_neg hj, ih _ (by omega), ih _ (by omega), ih _ (by omega), ih _ (by omega)]
theorem nI_subL {a b : Nat} (h : b ≤ a) : nI a - nI b = nI (a - b) := pk_sub h
theorem v_X4_fillSchedule (x1 : Int32) (σ : Sg) (K : Sg → Prop) (h : sp_X4_fillSchedule x1 σ K) : vc_X4_fillSchedule x1 σ K := by
  obtain ⟨s, hs, rfl, hK⟩ := h
  intro L18 r18
  have key : ∀ i, i ≤ 64 → ∀ τ : Sg, (16 ≤ i ∧ (∀ j, j < i → τ.1 10 j = Wm16 (fun i => σ.1 9 (s + i)) j) ∧ Fr [10] σ τ) → L18 (nI i) τ := by
    refine lup (L := fun i τ => L18 (nI i) τ) (fun i τ => 16 ≤ i ∧ (∀ j, j < i → τ.1 10 j = Wm16 (fun i => σ.1 9 (s + i)) j) ∧ Fr [10] σ τ) 64 (fun τ ht => ?_) (fun i τ hi ht ih => ?_)
    · exact r18 _ _ ⟨fun _ => hK τ ht.2.1 ht.2.2, fun c => absurd (Int32.le_refl _) c⟩
    · obtain ⟨h16, hj, hF⟩ := ht
      refine r18 _ _ ⟨fun c => absurd c (nI_ge (b := 64) hi (by omega)), fun _ => ?_⟩
      rw [show (15 : Int32) = nI 15 from rfl, show (2 : Int32) = nI 2 from rfl, show (16 : Int32) = nI 16 from rfl, show (7 : Int32) = nI 7 from rfl, nI_subL (by omega), nI_subL (by omega), nI_subL (by omega), nI_subL (by omega), nI_1, cl_nI (show i - 15 < 2 ^ 31 by omega), cl_nI (show i - 2 < 2 ^ 31 by omega), cl_nI (show i - 16 < 2 ^ 31 by omega), cl_nI (show i - 7 < 2 ^ 31 by omega), cl_nI (show i < 2 ^ 31 by omega)]
      refine ⟨vp_in_nI (by omega) (by omega), vp_in_nI (by omega) (by omega), ?_⟩
      show vp_in _ _ ∧ vp_in _ _ ∧ vp_in _ _ ∧ L18 (nI (i + 1)) (pI τ 10 i (((τ.1 10 (i - 16) + sg0 (τ.1 10 (i - 15))) + τ.1 10 (i - 7)) + sg1 (τ.1 10 (i - 2))))
      refine ⟨vp_in_nI (by omega) (by omega), vp_in_nI (by omega) (by omega), vp_in_nI (by omega) (by omega), ih _ ⟨by omega, fun j hj2 => ?_, Fr_pI hF (by decide)⟩⟩
      rw [pI_at]
      by_cases h : j = i
      · subst h
        rw [if_pos ⟨rfl, rfl⟩, Wm16_eq, if_neg (by omega), hj _ (by omega), hj _ (by omega), hj _ (by omega), hj _ (by omega)]
      · rw [if_neg (fun e => h e.2), hj j (by omega)]
  unfold f_X4_fillSchedule_e
  refine ⟨nneg_nI (by omega), nneg_nI (n := 0) (by omega), nneg_nI (n := 16) (by omega), ?_, by decide, ?_⟩
  · rw [cl_nI (by omega)]
    show s + 16 ≤ 32
    omega
  · refine key 16 (by omega) _ ⟨Nat.le_refl _, fun j hj => ?_, Fr_pR (Fr.refl _ _) (by decide)⟩
    rw [pR_at, if_pos rfl, Wm16_eq, if_pos hj, cl_nI (by omega)]
    unfold va_cpy
    rw [if_pos ⟨Nat.zero_le _, (show j < 0 + 16 by omega)⟩]
    rfl
theorem rnd8_congr {k w : Int32} {s s2 : Nat → Int32} (h : ∀ j, j < 8 → s j = s2 j) (j : Nat) (hj : j < 8) : rnd8 k w s j = rnd8 k w s2 j := by
  match j, hj with
  | 0, _ => simp only [rnd8, h 0 (by decide), h 1 (by decide), h 2 (by decide), h 3 (by decide), h 4 (by decide), h 5 (by decide), h 6 (by decide), h 7 (by decide)]
  | 1, _ => exact h 0 (by decide)
  | 2, _ => exact h 1 (by decide)
  | 3, _ => exact h 2 (by decide)
  | 4, _ => simp only [rnd8, h 0 (by decide), h 1 (by decide), h 2 (by decide), h 3 (by decide), h 4 (by decide), h 5 (by decide), h 6 (by decide), h 7 (by decide)]
  | 5, _ => exact h 4 (by decide)
  | 6, _ => exact h 5 (by decide)
  | 7, _ => exact h 6 (by decide)
  | j + 8, h => exact absurd h (by omega)
theorem rds_congr {W W2 s s2 : Nat → Int32} (h : ∀ j, j < 8 → s j = s2 j) : ∀ k, (∀ i, i < k → W i = W2 i) → ∀ j, j < 8 → rds W s k j = rds W2 s2 k j
  | 0, _, j, hj => h j hj
  | k + 1, hw, j, hj => by
    show rnd8 (K64 k) (W k) (rds W s k) j = rnd8 (K64 k) (W2 k) (rds W2 s2 k) j
    rw [hw k (by omega)]
    exact rnd8_congr (rds_congr h k (fun i hi => hw i (by omega))) j hj
theorem cmp16_congr {m m2 s s2 : Nat → Int32} (hm : ∀ i, i < 16 → m i = m2 i) (hs : ∀ j, j < 8 → s j = s2 j) (j : Nat) (hj : j < 8) : cmp16 m s j = cmp16 m2 s2 j := by
  unfold cmp16
  rw [hs j hj, rds_congr hs 64 (fun i _ => Wm16_congr hm i) j hj]
theorem v_X4_mixSchedule (σ : Sg) (K : Sg → Prop) (h : sp_X4_mixSchedule σ K) : vc_X4_mixSchedule σ K := by
  obtain ⟨W, hW, hK⟩ := h
  intro L r
  have key : ∀ i, i ≤ 64 → L (rds W (σ.1 11) i 0) (rds W (σ.1 11) i 1) (rds W (σ.1 11) i 2) (rds W (σ.1 11) i 3) (rds W (σ.1 11) i 4) (rds W (σ.1 11) i 5) (rds W (σ.1 11) i 6) (rds W (σ.1 11) i 7) (nI i) σ := by
    refine down 64 ?_ (fun i hi ih => ?_)
    · refine r _ _ _ _ _ _ _ _ _ _ ⟨fun _ => ?_, fun c => absurd (Int32.le_refl _) c⟩
      have hv : ∀ k, k < 8 → vp_in (nI k) 8 := fun k hk => vp_in_nI hk (by omega)
      refine ⟨hv 0 (by decide), hv 0 (by decide), hv 1 (by decide), hv 1 (by decide), hv 2 (by decide), hv 2 (by decide), hv 3 (by decide), hv 3 (by decide), hv 4 (by decide), hv 4 (by decide), hv 5 (by decide), hv 5 (by decide), hv 6 (by decide), hv 6 (by decide), hv 7 (by decide), hv 7 (by decide), hK _ (fun j hj => ?_) ?_⟩
      · match j, hj with
        | 0, _ => rfl
        | 1, _ => rfl
        | 2, _ => rfl
        | 3, _ => rfl
        | 4, _ => rfl
        | 5, _ => rfl
        | 6, _ => rfl
        | 7, _ => rfl
        | j + 8, h => exact absurd h (by omega)
      · iterate 8 refine Fr_pI ?_ (by decide)
        exact Fr.refl _ _
    · refine r _ _ _ _ _ _ _ _ _ _ ⟨fun c => absurd c (nI_ge (b := 64) hi (by omega)), fun _ => ?_⟩
      have hv : vp_in (nI i) 64 := vp_in_nI hi (by omega)
      refine ⟨hv, hv, ?_⟩
      have e : σ.1 10 (nI i).toNatClampNeg = W i := by rw [cl_nI (by omega)]; exact hW i hi
      have ek : K64 (nI i).toNatClampNeg = K64 i := by rw [cl_nI (by omega)]
      rw [e, ek, nI_1]
      exact ih
  have hv : ∀ k, k < 8 → vp_in (nI k) 8 := fun k hk => vp_in_nI hk (by omega)
  exact ⟨hv 0 (by decide), hv 1 (by decide), hv 2 (by decide), hv 3 (by decide), hv 4 (by decide), hv 5 (by decide), hv 6 (by decide), hv 7 (by decide), key 0 (by omega)⟩
theorem v_X4_finishInto (x2 : Int32) (σ : Sg) (K : Sg → Prop) (h : sp_X4_finishInto x2 σ K) : vc_X4_finishInto x2 σ K := by
  obtain ⟨l, x, hM, hl, rfl, hx, hK⟩ := h
  have c8 : (8 : Int32).toNatClampNeg = 8 := by decide
  have c0 : (0 : Int32).toNatClampNeg = 0 := by decide
  have c31 : (31 : Int32).toNatClampNeg = 31 := by decide
  unfold vc_X4_finishInto f_X4_finishInto_e
  rw [c8, c0, c31, cl_nI (by omega)]
  refine ⟨l, hM, by omega, fun σ1 m1 f1 => ⟨vp_in_nI (n := 31) (by decide) (by decide), nneg_nI (n := 0) (by decide), nneg_nI (n := 0) (by decide), nneg_nI (n := 8) (by decide), by decide, by decide, ?_⟩⟩
  have e0 : (128 : Int32) &&& 255 = 128 := by decide
  rw [e0] at m1
  obtain ⟨σ2, e2⟩ : ∃ z, z = pR (pI σ1 9 31 (8 * (σ.1 8 3))) 11 (va_cpy H8 ((pI σ1 9 31 (8 * (σ.1 8 3))).1 11) 0 0 8) := ⟨_, rfl⟩
  rw [← e2]
  have g9 : ∀ i, i < 32 → σ2.1 9 i = msgW l i := by
    intro i hi
    rw [e2, pR_at, if_neg (by decide), pI_at]
    unfold msgW
    by_cases h : i = 31
    · rw [if_pos ⟨rfl, h⟩, if_pos h, hM.1, show (8 : Int32) = nI 8 from rfl, pk_mul]
    · rw [if_neg (fun e => h e.2), if_neg h, m1.2.2 i hi]
  have g11 : ∀ j, j < 8 → σ2.1 11 j = H8 j := by
    intro j hj
    rw [e2, pR_at, if_pos rfl]
    unfold va_cpy
    rw [if_pos ⟨Nat.zero_le _, by omega⟩]
    simp
  have f2 : Fr [8, 9, 10, 11] σ σ2 := by
    rw [e2]
    exact Fr_pR (Fr_pI (f1.mono (by decide)) (by decide)) (by decide)
  clear e2
  refine ⟨0, by omega, rfl, fun σ3 h3 f3 => ⟨_, h3, fun σ4 h4 f4 => ⟨16, by omega, rfl, fun σ5 h5 f5 => ⟨_, h5, fun σ6 h6 f6 => ?_⟩⟩⟩⟩
  refine ⟨nneg_nI (n := 0) (by decide), nneg_nI (by omega), nneg_nI (n := 8) (by decide), by decide, by omega, ?_⟩
  have q4 : ∀ j, j < 8 → σ4.1 11 j = cmp16 (msgW l) H8 j := by
    intro j hj
    rw [h4 j hj, (f3 11 (by decide)).1]
    exact cmp16_congr (fun i hi => by rw [Nat.zero_add]; exact g9 i (by omega)) g11 j hj
  have q6 : ∀ j, j < 8 → σ6.1 11 j = shaF l j := by
    intro j hj
    rw [h6 j hj, (f5 11 (by decide)).1]
    refine cmp16_congr (fun i hi => ?_) q4 j hj
    rw [(f4 9 (by decide)).1, (f3 9 (by decide)).1]
    exact g9 (16 + i) (by omega)
  have f6' : Fr [8, 9, 10, 11] σ σ6 := f2.trans ((f3.mono (by decide)).trans ((f4.mono (by decide)).trans ((f5.mono (by decide)).trans (f6.mono (by decide)))))
  refine hK _ (fun j => ?_) (Fr_pR (f6'.mono (by decide)) (by decide))
  rw [pR_at, if_pos rfl]
  unfold va_cpy
  by_cases h : x * 8 ≤ j ∧ j < x * 8 + 8
  · rw [if_pos h, if_pos h, Nat.zero_add, q6 _ (by omega)]
  · rw [if_neg h, if_neg h, (f6' 19 (by decide)).1]
