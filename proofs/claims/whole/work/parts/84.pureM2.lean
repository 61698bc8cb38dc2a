theorem lshr32 (t : Int64) : (lshr t 32).toInt32 = (lush t 32).toInt32 := by
  have e1 : (lshr t 32).toBitVec = t.toBitVec.sshiftRight 32 := by
    unfold lshr
    rw [Int64.toBitVec_shiftRight]
    have : (BitVec.smod ((32 : Int32).toInt64 &&& 63).toBitVec 64).toNat = 32 := by decide +kernel
    rw [BitVec.sshiftRight_eq', this]
  have e2 : (lush t 32).toBitVec = t.toBitVec >>> 32 := lush_bv t (k := 32) (by decide)
  apply Int32.toBitVec_inj.mp
  show ((lshr t 32).toBitVec).signExtend 32 = ((lush t 32).toBitVec).signExtend 32
  rw [e1, e2]
  apply BitVec.eq_of_getLsbD_eq
  intro i hi
  rw [BitVec.getLsbD_signExtend, BitVec.getLsbD_signExtend, BitVec.getLsbD_sshiftRight, BitVec.getLsbD_ushiftRight]
  simp only [hi, decide_true, Bool.true_and, if_pos (show i < 64 by omega), decide_eq_false (show ¬ 64 ≤ i by omega), Bool.not_false, if_pos (show 32 + i < 64 by omega)]
theorem par_ok {p : Option Nat} (hp : ∀ y, p = some y → y < 240) {k : Nat} (hk : k < 8) {f : Nat → Int32} {G : Int32 → Prop} {q : Int32} {V : Prop} (hq : q = nO p) (hv : V) (hG : G (ph f p k)) : (0 ≤ q → V ∧ vp_in ((8 * q) + nI k) 1920 ∧ G (f ((8 * q) + nI k).toNatClampNeg)) ∧ (¬ (0 ≤ q) → G 0) := by
  subst hq
  cases p with
  | none => exact ⟨fun c => absurd c (by decide), fun _ => hG⟩
  | some y =>
    have hy := hp y rfl
    have e : (8 * nO (some y)) + nI k = nI (y * 8 + k) := by
      show 8 * nI y + nI k = _
      rw [show (8 : Int32) = nI 8 from rfl, pk_mul, nI_add, Nat.mul_comm]
    rw [e, cl_nI (by omega)]
    exact ⟨fun _ => ⟨hv, vp_in_nI (by omega) (by omega), hG⟩, fun c => absurd (nI_pos' (by omega)) c⟩
def padL (l : List Int32) (m : Nat) : List Int32 := l ++ (128 :: List.replicate m 0)
theorem padL_len (l : List Int32) (m : Nat) : (padL l m).length = l.length + 1 + m := by
  unfold padL
  simp
  omega
theorem padL_succ (l : List Int32) (m : Nat) : padL l m ++ [0] = padL l (m + 1) := by
  unfold padL
  rw [List.append_assoc, List.cons_append, ← List.replicate_succ']
theorem padL_getD (l : List Int32) (m i : Nat) : (padL l m).getD i 0 = (l ++ [128]).getD i 0 := by
  unfold padL
  rw [getD_app, getD_app]
  by_cases h : i < l.length
  · rw [if_pos h, if_pos h]
  · rw [if_neg h, if_neg h]
    cases hi : i - l.length with
    | zero => rfl
    | succ j =>
      show (List.replicate m (0 : Int32)).getD j 0 = ([] : List Int32).getD j 0
      rw [List.getD_nil, List.getD_eq_getElem?_getD, List.getElem?_replicate]
      split <;> rfl
theorem wd_oct (n : Nat) (h : n < 128) : wd (iush (nI (8 * n)) 24 &&& 255) (iush (nI (8 * n)) 16 &&& 255) (iush (nI (8 * n)) 8 &&& 255) (iush (nI (8 * n)) 0 &&& 255) = nI (8 * n) := by
  have key : ∀ n : Nat, n < 128 → wd (iush (nI (8 * n)) 24 &&& 255) (iush (nI (8 * n)) 16 &&& 255) (iush (nI (8 * n)) 8 &&& 255) (iush (nI (8 * n)) 0 &&& 255) = nI (8 * n) := by decide +kernel
  exact key n h
theorem pad_wrd {l : List Int32} (hl : l.length < 120) (i : Nat) (hi : i < 32) : wrd (padL l (123 - l.length) ++ oct4 (nI (8 * l.length))) i = msgW l i := by
  have hL : (padL l (123 - l.length)).length = 124 := by rw [padL_len]; omega
  unfold msgW wrd
  by_cases e : i = 31
  · subst e
    rw [if_pos rfl, getD_app, getD_app, getD_app, getD_app, hL]
    exact wd_oct l.length (by omega)
  · rw [if_neg e, getD_app, getD_app, getD_app, getD_app, hL, if_pos (by omega), if_pos (by omega), if_pos (by omega), if_pos (by omega), padL_getD, padL_getD, padL_getD, padL_getD]
theorem v_X8_hash (x1 : Int32) (σ : Sg) (K : Sg → Prop) (h : sp_X8_hash x1 σ K) : vc_X8_hash x1 σ K := by
  obtain ⟨x, n, p1, p2, rfl, hx, hn, e4, e2, e3, hp1, hp2, hk64, hH8, hK⟩ := h
  intro L17 L64 L146 L205 L229 L255 L275 r17 r64 r146 r205 r229 r255 r275
  have cx : (nI x).toNatClampNeg = x := cl_nI (by omega)
  have vx := v240 hx
  obtain ⟨P1, hP1⟩ : ∃ P, P = ph (σ.1 8) p1 := ⟨_, rfl⟩
  obtain ⟨P2, hP2⟩ : ∃ P, P = ph (σ.1 8) p2 := ⟨_, rfl⟩
  obtain ⟨to, hto⟩ : ∃ P, P = fun i => σ.1 5 (x * 3 + i) := ⟨_, rfl⟩
  obtain ⟨am, ham⟩ : ∃ P, P = fun i => σ.1 6 (x * 3 + i) := ⟨_, rfl⟩
  obtain ⟨E, hE⟩ : ∃ E, E = evL (σ.1 1 x) P1 P2 (σ.2 13 x) n to am := ⟨_, rfl⟩
  rw [← hP1, ← hP2, ← hto, ← ham, ← hE] at hK
  have hEl : E.length = 74 + 5 * n := by
    rw [hE]
    unfold evL
    simp [hl_len, txl_len, oct4_len]
    omega
  have St : ∀ τ : Sg, Fr [0, 28] σ τ → τ.1 8 = σ.1 8 ∧ τ.1 2 = σ.1 2 ∧ τ.1 3 = σ.1 3 ∧ τ.1 4 = σ.1 4 ∧ τ.1 5 = σ.1 5 ∧ τ.1 6 = σ.1 6 ∧ τ.2 13 = σ.2 13 ∧ τ.1 30 = σ.1 30 ∧ τ.1 31 = σ.1 31 ∧ τ.1 32 = σ.1 32 := fun τ F => ⟨(F 8 (by decide)).1, (F 2 (by decide)).1, (F 3 (by decide)).1, (F 4 (by decide)).1, (F 5 (by decide)).1, (F 6 (by decide)).1, (F 13 (by decide)).2, (F 30 (by decide)).1, (F 31 (by decide)).1, (F 32 (by decide)).1⟩
  -- the end: the words go to the hashes
  have q275 : ∀ k, k ≤ 8 → ∀ τ : Sg, ((∀ j, j < 8 → τ.1 31 j = shaF E j) ∧ (∀ j, τ.1 8 j = if x * 8 ≤ j ∧ j < x * 8 + k then shaF E (j - x * 8) else σ.1 8 j) ∧ K0 [36] σ τ ∧ Fr [0, 8, 28, 29, 31] σ τ) → L275 (nI k) τ := by
    refine lup (L := fun k τ => L275 (nI k) τ) (fun k τ => (∀ j, j < 8 → τ.1 31 j = shaF E j) ∧ (∀ j, τ.1 8 j = if x * 8 ≤ j ∧ j < x * 8 + k then shaF E (j - x * 8) else σ.1 8 j) ∧ K0 [36] σ τ ∧ Fr [0, 8, 28, 29, 31] σ τ) 8 (fun τ ht => ?_) (fun k τ hk ht ih => ?_)
    · exact r275 _ _ ⟨fun _ => hK τ ht.2.1 ht.2.2.1 ht.2.2.2, fun c => absurd (Int32.le_refl _) c⟩
    · obtain ⟨h1, h2, h3, h4⟩ := ht
      refine r275 _ _ ⟨fun c => absurd c (nI_ge (b := 8) hk (by omega)), fun _ => ?_⟩
      have e8 : (8 * nI x) + nI k = nI (x * 8 + k) := by rw [show (8 : Int32) = nI 8 from rfl, pk_mul, nI_add, Nat.mul_comm]
      rw [e8, cl_nI (show k < 2 ^ 31 by omega), cl_nI (show x * 8 + k < 2 ^ 31 by omega), nI_1, h1 k hk]
      refine ⟨vp_in_nI hk (by omega), vp_in_nI (by omega) (by omega), ih _ ⟨fun j hj => ?_, fun j => ?_, K0_pI2 h3 (by decide), Fr_pI h4 (by decide)⟩⟩
      · rw [pI_at, if_neg (fun q => absurd q.1 (by decide))]; exact h1 j hj
      · rw [pI_at]
        by_cases e : j = x * 8 + k
        · subst e
          rw [if_pos ⟨rfl, rfl⟩, if_pos (by omega), Nat.add_sub_cancel_left]
        · rw [if_neg (fun q => e q.2), h2 j]
          by_cases q : x * 8 ≤ j ∧ j < x * 8 + k
          · rw [if_pos q, if_pos (by omega)]
          · rw [if_neg q, if_neg (by omega)]
  -- the two blocks
  have q255 : ∀ τ : Sg, (∀ i, i < 128 → τ.1 28 i = (padL E (123 - E.length) ++ oct4 (nI (8 * E.length))).getD i 0) → (∀ j, j < 8 → τ.1 31 j = H8 j) → K0 [36] σ τ → Fr [0, 28, 31] σ τ → L255 0 τ := by
    intro τ b1 b2 b3 b4
    have g30 : ∀ j, j < 64 → τ.1 30 j = K64 j := fun j hj => by rw [(b4 30 (by decide)).1]; exact hk64 j hj
    have hmw : ∀ i, i < 32 → wd (τ.1 28 (4 * i)) (τ.1 28 (4 * i + 1)) (τ.1 28 (4 * i + 2)) (τ.1 28 (4 * i + 3)) = msgW E i := fun i hi => by
      rw [b1 _ (by omega), b1 _ (by omega), b1 _ (by omega), b1 _ (by omega)]
      exact pad_wrd (by omega) i hi
    refine r255 0 τ ⟨fun c => absurd c (by decide), fun _ => ⟨0, rfl, by decide, g30, fun τ1 c1 f1 => ?_⟩⟩
    rw [show (0 : Int32) + 64 = 64 by decide]
    have d1 : ∀ j, j < 8 → τ1.1 31 j = cmp16 (msgW E) H8 j := fun j hj => by
      rw [c1 j hj]
      refine cmp16_congr (fun i hi => ?_) b2 j hj
      rw [Nat.zero_add]
      exact hmw i (by omega)
    refine r255 64 τ1 ⟨fun c => absurd c (by decide), fun _ => ⟨64, rfl, by decide, fun j hj => by rw [(f1 30 (by decide)).1]; exact g30 j hj, fun τ2 c2 f2 => ?_⟩⟩
    rw [show (64 : Int32) + 64 = 128 by decide]
    refine r255 128 τ2 ⟨fun _ => ?_, fun c => absurd (by decide) c⟩
    have F2 : Fr [0, 28, 29, 31] σ τ2 := (b4.mono (by decide)).trans ((f1.mono (by decide)).trans (f2.mono (by decide)))
    refine q275 0 (by omega) τ2 ⟨fun j hj => ?_, fun j => ?_, b3.trans ((K0.of f1 (by decide)).trans (K0.of f2 (by decide))), F2.mono (by decide)⟩
    · rw [c2 j hj]
      refine cmp16_congr (fun i hi => ?_) d1 j hj
      rw [(f1 28 (by decide)).1, show 64 + 4 * i = 4 * (16 + i) by omega]
      exact hmw (16 + i) (by omega)
    · rw [if_neg (by omega), (F2 8 (by decide)).1]
  have q229 : ∀ k, k ≤ 8 → ∀ τ : Sg, ((∀ i, i < 128 → τ.1 28 i = (padL E (123 - E.length) ++ oct4 (nI (8 * E.length))).getD i 0) ∧ (∀ j, j < k → τ.1 31 j = H8 j) ∧ K0 [36] σ τ ∧ Fr [0, 28, 31] σ τ) → L229 (nI k) τ := by
    refine lup (L := fun k τ => L229 (nI k) τ) (fun k τ => (∀ i, i < 128 → τ.1 28 i = (padL E (123 - E.length) ++ oct4 (nI (8 * E.length))).getD i 0) ∧ (∀ j, j < k → τ.1 31 j = H8 j) ∧ K0 [36] σ τ ∧ Fr [0, 28, 31] σ τ) 8 (fun τ ht => ?_) (fun k τ hk ht ih => ?_)
    · exact r229 _ _ ⟨fun _ => q255 τ ht.1 ht.2.1 ht.2.2.1 ht.2.2.2, fun c => absurd (Int32.le_refl _) c⟩
    · obtain ⟨h1, h2, h3, h4⟩ := ht
      refine r229 _ _ ⟨fun c => absurd c (nI_ge (b := 8) hk (by omega)), fun _ => ?_⟩
      rw [cl_nI (show k < 2 ^ 31 by omega), nI_1, (h4 32 (by decide)).1, hH8 k hk]
      refine ⟨vp_in_nI hk (by omega), vp_in_nI hk (by omega), ih _ ⟨fun i hi => ?_, fun j hj => ?_, K0_pI2 h3 (by decide), Fr_pI h4 (by decide)⟩⟩
      · rw [pI_at, if_neg (fun q => absurd q.1 (by decide))]; exact h1 i hi
      · rw [pI_at]
        by_cases e : j = k
        · subst e; rw [if_pos ⟨rfl, rfl⟩]
        · rw [if_neg (fun q => e q.2)]; exact h2 j (by omega)
  -- padding
  have q205 : ∀ i, i ≤ 123 - E.length → ∀ τ : Sg, (Blk (padL E i) τ ∧ K0 [36] σ τ ∧ Fr [0, 28] σ τ) → L205 (nI (8 * E.length)) τ := by
    refine lup (L := fun i τ => L205 (nI (8 * E.length)) τ) (fun i τ => Blk (padL E i) τ ∧ K0 [36] σ τ ∧ Fr [0, 28] σ τ) (123 - E.length) (fun τ ht => ?_) (fun i τ hi ht ih => ?_)
    · obtain ⟨h1, h2, h3⟩ := ht
      have hL : (padL E (123 - E.length)).length = 124 := by rw [padL_len]; omega
      have c36 : τ.1 0 36 = nI 124 := by rw [h1.1, hL]
      refine r205 _ _ ⟨fun _ => ⟨_, h1, by omega, fun τ1 b1 k1 f1 => ?_⟩, fun c => absurd (by rw [c36]; decide) c⟩
      refine q229 0 (by omega) τ1 ⟨fun i hi => b1.2.2 i (by simp [hL, oct4_len]; omega), fun j hj => absurd hj (Nat.not_lt_zero _), h2.trans k1, (h3.mono (by decide)).trans (f1.mono (by decide))⟩
    · obtain ⟨h1, h2, h3⟩ := ht
      have hL : (padL E i).length = E.length + 1 + i := padL_len E i
      have c36 : τ.1 0 36 = nI (E.length + 1 + i) := by rw [h1.1, hL]
      refine r205 _ _ ⟨fun c => absurd c (by rw [c36]; exact nI_ge (b := 124) (by omega) (by omega)), fun _ => octet_ok h1 (by omega) (fun τ1 b1 k1 f1 => ?_)⟩
      refine ih τ1 ⟨?_, h2.trans k1, h3.trans f1⟩
      rw [← padL_succ]
      exact b1
  -- the transactions
  obtain ⟨C, hC⟩ : ∃ C, C = ((σ.1 1 x &&& 255) :: (hl P1 8 ++ (hl P2 8 ++ (oct4 (lush (σ.2 13 x) 32).toInt32 ++ oct4 (σ.2 13 x).toInt32)))) ++ [nI n &&& 255] := ⟨_, rfl⟩
  have hCl : C.length = 74 := by
    rw [hC]
    simp [hl_len, oct4_len]
  have hCE : C ++ txl to am n = E := by
    rw [hC, hE]
    unfold evL
    simp
  have q146 : ∀ k, k ≤ n → ∀ τ : Sg, (Blk (C ++ txl to am k) τ ∧ K0 [36] σ τ ∧ Fr [0, 28] σ τ) → L146 (nI k) τ := by
    refine lup (L := fun k τ => L146 (nI k) τ) (fun k τ => Blk (C ++ txl to am k) τ ∧ K0 [36] σ τ ∧ Fr [0, 28] σ τ) n (fun τ ht => ?_) (fun k τ hk ht ih => ?_)
    · obtain ⟨h1, h2, h3⟩ := ht
      obtain ⟨-, -, -, s4, -⟩ := St τ h3
      rw [hCE] at h1
      refine r146 _ _ ?_
      unfold f_X8_hash_146
      rw [cx, s4, e4, h1.1, show (8 : Int32) = nI 8 from rfl, pk_mul]
      refine ⟨vx, fun _ => octet_ok h1 (by omega) (fun τ1 b1 k1 f1 => q205 0 (by omega) τ1 ⟨?_, h2.trans k1, h3.trans f1⟩), fun c => absurd (Int32.le_refl _) c⟩
      have : E ++ [(128 : Int32) &&& 255] = padL E 0 := by
        unfold padL
        rfl
      rw [← this]
      exact b1
    · obtain ⟨h1, h2, h3⟩ := ht
      obtain ⟨-, -, -, s4, s5, s6, -⟩ := St τ h3
      have hlen : (C ++ txl to am k).length = 74 + 5 * k := by simp [hCl, txl_len]
      have e3k : (3 * nI x) + nI k = nI (x * 3 + k) := by rw [show (3 : Int32) = nI 3 from rfl, pk_mul, nI_add, Nat.mul_comm]
      have vk : vp_in (nI (x * 3 + k)) 720 := vp_in_nI (by omega) (by omega)
      refine r146 _ _ ?_
      unfold f_X8_hash_146
      rw [cx, s4, e4, e3k, cl_nI (show x * 3 + k < 2 ^ 31 by omega), s5, nI_1]
      refine ⟨vx, fun c => absurd c (nI_ge hk (by omega)), fun _ => ⟨vk, octet_ok h1 (by omega) (fun τ1 b1 k1 f1 => ⟨vk, ?_⟩)⟩⟩
      rw [(f1 6 (by decide)).1, s6]
      refine ⟨_, b1, by simp [hCl, txl_len]; omega, fun τ2 b2 k2 f2 => ih τ2 ⟨?_, h2.trans (k1.trans k2), h3.trans (f1.trans f2)⟩⟩
      have : C ++ txl to am (k + 1) = C ++ txl to am k ++ [σ.1 5 (x * 3 + k) &&& 255] ++ oct4 (σ.1 6 (x * 3 + k)) := by
        show C ++ (txl to am k ++ ((to k &&& 255) :: oct4 (am k))) = _
        rw [hto, ham]
        simp
      rw [this]
      exact b2
  -- the second parent
  have q64 : ∀ k, k ≤ 8 → ∀ τ : Sg, (Blk (((σ.1 1 x &&& 255) :: hl P1 8) ++ hl P2 k) τ ∧ K0 [36] σ τ ∧ Fr [0, 28] σ τ) → L64 (nI k) τ := by
    refine lup (L := fun k τ => L64 (nI k) τ) (fun k τ => Blk (((σ.1 1 x &&& 255) :: hl P1 8) ++ hl P2 k) τ ∧ K0 [36] σ τ ∧ Fr [0, 28] σ τ) 8 (fun τ ht => ?_) (fun k τ hk ht ih => ?_)
    · obtain ⟨h1, h2, h3⟩ := ht
      have s13 : τ.2 13 = σ.2 13 := (h3 13 (by decide)).2
      refine r64 _ _ ?_
      unfold f_X8_hash_64
      rw [cx, s13]
      refine ⟨fun _ => ⟨vx, _, h1, by simp [hl_len], fun τ1 b1 k1 f1 => ⟨vx, ?_⟩⟩, fun c => absurd (Int32.le_refl _) c⟩
      rw [(f1 13 (by decide)).2, s13]
      refine ⟨_, b1, by simp [hl_len, oct4_len], fun τ2 b2 k2 f2 => ⟨vx, ?_⟩⟩
      rw [(f2 4 (by decide)).1, (f1 4 (by decide)).1, (h3 4 (by decide)).1, e4]
      refine octet_ok b2 (by simp [hl_len, oct4_len]) (fun τ3 b3 k3 f3 => q146 0 (Nat.zero_le _) τ3 ⟨?_, h2.trans (k1.trans (k2.trans k3)), h3.trans (f1.trans (f2.trans f3))⟩)
      have : C ++ txl to am 0 = ((σ.1 1 x &&& 255) :: hl P1 8) ++ hl P2 8 ++ oct4 (lshr (σ.2 13 x) 32).toInt32 ++ oct4 (σ.2 13 x).toInt32 ++ [nI n &&& 255] := by
        rw [hC, lshr32]
        simp [txl]
      rw [this]
      exact b3
    · obtain ⟨h1, h2, h3⟩ := ht
      obtain ⟨s8, -, s3, -⟩ := St τ h3
      refine r64 _ _ ?_
      unfold f_X8_hash_64
      rw [cx, s3, e3]
      refine ⟨fun c => absurd c (nI_ge (b := 8) hk (by omega)), fun _ => ⟨vx, par_ok (p := p2) (G := fun z => f_X8_hash_100 (nI x) L17 L64 L146 L205 L229 L255 L275 K (nI k) z τ) hp2 hk rfl vx ?_⟩⟩
      rw [s8, ← hP2]
      show sp_X8_four (P2 k) τ (fun u26 => L64 (nI k + 1) u26)
      rw [nI_1]
      refine ⟨_, h1, by simp [hl_len]; omega, fun τ1 b1 k1 f1 => ih τ1 ⟨?_, h2.trans k1, h3.trans f1⟩⟩
      have : ((σ.1 1 x &&& 255) :: hl P1 8) ++ hl P2 (k + 1) = ((σ.1 1 x &&& 255) :: hl P1 8) ++ hl P2 k ++ oct4 (P2 k) := by
        show _ ++ (hl P2 k ++ oct4 (P2 k)) = _
        simp
      rw [this]
      exact b1
  have q17 : ∀ k, k ≤ 8 → ∀ τ : Sg, (Blk ((σ.1 1 x &&& 255) :: hl P1 k) τ ∧ K0 [36] σ τ ∧ Fr [0, 28] σ τ) → L17 (nI k) τ := by
    refine lup (L := fun k τ => L17 (nI k) τ) (fun k τ => Blk ((σ.1 1 x &&& 255) :: hl P1 k) τ ∧ K0 [36] σ τ ∧ Fr [0, 28] σ τ) 8 (fun τ ht => ?_) (fun k τ hk ht ih => ?_)
    · obtain ⟨h1, h2, h3⟩ := ht
      refine r17 _ _ ⟨fun _ => q64 0 (by omega) τ ⟨?_, h2, h3⟩, fun c => absurd (Int32.le_refl _) c⟩
      have : ((σ.1 1 x &&& 255) :: hl P1 8) ++ hl P2 0 = (σ.1 1 x &&& 255) :: hl P1 8 := List.append_nil _
      rw [this]
      exact h1
    · obtain ⟨h1, h2, h3⟩ := ht
      obtain ⟨s8, s2, -⟩ := St τ h3
      refine r17 _ _ ?_
      unfold f_X8_hash_17
      rw [cx, s2, e2]
      refine ⟨fun c => absurd c (nI_ge (b := 8) hk (by omega)), fun _ => ⟨vx, par_ok (p := p1) (G := fun z => f_X8_hash_53 (nI x) L17 L64 L146 L205 L229 L255 L275 K (nI k) z τ) hp1 hk rfl vx ?_⟩⟩
      rw [s8, ← hP1]
      show sp_X8_four (P1 k) τ (fun u10 => L17 (nI k + 1) u10)
      rw [nI_1]
      refine ⟨_, h1, by simp [hl_len]; omega, fun τ1 b1 k1 f1 => ih τ1 ⟨?_, h2.trans k1, h3.trans f1⟩⟩
      have : (σ.1 1 x &&& 255) :: hl P1 (k + 1) = (σ.1 1 x &&& 255) :: hl P1 k ++ oct4 (P1 k) := rfl
      rw [this]
      exact b1
  unfold f_X8_hash_e
  rw [cx]
  have e1 : (pI σ 0 36 0).1 1 = σ.1 1 := pI_ne _ _ _ (by decide)
  rw [e1]
  refine ⟨vx, octet_ok (l := []) ⟨by rw [pI_at, if_pos ⟨rfl, rfl⟩]; rfl, by decide, fun i hi => absurd hi (Nat.not_lt_zero _)⟩ (by decide) (fun τ1 b1 k1 f1 => q17 0 (by omega) τ1 ⟨b1, (K0_pI K0.refl (by decide)).trans k1, (Fr_pI (Fr.refl _ _) (by decide)).trans f1⟩)⟩
