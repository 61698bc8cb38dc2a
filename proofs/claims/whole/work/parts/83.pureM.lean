/-! ===== the model's hash ===== -/
theorem getD_app {l m : List Int32} {i : Nat} : (l ++ m).getD i 0 = if i < l.length then l.getD i 0 else m.getD (i - l.length) 0 := by
  rw [List.getD_eq_getElem?_getD, List.getD_eq_getElem?_getD, List.getD_eq_getElem?_getD]
  split
  · rw [List.getElem?_append_left (by assumption)]
  · rw [List.getElem?_append_right (by omega)]
theorem K0.refl {L : List Nat} {σ : Sg} : K0 L σ σ := fun _ _ => rfl
theorem K0.trans {L : List Nat} {σ τ υ : Sg} (h1 : K0 L σ τ) (h2 : K0 L τ υ) : K0 L σ υ := fun j hj => (h2 j hj).trans (h1 j hj)
theorem K0.mono {L M : List Nat} {σ τ : Sg} (h : K0 L σ τ) (d : ∀ a ∈ L, a ∈ M) : K0 M σ τ := fun j hj => h j (fun q => hj (d j q))
theorem K0.of {L : List Nat} {σ τ : Sg} {S : List Nat} (h : Fr S σ τ) (d : 0 ∉ S) : K0 L σ τ := fun j _ => by rw [(h 0 d).1]
theorem K0_pI {L : List Nat} {σ τ : Sg} {j : Nat} {v : Int32} (h : K0 L σ τ) (hj : j ∈ L) : K0 L σ (pI τ 0 j v) := fun i hi => by
  rw [pI_at, if_neg (fun q => hi (by rw [q.2]; exact hj))]
  exact h i hi
theorem K0_pI2 {L : List Nat} {σ τ : Sg} {k j : Nat} {v : Int32} (h : K0 L σ τ) (hk : k ≠ 0) : K0 L σ (pI τ k j v) := fun i hi => by
  rw [pI_at, if_neg (fun q => hk q.1.symm)]
  exact h i hi
theorem octet_ok {x1 : Int32} {σ : Sg} {K : Sg → Prop} {l : List Int32} (h : Blk l σ) (hl : l.length < 128) (hK : ∀ τ, Blk (l ++ [x1 &&& 255]) τ → K0 [36] σ τ → Fr [0, 28] σ τ → K τ) : sp_X8_octet x1 σ K := by
  obtain ⟨h1, h2, h3⟩ := h
  unfold sp_X8_octet vc_X8_octet f_X8_octet_e
  rw [h1, cl_nI (by omega), nI_1]
  refine ⟨vp_in_nI hl (by omega), hK _ ⟨?_, by simp; omega, fun i hi => ?_⟩ ?_ (Fr_pI (Fr_pI (Fr.refl _ _) (by decide)) (by decide))⟩
  · rw [pI_at, if_neg (fun q => absurd q.1 (by decide)), pI_at, if_pos ⟨rfl, rfl⟩]
    simp
  · rw [pI_at, getD_app]
    have hi2 : i < l.length + 1 := by simpa using hi
    by_cases e : i = l.length
    · rw [if_pos ⟨rfl, e⟩, if_neg (by omega), e, Nat.sub_self]
      rfl
    · rw [if_neg (fun q => e q.2), pI_at, if_neg (fun q => absurd q.1 (by decide)), if_pos (by omega)]
      exact h3 i (by omega)
  · exact K0_pI2 (K0_pI K0.refl (by decide)) (by decide)
theorem sh_and (x : Int32) (k : Nat) (hk : k ≤ 24) : ishr x (nI k) &&& 255 = iush x (nI k) &&& 255 := by
  have hk2 : (nI k &&& 31) = nI k := by
    have : nI k &&& 31 = nI (k % 32) := pk_andN (by omega) 5 (by decide)
    rw [this, Nat.mod_eq_of_lt (by omega)]
  apply Int32.toBitVec_inj.mp
  have e1 : (ishr x (nI k)).toBitVec = x.toBitVec.sshiftRight k := by
    unfold ishr
    rw [show (nI k &&& 31) = nI k from hk2]
    rw [Int32.toBitVec_shiftRight]
    have : (BitVec.smod (nI k).toBitVec 32).toNat = k := by
      rw [show (nI k).toBitVec = BitVec.ofNat 32 k from rfl]
      have hh : ∀ j : Nat, j ≤ 24 → (BitVec.smod (BitVec.ofNat 32 j) 32).toNat = j := by decide +kernel
      exact hh k hk
    first
    | rw [BitVec.sshiftRight_eq', this]
    | (simp only [BitVec.sshiftRight_eq', this])
  have e2 : (iush x (nI k)).toBitVec = x.toBitVec >>> k := by
    unfold iush
    show (x.toUInt32 >>> ((nI k).toUInt32 &&& Int32.toUInt32 31)).toBitVec = _
    rw [UInt32.toBitVec_shiftRight]
    have hh : ∀ j : Nat, j ≤ 24 → (((nI j).toUInt32 &&& Int32.toUInt32 31).toBitVec % 32).toNat = j := by decide +kernel
    show x.toBitVec >>> (((nI k).toUInt32 &&& Int32.toUInt32 31).toBitVec % 32) = _
    rw [BitVec.ushiftRight_eq', hh k hk]
  rw [Int32.toBitVec_and, Int32.toBitVec_and, e1, e2]
  apply BitVec.eq_of_getLsbD_eq
  intro i hi
  rw [BitVec.getLsbD_and, BitVec.getLsbD_and, BitVec.getLsbD_sshiftRight, BitVec.getLsbD_ushiftRight]
  have h255 : ∀ j : Nat, j < 32 → (Int32.toBitVec 255).getLsbD j = decide (j < 8) := by decide +kernel
  rw [h255 i hi]
  by_cases q : i < 8
  · rw [decide_eq_true q, Bool.and_true, Bool.and_true, decide_eq_false (by omega), Bool.not_false, Bool.true_and, if_pos (by omega)]
  · rw [decide_eq_false q, Bool.and_false, Bool.and_false]
theorem v_X8_four (x1 : Int32) (σ : Sg) (K : Sg → Prop) (h : sp_X8_four x1 σ K) : vc_X8_four x1 σ K := by
  obtain ⟨l, hM, hl, hK⟩ := h
  intro L3 r3
  have e1 : (24 : Int32) + (-8) = 16 := by decide
  have e2 : (16 : Int32) + (-8) = 8 := by decide
  have e3 : (8 : Int32) + (-8) = 0 := by decide
  have e4 : (0 : Int32) + (-8) = -8 := by decide
  refine r3 24 σ ⟨fun c => absurd c (by decide), fun _ => octet_ok hM (by omega) (fun σ1 m1 k1 f1 => ?_)⟩
  rw [e1]
  refine r3 16 σ1 ⟨fun c => absurd c (by decide), fun _ => octet_ok m1 (by simp; omega) (fun σ2 m2 k2 f2 => ?_)⟩
  rw [e2]
  refine r3 8 σ2 ⟨fun c => absurd c (by decide), fun _ => octet_ok m2 (by simp; omega) (fun σ3 m3 k3 f3 => ?_)⟩
  rw [e3]
  refine r3 0 σ3 ⟨fun c => absurd c (by decide), fun _ => octet_ok m3 (by simp; omega) (fun σ4 m4 k4 f4 => ?_)⟩
  rw [e4]
  refine r3 (-8) σ4 ⟨fun _ => hK σ4 ?_ (k1.trans (k2.trans (k3.trans k4))) (f1.trans (f2.trans (f3.trans f4))), fun c => absurd (by decide) c⟩
  have q1 := sh_and x1 24 (by decide)
  have q2 := sh_and x1 16 (by decide)
  have q3 := sh_and x1 8 (by decide)
  have q4 := sh_and x1 0 (by decide)
  have e : l ++ [ishr x1 24 &&& 255] ++ [ishr x1 16 &&& 255] ++ [ishr x1 8 &&& 255] ++ [ishr x1 0 &&& 255] = l ++ oct4 x1 := by
    rw [show ishr x1 24 &&& 255 = iush x1 24 &&& 255 from q1, show ishr x1 16 &&& 255 = iush x1 16 &&& 255 from q2, show ishr x1 8 &&& 255 = iush x1 8 &&& 255 from q3, show ishr x1 0 &&& 255 = iush x1 0 &&& 255 from q4]
    simp [oct4]
  rw [← e]
  exact m4
theorem v_X8_compress (x1 : Int32) (σ : Sg) (K : Sg → Prop) (h : sp_X8_compress x1 σ K) : vc_X8_compress x1 σ K := by
  obtain ⟨f, rfl, hf, hk64, hK⟩ := h
  intro L2 L81 L245 r2 r81 r245
  obtain ⟨m, hm⟩ : ∃ m : Nat → Int32, m = fun i => wd (σ.1 28 (f + 4 * i)) (σ.1 28 (f + 4 * i + 1)) (σ.1 28 (f + 4 * i + 2)) (σ.1 28 (f + 4 * i + 3)) := ⟨_, rfl⟩
  rw [← hm] at hK
  have hv8 : ∀ k, k < 8 → vp_in (nI k) 8 := fun k hk => vp_in_nI hk (by omega)
  -- the rounds
  have mix : ∀ τ : Sg, ((∀ j, j < 64 → τ.1 29 j = Wm16 m j) ∧ Fr [29] σ τ) → ∀ i, i ≤ 64 → L245 (rds (Wm16 m) (σ.1 31) i 0) (rds (Wm16 m) (σ.1 31) i 1) (rds (Wm16 m) (σ.1 31) i 2) (rds (Wm16 m) (σ.1 31) i 3) (rds (Wm16 m) (σ.1 31) i 4) (rds (Wm16 m) (σ.1 31) i 5) (rds (Wm16 m) (σ.1 31) i 6) (rds (Wm16 m) (σ.1 31) i 7) (nI i) τ := by
    intro τ ⟨hW, hF⟩
    refine down 64 ?_ (fun i hi ih => ?_)
    · refine r245 _ _ _ _ _ _ _ _ _ _ ⟨fun _ => ?_, fun c => absurd (Int32.le_refl _) c⟩
      have g31 : τ.1 31 = σ.1 31 := (hF 31 (by decide)).1
      refine ⟨hv8 0 (by decide), hv8 0 (by decide), hv8 1 (by decide), hv8 1 (by decide), hv8 2 (by decide), hv8 2 (by decide), hv8 3 (by decide), hv8 3 (by decide), hv8 4 (by decide), hv8 4 (by decide), hv8 5 (by decide), hv8 5 (by decide), hv8 6 (by decide), hv8 6 (by decide), hv8 7 (by decide), hv8 7 (by decide), hK _ (fun j hj => ?_) ?_⟩
      · unfold cmp16
        rw [← g31]
        match j, hj with
        | 0, _ => rfl
        | 1, _ => rfl
        | 2, _ => rfl
        | 3, _ => rfl
        | 4, _ => rfl
        | 5, _ => rfl
        | 6, _ => rfl
        | 7, _ => rfl
        | j + 8, h => exact absurd h (by omega)
      · iterate 8 refine Fr_pI ?_ (by decide)
        exact hF.mono (by decide)
    · refine r245 _ _ _ _ _ _ _ _ _ _ ⟨fun c => absurd c (nI_ge (b := 64) hi (by omega)), fun _ => ?_⟩
      have hv : vp_in (nI i) 64 := vp_in_nI hi (by omega)
      have e : τ.1 29 (nI i).toNatClampNeg = Wm16 m i := by rw [cl_nI (by omega)]; exact hW i hi
      have ek : τ.1 30 (nI i).toNatClampNeg = K64 i := by rw [cl_nI (by omega), (hF 30 (by decide)).1]; exact hk64 i hi
      show vp_in (nI i) 64 ∧ vp_in (nI i) 64 ∧ _
      refine ⟨hv, hv, ?_⟩
      rw [nI_1]
      have ih2 := ih
      rw [show rds (Wm16 m) (σ.1 31) (i + 1) = rnd8 (K64 i) (Wm16 m i) (rds (Wm16 m) (σ.1 31) i) from rfl] at ih2
      rw [← e, ← ek] at ih2
      have e0 : ∀ a b c : Int32, (a + b) + c = a + (b + c) := fun a b c => Int32.add_assoc a b c
      simp only [rnd8] at ih2
      rw [e0 _ _ (((rds (Wm16 m) (σ.1 31) i 0 &&& rds (Wm16 m) (σ.1 31) i 1) ^^^ (rds (Wm16 m) (σ.1 31) i 0 &&& rds (Wm16 m) (σ.1 31) i 2)) ^^^ (rds (Wm16 m) (σ.1 31) i 1 &&& rds (Wm16 m) (σ.1 31) i 2))] at ih2
      exact ih2
  have sch : ∀ i, i ≤ 64 → ∀ τ : Sg, (16 ≤ i ∧ (∀ j, j < i → τ.1 29 j = Wm16 m j) ∧ Fr [29] σ τ) → L81 (nI i) τ := by
    refine lup (L := fun i τ => L81 (nI i) τ) (fun i τ => 16 ≤ i ∧ (∀ j, j < i → τ.1 29 j = Wm16 m j) ∧ Fr [29] σ τ) 64 (fun τ ht => ?_) (fun i τ hi ht ih => ?_)
    · refine r81 _ _ ⟨fun _ => ⟨hv8 0 (by decide), hv8 1 (by decide), hv8 2 (by decide), hv8 3 (by decide), hv8 4 (by decide), hv8 5 (by decide), hv8 6 (by decide), hv8 7 (by decide), ?_⟩, fun c => absurd (Int32.le_refl _) c⟩
      have g31 : τ.1 31 = σ.1 31 := (ht.2.2 31 (by decide)).1
      rw [g31]
      exact mix τ ⟨ht.2.1, ht.2.2⟩ 0 (by omega)
    · obtain ⟨h16, hj, hF⟩ := ht
      refine r81 _ _ ⟨fun c => absurd c (nI_ge (b := 64) hi (by omega)), fun _ => ?_⟩
      rw [show (15 : Int32) = nI 15 from rfl, show (2 : Int32) = nI 2 from rfl, show (16 : Int32) = nI 16 from rfl, show (7 : Int32) = nI 7 from rfl, nI_subL (by omega), nI_subL (by omega), nI_subL (by omega), nI_subL (by omega), nI_1, cl_nI (show i - 15 < 2 ^ 31 by omega), cl_nI (show i - 2 < 2 ^ 31 by omega), cl_nI (show i - 16 < 2 ^ 31 by omega), cl_nI (show i - 7 < 2 ^ 31 by omega), cl_nI (show i < 2 ^ 31 by omega)]
      refine ⟨vp_in_nI (by omega) (by omega), vp_in_nI (by omega) (by omega), vp_in_nI (by omega) (by omega), ?_⟩
      show vp_in _ _ ∧ vp_in _ _ ∧ L81 (nI (i + 1)) (pI τ 29 i (((τ.1 29 (i - 16) + sg0 (τ.1 29 (i - 15))) + τ.1 29 (i - 7)) + sg1 (τ.1 29 (i - 2))))
      refine ⟨vp_in_nI (by omega) (by omega), vp_in_nI (by omega) (by omega), ih _ ⟨by omega, fun j hj2 => ?_, Fr_pI hF (by decide)⟩⟩
      rw [pI_at]
      by_cases h : j = i
      · subst h
        rw [if_pos ⟨rfl, rfl⟩, Wm16_eq, if_neg (by omega), hj _ (by omega), hj _ (by omega), hj _ (by omega), hj _ (by omega)]
      · rw [if_neg (fun e => h e.2), hj j (by omega)]
  have ld : ∀ i, i ≤ 16 → ∀ τ : Sg, ((∀ j, j < i → τ.1 29 j = Wm16 m j) ∧ Fr [29] σ τ) → L2 (nI i) τ := by
    refine lup (L := fun i τ => L2 (nI i) τ) (fun i τ => (∀ j, j < i → τ.1 29 j = Wm16 m j) ∧ Fr [29] σ τ) 16 (fun τ ht => ?_) (fun i τ hi ht ih => ?_)
    · exact r2 _ _ ⟨fun _ => sch 16 (by omega) τ ⟨Nat.le_refl _, ht.1, ht.2⟩, fun c => absurd (Int32.le_refl _) c⟩
    · obtain ⟨hj, hF⟩ := ht
      refine r2 _ _ ⟨fun c => absurd c (nI_ge (b := 16) hi (by omega)), fun _ => ?_⟩
      have e4 : nI f + 4 * nI i = nI (f + 4 * i) := by rw [show (4 : Int32) = nI 4 from rfl, pk_mul, nI_add]
      have a1 : nI (f + 4 * i) + 1 = nI (f + 4 * i + 1) := nI_1 _
      have a2 : nI (f + 4 * i) + 2 = nI (f + 4 * i + 2) := nI_add _ 2
      have a3 : nI (f + 4 * i) + 3 = nI (f + 4 * i + 3) := nI_add _ 3
      have g28 : τ.1 28 = σ.1 28 := (hF 28 (by decide)).1
      rw [e4, a1, a2, a3, nI_1, cl_nI (show f + 4 * i < 2 ^ 31 by omega), cl_nI (show f + 4 * i + 1 < 2 ^ 31 by omega), cl_nI (show f + 4 * i + 2 < 2 ^ 31 by omega), cl_nI (show f + 4 * i + 3 < 2 ^ 31 by omega), cl_nI (show i < 2 ^ 31 by omega), g28]
      refine ⟨vp_in_nI (by omega) (by omega), vp_in_nI (by omega) (by omega), vp_in_nI (by omega) (by omega), vp_in_nI (by omega) (by omega), vp_in_nI (by omega) (by omega), ih _ ⟨fun j hj2 => ?_, Fr_pI hF (by decide)⟩⟩
      rw [pI_at]
      by_cases h : j = i
      · subst h
        rw [if_pos ⟨rfl, rfl⟩, Wm16_eq, if_pos hi, hm]
        rfl
      · rw [if_neg (fun e => h e.2), hj j (by omega)]
  exact ld 0 (by omega) σ ⟨fun j hj => absurd hj (Nat.not_lt_zero _), Fr.refl _ _⟩
