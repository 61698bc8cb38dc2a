theorem see_big {g : Gr} {N x y : Nat} (h : POK g N) (hx : x < N) (hy : x < y) : see g x y = false := by
  unfold see
  rw [anc_big h hx hy]
  rfl
theorem v_X3_findSeen (x1 : Int32) (σ : Sg) (K : Sg → Prop) (h : sp_X3_findSeen x1 σ K) : vc_X3_findSeen x1 σ K := by
  obtain ⟨g, x, rfl, hx, hP, hE, hT, hD, hS, hK⟩ := h
  intro L r
  have hxx : x < x + 1 := Nat.lt_succ_self x
  refine ⟨g, x, rfl, hx, hP, hE, hT, hD, fun σ1 hm f1 => ⟨by decide, x, rfl, by omega, ?_⟩⟩
  have key : ∀ i, i ≤ x + 1 → ∀ τ : Sg, (TB 25 x (see g) τ ∧ (∀ y, y < 256 → bt τ 25 x y = (decide (y < i) && see g x y)) ∧ (∀ c, c < 8 → τ.1 35 c = nI (am g x c) ∧ τ.1 36 c = nI (dm g x c)) ∧ Fr [26, 35, 36] σ τ) → L (nI i) τ := by
    refine lup (L := fun i τ => L (nI i) τ) (fun i τ => TB 25 x (see g) τ ∧ (∀ y, y < 256 → bt τ 25 x y = (decide (y < i) && see g x y)) ∧ (∀ c, c < 8 → τ.1 35 c = nI (am g x c) ∧ τ.1 36 c = nI (dm g x c)) ∧ Fr [26, 35, 36] σ τ) (x + 1) (fun τ ht => ?_) (fun i τ hi ht ih => ?_)
    · obtain ⟨h1, h2, h3, h4⟩ := ht
      refine r _ _ ⟨fun _ => hK τ (fun a y ha hy => ?_) h4, fun c => absurd (nI_lt hxx (by omega)) c⟩
      by_cases e : a = x
      · rw [e, h2 y hy]
        by_cases hyx : y < x + 1
        · simp [hyx]
        · rw [see_big hP hxx (show x < y by omega), Bool.and_false]
      · exact h1 a y (by omega) hy
    · obtain ⟨h1, h2, h3, h4⟩ := ht
      have ci : (nI i).toNatClampNeg = i := cl_nI (by omega)
      have hb : bt τ 23 x i = anc g x i := (h4.bt (by decide) x i).trans (hT x i hxx (by omega))
      have hei : τ.1 12 i = nI (gc g i) := by rw [(h4 12 (by decide)).1]; exact (hE i hi).1
      have hci := (hP.1 i hi).1
      have cc : (nI (gc g i)).toNatClampNeg = gc g i := cl_nI (by omega)
      have skip : see g x i = false → L (nI i + 1) τ := by
        intro hs
        rw [nI_1]
        refine ih τ ⟨h1, fun y hy => ?_, h3, h4⟩
        rw [h2 y hy]
        by_cases e : y = i
        · rw [e, hs, Bool.and_false, Bool.and_false]
        · congr 1
          exact decide_eq_decide.mpr (by omega)
      refine r _ _ ⟨fun c => absurd c (nI_nlt (by omega) (by omega)), fun _ => ⟨by decide, x, i, rfl, rfl, by omega, by omega, ?_⟩⟩
      rw [hb]
      refine ⟨fun c => ?_, fun c => ?_⟩
      · rw [bI_0] at c
        exact skip (by unfold see; rw [c]; rfl)
      · rw [bI_1] at c
        refine ⟨v240 (by omega), ?_⟩
        show f_X3_isForker_e (τ.1 12 (nI i).toNatClampNeg) (fun r8 u9 => _) τ
        rw [ci, hei]
        unfold f_X3_isForker_e
        rw [cc, (h3 _ hci).1, (h3 _ hci).2]
        have hv : vp_in (nI (gc g i)) 8 := vp_in_nI hci (by omega)
        have hal : am g x (gc g i) ≤ x + 1 := cnt_le _ _
        have hdl : dm g x (gc g i) ≤ x + 1 := mx_le _ (fun j hj => by have := dep_le hP (show j < x + 1 by omega); omega)
        refine ⟨hv, hv, fun q => ⟨isZ_0, fun q2 => absurd rfl q2, fun _ => ?_⟩, fun q => ⟨isZ_1, fun _ => skip ?_, fun q2 => absurd q2 (by decide)⟩⟩
        · have hnf : forked g x (gc g i) = false := by
            cases e : forked g x (gc g i)
            · rfl
            · have := (forked_dm hP hxx _).mp e
              have := (nI_leI (by omega) (by omega)).mp q
              omega
          have hs : see g x i = true := by unfold see; rw [c, hnf]; rfl
          refine ⟨by decide, x, i, rfl, rfl, by omega, by omega, ?_⟩
          show L (nI i + 1) (bput τ 25 x i)
          rw [nI_1]
          have hF := Fr_bput τ 25 x i
          refine ih _ ⟨fun a y ha hy => ?_, fun y hy => ?_, fun c hc => ?_, h4.trans (hF.mono (by decide))⟩
          · rw [bt_put _ _ _ _ _ _ (by omega) hy, h1 a y ha hy, decide_eq_false (fun q => absurd q.1 (by omega)), Bool.or_false]
          · rw [bt_put _ _ _ _ _ _ (by omega) hy, h2 y hy]
            by_cases e : y = i
            · rw [e, hs]
              simp
            · rw [decide_eq_false (show ¬ (x = x ∧ y = i) from fun q => e q.2), Bool.or_false]
              congr 1
              exact decide_eq_decide.mpr (by omega)
          · rw [(hF 35 (by decide)).1, (hF 36 (by decide)).1]
            exact h3 c hc
        · have : forked g x (gc g i) = true := by
            rw [forked_dm hP hxx]
            apply Classical.byContradiction
            intro hq
            exact q (nI_le (by omega) (by omega))
          unfold see
          rw [this, Bool.not_true, Bool.and_false]
  have hF := Fr_row σ1 25 (fun j => if x * 4 ≤ j ∧ j < x * 4 + 4 then 0 else σ1.2 (25 + 1) j)
  refine key 0 (by omega) _ ⟨fun a y ha hy => ?_, fun y hy => ?_, fun c hc => hm c hc, (f1.mono (by decide)).trans (hF.mono (by decide))⟩
  · rw [bt_clearRow _ _ _ _ _ hy, if_neg (by omega), f1.bt (by decide)]
    exact hS a y ha hy
  · rw [bt_clearRow _ _ _ _ _ hy, if_pos rfl]
    simp
theorem most_nI {g : Gr} {k : Nat} (h : gn g ≤ 8) (hk : k ≤ 256) : (3 * nI k) ≤ (2 * nI (gn g)) ↔ most g k = false := by
  rw [show (3 : Int32) = nI 3 from rfl, show (2 : Int32) = nI 2 from rfl, pk_mul, pk_mul, nI_leI (by omega) (by omega)]
  unfold most
  rw [decide_eq_false_iff_not]
  omega
theorem str_big {g : Gr} {N x y : Nat} (h : POK g N) (hx : x < N) (hy : x < y) : str g x y = false := by
  unfold str
  have : cnt (thr g x y) 8 = 0 := cnt_0 8 (fun c hc => by
    unfold thr
    rw [anyN_false]
    intro z hz
    rw [see_big h (show z < N by omega) (show z < y by omega), Bool.and_false, Bool.and_false])
  rw [this]
  unfold most
  simp
theorem anyN_congr {p q : Nat → Bool} (n : Nat) (h : ∀ i, i < n → p i = q i) : anyN p n = anyN q n := by
  induction n with
  | zero => rfl
  | succ n ih =>
    unfold anyN
    rw [ih (fun i hi => h i (by omega)), h n (by omega)]
theorem v_X3_findStronglySeen (x1 : Int32) (σ : Sg) (K : Sg → Prop) (h : sp_X3_findStronglySeen x1 σ K) : vc_X3_findStronglySeen x1 σ K := by
  obtain ⟨g, x, rfl, hx, hP, hE, hT, hS, hn, h8, hK⟩ := h
  intro L9 L63 r9 r63
  have hxx : x < x + 1 := Nat.lt_succ_self x
  have fill : ∀ i, i ≤ x + 1 → ∀ τ : Sg, (TB 27 x (str g) τ ∧ (∀ y, y < 256 → bt τ 27 x y = (decide (y < i) && str g x y)) ∧ (∀ y c, y < 256 → c < 8 → bt τ 29 c y = thr g x y c) ∧ Fr [28, 30] σ τ) → L63 (nI i) τ := by
    refine lup (L := fun i τ => L63 (nI i) τ) (fun i τ => TB 27 x (str g) τ ∧ (∀ y, y < 256 → bt τ 27 x y = (decide (y < i) && str g x y)) ∧ (∀ y c, y < 256 → c < 8 → bt τ 29 c y = thr g x y c) ∧ Fr [28, 30] σ τ) (x + 1) (fun τ ht => ?_) (fun i τ hi ht ih => ?_)
    · obtain ⟨h1, h2, h3, h4⟩ := ht
      refine r63 _ _ ⟨fun _ => hK τ (fun a y ha hy => ?_) h4, fun c => absurd (nI_lt hxx (by omega)) c⟩
      by_cases e : a = x
      · rw [e, h2 y hy]
        by_cases hyx : y < x + 1
        · simp [hyx]
        · rw [str_big hP hxx (show x < y by omega), Bool.and_false]
      · exact h1 a y (by omega) hy
    · obtain ⟨h1, h2, h3, h4⟩ := ht
      refine r63 _ _ ⟨fun c => absurd c (nI_nlt (by omega) (by omega)), fun _ => ⟨by decide, 8, i, by rw [(h4 29 (by decide)).1]; exact h8, rfl, by decide, by omega, ?_⟩⟩
      have ec : cnt (fun r => bt τ 29 r i) 8 = cnt (thr g x i) 8 := cnt_congr 8 (fun c hc => h3 i c (by omega) hc)
      have hcl : cnt (thr g x i) 8 ≤ 8 := cnt_le _ _
      show f_X7_isMost_e (nI (cnt (fun r => bt τ 29 r i) 8)) (τ.1 22 11) _ τ
      rw [ec, (h4 22 (by decide)).1, hn]
      refine ⟨fun c => ⟨isZ_0, fun _ => ?_, fun q => absurd rfl q⟩, fun c => ⟨isZ_1, fun q => absurd q (by decide), fun _ => ?_⟩⟩
      · have hs : str g x i = false := (most_nI hP.2.2 (by omega)).mp c
        show L63 (nI i + 1) τ
        rw [nI_1]
        refine ih τ ⟨h1, fun y hy => ?_, h3, h4⟩
        rw [h2 y hy]
        by_cases e : y = i
        · rw [e, hs, Bool.and_false, Bool.and_false]
        · congr 1
          exact decide_eq_decide.mpr (by omega)
      · have hs : str g x i = true := by
          cases e : str g x i
          · exact absurd ((most_nI hP.2.2 (by omega)).mpr e) c
          · rfl
        refine ⟨by decide, x, i, rfl, rfl, by omega, by omega, ?_⟩
        show L63 (nI i + 1) (bput τ 27 x i)
        rw [nI_1]
        have hF := Fr_bput τ 27 x i
        refine ih _ ⟨fun a y ha hy => ?_, fun y hy => ?_, fun y c hy hc => ?_, h4.trans (hF.mono (by decide))⟩
        · rw [bt_put _ _ _ _ _ _ (by omega) hy, h1 a y ha hy, decide_eq_false (fun q => absurd q.1 (by omega)), Bool.or_false]
        · rw [bt_put _ _ _ _ _ _ (by omega) hy, h2 y hy]
          by_cases e : y = i
          · rw [e, hs]
            simp
          · rw [decide_eq_false (show ¬ (x = x ∧ y = i) from fun q => e q.2), Bool.or_false]
            congr 1
            exact decide_eq_decide.mpr (by omega)
        · rw [hF.bt (by decide)]
          exact h3 y c hy hc
  have coll : ∀ i, i ≤ x + 1 → ∀ τ : Sg, ((∀ y c, y < 256 → c < 8 → bt τ 29 c y = anyN (fun z => decide (gc g z = c) && (see g x z && see g z y)) i) ∧ Fr [30] σ τ) → L9 (nI i) τ := by
    refine lup (L := fun i τ => L9 (nI i) τ) (fun i τ => (∀ y c, y < 256 → c < 8 → bt τ 29 c y = anyN (fun z => decide (gc g z = c) && (see g x z && see g z y)) i) ∧ Fr [30] σ τ) (x + 1) (fun τ ht => ?_) (fun i τ hi ht ih => ?_)
    · obtain ⟨h1, h4⟩ := ht
      refine r9 _ _ ⟨fun _ => ⟨by decide, x, rfl, by omega, ?_⟩, fun c => absurd (nI_lt hxx (by omega)) c⟩
      have hF := Fr_row τ 27 (fun j => if x * 4 ≤ j ∧ j < x * 4 + 4 then 0 else τ.2 (27 + 1) j)
      refine fill 0 (by omega) _ ⟨fun a y ha hy => ?_, fun y hy => ?_, fun y c hy hc => ?_, (h4.mono (by decide)).trans (hF.mono (by decide))⟩
      · rw [bt_clearRow _ _ _ _ _ hy, if_neg (by omega), h4.bt (by decide)]
        exact hS a y ha hy
      · rw [bt_clearRow _ _ _ _ _ hy, if_pos rfl]
        simp
      · rw [hF.bt (by decide)]
        exact h1 y c hy hc
    · obtain ⟨h1, h4⟩ := ht
      have ci : (nI i).toNatClampNeg = i := cl_nI (by omega)
      have hb : bt τ 25 x i = see g x i := (h4.bt (by decide) x i).trans (hT x i hxx (by omega))
      have hei : τ.1 12 i = nI (gc g i) := by rw [(h4 12 (by decide)).1]; exact (hE i hi).1
      have hci := (hP.1 i hi).1
      refine r9 _ _ ⟨fun c => absurd c (nI_nlt (by omega) (by omega)), fun _ => ⟨by decide, x, i, rfl, rfl, by omega, by omega, ?_⟩⟩
      rw [hb]
      refine ⟨fun c => ?_, fun c => ?_⟩
      · rw [bI_0] at c
        show L9 (nI i + 1) τ
        rw [nI_1]
        refine ih τ ⟨fun y d hy hd => ?_, h4⟩
        rw [h1 y d hy hd]
        show _ = (_ || (decide (gc g i = d) && (see g x i && see g i y)))
        rw [c, Bool.false_and, Bool.and_false, Bool.or_false]
      · rw [bI_1] at c
        refine ⟨v240 (by omega), ?_⟩
        show sp_X0_join 29 32 25 960 (τ.1 12 (nI i).toNatClampNeg) (nI i) τ _
        rw [ci, hei]
        refine ⟨by decide, by decide, gc g i, i, rfl, rfl, by omega, by omega, ?_⟩
        show L9 (nI i + 1) (bjoin τ 29 (gc g i) 25 i)
        rw [nI_1]
        refine ih _ ⟨fun y d hy hd => ?_, h4.trans (Fr_bjoin τ 29 (gc g i) 25 i)⟩
        rw [bt_join _ _ _ _ _ _ _ hy]
        show _ = (_ || (decide (gc g i = d) && (see g x i && see g i y)))
        by_cases e : d = gc g i
        · rw [if_pos e, ← e, h1 y d hy hd, h4.bt (by decide), hT i y hi hy, c, e]
          simp
        · rw [if_neg e, h1 y d hy hd, decide_eq_false (show ¬ gc g i = d from fun q => e q.symm), Bool.false_and, Bool.or_false]
  refine ⟨by decide, coll 0 (by omega) _ ⟨fun y c hy hc => ?_, Fr_row σ 29 _⟩⟩
  rw [bt_clear _ _ _ _ _ hy (by omega)]
  rfl
