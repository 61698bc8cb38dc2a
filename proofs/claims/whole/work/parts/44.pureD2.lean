theorem WL_at {g : Gr} {N : Nat} {σ : Sg} (h : WL g N σ) {i : Nat} (hi : i < cnt (wit g) N) : ∃ z, z < N ∧ wit g z = true ∧ cnt (wit g) z = i ∧ σ.1 38 i = nI z := by
  obtain ⟨z, h1, h2, h3⟩ := cnt_at N i hi
  exact ⟨z, h1, h2, h3, by rw [← h3]; exact h z h1 h2⟩
theorem v_X1_findElectors (x1 : Int32) (σ : Sg) (K : Sg → Prop) (h : sp_X1_findElectors x1 σ K) : vc_X1_findElectors x1 σ K := by
  obtain ⟨g, x, rfl, hx, hP, hT, hR, hs, hW, hK⟩ := h
  intro L r
  have hxx : x < x + 1 := Nat.lt_succ_self x
  have hcl : cnt (wit g) x ≤ x := cnt_le _ _
  have hrx := rnd_pos hP x hxx
  have key : ∀ i, i ≤ cnt (wit g) x → ∀ τ : Sg, ((∀ b, b < 256 → bt τ 39 x b = (decide (cnt (wit g) b < i) && el g x b)) ∧ (∀ y b, y ≠ x → b < 256 → bt τ 39 y b = bt σ 39 y b) ∧ Fr [40] σ τ) → L (nI i) τ := by
    refine lup (L := fun i τ => L (nI i) τ) (fun i τ => (∀ b, b < 256 → bt τ 39 x b = (decide (cnt (wit g) b < i) && el g x b)) ∧ (∀ y b, y ≠ x → b < 256 → bt τ 39 y b = bt σ 39 y b) ∧ Fr [40] σ τ) (cnt (wit g) x) (fun τ ht => ?_) (fun i τ hi ht ih => ?_)
    · obtain ⟨h1, h2, h3⟩ := ht
      refine r _ _ ⟨fun _ => hK τ (fun b hb => ?_) h2 h3, fun c => absurd (by rw [(h3 37 (by decide)).1, hs]; exact Int32.le_refl _) c⟩
      rw [h1 b hb]
      cases e : el g x b
      · rw [Bool.and_false]
      · rw [decide_eq_true (cnt_step (el_lt hP hxx e) (el_rnd e).1)]
        rfl
    · obtain ⟨h1, h2, h3⟩ := ht
      obtain ⟨z, hz1, hz2, hz3, hz4⟩ := WL_at hW hi
      have ci : (nI i).toNatClampNeg = i := cl_nI (by omega)
      have hrz := rnd_pos hP z (by omega)
      have skip : el g x z = false → L (nI i + 1) τ := by
        intro he
        rw [nI_1]
        refine ih τ ⟨fun b hb => ?_, h2, h3⟩
        rw [h1 b hb]
        cases e : el g x b
        · rw [Bool.and_false, Bool.and_false]
        · have hne : cnt (wit g) b ≠ i := by
            intro q
            have := cnt_inj (el_rnd e).1 hz2 (q.trans hz3.symm)
            rw [this, he] at e
            cases e
          congr 1
          exact decide_eq_decide.mpr (by omega)
      refine r _ _ ?_
      unfold f_X1_findElectors_10
      rw [(h3 37 (by decide)).1, (h3 38 (by decide)).1, (h3 32 (by decide)).1, hs, ci, hz4, cl_nI (show z < 2 ^ 31 by omega), cl_nI (show x < 2 ^ 31 by omega), (hR z (by omega)).1, (hR x hxx).1, show (1 : Int32) = nI 1 from rfl, pk_sub (by omega)]
      refine ⟨fun c => absurd c (nI_ge hi (by omega)), fun _ => ⟨v240 (by omega), v240 (by omega), v240 (by omega), fun c => ?_, fun c => ⟨by decide, x, z, rfl, rfl, by omega, by omega, ?_⟩⟩⟩
      · refine skip ?_
        unfold el
        rw [decide_eq_false (show ¬ rnd g z + 1 = rnd g x from fun q => c (by rw [← q]; rfl)), Bool.false_and, Bool.and_false]
      · have hb : bt τ 27 x z = str g x z := (h3.bt (by decide) x z).trans (hT x z hxx (by omega))
        have hrr : rnd g z + 1 = rnd g x := by
          have := (nI_eq (by omega) (by omega)).mp c
          omega
        rw [hb]
        refine ⟨fun q => skip ?_, fun q => ⟨by decide, x, z, rfl, rfl, by omega, by omega, ?_⟩⟩
        · rw [bI_0] at q
          unfold el
          rw [q, Bool.and_false, Bool.and_false]
        · rw [bI_1] at q
          have he : el g x z = true := by
            unfold el
            rw [q, hz2, decide_eq_true hrr]
            rfl
          show L (nI i + 1) (bput τ 39 x z)
          rw [nI_1]
          refine ih _ ⟨fun b hb => ?_, fun y b hy hb => ?_, h3.trans (Fr_bput τ 39 x z)⟩
          · rw [bt_put _ _ _ _ _ _ (by omega) hb, h1 b hb]
            by_cases e : b = z
            · rw [e, he, hz3]
              simp
            · rw [decide_eq_false (show ¬ (x = x ∧ b = z) from fun q => e q.2), Bool.or_false]
              cases e2 : el g x b
              · rw [Bool.and_false, Bool.and_false]
              · have hne : cnt (wit g) b ≠ i := by
                  intro q
                  exact e (cnt_inj (el_rnd e2).1 hz2 (q.trans hz3.symm))
                congr 1
                exact decide_eq_decide.mpr (by omega)
          · rw [bt_put _ _ _ _ _ _ (by omega) hb, decide_eq_false (fun q => hy q.1), Bool.or_false]
            exact h2 y b hy hb
  refine ⟨by decide, x, rfl, by omega, key 0 (by omega) _ ⟨fun b hb => ?_, fun y b hy hb => ?_, Fr_row σ 39 _⟩⟩
  · rw [bt_clearRow _ _ _ _ _ hb, if_pos rfl]
    simp
  · rw [bt_clearRow _ _ _ _ _ hb, if_neg hy]
theorem vq_iff {g : Gr} {hb : Nat → Bool} {N x b : Nat} : vq g hb N x b = true ↔ b < N ∧ wit g b = true ∧ rnd g x < rnd g b := by
  unfold vq
  simp [Bool.and_eq_true]
theorem bool_ext {a b : Bool} (h : a = true ↔ b = true) : a = b := by
  cases a <;> cases b <;> simp_all
theorem v_X1_take (x1 : Int32) (σ : Sg) (K : Sg → Prop) (h : sp_X1_take x1 σ K) : vc_X1_take x1 σ K := by
  obtain ⟨g, hb, x, rfl, hx, hP, hT25, hT27, hR, hH, ⟨e1, e2, e3, e4, e5, e6⟩, hK⟩ := h
  intro L36 L89 r36 r89
  have hxx : x < x + 1 := Nat.lt_succ_self x
  have cx : (nI x).toNatClampNeg = x := cl_nI (by omega)
  have hcl : cnt (wit g) x ≤ x := cnt_le _ _
  have hrx := rnd_pos hP x hxx
  have step1 : ∀ p : Nat → Bool, cnt p (x + 1) = cnt p x + if p x then 1 else 0 := fun p => rfl
  unfold f_X1_take_e
  rw [cx, (hR x hxx).2]
  refine ⟨v240 hx, fun c => ?_, fun c => ?_⟩
  · rw [bI_1] at c
    -- the rows of x as they grow; the rows of the others
    have L2 : ∀ i, i ≤ cnt (wit g) x → ∀ τ : Sg, ((∀ y b, y < x + 1 → wit g y = true → b < 256 → bt τ 39 y b = el g y b) ∧ (∀ w b, w < x → wit g w = true → b < 256 → bt τ 41 w b = (vq g hb (x + 1) w b && odd (vt g hb w b)) ∧ bt τ 43 w b = (vq g hb (x + 1) w b && decide (2 ≤ vt g hb w b))) ∧ (∀ b, b < 256 → bt τ 41 x b = (decide (cnt (wit g) b < i) && (vq g hb x x b && odd (vt g hb x b))) ∧ bt τ 43 x b = (decide (cnt (wit g) b < i) && (vq g hb x x b && decide (2 ≤ vt g hb x b)))) ∧ Fr [40, 42, 44] σ τ) → L89 (nI i) τ := by
      refine lup (L := fun i τ => L89 (nI i) τ) (fun i τ => (∀ y b, y < x + 1 → wit g y = true → b < 256 → bt τ 39 y b = el g y b) ∧ (∀ w b, w < x → wit g w = true → b < 256 → bt τ 41 w b = (vq g hb (x + 1) w b && odd (vt g hb w b)) ∧ bt τ 43 w b = (vq g hb (x + 1) w b && decide (2 ≤ vt g hb w b))) ∧ (∀ b, b < 256 → bt τ 41 x b = (decide (cnt (wit g) b < i) && (vq g hb x x b && odd (vt g hb x b))) ∧ bt τ 43 x b = (decide (cnt (wit g) b < i) && (vq g hb x x b && decide (2 ≤ vt g hb x b)))) ∧ Fr [40, 42, 44] σ τ) (cnt (wit g) x) (fun τ ht => ?_) (fun i τ hi ht ih => ?_)
      · obtain ⟨h1, h2, h3, h4⟩ := ht
        refine r89 _ _ ?_
        unfold f_X1_take_89
        rw [(h4 37 (by decide)).1, e1, cl_nI (show cnt (wit g) x < 2 ^ 31 by omega)]
        refine ⟨fun _ => ⟨v240 (by omega), ?_⟩, fun q => absurd (Int32.le_refl _) q⟩
        have e37 : (pI τ 38 (cnt (wit g) x) (nI x)).1 37 6 = nI (cnt (wit g) x) := by
          rw [pI_at, if_neg (fun q => absurd q.1 (by decide)), (h4 37 (by decide)).1, e1]
        rw [e37, nI_1]
        have hvx : ∀ b, b < 256 → (decide (cnt (wit g) b < cnt (wit g) x) && vq g hb x x b) = vq g hb (x + 1) x b := by
          intro b _
          refine bool_ext ?_
          rw [Bool.and_eq_true, decide_eq_true_eq, vq_iff, vq_iff]
          constructor
          · rintro ⟨-, h1, h2, h3⟩
            exact ⟨by omega, h2, h3⟩
          · rintro ⟨h1, h2, h3⟩
            have : b ≠ x := by rintro rfl; omega
            exact ⟨cnt_step (by omega) h2, by omega, h2, h3⟩
        refine hK _ ⟨?_, ?_, fun y hy hw => ?_, fun y b hy hw hb2 => h1 y b hy hw hb2, fun w b hw hwt hb2 => ?_, fun w b hw hwt hb2 => ?_⟩ (Fr_pI (Fr_pI (h4.mono (by decide)) (by decide)) (by decide))
        · rw [pI_at, if_pos ⟨rfl, rfl⟩, step1, c]
          rfl
        · rw [pI_at, if_neg (fun q => absurd q.2 (by decide)), pI_at, if_neg (fun q => absurd q.1 (by decide)), (h4 37 (by decide)).1]
          exact e2
        · rw [pI_at, if_neg (fun q => absurd q.1 (by decide)), pI_at]
          by_cases e : y = x
          · rw [if_pos ⟨rfl, by rw [e]⟩, e]
          · have : cnt (wit g) y < cnt (wit g) x := cnt_step (by omega) hw
            rw [if_neg (fun q => absurd q.2 (by omega)), (h4 38 (by decide)).1]
            exact e3 y (by omega) hw
        · show bt τ 41 w b = _
          by_cases e : w = x
          · rw [e, (h3 b hb2).1, ← Bool.and_assoc, hvx b hb2]
          · exact (h2 w b (by omega) hwt hb2).1
        · show bt τ 43 w b = _
          by_cases e : w = x
          · rw [e, (h3 b hb2).2, ← Bool.and_assoc, hvx b hb2]
          · exact (h2 w b (by omega) hwt hb2).2
      · obtain ⟨h1, h2, h3, h4⟩ := ht
        obtain ⟨z, hz1, hz2, hz3, hz4⟩ := WL_at e3 hi
        have ci : (nI i).toNatClampNeg = i := cl_nI (by omega)
        have hrz := rnd_pos hP z (by omega)
        have only : ∀ b, vq g hb x x b = true → cnt (wit g) b = i → b = z := fun b q1 q2 => cnt_inj (vq_iff.mp q1).2.1 hz2 (q2.trans hz3.symm)
        refine r89 _ _ ?_
        unfold f_X1_take_89
        rw [(h4 37 (by decide)).1, (h4 38 (by decide)).1, (h4 32 (by decide)).1, e1, ci, hz4, cl_nI (show z < 2 ^ 31 by omega), cx, (hR z (by omega)).1, (hR x hxx).1]
        refine ⟨fun q => absurd q (nI_ge hi (by omega)), fun _ => ⟨v240 (by omega), v240 (by omega), v240 hx, fun q => ?_, fun q => ⟨v240 (by omega), ?_⟩⟩⟩
        · have q := (nI_leI (by omega) (by omega)).mp q
          show L89 (nI i + 1) τ
          rw [nI_1]
          refine ih τ ⟨h1, h2, fun b hb2 => ?_, h4⟩
          have eq : (decide (cnt (wit g) b < i) && vq g hb x x b) = (decide (cnt (wit g) b < i + 1) && vq g hb x x b) := by
            cases e : vq g hb x x b
            · rw [Bool.and_false, Bool.and_false]
            · have : cnt (wit g) b ≠ i := fun q2 => by
                have := only b e q2
                subst this
                have := (vq_iff.mp e).2.2
                omega
              congr 1
              exact decide_eq_decide.mpr (by omega)
          obtain ⟨a1, a2⟩ := h3 b hb2
          have eqa : ∀ q : Bool, (decide (cnt (wit g) b < i) && (vq g hb x x b && q)) = (decide (cnt (wit g) b < i + 1) && (vq g hb x x b && q)) := fun q => by rw [← Bool.and_assoc, eq, Bool.and_assoc]
          rw [a1, a2, eqa, eqa]
          exact ⟨rfl, rfl⟩
        · have q : rnd g x < rnd g z := by
            apply Classical.byContradiction
            intro q2
            exact q (nI_le (by omega) (by omega))
          refine ⟨g, hb, x + 1, x, z, rfl, rfl, hxx, by omega, by omega, hP, hT25.keep h4 (by decide), hR.keep h4 (by decide) (by decide), fun y hy => by rw [(h4 19 (by decide)).1]; exact hH y hy, by rw [(h4 37 (by decide)).1]; exact e2, q, fun b hb2 => h1 z b (by omega) hz2 hb2, fun hlt w hw hew => ?_, ?_⟩
          · obtain ⟨a1, a2⟩ := el_rnd hew
            rw [(h3 w (by omega)).1, decide_eq_true (show cnt (wit g) w < i by rw [← hz3]; exact cnt_step hw a1), vq_iff.mpr ⟨by omega, a1, by omega⟩]
            rfl
          · show L89 (nI i + 1) (vput g hb τ x z)
            rw [nI_1]
            have hF := vput_Fr (g := g) hb τ x z
            refine ih _ ⟨fun y b hy hw hb2 => ?_, fun w b hw hwt hb2 => ?_, fun b hb2 => ?_, h4.trans (hF.mono (by decide))⟩
            · rw [hF.bt (by decide)]
              exact h1 y b hy hw hb2
            · rw [vput_41 hb τ x z w b (by omega) hb2, vput_43 hb τ x z w b (by omega) hb2, decide_eq_false (show ¬ (w = x ∧ b = z) from fun q => absurd q.1 (by omega)), Bool.false_and, Bool.or_false, Bool.false_and, Bool.or_false]
              exact h2 w b hw hwt hb2
            · rw [vput_41 hb τ x z x b (by omega) hb2, vput_43 hb τ x z x b (by omega) hb2, (h3 b hb2).1, (h3 b hb2).2]
              by_cases e : b = z
              · have hv : vq g hb x x z = true := vq_iff.mpr ⟨hz1, hz2, q⟩
                rw [e, hv, hz3, decide_eq_false (Nat.lt_irrefl i), decide_eq_true (Nat.lt_succ_self i), decide_eq_true (show x = x ∧ z = z from ⟨rfl, rfl⟩)]
                exact ⟨rfl, rfl⟩
              · rw [decide_eq_false (show ¬ (x = x ∧ b = z) from fun q => e q.2), Bool.false_and, Bool.or_false, Bool.false_and, Bool.or_false]
                have eq : (decide (cnt (wit g) b < i) && vq g hb x x b) = (decide (cnt (wit g) b < i + 1) && vq g hb x x b) := by
                  cases e2 : vq g hb x x b
                  · rw [Bool.and_false, Bool.and_false]
                  · have : cnt (wit g) b ≠ i := fun q2 => e (only b e2 q2)
                    congr 1
                    exact decide_eq_decide.mpr (by omega)
                have eqa : ∀ q : Bool, (decide (cnt (wit g) b < i) && (vq g hb x x b && q)) = (decide (cnt (wit g) b < i + 1) && (vq g hb x x b && q)) := fun q => by rw [← Bool.and_assoc, eq, Bool.and_assoc]
                rw [eqa, eqa]
                exact ⟨rfl, rfl⟩
    have L1 : ∀ i, i ≤ cnt (wit g) x → ∀ τ : Sg, ((∀ y b, y < x + 1 → wit g y = true → b < 256 → bt τ 39 y b = el g y b) ∧ (∀ w b, w < x → wit g w = true → b < 256 → bt τ 41 w b = ((vq g hb x w b || (decide (b = x) && (decide (cnt (wit g) w < i) && decide (rnd g w < rnd g x)))) && odd (vt g hb w b)) ∧ bt τ 43 w b = ((vq g hb x w b || (decide (b = x) && (decide (cnt (wit g) w < i) && decide (rnd g w < rnd g x)))) && decide (2 ≤ vt g hb w b))) ∧ (∀ b, b < 256 → bt τ 41 x b = false ∧ bt τ 43 x b = false) ∧ Fr [40, 42, 44] σ τ) → L36 (nI i) τ := by
      refine lup (L := fun i τ => L36 (nI i) τ) (fun i τ => (∀ y b, y < x + 1 → wit g y = true → b < 256 → bt τ 39 y b = el g y b) ∧ (∀ w b, w < x → wit g w = true → b < 256 → bt τ 41 w b = ((vq g hb x w b || (decide (b = x) && (decide (cnt (wit g) w < i) && decide (rnd g w < rnd g x)))) && odd (vt g hb w b)) ∧ bt τ 43 w b = ((vq g hb x w b || (decide (b = x) && (decide (cnt (wit g) w < i) && decide (rnd g w < rnd g x)))) && decide (2 ≤ vt g hb w b))) ∧ (∀ b, b < 256 → bt τ 41 x b = false ∧ bt τ 43 x b = false) ∧ Fr [40, 42, 44] σ τ) (cnt (wit g) x) (fun τ ht => ?_) (fun i τ hi ht ih => ?_)
      · obtain ⟨h1, h2, h3, h4⟩ := ht
        refine r36 _ _ ?_
        unfold f_X1_take_36
        rw [(h4 37 (by decide)).1, e1]
        refine ⟨fun _ => L2 0 (by omega) τ ⟨h1, fun w b hw hwt hb2 => ?_, fun b hb2 => ?_, h4⟩, fun q => absurd (Int32.le_refl _) q⟩
        · have eq : (vq g hb x w b || (decide (b = x) && (decide (cnt (wit g) w < cnt (wit g) x) && decide (rnd g w < rnd g x)))) = vq g hb (x + 1) w b := by
            refine bool_ext ?_
            rw [Bool.or_eq_true, Bool.and_eq_true, Bool.and_eq_true, decide_eq_true_eq, decide_eq_true_eq, decide_eq_true_eq, vq_iff, vq_iff]
            constructor
            · rintro (⟨q1, q2, q3⟩ | ⟨rfl, -, q3⟩)
              · exact ⟨by omega, q2, q3⟩
              · exact ⟨hxx, c, q3⟩
            · rintro ⟨q1, q2, q3⟩
              by_cases e : b = x
              · subst e
                exact Or.inr ⟨rfl, cnt_step hw hwt, q3⟩
              · exact Or.inl ⟨by omega, q2, q3⟩
          rw [← eq]
          exact h2 w b hw hwt hb2
        · obtain ⟨a1, a2⟩ := h3 b hb2
          rw [a1, a2, decide_eq_false (Nat.not_lt_zero _)]
          exact ⟨rfl, rfl⟩
      · obtain ⟨h1, h2, h3, h4⟩ := ht
        obtain ⟨z, hz1, hz2, hz3, hz4⟩ := WL_at e3 hi
        have ci : (nI i).toNatClampNeg = i := cl_nI (by omega)
        have hrz := rnd_pos hP z (by omega)
        refine r36 _ _ ?_
        unfold f_X1_take_36
        rw [(h4 37 (by decide)).1, (h4 38 (by decide)).1, (h4 32 (by decide)).1, e1, ci, hz4, cl_nI (show z < 2 ^ 31 by omega), cx, (hR z (by omega)).1, (hR x hxx).1]
        refine ⟨fun q => absurd q (nI_ge hi (by omega)), fun _ => ⟨v240 (by omega), v240 (by omega), v240 hx, fun q => ?_, fun q => ⟨v240 (by omega), ?_⟩⟩⟩
        · have q := (nI_leI (by omega) (by omega)).mp q
          show L36 (nI i + 1) τ
          rw [nI_1]
          refine ih τ ⟨h1, fun w b hw hwt hb2 => ?_, h3, h4⟩
          have eq : (decide (cnt (wit g) w < i) && decide (rnd g w < rnd g x)) = (decide (cnt (wit g) w < i + 1) && decide (rnd g w < rnd g x)) := by
            by_cases e : cnt (wit g) w = i
            · have := cnt_inj hwt hz2 (e.trans hz3.symm)
              subst this
              rw [decide_eq_false (show ¬ rnd g w < rnd g x by omega), Bool.and_false, Bool.and_false]
            · congr 1
              exact decide_eq_decide.mpr (by omega)
          rw [← eq]
          exact h2 w b hw hwt hb2
        · have q : rnd g z < rnd g x := by
            apply Classical.byContradiction
            intro q2
            exact q (nI_le (by omega) (by omega))
          refine ⟨g, hb, x + 1, z, x, rfl, rfl, by omega, hxx, by omega, hP, hT25.keep h4 (by decide), hR.keep h4 (by decide) (by decide), fun y hy => by rw [(h4 19 (by decide)).1]; exact hH y hy, by rw [(h4 37 (by decide)).1]; exact e2, q, fun b hb2 => h1 x b hxx c hb2, fun hlt w hw hew => ?_, ?_⟩
          · obtain ⟨a1, a2⟩ := el_rnd hew
            rw [(h2 z w hz1 hz2 (by omega)).1, vq_iff.mpr ⟨hw, a1, by omega⟩]
            rfl
          · show L36 (nI i + 1) (vput g hb τ z x)
            rw [nI_1]
            have hF := vput_Fr (g := g) hb τ z x
            refine ih _ ⟨fun y b hy hw hb2 => ?_, fun w b hw hwt hb2 => ?_, fun b hb2 => ?_, h4.trans (hF.mono (by decide))⟩
            · rw [hF.bt (by decide)]
              exact h1 y b hy hw hb2
            · rw [vput_41 hb τ z x w b (by omega) hb2, vput_43 hb τ z x w b (by omega) hb2, (h2 w b hw hwt hb2).1, (h2 w b hw hwt hb2).2]
              by_cases e : b = x ∧ w = z
              · obtain ⟨rfl, rfl⟩ := e
                have hv : vq g hb b w b = false := by
                  cases e : vq g hb b w b
                  · rfl
                  · have := (vq_iff.mp e).1; omega
                rw [hv, hz3, decide_eq_false (Nat.lt_irrefl i), decide_eq_true (Nat.lt_succ_self i), decide_eq_true q, decide_eq_true (show w = w ∧ b = b from ⟨rfl, rfl⟩), decide_eq_true (show b = b from rfl)]
                exact ⟨rfl, rfl⟩
              · rw [decide_eq_false (show ¬ (w = z ∧ b = x) from fun q => e ⟨q.2, q.1⟩), Bool.false_and, Bool.or_false, Bool.false_and, Bool.or_false]
                have eq : (decide (b = x) && (decide (cnt (wit g) w < i) && decide (rnd g w < rnd g x))) = (decide (b = x) && (decide (cnt (wit g) w < i + 1) && decide (rnd g w < rnd g x))) := by
                  by_cases ebx : b = x
                  · have : cnt (wit g) w ≠ i := fun q2 => e ⟨ebx, cnt_inj hwt hz2 (q2.trans hz3.symm)⟩
                    congr 2
                    exact decide_eq_decide.mpr (by omega)
                  · rw [decide_eq_false ebx, Bool.false_and, Bool.false_and]
                rw [eq]
                exact ⟨rfl, rfl⟩
            · rw [vput_41 hb τ z x x b (by omega) hb2, vput_43 hb τ z x x b (by omega) hb2, (h3 b hb2).1, (h3 b hb2).2, decide_eq_false (show ¬ (x = z ∧ b = x) from fun q => absurd q.1 (by omega))]
              exact ⟨rfl, rfl⟩
    refine ⟨g, x, rfl, hx, hP, hT27, hR, e1, e3, fun τ1 m1 m2 f1 => ⟨by decide, x, rfl, by omega, by decide, x, rfl, by omega, ?_⟩⟩
    obtain ⟨τ2, et2⟩ : ∃ z, z = pS τ1 (41 + 1) (fun j => if x * 4 ≤ j ∧ j < x * 4 + 4 then 0 else τ1.2 (41 + 1) j) := ⟨_, rfl⟩
    have f2 : Fr [42] τ1 τ2 := by rw [et2]; exact Fr_row τ1 41 _
    have b2 : ∀ r b, b < 256 → bt τ2 41 r b = if r = x then false else bt τ1 41 r b := fun r b hb2 => by rw [et2, bt_clearRow _ _ _ _ _ hb2]
    show L36 0 (pS (pS τ1 (41 + 1) _) (43 + 1) _)
    rw [← et2]
    have f3 := Fr_row τ2 43 (fun j => if x * 4 ≤ j ∧ j < x * 4 + 4 then 0 else τ2.2 (43 + 1) j)
    have f23 : Fr [42, 44] τ1 (pS τ2 (43 + 1) (fun j => if x * 4 ≤ j ∧ j < x * 4 + 4 then 0 else τ2.2 (43 + 1) j)) := (f2.mono (by decide)).trans (f3.mono (by decide))
    refine L1 0 (by omega) _ ⟨fun y b hy hw hb2 => ?_, fun w b hw hwt hb2 => ?_, fun b hb2 => ?_, (f1.mono (by decide)).trans (f23.mono (by decide))⟩
    · rw [f23.bt (by decide)]
      by_cases e : y = x
      · rw [e]; exact m1 b hb2
      · rw [m2 y b e hb2]; exact e4 y b (by omega) hw hb2
    · rw [f3.bt (by decide), b2 w b hb2, if_neg (by omega), bt_clearRow _ _ _ _ _ hb2, if_neg (by omega), f2.bt (by decide), f1.bt (by decide), f1.bt (by decide), e5 w b hw hwt hb2, e6 w b hw hwt hb2, decide_eq_false (Nat.not_lt_zero _), Bool.false_and, Bool.and_false, Bool.or_false]
      exact ⟨rfl, rfl⟩
    · rw [f3.bt (by decide), b2 x b hb2, if_pos rfl, bt_clearRow _ _ _ _ _ hb2, if_pos rfl]
      exact ⟨rfl, rfl⟩
  · rw [bI_0] at c
    have nx : ∀ w, wit g w = true → w < x + 1 → w < x := fun w hw h1 => by
      by_cases e : w = x
      · subst e; rw [c] at hw; cases hw
      · omega
    have hv : ∀ w b, vq g hb (x + 1) w b = vq g hb x w b := fun w b => by
      refine bool_ext ?_
      rw [vq_iff, vq_iff]
      constructor
      · rintro ⟨q1, q2, q3⟩
        exact ⟨nx b q2 q1, q2, q3⟩
      · rintro ⟨q1, q2, q3⟩
        exact ⟨by omega, q2, q3⟩
    refine hK σ ⟨?_, e2, fun w hw hwt => e3 w (nx w hwt hw) hwt, fun y b hy hw hb2 => e4 y b (nx y hw hy) hw hb2, fun w b hw hwt hb2 => ?_, fun w b hw hwt hb2 => ?_⟩ (Fr.refl _ _)
    · rw [e1, step1, c]
      rfl
    · rw [hv]; exact e5 w b (nx w hwt hw) hwt hb2
    · rw [hv]; exact e6 w b (nx w hwt hw) hwt hb2
